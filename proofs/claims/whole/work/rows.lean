section
-- ===== PART A: goes FIRST, ahead of the names: the tables' words, and 'selects' of the private methods out of them =====
/-- a private method of a class that the tables say can be made, by its rows of tables_1 -/
def lw_okq (q : MethodName × Nat) : Prop := (q.1.cls ≠ "java/lang/invoke/MethodHandle" ∧ q.1.cls ≠ "java/lang/invoke/VarHandle") ∧ Cond.instantiable q.1.cls q.2 ∈ tables_1 ∧ Cond.privateMethod q.1 ∈ tables_1 ∧ Cond.instanceMethod q.1 ∈ tables_1
theorem lw_p0 : lw_okq (⟨"TavernDice$Dice", "addOutcome", "(III)V"⟩, 4) := ⟨⟨by decide +kernel, by decide +kernel⟩, List.mem_of_getElem? (i := 30) (by decide +kernel), List.mem_of_getElem? (i := 43) (by decide +kernel), List.mem_of_getElem? (i := 44) (by decide +kernel)⟩
theorem lw_p1 : lw_okq (⟨"TavernDice", "gainOfAllOverOutcomes", "()I"⟩, 5) := ⟨⟨by decide +kernel, by decide +kernel⟩, List.mem_of_getElem? (i := 22) (by decide +kernel), List.mem_of_getElem? (i := 156) (by decide +kernel), List.mem_of_getElem? (i := 157) (by decide +kernel)⟩
theorem lw_p2 : lw_okq (⟨"TavernDice", "gainOverOutcomes", "(LTavernDice$Wager;)I"⟩, 5) := ⟨⟨by decide +kernel, by decide +kernel⟩, List.mem_of_getElem? (i := 22) (by decide +kernel), List.mem_of_getElem? (i := 160) (by decide +kernel), List.mem_of_getElem? (i := 161) (by decide +kernel)⟩
theorem lw_p3 : lw_okq (⟨"TavernDice", "lowestTop", "(I)I"⟩, 5) := ⟨⟨by decide +kernel, by decide +kernel⟩, List.mem_of_getElem? (i := 22) (by decide +kernel), List.mem_of_getElem? (i := 168) (by decide +kernel), List.mem_of_getElem? (i := 169) (by decide +kernel)⟩
theorem lw_p4 : lw_okq (⟨"TavernDice", "lowestBottom", "(I)I"⟩, 5) := ⟨⟨by decide +kernel, by decide +kernel⟩, List.mem_of_getElem? (i := 22) (by decide +kernel), List.mem_of_getElem? (i := 185) (by decide +kernel), List.mem_of_getElem? (i := 186) (by decide +kernel)⟩
theorem lw_p5 : lw_okq (⟨"TavernDice", "gainOfAll", "(I)I"⟩, 5) := ⟨⟨by decide +kernel, by decide +kernel⟩, List.mem_of_getElem? (i := 22) (by decide +kernel), List.mem_of_getElem? (i := 201) (by decide +kernel), List.mem_of_getElem? (i := 202) (by decide +kernel)⟩
theorem lw_p6 : lw_okq (⟨"TavernDice$Dice", "holds", "(III)Z"⟩, 4) := ⟨⟨by decide +kernel, by decide +kernel⟩, List.mem_of_getElem? (i := 30) (by decide +kernel), List.mem_of_getElem? (i := 209) (by decide +kernel), List.mem_of_getElem? (i := 210) (by decide +kernel)⟩
theorem lw_p7 : lw_okq (⟨"TavernDice", "digestOfWagers", "(J)J"⟩, 5) := ⟨⟨by decide +kernel, by decide +kernel⟩, List.mem_of_getElem? (i := 22) (by decide +kernel), List.mem_of_getElem? (i := 239) (by decide +kernel), List.mem_of_getElem? (i := 240) (by decide +kernel)⟩
theorem lw_p8 : lw_okq (⟨"TavernDice", "checkWager", "(I)V"⟩, 5) := ⟨⟨by decide +kernel, by decide +kernel⟩, List.mem_of_getElem? (i := 22) (by decide +kernel), List.mem_of_getElem? (i := 247) (by decide +kernel), List.mem_of_getElem? (i := 248) (by decide +kernel)⟩
theorem lw_p9 : lw_okq (⟨"java/lang/Throwable", "fillInStackTrace", "(I)Ljava/lang/Throwable;"⟩, 6) := ⟨⟨by decide +kernel, by decide +kernel⟩, List.mem_of_getElem? (i := 289) (by decide +kernel), List.mem_of_getElem? (i := 287) (by decide +kernel), List.mem_of_getElem? (i := 288) (by decide +kernel)⟩
theorem lw_p10 : lw_okq (⟨"TavernDice", "digestOfPatrons", "(J)J"⟩, 5) := ⟨⟨by decide +kernel, by decide +kernel⟩, List.mem_of_getElem? (i := 22) (by decide +kernel), List.mem_of_getElem? (i := 335) (by decide +kernel), List.mem_of_getElem? (i := 336) (by decide +kernel)⟩
theorem lw_p11 : lw_okq (⟨"TavernDice", "purseBehind", "(II)I"⟩, 5) := ⟨⟨by decide +kernel, by decide +kernel⟩, List.mem_of_getElem? (i := 22) (by decide +kernel), List.mem_of_getElem? (i := 351) (by decide +kernel), List.mem_of_getElem? (i := 352) (by decide +kernel)⟩
theorem lw_p12 : lw_okq (⟨"TavernDice", "checkOutcome", "(I)V"⟩, 5) := ⟨⟨by decide +kernel, by decide +kernel⟩, List.mem_of_getElem? (i := 22) (by decide +kernel), List.mem_of_getElem? (i := 425) (by decide +kernel), List.mem_of_getElem? (i := 426) (by decide +kernel)⟩
theorem lw_p13 : lw_okq (⟨"java/util/ArrayList", "add", "(Ljava/lang/Object;[Ljava/lang/Object;I)V"⟩, 3) := ⟨⟨by decide +kernel, by decide +kernel⟩, List.mem_of_getElem? (i := 67) (by decide +kernel), List.mem_of_getElem? (i := 503) (by decide +kernel), List.mem_of_getElem? (i := 504) (by decide +kernel)⟩
theorem lw_p14 : lw_okq (⟨"java/util/ArrayList", "grow", "()[Ljava/lang/Object;"⟩, 3) := ⟨⟨by decide +kernel, by decide +kernel⟩, List.mem_of_getElem? (i := 67) (by decide +kernel), List.mem_of_getElem? (i := 507) (by decide +kernel), List.mem_of_getElem? (i := 508) (by decide +kernel)⟩
theorem lw_p15 : lw_okq (⟨"java/util/ArrayList", "grow", "(I)[Ljava/lang/Object;"⟩, 3) := ⟨⟨by decide +kernel, by decide +kernel⟩, List.mem_of_getElem? (i := 67) (by decide +kernel), List.mem_of_getElem? (i := 511) (by decide +kernel), List.mem_of_getElem? (i := 512) (by decide +kernel)⟩
def lw_privs_1 : List (MethodName × Nat) := [(⟨"TavernDice$Dice", "addOutcome", "(III)V"⟩, 4), (⟨"TavernDice", "gainOfAllOverOutcomes", "()I"⟩, 5), (⟨"TavernDice", "gainOverOutcomes", "(LTavernDice$Wager;)I"⟩, 5), (⟨"TavernDice", "lowestTop", "(I)I"⟩, 5), (⟨"TavernDice", "lowestBottom", "(I)I"⟩, 5), (⟨"TavernDice", "gainOfAll", "(I)I"⟩, 5), (⟨"TavernDice$Dice", "holds", "(III)Z"⟩, 4), (⟨"TavernDice", "digestOfWagers", "(J)J"⟩, 5), (⟨"TavernDice", "checkWager", "(I)V"⟩, 5), (⟨"java/lang/Throwable", "fillInStackTrace", "(I)Ljava/lang/Throwable;"⟩, 6), (⟨"TavernDice", "digestOfPatrons", "(J)J"⟩, 5), (⟨"TavernDice", "purseBehind", "(II)I"⟩, 5), (⟨"TavernDice", "checkOutcome", "(I)V"⟩, 5), (⟨"java/util/ArrayList", "add", "(Ljava/lang/Object;[Ljava/lang/Object;I)V"⟩, 3), (⟨"java/util/ArrayList", "grow", "()[Ljava/lang/Object;"⟩, 3), (⟨"java/util/ArrayList", "grow", "(I)[Ljava/lang/Object;"⟩, 3)]
theorem lw_r1 : ∀ q ∈ lw_privs_1, lw_okq q := List.forall_mem_cons.mpr ⟨lw_p0, List.forall_mem_cons.mpr ⟨lw_p1, List.forall_mem_cons.mpr ⟨lw_p2, List.forall_mem_cons.mpr ⟨lw_p3, List.forall_mem_cons.mpr ⟨lw_p4, List.forall_mem_cons.mpr ⟨lw_p5, List.forall_mem_cons.mpr ⟨lw_p6, List.forall_mem_cons.mpr ⟨lw_p7, List.forall_mem_cons.mpr ⟨lw_p8, List.forall_mem_cons.mpr ⟨lw_p9, List.forall_mem_cons.mpr ⟨lw_p10, List.forall_mem_cons.mpr ⟨lw_p11, List.forall_mem_cons.mpr ⟨lw_p12, List.forall_mem_cons.mpr ⟨lw_p13, List.forall_mem_cons.mpr ⟨lw_p14, List.forall_mem_cons.mpr ⟨lw_p15, fun _ h => absurd h List.not_mem_nil⟩⟩⟩⟩⟩⟩⟩⟩⟩⟩⟩⟩⟩⟩⟩⟩
theorem lw_p16 : lw_okq (⟨"java/util/ArrayList", "fastRemove", "([Ljava/lang/Object;I)V"⟩, 3) := ⟨⟨by decide +kernel, by decide +kernel⟩, List.mem_of_getElem? (i := 67) (by decide +kernel), List.mem_of_getElem? (i := 561) (by decide +kernel), List.mem_of_getElem? (i := 562) (by decide +kernel)⟩
theorem lw_p17 : lw_okq (⟨"TavernDiceModel", "no", "(I)I"⟩, 15) := ⟨⟨by decide +kernel, by decide +kernel⟩, List.mem_of_getElem? (i := 637) (by decide +kernel), List.mem_of_getElem? (i := 704) (by decide +kernel), List.mem_of_getElem? (i := 705) (by decide +kernel)⟩
theorem lw_p18 : lw_okq (⟨"TavernDiceModel", "ok", "(I)I"⟩, 15) := ⟨⟨by decide +kernel, by decide +kernel⟩, List.mem_of_getElem? (i := 637) (by decide +kernel), List.mem_of_getElem? (i := 713) (by decide +kernel), List.mem_of_getElem? (i := 714) (by decide +kernel)⟩
theorem lw_p19 : lw_okq (⟨"TavernDiceModel", "isOutcome", "(I)Z"⟩, 15) := ⟨⟨by decide +kernel, by decide +kernel⟩, List.mem_of_getElem? (i := 637) (by decide +kernel), List.mem_of_getElem? (i := 725) (by decide +kernel), List.mem_of_getElem? (i := 726) (by decide +kernel)⟩
theorem lw_p20 : lw_okq (⟨"TavernDiceModel", "sum", "(I)I"⟩, 15) := ⟨⟨by decide +kernel, by decide +kernel⟩, List.mem_of_getElem? (i := 637) (by decide +kernel), List.mem_of_getElem? (i := 729) (by decide +kernel), List.mem_of_getElem? (i := 730) (by decide +kernel)⟩
theorem lw_p21 : lw_okq (⟨"TavernDiceModel", "face", "(II)I"⟩, 15) := ⟨⟨by decide +kernel, by decide +kernel⟩, List.mem_of_getElem? (i := 637) (by decide +kernel), List.mem_of_getElem? (i := 733) (by decide +kernel), List.mem_of_getElem? (i := 734) (by decide +kernel)⟩
theorem lw_p22 : lw_okq (⟨"TavernDiceModel", "many", "(II)I"⟩, 15) := ⟨⟨by decide +kernel, by decide +kernel⟩, List.mem_of_getElem? (i := 637) (by decide +kernel), List.mem_of_getElem? (i := 744) (by decide +kernel), List.mem_of_getElem? (i := 745) (by decide +kernel)⟩
theorem lw_p23 : lw_okq (⟨"TavernDiceModel", "without", "(I)I"⟩, 15) := ⟨⟨by decide +kernel, by decide +kernel⟩, List.mem_of_getElem? (i := 637) (by decide +kernel), List.mem_of_getElem? (i := 748) (by decide +kernel), List.mem_of_getElem? (i := 749) (by decide +kernel)⟩
theorem lw_p24 : lw_okq (⟨"TavernDiceModel", "add", "()V"⟩, 15) := ⟨⟨by decide +kernel, by decide +kernel⟩, List.mem_of_getElem? (i := 637) (by decide +kernel), List.mem_of_getElem? (i := 753) (by decide +kernel), List.mem_of_getElem? (i := 754) (by decide +kernel)⟩
theorem lw_p25 : lw_okq (⟨"TavernDiceModel", "comes", "(III)Z"⟩, 15) := ⟨⟨by decide +kernel, by decide +kernel⟩, List.mem_of_getElem? (i := 637) (by decide +kernel), List.mem_of_getElem? (i := 768) (by decide +kernel), List.mem_of_getElem? (i := 769) (by decide +kernel)⟩
theorem lw_p26 : lw_okq (⟨"TavernDiceModel", "isWager", "(I)Z"⟩, 15) := ⟨⟨by decide +kernel, by decide +kernel⟩, List.mem_of_getElem? (i := 637) (by decide +kernel), List.mem_of_getElem? (i := 776) (by decide +kernel), List.mem_of_getElem? (i := 777) (by decide +kernel)⟩
theorem lw_p27 : lw_okq (⟨"TavernDiceModel", "gain", "(I)I"⟩, 15) := ⟨⟨by decide +kernel, by decide +kernel⟩, List.mem_of_getElem? (i := 637) (by decide +kernel), List.mem_of_getElem? (i := 785) (by decide +kernel), List.mem_of_getElem? (i := 786) (by decide +kernel)⟩
theorem lw_p28 : lw_okq (⟨"TavernDiceModel", "of", "(I[I)I"⟩, 15) := ⟨⟨by decide +kernel, by decide +kernel⟩, List.mem_of_getElem? (i := 637) (by decide +kernel), List.mem_of_getElem? (i := 809) (by decide +kernel), List.mem_of_getElem? (i := 810) (by decide +kernel)⟩
theorem lw_p29 : lw_okq (⟨"TavernDiceModel", "allStakes", "()I"⟩, 15) := ⟨⟨by decide +kernel, by decide +kernel⟩, List.mem_of_getElem? (i := 637) (by decide +kernel), List.mem_of_getElem? (i := 825) (by decide +kernel), List.mem_of_getElem? (i := 826) (by decide +kernel)⟩
theorem lw_p30 : lw_okq (⟨"TavernDiceModel", "edge", "(I)I"⟩, 15) := ⟨⟨by decide +kernel, by decide +kernel⟩, List.mem_of_getElem? (i := 637) (by decide +kernel), List.mem_of_getElem? (i := 833) (by decide +kernel), List.mem_of_getElem? (i := 834) (by decide +kernel)⟩
theorem lw_p31 : lw_okq (⟨"TavernDiceModel", "top", "(I)I"⟩, 15) := ⟨⟨by decide +kernel, by decide +kernel⟩, List.mem_of_getElem? (i := 637) (by decide +kernel), List.mem_of_getElem? (i := 837) (by decide +kernel), List.mem_of_getElem? (i := 838) (by decide +kernel)⟩
def lw_privs_2 : List (MethodName × Nat) := [(⟨"java/util/ArrayList", "fastRemove", "([Ljava/lang/Object;I)V"⟩, 3), (⟨"TavernDiceModel", "no", "(I)I"⟩, 15), (⟨"TavernDiceModel", "ok", "(I)I"⟩, 15), (⟨"TavernDiceModel", "isOutcome", "(I)Z"⟩, 15), (⟨"TavernDiceModel", "sum", "(I)I"⟩, 15), (⟨"TavernDiceModel", "face", "(II)I"⟩, 15), (⟨"TavernDiceModel", "many", "(II)I"⟩, 15), (⟨"TavernDiceModel", "without", "(I)I"⟩, 15), (⟨"TavernDiceModel", "add", "()V"⟩, 15), (⟨"TavernDiceModel", "comes", "(III)Z"⟩, 15), (⟨"TavernDiceModel", "isWager", "(I)Z"⟩, 15), (⟨"TavernDiceModel", "gain", "(I)I"⟩, 15), (⟨"TavernDiceModel", "of", "(I[I)I"⟩, 15), (⟨"TavernDiceModel", "allStakes", "()I"⟩, 15), (⟨"TavernDiceModel", "edge", "(I)I"⟩, 15), (⟨"TavernDiceModel", "top", "(I)I"⟩, 15)]
theorem lw_r2 : ∀ q ∈ lw_privs_2, lw_okq q := List.forall_mem_cons.mpr ⟨lw_p16, List.forall_mem_cons.mpr ⟨lw_p17, List.forall_mem_cons.mpr ⟨lw_p18, List.forall_mem_cons.mpr ⟨lw_p19, List.forall_mem_cons.mpr ⟨lw_p20, List.forall_mem_cons.mpr ⟨lw_p21, List.forall_mem_cons.mpr ⟨lw_p22, List.forall_mem_cons.mpr ⟨lw_p23, List.forall_mem_cons.mpr ⟨lw_p24, List.forall_mem_cons.mpr ⟨lw_p25, List.forall_mem_cons.mpr ⟨lw_p26, List.forall_mem_cons.mpr ⟨lw_p27, List.forall_mem_cons.mpr ⟨lw_p28, List.forall_mem_cons.mpr ⟨lw_p29, List.forall_mem_cons.mpr ⟨lw_p30, List.forall_mem_cons.mpr ⟨lw_p31, fun _ h => absurd h List.not_mem_nil⟩⟩⟩⟩⟩⟩⟩⟩⟩⟩⟩⟩⟩⟩⟩⟩
theorem lw_p32 : lw_okq (⟨"TavernDiceModel", "bottom", "(I)I"⟩, 15) := ⟨⟨by decide +kernel, by decide +kernel⟩, List.mem_of_getElem? (i := 637) (by decide +kernel), List.mem_of_getElem? (i := 849) (by decide +kernel), List.mem_of_getElem? (i := 850) (by decide +kernel)⟩
theorem lw_p33 : lw_okq (⟨"TavernDiceModel", "edges", "()I"⟩, 15) := ⟨⟨by decide +kernel, by decide +kernel⟩, List.mem_of_getElem? (i := 637) (by decide +kernel), List.mem_of_getElem? (i := 857) (by decide +kernel), List.mem_of_getElem? (i := 858) (by decide +kernel)⟩
theorem lw_p34 : lw_okq (⟨"TavernDiceModel", "dear", "()I"⟩, 15) := ⟨⟨by decide +kernel, by decide +kernel⟩, List.mem_of_getElem? (i := 637) (by decide +kernel), List.mem_of_getElem? (i := 869) (by decide +kernel), List.mem_of_getElem? (i := 870) (by decide +kernel)⟩
theorem lw_p35 : lw_okq (⟨"TavernDiceModel", "worst", "()I"⟩, 15) := ⟨⟨by decide +kernel, by decide +kernel⟩, List.mem_of_getElem? (i := 637) (by decide +kernel), List.mem_of_getElem? (i := 881) (by decide +kernel), List.mem_of_getElem? (i := 882) (by decide +kernel)⟩
theorem lw_p36 : lw_okq (⟨"TavernDiceModel", "behind", "(II)I"⟩, 15) := ⟨⟨by decide +kernel, by decide +kernel⟩, List.mem_of_getElem? (i := 637) (by decide +kernel), List.mem_of_getElem? (i := 893) (by decide +kernel), List.mem_of_getElem? (i := 894) (by decide +kernel)⟩
theorem lw_p37 : lw_okq (⟨"TavernDiceModel", "least", "(I)I"⟩, 15) := ⟨⟨by decide +kernel, by decide +kernel⟩, List.mem_of_getElem? (i := 637) (by decide +kernel), List.mem_of_getElem? (i := 901) (by decide +kernel), List.mem_of_getElem? (i := 902) (by decide +kernel)⟩
theorem lw_p38 : lw_okq (⟨"TavernDiceModel", "hedged", "(I)Z"⟩, 15) := ⟨⟨by decide +kernel, by decide +kernel⟩, List.mem_of_getElem? (i := 637) (by decide +kernel), List.mem_of_getElem? (i := 909) (by decide +kernel), List.mem_of_getElem? (i := 910) (by decide +kernel)⟩
theorem lw_p39 : lw_okq (⟨"TavernDiceModel", "hedge", "(III)I"⟩, 15) := ⟨⟨by decide +kernel, by decide +kernel⟩, List.mem_of_getElem? (i := 637) (by decide +kernel), List.mem_of_getElem? (i := 917) (by decide +kernel), List.mem_of_getElem? (i := 918) (by decide +kernel)⟩
def lw_privs_3 : List (MethodName × Nat) := [(⟨"TavernDiceModel", "bottom", "(I)I"⟩, 15), (⟨"TavernDiceModel", "edges", "()I"⟩, 15), (⟨"TavernDiceModel", "dear", "()I"⟩, 15), (⟨"TavernDiceModel", "worst", "()I"⟩, 15), (⟨"TavernDiceModel", "behind", "(II)I"⟩, 15), (⟨"TavernDiceModel", "least", "(I)I"⟩, 15), (⟨"TavernDiceModel", "hedged", "(I)Z"⟩, 15), (⟨"TavernDiceModel", "hedge", "(III)I"⟩, 15)]
theorem lw_r3 : ∀ q ∈ lw_privs_3, lw_okq q := List.forall_mem_cons.mpr ⟨lw_p32, List.forall_mem_cons.mpr ⟨lw_p33, List.forall_mem_cons.mpr ⟨lw_p34, List.forall_mem_cons.mpr ⟨lw_p35, List.forall_mem_cons.mpr ⟨lw_p36, List.forall_mem_cons.mpr ⟨lw_p37, List.forall_mem_cons.mpr ⟨lw_p38, List.forall_mem_cons.mpr ⟨lw_p39, fun _ h => absurd h List.not_mem_nil⟩⟩⟩⟩⟩⟩⟩⟩
def lw_privs : List (MethodName × Nat) := lw_privs_1 ++ (lw_privs_2 ++ (lw_privs_3))
def lw_tbl : List Cond := k2_sels lw_privs ++ tables_1
theorem lw_privs_ok : ∀ q ∈ lw_privs, lw_okq q := by
  show ∀ q ∈ lw_privs_1 ++ (lw_privs_2 ++ (lw_privs_3)), lw_okq q
  exact List.forall_mem_append.mpr ⟨lw_r1, List.forall_mem_append.mpr ⟨lw_r2, lw_r3⟩⟩
/-- the streams that the claim lets the run draw from -/
abbrev lw_cs : List Choice := [Jvm.Choice.named "NaN.bits"]
theorem lw_bits : nanBits ∈ lw_cs := by first | decide | exact List.mem_cons_self | simp [lw_cs, nanBits]
end
section
/-! ===== BEGIN words of one list among another's, by their places ===== -/
theorem goodIn_r {big : List Cond} (ws : List Cond) (ps : List Nat) (hp : ws = ps.filterMap (fun i => big[i]?)) (h : ws.all goodWord = true) : GoodIn big ws := by
  intro w hw
  have h1 := List.all_eq_true.mp h w hw
  rw [hp] at hw
  obtain ⟨i, -, hi⟩ := List.mem_filterMap.mp hw
  have hm : w ∈ big := by first | exact List.mem_of_getElem? hi | exact List.getElem?_mem hi
  exact ⟨hm, good_of_word h1⟩
theorem goodIn_app {big a b : List Cond} (ha : GoodIn big a) (hb : GoodIn big b) : GoodIn big (a ++ b) := fun w h => (List.mem_append.mp h).elim (ha w) (hb w)
theorem goodIn_ca {big a b : List Cond} {c : Cond} (ha : GoodIn big (c :: a)) (hb : GoodIn big b) : GoodIn big (c :: (a ++ b)) := fun w h => (List.mem_cons.mp h).elim (fun e => ha w (List.mem_cons.mpr (Or.inl e))) (fun h => (List.mem_append.mp h).elim (fun h => ha w (List.mem_cons.mpr (Or.inr h))) (hb w))
theorem goodIn_sub {big ws : List Cond} (hm : ∀ w ∈ ws, w ∈ big) (h : ws.all goodWord = true) : GoodIn big ws := fun w hw => ⟨hm w hw, good_of_word (List.all_eq_true.mp h w hw)⟩
/-! ===== END ===== -/

/-! ===== BEGIN exceptions that leave a method, and their catching by the caller (launches without stack traces) ===== -/
section VXA
/-! The laws vx_back, vx_callV, vx_callS, vx_callSW, vx_throw0, vx_throwS follow proofs of the library, with one case more: JvmDerived/Free/Laws.lean (Back.of_free), Shelf42/LK1.lean (callV, callS), Shelf/KitTraced.lean (throwNew0V, throwNewS). -/
/-- where a method has thrown q: the class by its name, the cell, what was written, the world -/
def vx_T (XC : String → State → State → Prop) (st : State) (q : Addr) (t : State) (mc ms : Nat) (free : Addr → Prop) : Prop :=
  ∃ (E : String) (ce : Cell) (L : List Loc), XC E st t ∧ t.heap[q]? = some ce ∧ ce.vm = .none ∧ st.vm.findClass E = some ce.cls ∧ st.WarmedH t.vm ∧ st.sameButNew ({ t with vm := st.vm } : State) L mc ms ∧ ∀ z ∈ L, free z.base
def vx_Q (Qc : Array Value → State → Outcome → State → Prop) (XC : String → State → State → Prop) (mc ms : Nat) (free : Addr → Prop) : Array Value → State → Outcome → State → Prop := fun a st o t =>
  (Qc a st o t ∧ ∃ L, FrameEnd st o t L mc ms ∧ ∀ q ∈ L, free q.base) ∨ ∃ q, o = .threw q ∧ vx_T XC st q t mc ms free
/-- a callee that returns or throws -/
def vx_Met (l : Launch) (y : MethodName) (ws : List Cond) (rm : Room) (Pc : Array Value → State → Prop) (Qc : Array Value → State → Outcome → State → Prop) (XC : String → State → State → Prop) (mc ms : Nat) (free : Addr → Prop) : Prop :=
  MetFree l y (headSpec ws rm) Pc (fun _ _ _ _ _ => True) (vx_Q Qc XC mc ms free)
def vx_Post (XC : String → State → State → Prop) (mc ms : Nat) (free : Addr → Prop) : Pt → Array Value → Addr → Pt → Prop := fun A a q B =>
  ∃ (g : JFrame) (mk : MethodId) (t : State) (L : List Loc) (E : String) (ce : Cell), B.U.heap = t.heap ∧ B.U.vm = t.vm ∧ XC E (A.U.calling g mk a) t ∧ t.heap[q]? = some ce ∧ ce.vm = .none ∧ A.U.vm.findClass E = some ce.cls ∧ B.locs = A.locs ++ L ∧ (∀ z ∈ L, free z.base) ∧ B.cells = A.cells + mc ∧ B.slots = A.slots + ms
def vx_Back (l : Launch) (R : Room) (p : Program) (e : Env) (below : List Frame) (s : State) (sargs : Array Value) (y : MethodName) (len W9 : Nat)
    (Pre : Pt → Array Value → Prop) (Post : Pt → Array Value → Option Value → Pt → Prop) (PostX : Pt → Array Value → Addr → Pt → Prop) : Prop :=
  ∀ (m : MethodId) (meth : Method) (c : Code) (A : Pt) (g : JFrame) (ig : Instr) (mk : MethodId) (a : Array Value),
    Stand p l e R s m sargs below meth c A.U A.locs A.cells A.slots → g.method = m → g.locals.size = c.maxLocals → decode c.code g.pc = .ok (ig, len) →
    2 * g.monitorRoom + (g.stack.map fun v => v.category).sum ≤ W9 → A.U.methodNamed? y = some mk → Pre A a →
    (∃ (v : Option Value) (B : Pt), Stand p l e R s m sargs below meth c B.U B.locs B.cells B.slots ∧ Post A a v B ∧
      Steps p.tables e below (doInvoke e (A.U.setTop g) [] mk a).1 (B.U.setTop { g with pc := g.pc + len, stack := v.toList ++ g.stack })) ∨
    (∃ (q : Addr) (B : Pt), Stand p l e R s m sargs below meth c B.U B.locs B.cells B.slots ∧ PostX A a q B ∧
      Steps p.tables e below (doInvoke e (A.U.setTop g) [] mk a).1 ((B.U.setTop g).pushFrame (.throwing q)))
section Payer
variable {l : Launch} {R : Room} {p : Program} {e : Env} {below : List Frame} {s : State} {sargs : Array Value} {y : MethodName} {len W9 : Nat}
theorem vx_back {ws : List Cond} {rm : Room} {Pc : Array Value → State → Prop} {Qc : Array Value → State → Outcome → State → Prop} {XC : String → State → State → Prop} {mc ms : Nat} {free : Addr → Prop} {bytes : ByteArray} {maxL : Nat} {ret : Option FieldType}
    (hM : vx_Met l y ws rm Pc Qc XC mc ms free) (hblind : FrameBlind Pc) (hrc : rm.cells = mc) (hrs : rm.slots = ms)
    (hframes : rm.frames + 1 ≤ R.frames) (hlocals : W9 + (maxL + 11) + rm.locals ≤ R.locals)
    (hws : ∀ w ∈ ws, ∀ a' U, s.WarmedH U.vm → w.before a' U = true) (hcode : Cond.code y bytes maxL ret ∈ ws) (hinit : ∀ a' U, s.WarmedH U.vm → (Cond.initialized y.cls).before a' U = true) :
    vx_Back l R p e below s sargs y len W9 (PreOf R mc ms Pc) (PostOf Qc mc ms free) (vx_Post XC mc ms free) := by
  intro m meth c A g ig mk a X hg hsize hdg hW hn hp
  have h1 : (headSpec ws rm).pre.before a A.U = true := atoms_intro fun w hw => hws w hw _ _ X.warmed
  have h2 : (Cond.code y bytes maxL ret).before a A.U = true := hws _ hcode _ _ X.warmed
  have h3 : (Cond.initialized y.cls).before a A.U = true := hinit _ _ X.warmed
  have h4 : A.cells + (headSpec ws rm).room.cells ≤ R.cells := by rw [show (headSpec ws rm).room.cells = mc from hrc]; exact hp.1
  have h5 : A.slots + (headSpec ws rm).room.slots ≤ R.slots := by rw [show (headSpec ws rm).room.slots = ms from hrs]; exact hp.2.1
  have hPc : Pc a (A.U.calling g mk a) := hblind _ _ _ _ hp.2.2
  obtain ⟨U, Ls, c0, s0⟩ := A
  dsimp only [Pt.U, Pt.locs, Pt.cells, Pt.slots] at h1 h2 h3 h4 h5 X hn hPc ⊢
  obtain ⟨methY, cY, hmY, hcY, -, hlY, -, -, -, -⟩ := Cond.code_spec hn h2
  obtain ⟨kY, hkY, -⟩ := className_of_methodNamed hn
  have hinitY : kY.init = .initialized := Cond.initialized_spec (findClass_of_methodNamed hn) hkY h3
  have h : At U g.method c below := by rw [hg]; exact X.here
  have hlocals9 : W9 + (maxL + 11) + (headSpec ws rm).room.locals ≤ R.locals := hlocals
  have happ : (headSpec ws rm).appliesLoose y e.platform (U.calling g mk a) = true :=
    Spec.appliesLoose_calling (g := g) h hdg hn hkY hinitY
      (X.room_calling (g := g) (R' := (headSpec ws rm).room) hsize hmY hcY hframes (by rw [hlY]; omega) h4 h5) h1
  obtain ⟨mid, hmid⟩ := h.above
  have hfr : (U.setTop g).frames = (.java g :: mid) ++ below := by rw [State.frames_setTop' g h.top, hmid]; rfl
  obtain ⟨o, s₂, hsteps, -, hend, hq⟩ := Steps.callFree hM p X.admits X.cas X.clock (acts := []) hfr happ hPc trivial
  have hq' : vx_Q Qc XC mc ms free a (U.calling g mk a) o s₂ := hq
  rw [State.frames_setTop' g h.top] at hend
  obtain ⟨g₀, hg0⟩ := Option.isSome_iff_exists.mp h.top
  obtain ⟨r, hr⟩ := State.topJava?_eq_some.mp hg0
  have hr' : (({ U with heap := s₂.heap, slotsUsed := s₂.slotsUsed } : State).setVm s₂.vm).frames = .java g₀ :: r := hr
  rcases hq' with ⟨hqc, L, hfe, hL⟩ | ⟨q, rfl, E, ce, L, hx, hce, hcv, hcl, hW₂, hsm, hL⟩
  · obtain ⟨⟨v, rfl⟩, hW₂, e2, q2, q3, q4, q5, q6⟩ := id hfe
    have e3 : s₂ = ({ (U.calling g mk a).setFrames s₂.frames with heap := s₂.heap, slotsUsed := s₂.slotsUsed } : State).setVm s₂.vm := by
      have : s₂ = ({ s₂ with vm := (U.calling g mk a).vm } : State).setVm s₂.vm := rfl
      rw [e2] at this
      exact this
    obtain ⟨c₂, i₂, len₂, hc₂, hd₂, hf₂⟩ := hend
    have hW' : U.WarmedH s₂.vm := hW₂
    have hcc : c₂ = c := by
      have h1 : s₂.code? g.method = U.code? g.method := by
        rw [State.code?_eq, State.code?_eq, hW'.alike.method?]
      exact Option.some.inj (hc₂.symm.trans (h1.trans h.code))
    subst hcc
    have hlen : len₂ = len := by rw [hdg] at hd₂; cases hd₂; rfl
    subst hlen
    have hs₂ : s₂ = (({ U with heap := s₂.heap, slotsUsed := s₂.slotsUsed } : State).setVm s₂.vm).setTop { g with pc := g.pc + len₂, stack := v.toList ++ g.stack } := by
      refine e3.trans ?_
      rw [hf₂, State.calling_eq h.top, State.setFrames_setFrames, State.setTop_of_frames _ hr', hr]
      rfl
    have hsame : U.sameButNew ({ U with heap := s₂.heap, slotsUsed := s₂.slotsUsed } : State) L mc ms := by
      refine ⟨?_, q2, q3, q4, q5, q6⟩
      obtain ⟨t, ht, -⟩ := State.frames_cons hr
      show ({ U with heap := s₂.heap, slotsUsed := s₂.slotsUsed } : State) = { U.setFrames U.frames with heap := s₂.heap, slotsUsed := s₂.slotsUsed }
      rw [State.setFrames_self ht]
    subst hg
    refine Or.inl ⟨v, ⟨(({ U with heap := s₂.heap, slotsUsed := s₂.slotsUsed } : State).setVm s₂.vm), Ls ++ L, c0 + mc, s0 + ms⟩,
      ⟨X.admits, X.cas, X.clock, X.frames, X.room, X.hears, X.method, X.code, (X.here.setHeapUsed s₂.heap s₂.slotsUsed).setVm hW'.alike, X.tail, State.WarmedH.trans X.warmed hW', X.limits, X.bytes, X.same.trans (hsame.setVm s.vm)⟩,
      ⟨g, mk, s₂, L, rfl, rfl, hqc, rfl, hL, rfl, rfl⟩, ?_⟩
    show Steps p.tables e below _ ((({ U with heap := s₂.heap, slotsUsed := s₂.slotsUsed } : State).setVm s₂.vm).setTop { g with pc := g.pc + len₂, stack := v.toList ++ g.stack })
    rw [← hs₂]
    exact hsteps
  · obtain ⟨e2, q2, q3, q4, q5, q6⟩ := id hsm
    have e3 : s₂ = ({ (U.calling g mk a).setFrames s₂.frames with heap := s₂.heap, slotsUsed := s₂.slotsUsed } : State).setVm s₂.vm := by
      have : s₂ = ({ s₂ with vm := (U.calling g mk a).vm } : State).setVm s₂.vm := rfl
      rw [e2] at this
      exact this
    have hf₂ : s₂.frames = .throwing q :: .java g :: U.frames.tail := hend
    have hW' : U.WarmedH s₂.vm := hW₂
    have hs₂ : s₂ = ((({ U with heap := s₂.heap, slotsUsed := s₂.slotsUsed } : State).setVm s₂.vm).setTop g).pushFrame (.throwing q) := by
      refine e3.trans ?_
      rw [hf₂, State.calling_eq h.top, State.setFrames_setFrames, State.pushFrame, State.frames_setTop _ hr', State.setTop_of_frames _ hr', State.setFrames_setFrames, hr]
      rfl
    have hsame : U.sameButNew ({ U with heap := s₂.heap, slotsUsed := s₂.slotsUsed } : State) L mc ms := by
      refine ⟨?_, q2, q3, q4, q5, q6⟩
      obtain ⟨t, ht, -⟩ := State.frames_cons hr
      show ({ U with heap := s₂.heap, slotsUsed := s₂.slotsUsed } : State) = { U.setFrames U.frames with heap := s₂.heap, slotsUsed := s₂.slotsUsed }
      rw [State.setFrames_self ht]
    subst hg
    refine Or.inr ⟨q, ⟨(({ U with heap := s₂.heap, slotsUsed := s₂.slotsUsed } : State).setVm s₂.vm), Ls ++ L, c0 + mc, s0 + ms⟩,
      ⟨X.admits, X.cas, X.clock, X.frames, X.room, X.hears, X.method, X.code, (X.here.setHeapUsed s₂.heap s₂.slotsUsed).setVm hW'.alike, X.tail, State.WarmedH.trans X.warmed hW', X.limits, X.bytes, X.same.trans (hsame.setVm s.vm)⟩,
      ⟨g, mk, s₂, L, E, ce, rfl, rfl, hx, hce, hcv, hcl, rfl, hL, rfl, rfl⟩, ?_⟩
    show Steps p.tables e below _ (((({ U with heap := s₂.heap, slotsUsed := s₂.slotsUsed } : State).setVm s₂.vm).setTop g).pushFrame (.throwing q))
    rw [← hs₂]
    exact hsteps
end Payer
section Calls
variable {p : Program} {l : Launch} {e : Env} {R : Room} {s : State} {m : MethodId} {args : Array Value} {below : List Frame} {meth : Method} {c : Code} {T : State} {locs : List Loc} {cells slots : Nat}
theorem vx_callV (X : Stand p l e R s m args below meth c T locs cells slots) (hexec : p.tables.exec = Jvm.exec) {own C : String} {index : Nat} {y : MethodName} {bytes : ByteArray} {maxL : Nat} {ret : Option FieldType}
    (hown : s.vm.findClass own = some m.cls) (hlink : (Cond.methodLink own index y).before args s = true) (hinst : (Cond.instanceMethod y).before args s = true) (hsel : (Cond.selects C y y).before args s = true)
    (hcode : (Cond.code y bytes maxL ret).before args s = true) (hy : y.cls ≠ "java/lang/invoke/MethodHandle" ∧ y.cls ≠ "java/lang/invoke/VarHandle")
    {W9 : Nat} {Pre : Pt → Array Value → Prop} {Post : Pt → Array Value → Option Value → Pt → Prop} {PostX : Pt → Array Value → Addr → Pt → Prop} (hK : vx_Back l R p e below s args y 3 W9 Pre Post PostX)
    {b : Addr} {cellB : Cell} (hcell : T.heap[b]? = some cellB) (hobj : cellB.vm.isStatics = false) (hcls : s.vm.findClass C = some cellB.cls)
    {g : JFrame} (hg : g.method = m) (hsize : g.locals.size = c.maxLocals) {argsL rest : List Value} (hlen : ∀ sig, parseMethodDescriptor y.desc = some sig → argsL.length = sig.parameters.length)
    (hstack : g.stack = argsL.reverse ++ .ref b :: rest) (hW : 2 * g.monitorRoom + (rest.map fun v => v.category).sum ≤ W9) (hdg : decode c.code g.pc = .ok (.invokevirtual index, 3))
    (hpre : ∀ vm₁, s.WarmedH vm₁ → Pre ⟨T.setVm vm₁, locs, cells, slots⟩ (Value.ref b :: argsL).toArray) :
    (∃ (v : Option Value) (vm₁ : Vm) (B : Pt), s.WarmedH vm₁ ∧ Stand p l e R s m args below meth c B.U B.locs B.cells B.slots ∧ Post ⟨T.setVm vm₁, locs, cells, slots⟩ (Value.ref b :: argsL).toArray v B ∧
      ∀ target, Steps p.tables e below (B.U.setTop { g with pc := g.pc + 3, stack := v.toList ++ rest }) target → Steps p.tables e below (T.setTop g) target) ∨
    (∃ (q : Addr) (vm₁ : Vm) (B : Pt), s.WarmedH vm₁ ∧ Stand p l e R s m args below meth c B.U B.locs B.cells B.slots ∧ PostX ⟨T.setVm vm₁, locs, cells, slots⟩ (Value.ref b :: argsL).toArray q B ∧
      Steps p.tables e below (T.setTop g) ((B.U.setTop { g with stack := rest }).pushFrame (.throwing q))) := by
  obtain ⟨mk, methM, hnamed, hmethM, hstM, habM⟩ := Cond.instanceMethod_spec hinst
  obtain ⟨methM', cM, hmethM', -, -, -, -, -, -, hsigM⟩ := Cond.code_spec hnamed hcode
  cases hmethM.symm.trans hmethM'
  obtain ⟨c2, r2, m2, q1, q2, q3, q4, kP, hkP, hkPi⟩ := Cond.selects_spec hsel
  cases hcls.symm.trans q1
  cases (State.methodFound?_of_named hnamed hy).symm.trans q2
  cases hnamed.symm.trans q3
  have hselP : selectMethod e.platform s.vm cellB.cls mk = .method mk := by rw [Launch.admits_selectMethod X.admits]; exact q4
  obtain ⟨vm₁, X₁, hstep₁⟩ := X.invokevirtual hexec hown hlink hnamed hmethM hstM hkP hkPi hy (a := b) (cell := cellB) hcell
    (fun z h => by rw [h] at hobj; cases hobj) hselP hmethM habM hkP hkPi (g := g) hg (argsL := argsL) (rest := rest) (hlen _ hsigM) hstack hdg
  rcases hK m meth c ⟨T.setVm vm₁, locs, cells, slots⟩ { g with stack := rest } (.invokevirtual index) mk (Value.ref b :: argsL).toArray X₁ hg hsize hdg hW (X₁.named hnamed) (hpre vm₁ X₁.warmed) with ⟨v, B, X', hpost, hsteps⟩ | ⟨q, B, X', hpost, hsteps⟩
  · exact Or.inl ⟨v, vm₁, B, X₁.warmed, X', hpost, fun target h => hstep₁ _ fun acts => by rw [doInvoke_state]; exact hsteps.trans h⟩
  · exact Or.inr ⟨q, vm₁, B, X₁.warmed, X', hpost, hstep₁ _ fun acts => by rw [doInvoke_state]; exact hsteps⟩
theorem vx_callS (X : Stand p l e R s m args below meth c T locs cells slots) (hexec : p.tables.exec = Jvm.exec) {own : String} {index : Nat} {y : MethodName} {bytes : ByteArray} {maxL : Nat} {ret : Option FieldType}
    (hown : s.vm.findClass own = some m.cls) (hlink : (Cond.methodLink own index y).before args s = true) (hstat : (Cond.static y).before args s = true) (hinit : (Cond.initialized y.cls).before args s = true)
    (hcode : (Cond.code y bytes maxL ret).before args s = true) (hy : y.cls ≠ "java/lang/invoke/MethodHandle" ∧ y.cls ≠ "java/lang/invoke/VarHandle")
    {W9 : Nat} {Pre : Pt → Array Value → Prop} {Post : Pt → Array Value → Option Value → Pt → Prop} {PostX : Pt → Array Value → Addr → Pt → Prop} (hK : vx_Back l R p e below s args y 3 W9 Pre Post PostX)
    {g : JFrame} (hg : g.method = m) (hsize : g.locals.size = c.maxLocals) {argsL rest : List Value} (hlen : ∀ sig, parseMethodDescriptor y.desc = some sig → argsL.length = sig.parameters.length)
    (hstack : g.stack = argsL.reverse ++ rest) (hW : 2 * g.monitorRoom + (rest.map fun v => v.category).sum ≤ W9) (hdg : decode c.code g.pc = .ok (.invokestatic index, 3))
    (hpre : ∀ vm₁, s.WarmedH vm₁ → Pre ⟨T.setVm vm₁, locs, cells, slots⟩ argsL.toArray) :
    (∃ (v : Option Value) (vm₁ : Vm) (B : Pt), s.WarmedH vm₁ ∧ Stand p l e R s m args below meth c B.U B.locs B.cells B.slots ∧ Post ⟨T.setVm vm₁, locs, cells, slots⟩ argsL.toArray v B ∧
      ∀ target, Steps p.tables e below (B.U.setTop { g with pc := g.pc + 3, stack := v.toList ++ rest }) target → Steps p.tables e below (T.setTop g) target) ∨
    (∃ (q : Addr) (vm₁ : Vm) (B : Pt), s.WarmedH vm₁ ∧ Stand p l e R s m args below meth c B.U B.locs B.cells B.slots ∧ PostX ⟨T.setVm vm₁, locs, cells, slots⟩ argsL.toArray q B ∧
      Steps p.tables e below (T.setTop g) ((B.U.setTop { g with stack := rest }).pushFrame (.throwing q))) := by
  obtain ⟨mk, hnamed⟩ := Cond.code_named hcode
  obtain ⟨methM, cM, hmethM, -, -, -, -, -, -, hsigM⟩ := Cond.code_spec hnamed hcode
  have hstatic : methM.isStatic = true := Cond.static_spec hnamed hmethM hstat
  obtain ⟨kP, hkP, -⟩ := className_of_methodNamed hnamed
  have hinitP : kP.init = .initialized := Cond.initialized_spec (findClass_of_methodNamed hnamed) hkP hinit
  obtain ⟨vm₁, X₁, hstep₁⟩ := X.invokestatic hexec hown hlink hnamed hmethM hstatic hkP hinitP hy (g := g) hg (argsL := argsL) (rest := rest) (hlen _ hsigM) hstack hdg
  rcases hK m meth c ⟨T.setVm vm₁, locs, cells, slots⟩ { g with stack := rest } (.invokestatic index) mk argsL.toArray X₁ hg hsize hdg hW (X₁.named hnamed) (hpre vm₁ X₁.warmed) with ⟨v, B, X', hpost, hsteps⟩ | ⟨q, B, X', hpost, hsteps⟩
  · exact Or.inl ⟨v, vm₁, B, X₁.warmed, X', hpost, fun target h => hstep₁ _ fun acts => by rw [doInvoke_state]; exact hsteps.trans h⟩
  · exact Or.inr ⟨q, vm₁, B, X₁.warmed, X', hpost, hstep₁ _ fun acts => by rw [doInvoke_state]; exact hsteps⟩
end Calls
theorem vx_cls {s : State} {T : State} {vm₁ : Vm} {E : String} {k : ClassId} (hW : s.WarmedH vm₁) (h : (T.setVm vm₁).vm.findClass E = some k) : s.vm.findClass E = some k := by
  have h1 : vm₁.findClass E = some k := h
  rw [hW.alike.findClass] at h1
  exact h1
/-- the method's frame g, with q thrown over it -/
def vx_W (p : Program) (l : Launch) (e : Env) (R : Room) (s : State) (m : MethodId) (args : Array Value) (below : List Frame) (meth : Method) (c : Code) (H : Heap) (locs : List Loc) (cells slots : Nat) (Q : State → Prop) (g : JFrame) (q : Addr) : Prop :=
  ∀ T : State, T.heap = H → Stand p l e R s m args below meth c T locs cells slots → ∃ t, Steps p.tables e below ((T.setTop g).pushFrame (.throwing q)) t ∧ Q t
def vx_Run (p : Program) (l : Launch) (e : Env) (R : Room) (s : State) (m : MethodId) (args : Array Value) (below : List Frame) (meth : Method) (c : Code) (H : Heap) (locs : List Loc) (cells slots mc ms : Nat) (g : JFrame) (rest : List Value) (Qa : State → Outcome → State → Prop) (XC : String → State → State → Prop) (free : Addr → Prop) : Prop :=
  ∀ T : State, T.heap = H → Stand p l e R s m args below meth c T locs cells slots →
    (∃ (v : Option Value) (st₀ t T' : State) (L : List Loc), st₀.heap = H ∧ Stand p l e R s m args below meth c T' (locs ++ L) (cells + mc) (slots + ms) ∧ (∀ q ∈ L, free q.base) ∧ T'.heap = t.heap ∧ T'.vm = t.vm ∧ Qa st₀ (.returned v) t ∧
      Goes p e below T g T' { g with pc := g.pc + 3, stack := v.toList ++ rest }) ∨
    (∃ (q : Addr) (st₀ t T' : State) (L : List Loc) (E : String) (ce : Cell), st₀.heap = H ∧ Stand p l e R s m args below meth c T' (locs ++ L) (cells + mc) (slots + ms) ∧ (∀ z ∈ L, free z.base) ∧ T'.heap = t.heap ∧ T'.vm = t.vm ∧ XC E st₀ t ∧ t.heap[q]? = some ce ∧ ce.vm = .none ∧ s.vm.findClass E = some ce.cls ∧
      Steps p.tables e below (T.setTop g) ((T'.setTop { g with stack := rest }).pushFrame (.throwing q)))
def vx_X {S : Type} (px : S → Prop) (B : String → S → State → Prop) (A : Nat → Prop) : String → State → State → Prop := fun E st t => ∃ u : S, px u ∧ B E u t ∧ va_F A st t
section Runs
variable {p : Program} {l : Launch} {e : Env} {R : Room} {s : State} {m : MethodId} {args : Array Value} {below : List Frame} {meth : Method} {c : Code} {H : Heap} {locs : List Loc} {cells slots : Nat}
variable {y : MethodName} {bytes cc : ByteArray} {maxL nL mc ms n index : Nat} {ret : Option FieldType} {ws : List Cond} {rm : Room} {Pc : Array Value → State → Prop} {Qc : Array Value → State → Outcome → State → Prop} {XC : String → State → State → Prop} {free : Addr → Prop} {Ts : List Cond} {own C : String} {b : Addr} {As rest : List Value} {g : JFrame}
theorem vx_callBack (cb : CallB R s args own index y bytes maxL ret ws rm mc ms n) (hM : vx_Met l y ws rm Pc Qc XC mc ms free) (hbl : FrameBlind Pc) : vx_Back l R p e below s args y 3 8 (PreOf R mc ms Pc) (PostOf Qc mc ms free) (vx_Post XC mc ms free) := by
  obtain ⟨hrc, hrs, hfr, hlo, hws, hcw, -, hini, -⟩ := cb
  exact vx_back (bytes := bytes) (maxL := maxL) (ret := ret) hM hbl hrc hrs hfr hlo hws hcw (fun a' U hW => word_at hW (Or.inl (by first | rfl | simp [Cond.onTables, Cond.keeps, Cond.steady])) hini)
theorem vx_runV (S : CallFix p m c cc nL s args Ts own) (hM : vx_Met l y ws rm Pc Qc XC mc ms free) (cw : CallW R s args own C index y bytes maxL ret ws rm mc ms n) (hp : PreV s H C b Pc As)
    (hg : g.method = m) (hn : As.length = n) (hsize : g.locals.size = nL) (hstack : g.stack = As.reverse ++ .ref b :: rest) (hW : 2 * g.monitorRoom + (rest.map fun v => v.category).sum ≤ 8) (hdg : decode cc g.pc = .ok (.invokevirtual index, 3)) (hf : cells + mc ≤ R.cells ∧ slots + ms ≤ R.slots) :
    vx_Run p l e R s m args below meth c H locs cells slots mc ms g rest (Qc (Value.ref b :: As).toArray) XC free := by
  have hK : vx_Back l R p e below s args y 3 8 (PreOf R mc ms Pc) (PostOf Qc mc ms free) (vx_Post XC mc ms free) := vx_callBack cw.1 hM hp.1
  obtain ⟨⟨-, -, -, -, -, -, hcode, -, hy, hlen, hl⟩, hin, hse⟩ := cw
  obtain ⟨hx, hb, hml, ho, -⟩ := S
  obtain ⟨-, ⟨cellB, hcB, hoB, hclB⟩, hPc⟩ := hp
  intro T hT X
  rcases vx_callV X hx (C := C) (bytes := bytes) (maxL := maxL) (ret := ret) ho hl hin hse hcode hy hK (by rw [hT]; exact hcB) hoB hclB hg (hsize.trans hml.symm) (argsL := As) (rest := rest) (fun sig h => hn.trans (hlen sig h)) hstack hW (by rw [hb]; exact hdg)
    (fun vm₁ hW₁ => ⟨hf.1, hf.2, hPc (T.setVm vm₁) hT hW₁⟩) with ⟨v, vm₁, ⟨U', l2, c2, s2⟩, hW₁, X', ⟨g', mk, t, L, e1, e2, hq, h1, hL, h2, h3⟩, st⟩ | ⟨q, vm₁, ⟨U', l2, c2, s2⟩, hW₁, X', ⟨g', mk, t, L, E, ce, e1, e2, hq, hce, hcv, hcl, h1, hL, h2, h3⟩, st⟩
  · dsimp only [Pt.U, Pt.locs, Pt.cells, Pt.slots] at X' e1 e2 h1 h2 h3 st
    subst h1; subst h2; subst h3
    exact Or.inl ⟨v, (T.setVm vm₁).calling g' mk (Value.ref b :: As).toArray, t, U', L, hT, X', hL, e1, e2, hq, st⟩
  · dsimp only [Pt.U, Pt.locs, Pt.cells, Pt.slots] at X' e1 e2 h1 h2 h3 st hcl
    subst h1; subst h2; subst h3
    exact Or.inr ⟨q, (T.setVm vm₁).calling g' mk (Value.ref b :: As).toArray, t, U', L, E, ce, hT, X', hL, e1, e2, hq, hce, hcv, vx_cls hW₁ hcl, st⟩
theorem vx_runS (S : CallFix p m c cc nL s args Ts own) (hM : vx_Met l y ws rm Pc Qc XC mc ms free) (cw : CallB R s args own index y bytes maxL ret ws rm mc ms n ∧ (Cond.static y).before args s = true) (hp : PreS s H Pc As)
    (hg : g.method = m) (hn : As.length = n) (hsize : g.locals.size = nL) (hstack : g.stack = As.reverse ++ rest) (hW : 2 * g.monitorRoom + (rest.map fun v => v.category).sum ≤ 8) (hdg : decode cc g.pc = .ok (.invokestatic index, 3)) (hf : cells + mc ≤ R.cells ∧ slots + ms ≤ R.slots) :
    vx_Run p l e R s m args below meth c H locs cells slots mc ms g rest (Qc As.toArray) XC free := by
  have hK : vx_Back l R p e below s args y 3 8 (PreOf R mc ms Pc) (PostOf Qc mc ms free) (vx_Post XC mc ms free) := vx_callBack cw.1 hM hp.1
  obtain ⟨⟨-, -, -, -, -, -, hcode, hini, hy, hlen, hl⟩, hstt⟩ := cw
  obtain ⟨hx, hb, hml, ho, -⟩ := S
  intro T hT X
  rcases vx_callS X hx (bytes := bytes) (maxL := maxL) (ret := ret) ho hl hstt hini hcode hy hK hg (hsize.trans hml.symm) (argsL := As) (rest := rest) (fun sig h => hn.trans (hlen sig h)) hstack hW (by rw [hb]; exact hdg)
    (fun vm₁ hW₁ => ⟨hf.1, hf.2, hp.2 (T.setVm vm₁) hT hW₁⟩) with ⟨v, vm₁, ⟨U', l2, c2, s2⟩, hW₁, X', ⟨g', mk, t, L, e1, e2, hq, h1, hL, h2, h3⟩, st⟩ | ⟨q, vm₁, ⟨U', l2, c2, s2⟩, hW₁, X', ⟨g', mk, t, L, E, ce, e1, e2, hq, hce, hcv, hcl, h1, hL, h2, h3⟩, st⟩
  · dsimp only [Pt.U, Pt.locs, Pt.cells, Pt.slots] at X' e1 e2 h1 h2 h3 st
    subst h1; subst h2; subst h3
    exact Or.inl ⟨v, (T.setVm vm₁).calling g' mk As.toArray, t, U', L, hT, X', hL, e1, e2, hq, st⟩
  · dsimp only [Pt.U, Pt.locs, Pt.cells, Pt.slots] at X' e1 e2 h1 h2 h3 st hcl
    subst h1; subst h2; subst h3
    exact Or.inr ⟨q, (T.setVm vm₁).calling g' mk As.toArray, t, U', L, E, ce, hT, X', hL, e1, e2, hq, hce, hcv, vx_cls hW₁ hcl, st⟩
end Runs
section Rows
variable {p : Program} {l : Launch} {e : Env} {R : Room} {s : State} {m : MethodId} {args : Array Value} {below : List Frame} {meth : Method} {c : Code} {H : Heap} {locs : List Loc} {cells slots : Nat} {Q : State → Prop}
variable {mc ms : Nat} {free : Addr → Prop} {A0 A1 : Nat → Prop} {H0 : Heap} {a : Array Value} {pc : Nat} {ls : Array Slot} {st0 rest : List Value}
theorem vx_keep {st₀ t T' : State} {L : List Loc} (h0 : st₀.heap = H) (e1 : T'.heap = t.heap) (hS : va_S A0 H0 H locs) (hA : ∀ q, q < H.size → A1 q → A0 q) (hf : ∀ q, free q → A0 q) (hL : ∀ q ∈ L, free q.base) (hF : va_F A1 st₀ t) :
    H.size ≤ T'.heap.size ∧ (∀ q : Nat, q < H.size → ¬ A1 q → T'.heap[q]? = H[q]?) ∧ va_S A0 H0 T'.heap (locs ++ L) := by
  obtain ⟨hz, hk⟩ := hF
  rw [h0] at hz hk
  exact ⟨by rw [e1]; exact hz, fun q h1 h2 => by rw [e1]; exact hk q h1 h2,
    ⟨Nat.le_trans hS.1 (by rw [e1]; exact hz), fun q h1 h2 => by rw [e1, hk q (Nat.lt_of_lt_of_le h1 hS.1) (fun z => h2 (hA q (Nat.lt_of_lt_of_le h1 hS.1) z))]; exact hS.2.1 q h1 h2, fun q hq => by
      rcases List.mem_append.mp hq with h | h
      · exact hS.2.2 q h
      · exact hf _ (hL q h)⟩⟩
theorem vx_calli {S SX : Type} {post : Int32 → S → Prop} {px : SX → Prop} {B : S → State → Prop} {BX : String → SX → State → Prop} {AX : Nat → Prop} (hr : vx_Run p l e R s m args below meth c H locs cells slots mc ms (F0 m pc ls st0) rest (va_Qi post B A1 a) (vx_X px BX AX) free) (hS : va_S A0 H0 H locs) (hA : ∀ q, q < H.size → A1 q → A0 q) (hf : ∀ q, free q → A0 q) (hAX : ∀ q, q < H.size → AX q → A0 q)
    (kx : ∀ (E : String) (ce : Cell) (q9 : Addr) (u : SX) (t : State) (H1 : Heap) (locs1 : List Loc), t.heap = H1 → s.vm.Alike t.vm → px u → BX E u t → H.size ≤ H1.size → (∀ q : Nat, q < H.size → ¬ AX q → H1[q]? = H[q]?) → va_S A0 H0 H1 locs1 → H1[q9]? = some ce → ce.vm = .none → s.vm.findClass E = some ce.cls → vx_W p l e R s m args below meth c H1 locs1 (cells + mc) (slots + ms) Q (F0 m pc ls rest) q9)
    (kk : ∀ (r : Int32) (u : S) (t : State) (H1 : Heap) (locs1 : List Loc), t.heap = H1 → s.vm.Alike t.vm → post r u → B u t → H.size ≤ H1.size → (∀ q : Nat, q < H.size → ¬ A1 q → H1[q]? = H[q]?) → va_S A0 H0 H1 locs1 → W p l e R s m args below meth c H1 locs1 (cells + mc) (slots + ms) Q (F0 m (pc + 3) ls (.int r :: rest))) : W p l e R s m args below meth c H locs cells slots Q (F0 m pc ls st0) := by
  intro T hT X
  rcases hr T hT X with ⟨v, st₀, t, T', L, h0, X', hL, e1, e2, ⟨⟨r, u, hv, hp, hb⟩, hF⟩, st⟩ | ⟨q, st₀, t, T', L, E, ce, h0, X', hL, e1, e2, ⟨u, hp, hb, hF⟩, hce, hcv, hcl, st⟩
  · cases hv
    obtain ⟨k1, k2, k3⟩ := vx_keep h0 e1 hS hA hf hL hF
    obtain ⟨t2, a1, b1⟩ := kk r u t T'.heap (locs ++ L) e1.symm (by rw [← e2]; exact X'.warmed.alike) hp hb k1 k2 k3 T' rfl X'
    exact ⟨t2, st t2 a1, b1⟩
  · obtain ⟨k1, k2, k3⟩ := vx_keep h0 e1 hS hAX hf hL hF
    obtain ⟨t2, a1, b1⟩ := kx E ce q u t T'.heap (locs ++ L) e1.symm (by rw [← e2]; exact X'.warmed.alike) hp hb k1 k2 k3 (by rw [e1]; exact hce) hcv hcl T' rfl X'
    exact ⟨t2, st.trans a1, b1⟩
theorem vx_calll {S SX : Type} {post : Int64 → S → Prop} {px : SX → Prop} {B : S → State → Prop} {BX : String → SX → State → Prop} {AX : Nat → Prop} (hr : vx_Run p l e R s m args below meth c H locs cells slots mc ms (F0 m pc ls st0) rest (va_Ql post B A1 a) (vx_X px BX AX) free) (hS : va_S A0 H0 H locs) (hA : ∀ q, q < H.size → A1 q → A0 q) (hf : ∀ q, free q → A0 q) (hAX : ∀ q, q < H.size → AX q → A0 q)
    (kx : ∀ (E : String) (ce : Cell) (q9 : Addr) (u : SX) (t : State) (H1 : Heap) (locs1 : List Loc), t.heap = H1 → s.vm.Alike t.vm → px u → BX E u t → H.size ≤ H1.size → (∀ q : Nat, q < H.size → ¬ AX q → H1[q]? = H[q]?) → va_S A0 H0 H1 locs1 → H1[q9]? = some ce → ce.vm = .none → s.vm.findClass E = some ce.cls → vx_W p l e R s m args below meth c H1 locs1 (cells + mc) (slots + ms) Q (F0 m pc ls rest) q9)
    (kk : ∀ (r : Int64) (u : S) (t : State) (H1 : Heap) (locs1 : List Loc), t.heap = H1 → s.vm.Alike t.vm → post r u → B u t → H.size ≤ H1.size → (∀ q : Nat, q < H.size → ¬ A1 q → H1[q]? = H[q]?) → va_S A0 H0 H1 locs1 → W p l e R s m args below meth c H1 locs1 (cells + mc) (slots + ms) Q (F0 m (pc + 3) ls (.long r :: rest))) : W p l e R s m args below meth c H locs cells slots Q (F0 m pc ls st0) := by
  intro T hT X
  rcases hr T hT X with ⟨v, st₀, t, T', L, h0, X', hL, e1, e2, ⟨⟨r, u, hv, hp, hb⟩, hF⟩, st⟩ | ⟨q, st₀, t, T', L, E, ce, h0, X', hL, e1, e2, ⟨u, hp, hb, hF⟩, hce, hcv, hcl, st⟩
  · cases hv
    obtain ⟨k1, k2, k3⟩ := vx_keep h0 e1 hS hA hf hL hF
    obtain ⟨t2, a1, b1⟩ := kk r u t T'.heap (locs ++ L) e1.symm (by rw [← e2]; exact X'.warmed.alike) hp hb k1 k2 k3 T' rfl X'
    exact ⟨t2, st t2 a1, b1⟩
  · obtain ⟨k1, k2, k3⟩ := vx_keep h0 e1 hS hAX hf hL hF
    obtain ⟨t2, a1, b1⟩ := kx E ce q u t T'.heap (locs ++ L) e1.symm (by rw [← e2]; exact X'.warmed.alike) hp hb k1 k2 k3 (by rw [e1]; exact hce) hcv hcl T' rfl X'
    exact ⟨t2, st.trans a1, b1⟩
theorem vx_callf {S SX : Type} {post : UInt32 → S → Prop} {px : SX → Prop} {B : S → State → Prop} {BX : String → SX → State → Prop} {AX : Nat → Prop} (hr : vx_Run p l e R s m args below meth c H locs cells slots mc ms (F0 m pc ls st0) rest (va_Qf post B A1 a) (vx_X px BX AX) free) (hS : va_S A0 H0 H locs) (hA : ∀ q, q < H.size → A1 q → A0 q) (hf : ∀ q, free q → A0 q) (hAX : ∀ q, q < H.size → AX q → A0 q)
    (kx : ∀ (E : String) (ce : Cell) (q9 : Addr) (u : SX) (t : State) (H1 : Heap) (locs1 : List Loc), t.heap = H1 → s.vm.Alike t.vm → px u → BX E u t → H.size ≤ H1.size → (∀ q : Nat, q < H.size → ¬ AX q → H1[q]? = H[q]?) → va_S A0 H0 H1 locs1 → H1[q9]? = some ce → ce.vm = .none → s.vm.findClass E = some ce.cls → vx_W p l e R s m args below meth c H1 locs1 (cells + mc) (slots + ms) Q (F0 m pc ls rest) q9)
    (kk : ∀ (r : UInt32) (u : S) (t : State) (H1 : Heap) (locs1 : List Loc), t.heap = H1 → s.vm.Alike t.vm → post r u → B u t → H.size ≤ H1.size → (∀ q : Nat, q < H.size → ¬ A1 q → H1[q]? = H[q]?) → va_S A0 H0 H1 locs1 → W p l e R s m args below meth c H1 locs1 (cells + mc) (slots + ms) Q (F0 m (pc + 3) ls (.float r :: rest))) : W p l e R s m args below meth c H locs cells slots Q (F0 m pc ls st0) := by
  intro T hT X
  rcases hr T hT X with ⟨v, st₀, t, T', L, h0, X', hL, e1, e2, ⟨⟨r, u, hv, hp, hb⟩, hF⟩, st⟩ | ⟨q, st₀, t, T', L, E, ce, h0, X', hL, e1, e2, ⟨u, hp, hb, hF⟩, hce, hcv, hcl, st⟩
  · cases hv
    obtain ⟨k1, k2, k3⟩ := vx_keep h0 e1 hS hA hf hL hF
    obtain ⟨t2, a1, b1⟩ := kk r u t T'.heap (locs ++ L) e1.symm (by rw [← e2]; exact X'.warmed.alike) hp hb k1 k2 k3 T' rfl X'
    exact ⟨t2, st t2 a1, b1⟩
  · obtain ⟨k1, k2, k3⟩ := vx_keep h0 e1 hS hAX hf hL hF
    obtain ⟨t2, a1, b1⟩ := kx E ce q u t T'.heap (locs ++ L) e1.symm (by rw [← e2]; exact X'.warmed.alike) hp hb k1 k2 k3 (by rw [e1]; exact hce) hcv hcl T' rfl X'
    exact ⟨t2, st.trans a1, b1⟩
theorem vx_calld {S SX : Type} {post : UInt64 → S → Prop} {px : SX → Prop} {B : S → State → Prop} {BX : String → SX → State → Prop} {AX : Nat → Prop} (hr : vx_Run p l e R s m args below meth c H locs cells slots mc ms (F0 m pc ls st0) rest (va_Qd post B A1 a) (vx_X px BX AX) free) (hS : va_S A0 H0 H locs) (hA : ∀ q, q < H.size → A1 q → A0 q) (hf : ∀ q, free q → A0 q) (hAX : ∀ q, q < H.size → AX q → A0 q)
    (kx : ∀ (E : String) (ce : Cell) (q9 : Addr) (u : SX) (t : State) (H1 : Heap) (locs1 : List Loc), t.heap = H1 → s.vm.Alike t.vm → px u → BX E u t → H.size ≤ H1.size → (∀ q : Nat, q < H.size → ¬ AX q → H1[q]? = H[q]?) → va_S A0 H0 H1 locs1 → H1[q9]? = some ce → ce.vm = .none → s.vm.findClass E = some ce.cls → vx_W p l e R s m args below meth c H1 locs1 (cells + mc) (slots + ms) Q (F0 m pc ls rest) q9)
    (kk : ∀ (r : UInt64) (u : S) (t : State) (H1 : Heap) (locs1 : List Loc), t.heap = H1 → s.vm.Alike t.vm → post r u → B u t → H.size ≤ H1.size → (∀ q : Nat, q < H.size → ¬ A1 q → H1[q]? = H[q]?) → va_S A0 H0 H1 locs1 → W p l e R s m args below meth c H1 locs1 (cells + mc) (slots + ms) Q (F0 m (pc + 3) ls (.double r :: rest))) : W p l e R s m args below meth c H locs cells slots Q (F0 m pc ls st0) := by
  intro T hT X
  rcases hr T hT X with ⟨v, st₀, t, T', L, h0, X', hL, e1, e2, ⟨⟨r, u, hv, hp, hb⟩, hF⟩, st⟩ | ⟨q, st₀, t, T', L, E, ce, h0, X', hL, e1, e2, ⟨u, hp, hb, hF⟩, hce, hcv, hcl, st⟩
  · cases hv
    obtain ⟨k1, k2, k3⟩ := vx_keep h0 e1 hS hA hf hL hF
    obtain ⟨t2, a1, b1⟩ := kk r u t T'.heap (locs ++ L) e1.symm (by rw [← e2]; exact X'.warmed.alike) hp hb k1 k2 k3 T' rfl X'
    exact ⟨t2, st t2 a1, b1⟩
  · obtain ⟨k1, k2, k3⟩ := vx_keep h0 e1 hS hAX hf hL hF
    obtain ⟨t2, a1, b1⟩ := kx E ce q u t T'.heap (locs ++ L) e1.symm (by rw [← e2]; exact X'.warmed.alike) hp hb k1 k2 k3 (by rw [e1]; exact hce) hcv hcl T' rfl X'
    exact ⟨t2, st.trans a1, b1⟩
theorem vx_callv {S SX : Type} {post : S → Prop} {px : SX → Prop} {B : S → State → Prop} {BX : String → SX → State → Prop} {AX : Nat → Prop} (hr : vx_Run p l e R s m args below meth c H locs cells slots mc ms (F0 m pc ls st0) rest (va_Qv post B A1 a) (vx_X px BX AX) free) (hS : va_S A0 H0 H locs) (hA : ∀ q, q < H.size → A1 q → A0 q) (hf : ∀ q, free q → A0 q) (hAX : ∀ q, q < H.size → AX q → A0 q)
    (kx : ∀ (E : String) (ce : Cell) (q9 : Addr) (u : SX) (t : State) (H1 : Heap) (locs1 : List Loc), t.heap = H1 → s.vm.Alike t.vm → px u → BX E u t → H.size ≤ H1.size → (∀ q : Nat, q < H.size → ¬ AX q → H1[q]? = H[q]?) → va_S A0 H0 H1 locs1 → H1[q9]? = some ce → ce.vm = .none → s.vm.findClass E = some ce.cls → vx_W p l e R s m args below meth c H1 locs1 (cells + mc) (slots + ms) Q (F0 m pc ls rest) q9)
    (kk : ∀ (u : S) (t : State) (H1 : Heap) (locs1 : List Loc), t.heap = H1 → s.vm.Alike t.vm → post u → B u t → H.size ≤ H1.size → (∀ q : Nat, q < H.size → ¬ A1 q → H1[q]? = H[q]?) → va_S A0 H0 H1 locs1 → W p l e R s m args below meth c H1 locs1 (cells + mc) (slots + ms) Q (F0 m (pc + 3) ls (rest))) : W p l e R s m args below meth c H locs cells slots Q (F0 m pc ls st0) := by
  intro T hT X
  rcases hr T hT X with ⟨v, st₀, t, T', L, h0, X', hL, e1, e2, ⟨⟨u, hv, hp, hb⟩, hF⟩, st⟩ | ⟨q, st₀, t, T', L, E, ce, h0, X', hL, e1, e2, ⟨u, hp, hb, hF⟩, hce, hcv, hcl, st⟩
  · cases hv
    obtain ⟨k1, k2, k3⟩ := vx_keep h0 e1 hS hA hf hL hF
    obtain ⟨t2, a1, b1⟩ := kk u t T'.heap (locs ++ L) e1.symm (by rw [← e2]; exact X'.warmed.alike) hp hb k1 k2 k3 T' rfl X'
    exact ⟨t2, st t2 a1, b1⟩
  · obtain ⟨k1, k2, k3⟩ := vx_keep h0 e1 hS hAX hf hL hF
    obtain ⟨t2, a1, b1⟩ := kx E ce q u t T'.heap (locs ++ L) e1.symm (by rw [← e2]; exact X'.warmed.alike) hp hb k1 k2 k3 (by rw [e1]; exact hce) hcv hcl T' rfl X'
    exact ⟨t2, st.trans a1, b1⟩
/-- caught by the row x of this method's table; the rows ahead don't take it -/
theorem vx_catch {own name : String} {E : String} {ce : Cell} {q : Addr} (hown : s.vm.findClass own = some m.cls) (pre : List ExceptionTableEntry) (x : ExceptionTableEntry) (suf : List ExceptionTableEntry) (hsplit : c.exceptionTable.toList = pre ++ x :: suf)
    (hpass : ∀ z ∈ pre, covers z pc = false ∨ (z.catchType ≠ 0 ∧ ∃ nm : String, (Cond.classLink own z.catchType nm).before args s = true ∧ va_Nc E nm s)) (hx : covers x pc = true) (h0 : x.catchType ≠ 0)
    (hlink : (Cond.classLink own x.catchType name).before args s = true) (hcast : (Cond.castable E name).before args s = true) (hcell : H[q]? = some ce) (hv : ce.vm = .none) (hcl : s.vm.findClass E = some ce.cls)
    (kk : W p l e R s m args below meth c H locs cells slots Q (F0 m x.handlerPc ls [.ref q])) : vx_W p l e R s m args below meth c H locs cells slots Q (F0 m pc ls rest) q := by
  intro T hT X
  have hpl : e.platform.magicAccessors = ({} : Platform).magicAccessors := by rw [X.admits.platform]
  obtain ⟨c3, c4, hc3, hc4, hasg⟩ := Cond.castable_spec hcast
  cases Option.some.inj (hc3.symm.trans hcl)
  obtain ⟨c5, hc5, hcl5⟩ := Cond.classLink_spec hown hlink e.platform hpl
  cases Option.some.inj (hc4.symm.trans hc5)
  obtain ⟨vm', X', st⟩ := X.thenCaughtThrough q (g := F0 m pc ls rest) rfl (Steps.refl _) (by rw [hT]; exact hcell) (by rw [hv]; rfl) (by obtain ⟨k9, h9, -⟩ := Vm.findClass_spec hcl; exact ⟨k9, h9⟩) pre x suf hsplit
    (fun z hz => by
      rcases hpass z hz with h | ⟨hz0, nm, hl1, hn1⟩
      · exact Or.inl h
      · obtain ⟨c6, hc6, hcl6⟩ := Cond.classLink_spec hown hl1 e.platform hpl
        obtain ⟨a8, b8, h1, h2, h3⟩ := hn1
        cases Option.some.inj (h1.symm.trans hcl)
        cases Option.some.inj (h2.symm.trans hc6)
        exact Or.inr ⟨hz0, _, hcl6, h3⟩) hx (Or.inr ⟨h0, c4, hcl5, hasg⟩)
  obtain ⟨t, a1, b1⟩ := kk (T.setVm vm') hT X'
  exact ⟨t, st.trans a1, b1⟩
end Rows
section Ends
variable {p : Program} {l : Launch} {e : Env} {R : Room} {s : State} {m : MethodId} {args : Array Value} {below : List Frame} {meth : Method} {c : Code} {H : Heap} {locs : List Loc} {cells slots : Nat} {Q : State → Prop}
variable {mc ms : Nat} {free : Addr → Prop} {A0 A1 : Nat → Prop} {H0 : Heap} {a : Array Value} {ls : Array Slot} {st0 rest : List Value}
variable {Qc : Array Value → State → Outcome → State → Prop} {XC : String → State → State → Prop}
/-- what a body that may throw owes at its end -/
def vx_MQ (below : List Frame) (Qc : Array Value → State → Outcome → State → Prop) (XC : String → State → State → Prop) (a : Array Value) (s : State) (mc ms : Nat) (free : Addr → Prop) : State → Prop := fun t =>
  ∃ o, t.status = .running ∧ Ended t below o ∧ vx_Q Qc XC mc ms free a s o t
theorem vx_ret {g : JFrame} {mc ms : Nat} (k : W p l e R s m args below meth c H locs cells slots (MQ below Qc args s mc ms free) g) : W p l e R s m args below meth c H locs cells slots (vx_MQ below Qc XC args s mc ms free) g := by
  intro T hT X
  obtain ⟨t, a1, o, b1, b2, b3, b4⟩ := k T hT X
  exact ⟨t, a1, o, b1, b2, Or.inl ⟨b3, b4⟩⟩
/-- not caught here: it goes on to the caller -/
theorem vx_widen {g : JFrame} {q : Addr} {k n : Nat} (h1 : cells ≤ k) (h2 : slots ≤ n) (kk : vx_W p l e R s m args below meth c H locs k n Q g q) : vx_W p l e R s m args below meth c H locs cells slots Q g q := fun T hT X => kk T hT (stand_widen X h1 h2)
theorem vx_out {pc : Nat} {E : String} {ce : Cell} {q : Addr} {mc ms : Nat} (hout : ∀ x ∈ c.exceptionTable.toList, covers x pc = false) (hlocks : meth.locks = false) (hcell : H[q]? = some ce) (hv : ce.vm = .none) (hcl : s.vm.findClass E = some ce.cls)
    (hx : ∀ t : State, t.heap = H → s.vm.Alike t.vm → XC E s t) (hf : ∀ z ∈ locs, free z.base) (hc : cells ≤ mc) (hs : slots ≤ ms) :
    vx_W p l e R s m args below meth c H locs cells slots (vx_MQ below Qc XC args s mc ms free) (F0 m pc ls rest) q := by
  intro T hT X
  obtain ⟨st1, hrun, hend, hW, hsm⟩ := X.leaveThrown q (g := F0 m pc ls rest) rfl rfl rfl hout hlocks
  have hcell9 : (T.setFrames (.throwing q :: below)).heap[q]? = some ce := by
    show T.heap[q]? = some ce
    rw [hT]; exact hcell
  exact ⟨_, st1, .threw q, hrun, hend, Or.inr ⟨q, rfl, E, ce, locs, hx _ hT hW.alike, hcell9, hv, hcl, hW, hsm.mono hc hs, hf⟩⟩
theorem vx_frame {U : State} {k n : Nat} (h : s.sameButNew ({ U with vm := s.vm } : State) locs k n) : s.heap.size ≤ U.heap.size ∧ ∀ q : Nat, q < s.heap.size → (∀ z ∈ locs, z.base ≠ q) → U.heap[q]? = s.heap[q]? := by
  obtain ⟨-, h2, -, -, -, h6⟩ := h
  refine ⟨h2, fun q hq hz => ?_⟩
  obtain ⟨c9, e1, e2, e3, e4⟩ := h6 q _ (Array.getElem?_eq_getElem hq)
  have hs : c9.slots = (s.heap[q]).slots := Array.ext_getElem? fun i => e4 i fun hm => hz _ hm rfl
  have h9 : c9 = s.heap[q] := by
    rw [hs] at e2
    exact e2
  have e5 : U.heap[q]? = some c9 := e1
  rw [e5, h9, Array.getElem?_eq_getElem hq]
/-- the words of a throw but the four that speak of the heap -/
def vx_no (w : Cond) : Bool := decide (w ≠ .isRef (.static Bundle.tN "UNASSIGNED_STACK" Bundle.steD)) && decide (w ≠ .isRef (.static Bundle.tN "SUPPRESSED_SENTINEL" Bundle.listD)) && decide (w ≠ .laysStatic Bundle.tN "UNASSIGNED_STACK" Bundle.steD) && decide (w ≠ .laysStatic Bundle.tN "SUPPRESSED_SENTINEL" Bundle.listD)
def vx_at0 (own : String) (ic : Nat) (X : String) (names : List String) : List Cond := (Bundle.ownAtoms0 own ic X names).filter vx_no
def vx_atS (own : String) (ic : Nat) (X : String) (names : List String) : List Cond := (Bundle.ownAtoms own ic X names).filter vx_no
/-- a word that the tables alone decide, or a good one -/
def vx_ot (w : Cond) : Bool := w.onTables || goodWord w
theorem vx_ot_at {args a' : Array Value} {s U : State} {w : Cond} (hW : s.WarmedH U.vm) (hvm : s.vm = U.vm) (hg : vx_ot w = true) (h : w.before args s = true) : w.before a' U = true := by
  simp only [vx_ot, Bool.or_eq_true] at hg
  rcases hg with hg | hg
  · exact va_tabs hg hvm h
  · exact word_at hW (good_of_word hg) h
/-- a list's words: the good ones out of the method's own list, the others by premises of their own -/
theorem vx_hat {args : Array Value} {s : State} {L B : List Cond} (h1 : ∀ w ∈ L.filter goodWord, w.before args s = true) (h2 : ∀ w ∈ L.filter (fun w => !goodWord w), w ∈ B) (h3 : ∀ w ∈ B, w.before args s = true) : ∀ w ∈ L, w.before args s = true := by
  intro w hw
  by_cases g : goodWord w = true
  · exact h1 w (List.mem_filter.mpr ⟨hw, g⟩)
  · refine h3 w (h2 w (List.mem_filter.mpr ⟨hw, ?_⟩))
    show (!goodWord w) = true
    cases hgw : goodWord w
    · rfl
    · exact absurd hgw g
theorem vx_c {args : Array Value} {s : State} {w : Cond} {B : List Cond} (h : w.before args s = true) (t : ∀ w ∈ B, w.before args s = true) : ∀ w' ∈ w :: B, w'.before args s = true := fun w' h' => (List.mem_cons.mp h').elim (fun e => by rw [e]; exact h) (t w')
theorem vx_n {args : Array Value} {s : State} : ∀ w ∈ ([] : List Cond), w.before args s = true := fun _ h => nomatch h
theorem vx_own {args : Array Value} {s : State} {L : List Cond} (h1 : ∀ w ∈ L.filter vx_no, w.before args s = true)
    (hU : (Cond.isRef (.static Bundle.tN "UNASSIGNED_STACK" Bundle.steD)).before args s = true) (hN : (Cond.isRef (.static Bundle.tN "SUPPRESSED_SENTINEL" Bundle.listD)).before args s = true)
    (lU : (Cond.laysStatic Bundle.tN "UNASSIGNED_STACK" Bundle.steD).before args s = true) (lN : (Cond.laysStatic Bundle.tN "SUPPRESSED_SENTINEL" Bundle.listD).before args s = true) : ∀ w ∈ L, w.before args s = true := by
  intro w hw
  by_cases e1 : w = .isRef (.static Bundle.tN "UNASSIGNED_STACK" Bundle.steD)
  · rw [e1]; exact hU
  · by_cases e2 : w = .isRef (.static Bundle.tN "SUPPRESSED_SENTINEL" Bundle.listD)
    · rw [e2]; exact hN
    · by_cases e3 : w = .laysStatic Bundle.tN "UNASSIGNED_STACK" Bundle.steD
      · rw [e3]; exact lU
      · by_cases e4 : w = .laysStatic Bundle.tN "SUPPRESSED_SENTINEL" Bundle.listD
        · rw [e4]; exact lN
        · exact h1 w (List.mem_filter.mpr ⟨hw, by unfold vx_no; rw [decide_eq_true e1, decide_eq_true e2, decide_eq_true e3, decide_eq_true e4]; rfl⟩)
/-- where a static field lies, its class's statics cell in H -/
def vx_L (C n d : String) (A : Nat → Prop) (U : State) (H : Heap) : Prop := ∃ (c : ClassId) (k : Class) (i : Nat) (f : Field) (a : Nat) (cell : Cell), U.vm.findClass C = some c ∧ U.fieldFound? C n d = some (c, k, i, f) ∧ f.isStatic = true ∧ k.statics = some a ∧ H[a]? = some cell ∧ cell.vm.isStatics = true ∧ cell.cls = c ∧ f.slot < cell.slots.size ∧ k.staticTypes[f.slot]? = some f.type ∧ ¬ A a
theorem vx_L.moved {C n d : String} {A : Nat → Prop} {u U : State} {H : Heap} (hvm : u.vm.Alike U.vm) (h : vx_L C n d A u H) : vx_L C n d A U H := by
  obtain ⟨c, k, i, f, a, cell, h1, h2, h3, h4, h5, h6, h7, h8, h9, h10⟩ := h
  obtain ⟨k', hi', he⟩ := State.fieldFound?_setVm hvm h2
  exact ⟨c, k', i, f, a, cell, by rw [hvm.findClass]; exact h1, hi', h3, by rw [he]; exact h4, h5, h6, h7, h8, by rw [he]; exact h9, h10⟩
theorem vx_L.kept {C n d : String} {A : Nat → Prop} {U : State} {H H1 : Heap} (h : vx_L C n d A U H) (hq : ∀ a : Nat, a < H.size → ¬ A a → H1[a]? = H[a]?) : vx_L C n d A U H1 := by
  obtain ⟨c, k, i, f, a, cell, h1, h2, h3, h4, h5, h6, h7, h8, h9, h10⟩ := h
  exact ⟨c, k, i, f, a, cell, h1, h2, h3, h4, by rw [hq a (Array.getElem?_eq_some_iff.mp h5).1 h10]; exact h5, h6, h7, h8, h9, h10⟩
theorem vx_L.narrow {C n d : String} {A B : Nat → Prop} {U : State} {H : Heap} (h : vx_L C n d A U H) (hAB : ∀ q, B q → A q) : vx_L C n d B U H := by
  obtain ⟨c, k, i, f, a, cell, h1, h2, h3, h4, h5, h6, h7, h8, h9, h10⟩ := h
  exact ⟨c, k, i, f, a, cell, h1, h2, h3, h4, h5, h6, h7, h8, h9, fun z => h10 (hAB _ z)⟩
theorem vx_L.word {C n d : String} {A : Nat → Prop} {s : State} {args : Array Value} (h : vx_L C n d A s s.heap) : (Cond.laysStatic C n d).before args s = true := by
  obtain ⟨c, k, i, f, a, cell, h1, h2, h3, h4, h5, h6, h7, h8, h9, -⟩ := h
  show (Cond.laysStatic C n d).holds args s none s [] = true
  exact Cond.laysStatic_of h1 h2 h3 h4 h5 h6 h7 h8 h9
/-- .. and what it holds: null or some reference -/
def vx_Zq (C n d : String) (A : Nat → Prop) (U : State) (H : Heap) : Prop := va_Zq C n d A U H ∧ vx_L C n d A U H
theorem vx_Zq.moved {C n d : String} {A : Nat → Prop} {u U : State} {H : Heap} (hvm : u.vm.Alike U.vm) (h : vx_Zq C n d A u H) : vx_Zq C n d A U H := ⟨va_Zq.moved hvm h.1, vx_L.moved hvm h.2⟩
theorem vx_Zq.kept {C n d : String} {A : Nat → Prop} {U : State} {H H1 : Heap} (h : vx_Zq C n d A U H) (hq : ∀ a : Nat, a < H.size → ¬ A a → H1[a]? = H[a]?) : vx_Zq C n d A U H1 := ⟨va_Zq.kept h.1 hq, vx_L.kept h.2 hq⟩
theorem vx_Zq.narrow {C n d : String} {A B : Nat → Prop} {U : State} {H : Heap} (h : vx_Zq C n d A U H) (hAB : ∀ q, B q → A q) : vx_Zq C n d B U H := ⟨va_Zq.narrow h.1 hAB, vx_L.narrow h.2 hAB⟩
theorem vx_Zqof {args : Array Value} {s : State} {C n d : String} {A : Nat → Prop} (hl : (Cond.laysStatic C n d).before args s = true) (hini : (Cond.initialized C).before args s = true) (h : (Cond.isRef (.static C n d)).before args s = true) (hA : ∀ a : Nat, a < s.heap.size → ¬ A a) : vx_Zq C n d A s s.heap := by
  refine ⟨va_Zqof hl hini h hA, ?_⟩
  obtain ⟨c, k, i, f, a, cell, h1, h2, h3, h4, h5, h6, h7, h8, h9⟩ := Cond.laysStatic_spec hl
  exact ⟨c, k, i, f, a, cell, h1, h2, h3, h4, h5, h6, h7, h8, h9, hA a (Array.getElem?_eq_some_iff.mp h5).1⟩
theorem vx_isRef {C n d : String} {v : Value} {A : Nat → Prop} {s : State} {args : Array Value} (h : va_Z C n d v A s s.heap) (hv : v.isRef = true) : (Cond.isRef (.static C n d)).before args s = true := by
  obtain ⟨cf, kf, fi, f, a, cell, h1, h2, h3, h4, h5, h6, h7, -⟩ := h
  have he : (Term.static C n d).eval args s none [] s = some v := by
    simp [Term.eval, State.fieldNamed?, h1, h2, h4, h5, h6, h7]
  simp only [Cond.before, Cond.holds, Cond.value, he]
  cases v <;> simp_all [Value.isRef]
theorem vx_isRefq {C n d : String} {A : Nat → Prop} {s : State} {args : Array Value} (h : va_Zq C n d A s s.heap) : (Cond.isRef (.static C n d)).before args s = true := by
  rcases h with h | ⟨t, h⟩
  · exact vx_isRef h rfl
  · exact vx_isRef h rfl
/-- the same frame, seen from here: as if the method were called anew in this heap -/
theorem vx_rebase {T : State} (X : Stand p l e R s m args below meth c T locs cells slots) {R' : Room} (hf : R'.frames ≤ R.frames) (hl : R'.locals ≤ R.locals) (hc : cells + R'.cells ≤ R.cells) (hs : slots + R'.slots ≤ R.slots) :
    Stand p l e R' ((T.setVm s.vm).setFrames (.invoking m args :: below)) m args below meth c T [] 0 0 := by
  have htop : (T.setVm s.vm).topJava?.isSome := X.here.top
  have hF : ((T.setVm s.vm).setFrames (.invoking m args :: below)).frames = .invoking m args :: below := State.frames_setFrames _ (State.cur_lt_of_top htop)
  obtain ⟨g₀, hg0⟩ := Option.isSome_iff_exists.mp htop
  obtain ⟨r, hr⟩ := State.topJava?_eq_some.mp hg0
  have hl9 : e.platform.stackLimits (T.setVm s.vm).me = e.platform.stackLimits s.me := X.limits
  have hb9 : (T.setVm s.vm).me.stackBytes = s.me.stackBytes := X.bytes
  refine ⟨X.admits, X.cas, X.clock, hF, ?_, X.hears, X.method, X.code, X.here, X.tail, X.warmed, ?_, ?_, ?_⟩
  · have h := X.room
    have hU : ((T.setVm s.vm).setFrames (.invoking m args :: below)).localsInUse = s.localsInUse := by
      rw [State.localsInUse_invoking hF (meth := meth) (c := c) X.method X.code, State.localsInUse_invoking X.frames X.method X.code]
    simp only [State.hasRoom, Bool.and_eq_true, decide_eq_true_eq] at h ⊢
    obtain ⟨⟨⟨⟨h1, h2, h3, h4, h5, h6⟩, h7⟩, h8⟩, h9⟩ := h
    rw [X.frames, List.length_cons] at h2 h3
    have q1 := X.heapSize
    have q2 := X.used
    simp only [hF, hU, List.length_cons, State.stackLimits_setFrames, State.stackBytes_setFrames, hl9, hb9]
    refine ⟨⟨⟨⟨by omega, by omega, by omega, by omega, by omega, h6⟩, ?_⟩, ?_⟩, X.book⟩
    · show T.heap.size + R'.cells ≤ e.platform.maxCells
      omega
    · show T.slotsUsed + R'.slots ≤ e.platform.maxSlots
      omega
  · rw [State.stackLimits_setFrames]; rfl
  · rw [State.stackBytes_setFrames]; rfl
  · refine ⟨?_, Nat.le_refl _, Nat.le_refl _, ?_, ?_, fun a c9 h9 => ⟨c9, h9, rfl, rfl, fun _ _ => rfl⟩⟩
    · obtain ⟨t, ht, -⟩ := State.frames_cons hr
      show T.setVm s.vm = { ((T.setVm s.vm).setFrames (.invoking m args :: below)).setFrames (T.setVm s.vm).frames with heap := T.heap, slotsUsed := T.slotsUsed }
      rw [State.setFrames_setFrames, State.setFrames_self ht]
      rfl
    · show T.slotsUsed = T.slotsUsed + ((T.heap.toList.drop T.heap.size).map (·.slots.size)).sum
      rw [List.drop_eq_nil_of_le (Nat.le_of_eq Array.length_toList)]
      rfl
    · show ((T.heap.toList.drop T.heap.size).map (·.slots.size)).sum ≤ 0
      rw [List.drop_eq_nil_of_le (Nat.le_of_eq Array.length_toList)]
      exact Nat.le_refl _
/-- 'throw new E()': new; dup; invokespecial; athrow -/
theorem vx_throw0 {cc : ByteArray} {pc : Nat} (hexec : p.tables.exec = Jvm.exec) (hb : c.code = cc) (hl : l.stackTraces = false) {own cls : String} {names : List String} {ik ic mc ms : Nat} {A : Nat → Prop}
    (hown : s.vm.findClass own = some m.cls) (hcls : Bundle.fit cls = true) (hnames : ∀ n ∈ names, Bundle.fit n = true)
    (hk : (Cond.classLink own ik cls).before args s = true) (hini : (Cond.initialized cls).before args s = true) (hat : ∀ w ∈ vx_at0 own ic cls names, w.before args s = true)
    (hgood : ∀ w ∈ Cond.classLink own ik cls :: Cond.initialized cls :: vx_at0 own ic cls names, vx_ot w = true)
    (hU : vx_Zq Bundle.tN "UNASSIGNED_STACK" Bundle.steD A s s.heap) (hN : vx_Zq Bundle.tN "SUPPRESSED_SENTINEL" Bundle.listD A s s.heap) (hS : va_S A s.heap H locs) (hsize : ls.size = c.maxLocals)
    (d0 : decode cc pc = .ok (.new ik, 3)) (d3 : decode cc (pc + 3) = .ok (.dup, 1)) (d4 : decode cc (pc + 4) = .ok (.invokespecial ic, 3)) (d7 : decode cc (pc + 7) = .ok (.athrow, 1))
    (hout : ∀ x ∈ c.exceptionTable.toList, covers x (pc + 7) = false)
    (hRframes : names.length + 3 < R.frames) (hRlocals : (rest.map fun v => v.category).sum + (13 * (names.length + 1) + 42) ≤ R.locals) (hRcells : cells + 1 ≤ R.cells) (hRslots : slots + 6 ≤ R.slots) (hlocks : meth.locks = false)
    (hx : ∀ t : State, s.vm.Alike t.vm → H.size ≤ t.heap.size → (∀ q : Nat, q < H.size → t.heap[q]? = H[q]?) → XC cls s t)
    (hf : ∀ z ∈ locs, free z.base) (hc : cells + 1 ≤ mc) (hs : slots + 6 ≤ ms) :
    W p l e R s m args below meth c H locs cells slots (vx_MQ below Qc XC args s mc ms free) (F0 m pc ls rest) := by
  intro T hT X
  have htr : e.platform.stackTraces = false := (show e.platform.stackTraces = l.stackTraces by rw [X.admits.platform]).trans hl
  have Y := vx_rebase X (R' := { frames := R.frames, locals := R.locals, cells := 1, slots := 6 }) (Nat.le_refl _) (Nat.le_refl _) hRcells hRslots
  obtain ⟨s', hA⟩ : ∃ z, z = (T.setVm s.vm).setFrames (.invoking m args :: below) := ⟨_, rfl⟩
  rw [← hA] at Y
  have hvm : s'.vm = s.vm := by rw [hA]; rfl
  have hhp : s'.heap = H := by rw [hA]; exact hT
  have hW0 : s.WarmedH s'.vm := by rw [hvm]; exact State.WarmedH.refl s
  have hat' : ∀ w ∈ vx_at0 own ic cls names, w.before args s' = true := fun w hw => vx_ot_at hW0 hvm.symm (hgood w (List.mem_cons_of_mem _ (List.mem_cons_of_mem _ hw))) (hat w hw)
  have hk' : (Cond.classLink own ik cls).before args s' = true := vx_ot_at hW0 hvm.symm (hgood _ List.mem_cons_self) hk
  have hini' : (Cond.initialized cls).before args s' = true := vx_ot_at hW0 hvm.symm (hgood _ (List.mem_cons_of_mem _ List.mem_cons_self)) hini
  have hU' : vx_Zq Bundle.tN "UNASSIGNED_STACK" Bundle.steD A s' s'.heap := by rw [hhp]; exact vx_Zq.moved hW0.alike (hU.kept hS.2.1)
  have hN' : vx_Zq Bundle.tN "SUPPRESSED_SENTINEL" Bundle.listD A s' s'.heap := by rw [hhp]; exact vx_Zq.moved hW0.alike (hN.kept hS.2.1)
  have h : ∀ w ∈ Bundle.ownAtoms0 own ic cls names, w.before args s' = true := vx_own hat' (vx_isRefq hU'.1) (vx_isRefq hN'.1) hU'.2.word hN'.2.word
  have hown' : s'.vm.findClass own = some m.cls := by rw [hvm]; exact hown
  have hins : (Cond.instantiable cls 6).before args s' = true := h _ (by simp [Bundle.ownAtoms0])
  obtain ⟨vm₁, cX, kX, hfX, hkX, -, -, X₁, st1⟩ := Y.newCold hexec (own := own) (C := cls) (index := ik) (n := 6) hown' hk' hins hini'
    (g := F0 m pc ls rest) rfl (by rw [hb]; exact d0) (Nat.le_refl _) (Nat.le_refl _)
  generalize hT1 : (T.setVm vm₁).pushCell { cls := cX, slots := kX.instanceTypes.map defaultValue, vm := .none } = T1 at X₁ st1
  have hcat : (Value.ref T.heap.size).category = 1 := rfl
  have hcellA : T1.heap[T.heap.size]? = some (freshCell cX kX) := by rw [← hT1]; exact State.heap_pushCell_size _ _
  have d3' : decode c.code (pc + 3) = .ok (.dup, 1) := by rw [hb]; exact d3
  obtain ⟨U, hsteps, hrun, hend, hW, hsame, ce, hce, hO⟩ := X₁.ctorThrow0 hexec htr (own := own) (cls := cls) (names := names) (ic := ic) hown' hcls hnames h (fun x hx => nomatch hx) hfX hkX hcellA (by rw [hhp, hT]; exact Nat.le_refl _)
    (g := { method := m, pc := pc + 4, locals := ls, stack := .ref T.heap.size :: .ref T.heap.size :: rest, locked := none }) rfl hsize rfl rfl (rest := rest) rfl
    (by rw [hb]; exact d4) (by rw [hb]; exact d7) hout hRframes (by simp only [List.map_cons, List.sum_cons, hcat]; omega) hlocks
  obtain ⟨f1, f2⟩ := vx_frame hsame
  rw [hhp] at f1 f2
  have hWs : s.WarmedH U.vm := State.WarmedH.trans hW0 hW
  have hcl : s.vm.findClass cls = some ce.cls := by
    have h9 := hO.cls
    rw [hvm] at h9
    exact h9
  have hall : s.sameButNew ({ U with vm := s.vm } : State) locs mc ms := by
    subst hA
    obtain ⟨e1, e2⟩ := hsame
    rw [State.setFrames_setFrames] at e1
    have h2 : (T.setVm s.vm).sameButNew ({ U with vm := s.vm } : State) [] (0 + 1) (0 + 6) := ⟨e1, e2⟩
    have h3 := X.same.trans h2
    rw [List.append_nil] at h3
    exact h3.mono hc hs
  refine ⟨U, ?_, .threw T.heap.size, hrun, hend, Or.inr ⟨T.heap.size, rfl, cls, ce, locs, hx U hWs.alike f1 (fun q hq => f2 q hq (fun z hz => nomatch hz)), hce, hO.vm, hcl, hWs, hall, hf⟩⟩
  refine st1 _ ?_
  show Steps p.tables e below (T1.setTop { method := m, pc := pc + 3, locals := ls, stack := .ref T.heap.size :: rest, locked := none }) _
  jvm_step X₁.here [X₁.here.top, hexec, d3', Value.category]
  exact hsteps
/-- 'throw new E("text")': new; dup; ldc; invokespecial; athrow -/
theorem vx_throwS {cc : ByteArray} {pc : Nat} (hexec : p.tables.exec = Jvm.exec) (hb : c.code = cc) (hl : l.stackTraces = false) {own cls text : String} {names : List String} {ik is ic mc ms sa : Nat} {A : Nat → Prop}
    (hown : s.vm.findClass own = some m.cls) (hcls : Bundle.fit cls = true) (hnames : ∀ n ∈ names, Bundle.fit n = true)
    (hk : (Cond.classLink own ik cls).before args s = true) (hini : (Cond.initialized cls).before args s = true) (hstr : vk_R own is text sa s) (hat : ∀ w ∈ vx_atS own ic cls names, w.before args s = true)
    (hgood : ∀ w ∈ Cond.classLink own ik cls :: Cond.initialized cls :: vx_atS own ic cls names, vx_ot w = true)
    (hU : vx_Zq Bundle.tN "UNASSIGNED_STACK" Bundle.steD A s s.heap) (hN : vx_Zq Bundle.tN "SUPPRESSED_SENTINEL" Bundle.listD A s s.heap) (hS : va_S A s.heap H locs) (hsize : ls.size = c.maxLocals)
    (d0 : decode cc pc = .ok (.new ik, 3)) (d3 : decode cc (pc + 3) = .ok (.dup, 1)) (d4 : decode cc (pc + 4) = .ok (.ldc is, 2)) (d6 : decode cc (pc + 6) = .ok (.invokespecial ic, 3)) (d9 : decode cc (pc + 9) = .ok (.athrow, 1))
    (hout : ∀ x ∈ c.exceptionTable.toList, covers x (pc + 9) = false)
    (hRframes : names.length + 3 < R.frames) (hRlocals : (rest.map fun v => v.category).sum + (13 * (names.length + 1) + 43) ≤ R.locals) (hRcells : cells + 1 ≤ R.cells) (hRslots : slots + 6 ≤ R.slots) (hlocks : meth.locks = false)
    (hx : ∀ t : State, s.vm.Alike t.vm → H.size ≤ t.heap.size → (∀ q : Nat, q < H.size → t.heap[q]? = H[q]?) → XC cls s t)
    (hf : ∀ z ∈ locs, free z.base) (hc : cells + 1 ≤ mc) (hs : slots + 6 ≤ ms) :
    W p l e R s m args below meth c H locs cells slots (vx_MQ below Qc XC args s mc ms free) (F0 m pc ls rest) := by
  intro T hT X
  have htr : e.platform.stackTraces = false := (show e.platform.stackTraces = l.stackTraces by rw [X.admits.platform]).trans hl
  have Y := vx_rebase X (R' := { frames := R.frames, locals := R.locals, cells := 1, slots := 6 }) (Nat.le_refl _) (Nat.le_refl _) hRcells hRslots
  obtain ⟨s', hA⟩ : ∃ z, z = (T.setVm s.vm).setFrames (.invoking m args :: below) := ⟨_, rfl⟩
  rw [← hA] at Y
  have hvm : s'.vm = s.vm := by rw [hA]; rfl
  have hhp : s'.heap = H := by rw [hA]; exact hT
  have hW0 : s.WarmedH s'.vm := by rw [hvm]; exact State.WarmedH.refl s
  have hat' : ∀ w ∈ vx_atS own ic cls names, w.before args s' = true := fun w hw => vx_ot_at hW0 hvm.symm (hgood w (List.mem_cons_of_mem _ (List.mem_cons_of_mem _ hw))) (hat w hw)
  have hk' : (Cond.classLink own ik cls).before args s' = true := vx_ot_at hW0 hvm.symm (hgood _ List.mem_cons_self) hk
  have hini' : (Cond.initialized cls).before args s' = true := vx_ot_at hW0 hvm.symm (hgood _ (List.mem_cons_of_mem _ List.mem_cons_self)) hini
  have hU' : vx_Zq Bundle.tN "UNASSIGNED_STACK" Bundle.steD A s' s'.heap := by rw [hhp]; exact vx_Zq.moved hW0.alike (hU.kept hS.2.1)
  have hN' : vx_Zq Bundle.tN "SUPPRESSED_SENTINEL" Bundle.listD A s' s'.heap := by rw [hhp]; exact vx_Zq.moved hW0.alike (hN.kept hS.2.1)
  have h : ∀ w ∈ Bundle.ownAtoms own ic cls names, w.before args s' = true := vx_own hat' (vx_isRefq hU'.1) (vx_isRefq hN'.1) hU'.2.word hN'.2.word
  have hown' : s'.vm.findClass own = some m.cls := by rw [hvm]; exact hown
  have hins : (Cond.instantiable cls 6).before args s' = true := h _ (by simp [Bundle.ownAtoms])
  obtain ⟨vm₁, cX, kX, hfX, hkX, -, -, X₁, st1⟩ := Y.newCold hexec (own := own) (C := cls) (index := ik) (n := 6) hown' hk' hins hini'
    (g := F0 m pc ls rest) rfl (by rw [hb]; exact d0) (Nat.le_refl _) (Nat.le_refl _)
  generalize hT1 : (T.setVm vm₁).pushCell { cls := cX, slots := kX.instanceTypes.map defaultValue, vm := .none } = T1 at X₁ st1
  have hcat : (Value.ref T.heap.size).category = 1 := rfl
  have hcellA : T1.heap[T.heap.size]? = some (freshCell cX kX) := by rw [← hT1]; exact State.heap_pushCell_size _ _
  have d3' : decode c.code (pc + 3) = .ok (.dup, 1) := by rw [hb]; exact d3
  have d4' : decode c.code (pc + 4) = .ok (.ldc is, 2) := by rw [hb]; exact d4
  have hstr' : vk_R own is text sa s' := vk_R.warm hW0 hstr
  obtain ⟨U, hsteps, hrun, hend, hW, hsame, ce, hce, hO⟩ := X₁.ctorThrowS hexec htr (own := own) (cls := cls) (names := names) (ic := ic) hown' hcls hnames h (fun x hx => nomatch hx) hfX hkX hcellA (by rw [hhp, hT]; exact Nat.le_refl _) (msg := .ref sa) rfl
    (g := { method := m, pc := pc + 6, locals := ls, stack := .ref sa :: .ref T.heap.size :: .ref T.heap.size :: rest, locked := none }) rfl hsize rfl rfl (rest := rest) rfl
    (by rw [hb]; exact d6) (by rw [hb]; exact d9) hout hRframes (by simp only [List.map_cons, List.sum_cons, hcat]; omega) hlocks
  obtain ⟨f1, f2⟩ := vx_frame hsame
  rw [hhp] at f1 f2
  have hWs : s.WarmedH U.vm := State.WarmedH.trans hW0 hW
  have hcl : s.vm.findClass cls = some ce.cls := by
    have h9 := hO.cls
    rw [hvm] at h9
    exact h9
  have hall : s.sameButNew ({ U with vm := s.vm } : State) locs mc ms := by
    subst hA
    obtain ⟨e1, e2⟩ := hsame
    rw [State.setFrames_setFrames] at e1
    have h2 : (T.setVm s.vm).sameButNew ({ U with vm := s.vm } : State) [] (0 + 1) (0 + 6) := ⟨e1, e2⟩
    have h3 := X.same.trans h2
    rw [List.append_nil] at h3
    exact h3.mono hc hs
  refine ⟨U, ?_, .threw T.heap.size, hrun, hend, Or.inr ⟨T.heap.size, rfl, cls, ce, locs, hx U hWs.alike f1 (fun q hq => f2 q hq (fun z hz => nomatch hz)), hce, hO.vm, hcl, hWs, hall, hf⟩⟩
  refine st1 _ ?_
  show Steps p.tables e below (T1.setTop { method := m, pc := pc + 3, locals := ls, stack := .ref T.heap.size :: rest, locked := none }) _
  jvm_step X₁.here [X₁.here.top, hexec, d3', Value.category]
  exact X₁.ldcString hexec (own := own) (text := text) (index := is) (a := sa) hown' hstr'.1 hstr'.2
    (g := { method := m, pc := pc + 4, locals := ls, stack := .ref T.heap.size :: .ref T.heap.size :: rest, locked := none }) rfl d4' _ hsteps
/-- 'throw new E("text")', the text by a wide index -/
theorem vx_throwSW {cc : ByteArray} {pc : Nat} (hexec : p.tables.exec = Jvm.exec) (hb : c.code = cc) (hl : l.stackTraces = false) {own cls text : String} {names : List String} {ik is ic mc ms sa : Nat} {A : Nat → Prop}
    (hown : s.vm.findClass own = some m.cls) (hcls : Bundle.fit cls = true) (hnames : ∀ n ∈ names, Bundle.fit n = true)
    (hk : (Cond.classLink own ik cls).before args s = true) (hini : (Cond.initialized cls).before args s = true) (hstr : vk_R own is text sa s) (hat : ∀ w ∈ vx_atS own ic cls names, w.before args s = true)
    (hgood : ∀ w ∈ Cond.classLink own ik cls :: Cond.initialized cls :: vx_atS own ic cls names, vx_ot w = true)
    (hU : vx_Zq Bundle.tN "UNASSIGNED_STACK" Bundle.steD A s s.heap) (hN : vx_Zq Bundle.tN "SUPPRESSED_SENTINEL" Bundle.listD A s s.heap) (hS : va_S A s.heap H locs) (hsize : ls.size = c.maxLocals)
    (d0 : decode cc pc = .ok (.new ik, 3)) (d3 : decode cc (pc + 3) = .ok (.dup, 1)) (d4 : decode cc (pc + 4) = .ok (.ldc_w is, 3)) (d7 : decode cc (pc + 7) = .ok (.invokespecial ic, 3)) (d10 : decode cc (pc + 10) = .ok (.athrow, 1))
    (hout : ∀ x ∈ c.exceptionTable.toList, covers x (pc + 10) = false)
    (hRframes : names.length + 3 < R.frames) (hRlocals : (rest.map fun v => v.category).sum + (13 * (names.length + 1) + 43) ≤ R.locals) (hRcells : cells + 1 ≤ R.cells) (hRslots : slots + 6 ≤ R.slots) (hlocks : meth.locks = false)
    (hx : ∀ t : State, s.vm.Alike t.vm → H.size ≤ t.heap.size → (∀ q : Nat, q < H.size → t.heap[q]? = H[q]?) → XC cls s t)
    (hf : ∀ z ∈ locs, free z.base) (hc : cells + 1 ≤ mc) (hs : slots + 6 ≤ ms) :
    W p l e R s m args below meth c H locs cells slots (vx_MQ below Qc XC args s mc ms free) (F0 m pc ls rest) := by
  intro T hT X
  have htr : e.platform.stackTraces = false := (show e.platform.stackTraces = l.stackTraces by rw [X.admits.platform]).trans hl
  have Y := vx_rebase X (R' := { frames := R.frames, locals := R.locals, cells := 1, slots := 6 }) (Nat.le_refl _) (Nat.le_refl _) hRcells hRslots
  obtain ⟨s', hA⟩ : ∃ z, z = (T.setVm s.vm).setFrames (.invoking m args :: below) := ⟨_, rfl⟩
  rw [← hA] at Y
  have hvm : s'.vm = s.vm := by rw [hA]; rfl
  have hhp : s'.heap = H := by rw [hA]; exact hT
  have hW0 : s.WarmedH s'.vm := by rw [hvm]; exact State.WarmedH.refl s
  have hat' : ∀ w ∈ vx_atS own ic cls names, w.before args s' = true := fun w hw => vx_ot_at hW0 hvm.symm (hgood w (List.mem_cons_of_mem _ (List.mem_cons_of_mem _ hw))) (hat w hw)
  have hk' : (Cond.classLink own ik cls).before args s' = true := vx_ot_at hW0 hvm.symm (hgood _ List.mem_cons_self) hk
  have hini' : (Cond.initialized cls).before args s' = true := vx_ot_at hW0 hvm.symm (hgood _ (List.mem_cons_of_mem _ List.mem_cons_self)) hini
  have hU' : vx_Zq Bundle.tN "UNASSIGNED_STACK" Bundle.steD A s' s'.heap := by rw [hhp]; exact vx_Zq.moved hW0.alike (hU.kept hS.2.1)
  have hN' : vx_Zq Bundle.tN "SUPPRESSED_SENTINEL" Bundle.listD A s' s'.heap := by rw [hhp]; exact vx_Zq.moved hW0.alike (hN.kept hS.2.1)
  have h : ∀ w ∈ Bundle.ownAtoms own ic cls names, w.before args s' = true := vx_own hat' (vx_isRefq hU'.1) (vx_isRefq hN'.1) hU'.2.word hN'.2.word
  have hown' : s'.vm.findClass own = some m.cls := by rw [hvm]; exact hown
  have hins : (Cond.instantiable cls 6).before args s' = true := h _ (by simp [Bundle.ownAtoms])
  obtain ⟨vm₁, cX, kX, hfX, hkX, -, -, X₁, st1⟩ := Y.newCold hexec (own := own) (C := cls) (index := ik) (n := 6) hown' hk' hins hini'
    (g := F0 m pc ls rest) rfl (by rw [hb]; exact d0) (Nat.le_refl _) (Nat.le_refl _)
  generalize hT1 : (T.setVm vm₁).pushCell { cls := cX, slots := kX.instanceTypes.map defaultValue, vm := .none } = T1 at X₁ st1
  have hcat : (Value.ref T.heap.size).category = 1 := rfl
  have hcellA : T1.heap[T.heap.size]? = some (freshCell cX kX) := by rw [← hT1]; exact State.heap_pushCell_size _ _
  have d3' : decode c.code (pc + 3) = .ok (.dup, 1) := by rw [hb]; exact d3
  have d4' : decode c.code (pc + 4) = .ok (.ldc_w is, 3) := by rw [hb]; exact d4
  have hstr' : vk_R own is text sa s' := vk_R.warm hW0 hstr
  obtain ⟨U, hsteps, hrun, hend, hW, hsame, ce, hce, hO⟩ := X₁.ctorThrowS hexec htr (own := own) (cls := cls) (names := names) (ic := ic) hown' hcls hnames h (fun x hx => nomatch hx) hfX hkX hcellA (by rw [hhp, hT]; exact Nat.le_refl _) (msg := .ref sa) rfl
    (g := { method := m, pc := pc + 7, locals := ls, stack := .ref sa :: .ref T.heap.size :: .ref T.heap.size :: rest, locked := none }) rfl hsize rfl rfl (rest := rest) rfl
    (by rw [hb]; exact d7) (by rw [hb]; exact d10) hout hRframes (by simp only [List.map_cons, List.sum_cons, hcat]; omega) hlocks
  obtain ⟨f1, f2⟩ := vx_frame hsame
  rw [hhp] at f1 f2
  have hWs : s.WarmedH U.vm := State.WarmedH.trans hW0 hW
  have hcl : s.vm.findClass cls = some ce.cls := by
    have h9 := hO.cls
    rw [hvm] at h9
    exact h9
  have hall : s.sameButNew ({ U with vm := s.vm } : State) locs mc ms := by
    subst hA
    obtain ⟨e1, e2⟩ := hsame
    rw [State.setFrames_setFrames] at e1
    have h2 : (T.setVm s.vm).sameButNew ({ U with vm := s.vm } : State) [] (0 + 1) (0 + 6) := ⟨e1, e2⟩
    have h3 := X.same.trans h2
    rw [List.append_nil] at h3
    exact h3.mono hc hs
  refine ⟨U, ?_, .threw T.heap.size, hrun, hend, Or.inr ⟨T.heap.size, rfl, cls, ce, locs, hx U hWs.alike f1 (fun q hq => f2 q hq (fun z hz => nomatch hz)), hce, hO.vm, hcl, hWs, hall, hf⟩⟩
  refine st1 _ ?_
  show Steps p.tables e below (T1.setTop { method := m, pc := pc + 3, locals := ls, stack := .ref T.heap.size :: rest, locked := none }) _
  jvm_step X₁.here [X₁.here.top, hexec, d3', Value.category]
  exact X₁.ldcStringW hexec (own := own) (text := text) (index := is) (a := sa) hown' hstr'.1 hstr'.2
    (g := { method := m, pc := pc + 4, locals := ls, stack := .ref T.heap.size :: .ref T.heap.size :: rest, locked := none }) rfl d4' _ hsteps
end Ends
section Bodies
variable {l : Launch}
theorem vx_ofW {y : MethodName} {ws ws' : List Cond} {rm : Room} {Pc : Array Value → State → Prop} {Qc : Array Value → State → Outcome → State → Prop} {XC : String → State → State → Prop} {mc ms : Nat} {free : Addr → Prop} {cc : ByteArray} {maxL : Nat} {ret : Option FieldType}
    (hy : plainName y.cls = true) (hw : ws = Cond.code y cc maxL ret :: ws')
    (body : ∀ p e s m args below meth c s₁, BodyLoose p l y (headSpec ws rm) cc maxL ret e s m args below meth c s₁ → c.maxLocals = maxL → (∀ x ∈ c.exceptionTable.toList, False) → Pc args s →
      W p l e (headSpec ws rm).room s m args below meth c s.heap [] 0 0 (vx_MQ below Qc XC args s mc ms free) (entryFrame m args maxL)) : vx_Met l y ws rm Pc Qc XC mc ms free := by
  refine MetFree.of_bodyS (code := cc) (maxLocals := maxL) (ret := ret) hy ?_ ?_
  · intro args s m h hn
    obtain ⟨meth, c, h1, h2, h3, h4, h5, h6, -, -⟩ := Cond.code_spec hn (atoms_spec (ws := ws) h _ (by rw [hw]; exact List.mem_cons_self))
    exact ⟨meth, c, h1, h2, h3, h4, h5, h6⟩
  · intro p e s m args below meth c s₁ B hml hP _
    have hh0 : s₁.heap = s.heap := by rw [B.state]; rfl
    have ht : ∀ x ∈ c.exceptionTable.toList, False := by
      obtain ⟨meth9, c9, h1, h2, -, -, -, -, h7, -⟩ := Cond.code_spec B.named (atoms_spec (ws := ws) B.pre _ (by rw [hw]; exact List.mem_cons_self))
      cases Option.some.inj (h1.symm.trans B.method)
      cases Option.some.inj (h2.symm.trans (Stand.of_body B).code)
      intro x hx
      rw [Array.isEmpty_iff.mp h7] at hx
      cases hx
    obtain ⟨t, a1, o, b1, b2, b3⟩ := body p e s m args below meth c s₁ B hml ht hP s₁ hh0 (Stand.of_body B)
    exact ⟨t, o, a1, b1, b2, b3⟩
/-- the table of a body with handlers -/
theorem vx_table {p : Program} {x y : MethodName} {S : Spec} {cc bytes : ByteArray} {maxL maxL' : Nat} {ret ret' : Option FieldType} {e : Env} {s s₁ : State} {m : MethodId} {args : Array Value} {below : List Frame} {meth : Method} {c : Code} {hh : List (Nat × Nat × Nat × Nat)}
    (B : BodyLoose p l y S cc maxL ret e s m args below meth c s₁) (h : (Cond.codeWith y bytes maxL' ret' hh).before args s = true) : c.exceptionTable.toList = tableOf hh := by
  obtain ⟨m9, meth9, c9, hn9, h1, h2, -, -, h6, -⟩ := Cond.codeWith_spec h
  cases Option.some.inj (hn9.symm.trans B.named)
  cases Option.some.inj (h1.symm.trans B.method)
  cases Option.some.inj (h2.symm.trans (Stand.of_body B).code)
  rw [← h6, table_eq]
end Bodies
end VXA
/-! ===== END ===== -/
/-! ===== BEGIN a static call of a method with an exception table ===== -/
section VXS
variable {p : Program} {l : Launch} {e : Env} {R : Room} {s : State} {m : MethodId} {args : Array Value} {below : List Frame} {meth : Method} {c : Code} {T : State} {H : Heap} {locs : List Loc} {cells slots : Nat}
abbrev vx_CSW (R : Room) (s : State) (args : Array Value) (own : String) (index : Nat) (y : MethodName) (bytes : ByteArray) (maxL : Nat) (ret : Option FieldType) (hh : List (Nat × Nat × Nat × Nat)) (ws : List Cond) (rm : Room) (mc ms n : Nat) : Prop :=
  (rm.cells = mc ∧ rm.slots = ms ∧ rm.frames + 1 ≤ R.frames ∧ 8 + (maxL + 11) + rm.locals ≤ R.locals ∧ (∀ w ∈ ws, ∀ (a' : Array Value) (U : State), s.WarmedH U.vm → w.before a' U = true) ∧ Cond.codeWith y bytes maxL ret hh ∈ ws) ∧
  (Cond.codeWith y bytes maxL ret hh).before args s = true ∧ (Cond.initialized y.cls).before args s = true ∧ (y.cls ≠ "java/lang/invoke/MethodHandle" ∧ y.cls ≠ "java/lang/invoke/VarHandle") ∧
  (∀ sig, parseMethodDescriptor y.desc = some sig → n = sig.parameters.length) ∧ (Cond.methodLink own index y).before args s = true ∧ (Cond.static y).before args s = true
theorem vx_cwSW {own : String} {index maxL mc ms : Nat} {y : MethodName} {bytes : ByteArray} {ret : Option FieldType} {hh : List (Nat × Nat × Nat × Nat)} {Ts ws ws' : List Cond} {rm : Room} (n : Nat) (ht : ∀ w ∈ Ts, w.before args s = true) (hT : GoodIn Ts (va_wsS own index y ws)) (hw : ws = Cond.codeWith y bytes maxL ret hh :: ws') (hrc : rm.cells = mc) (hrs : rm.slots = ms)
    (hd : y.cls ≠ "java/lang/invoke/MethodHandle" ∧ y.cls ≠ "java/lang/invoke/VarHandle" ∧ (parseMethodDescriptor y.desc).map (fun d => d.parameters.length) = some n) (hR : rm.frames + 1 ≤ R.frames ∧ 8 + (maxL + 11) + rm.locals ≤ R.locals) :
    vx_CSW R s args own index y bytes maxL ret hh ws rm mc ms n := by
  have ok : ∀ w ∈ va_wsS own index y ws, w.before args s = true := fun w h => ht w (hT w h).1
  have hG : GoodIn Ts ws := fun w h => hT w (by unfold va_wsS; exact List.mem_append_right _ h)
  have hc : Cond.codeWith y bytes maxL ret hh ∈ ws := by rw [hw]; exact List.mem_cons_self
  refine ⟨⟨hrc, hrs, hR.1, hR.2, pay_in ht hG, hc⟩, ht _ (hG _ hc).1, ok _ (by simp [va_wsS]), ⟨hd.1, hd.2.1⟩, fun sig h => ?_, ok _ (by simp [va_wsS]), ok _ (by simp [va_wsS])⟩
  have h2 := hd.2.2
  rw [h] at h2
  exact (Option.some.inj h2).symm
theorem vx_callSW (X : Stand p l e R s m args below meth c T locs cells slots) (hexec : p.tables.exec = Jvm.exec) {own : String} {index : Nat} {y : MethodName} {bytes : ByteArray} {maxL : Nat} {ret : Option FieldType} {hh : List (Nat × Nat × Nat × Nat)}
    (hown : s.vm.findClass own = some m.cls) (hlink : (Cond.methodLink own index y).before args s = true) (hstat : (Cond.static y).before args s = true) (hinit : (Cond.initialized y.cls).before args s = true)
    (hcode : (Cond.codeWith y bytes maxL ret hh).before args s = true) (hy : y.cls ≠ "java/lang/invoke/MethodHandle" ∧ y.cls ≠ "java/lang/invoke/VarHandle")
    {W9 : Nat} {Pre : Pt → Array Value → Prop} {Post : Pt → Array Value → Option Value → Pt → Prop} (hK : Back l R p e below s args y 3 W9 Pre Post)
    {g : JFrame} (hg : g.method = m) (hsize : g.locals.size = c.maxLocals) {argsL rest : List Value} (hlen : ∀ sig, parseMethodDescriptor y.desc = some sig → argsL.length = sig.parameters.length)
    (hstack : g.stack = argsL.reverse ++ rest) (hW : 2 * g.monitorRoom + (rest.map fun v => v.category).sum ≤ W9) (hdg : decode c.code g.pc = .ok (.invokestatic index, 3))
    (hpre : ∀ vm₁, s.WarmedH vm₁ → Pre ⟨T.setVm vm₁, locs, cells, slots⟩ argsL.toArray) :
    ∃ (v : Option Value) (vm₁ : Vm) (B : Pt), s.WarmedH vm₁ ∧ Stand p l e R s m args below meth c B.U B.locs B.cells B.slots ∧ Post ⟨T.setVm vm₁, locs, cells, slots⟩ argsL.toArray v B ∧
      ∀ target, Steps p.tables e below (B.U.setTop { g with pc := g.pc + 3, stack := v.toList ++ rest }) target → Steps p.tables e below (T.setTop g) target := by
  obtain ⟨mk, methM, cM, hnamed, hmethM, -, -, -, -, -, -, hsigM⟩ := Cond.codeWith_spec hcode
  have hstatic : methM.isStatic = true := Cond.static_spec hnamed hmethM hstat
  obtain ⟨kP, hkP, -⟩ := className_of_methodNamed hnamed
  have hinitP : kP.init = .initialized := Cond.initialized_spec (findClass_of_methodNamed hnamed) hkP hinit
  obtain ⟨vm₁, X₁, hstep₁⟩ := X.invokestatic hexec hown hlink hnamed hmethM hstatic hkP hinitP hy (g := g) hg (argsL := argsL) (rest := rest) (hlen _ hsigM) hstack hdg
  obtain ⟨v, B, X', hpost, hsteps⟩ := hK m meth c ⟨T.setVm vm₁, locs, cells, slots⟩ { g with stack := rest } (.invokestatic index) mk argsL.toArray X₁ hg hsize hdg hW (X₁.named hnamed) (hpre vm₁ X₁.warmed)
  exact ⟨v, vm₁, B, X₁.warmed, X', hpost, fun target h => hstep₁ _ fun acts => by rw [doInvoke_state]; exact hsteps.trans h⟩
theorem vx_runSW {y : MethodName} {bytes cc : ByteArray} {maxL nL mc ms n index : Nat} {ret : Option FieldType} {hh : List (Nat × Nat × Nat × Nat)} {ws : List Cond} {rm : Room} {Pc : Array Value → State → Prop} {Qc : Array Value → State → Outcome → State → Prop} {free : Addr → Prop} {Ts : List Cond} {own : String} {As rest : List Value} {g : JFrame}
    (S : CallFix p m c cc nL s args Ts own) (hM : Met l y ws rm Pc Qc mc ms free) (cw : vx_CSW R s args own index y bytes maxL ret hh ws rm mc ms n) (hp : PreS s H Pc As)
    (hg : g.method = m) (hn : As.length = n) (hsize : g.locals.size = nL) (hstack : g.stack = As.reverse ++ rest) (hW : 2 * g.monitorRoom + (rest.map fun v => v.category).sum ≤ 8) (hdg : decode cc g.pc = .ok (.invokestatic index, 3)) (hf : cells + mc ≤ R.cells ∧ slots + ms ≤ R.slots) :
    va_Run p l e R s m args below meth c H locs cells slots mc ms g rest (Qc As.toArray) (free) := by
  obtain ⟨⟨hrc, hrs, hfr, hlo, hws, hcw⟩, hcode, hini, hy, hlen, hl, hstt⟩ := cw
  have hK : Back l R p e below s args y 3 8 (PreOf R mc ms Pc) (PostOf Qc mc ms free) := va_backW (hh := hh) (bytes := bytes) (maxL := maxL) (ret := ret) hM hp.1 hrc hrs hfr hlo hws hcw (fun a' U hW => word_at hW (Or.inl (by first | rfl | simp [Cond.onTables, Cond.keeps, Cond.steady])) hini)
  obtain ⟨hx, hb, hml, ho, -⟩ := S
  intro T hT X
  obtain ⟨v, vm₁, ⟨U', l2, c2, s2⟩, hW₁, X', ⟨g', mk, t, L, e1, e2, hq, h1, hL, h2, h3⟩, st⟩ := vx_callSW X hx (hh := hh) (bytes := bytes) (maxL := maxL) (ret := ret) ho hl hstt hini hcode hy hK hg (hsize.trans hml.symm) (argsL := As) (rest := rest) (fun sig h => hn.trans (hlen sig h)) hstack hW (by rw [hb]; exact hdg)
    (fun vm₁ hW₁ => ⟨hf.1, hf.2, hp.2 (T.setVm vm₁) hT hW₁⟩)
  dsimp only [Pt.U, Pt.locs, Pt.cells, Pt.slots] at X' e1 e2 h1 h2 h3 st
  subst h1; subst h2; subst h3
  exact ⟨v, (T.setVm vm₁).calling g' mk As.toArray, t, U', L, hT, X', hL, e1, e2, hq, st⟩
/-- not caught here, past rows that name other classes: it goes on to the caller -/
theorem vx_outP {p : Program} {l : Launch} {e : Env} {R : Room} {s : State} {m : MethodId} {args : Array Value} {below : List Frame} {meth : Method} {c : Code} {H : Heap} {locs : List Loc} {cells slots : Nat} {free : Addr → Prop} {ls : Array Slot} {rest : List Value} {Qc : Array Value → State → Outcome → State → Prop} {XC : String → State → State → Prop}
    {pc : Nat} {own E : String} {ce : Cell} {q : Addr} {mc ms : Nat} (hown : s.vm.findClass own = some m.cls) (hlocks : meth.locks = false)
    (hpass : ∀ z ∈ c.exceptionTable.toList, covers z pc = false ∨ (z.catchType ≠ 0 ∧ ∃ nm : String, (Cond.classLink own z.catchType nm).before args s = true ∧ va_Nc E nm s)) (hcell : H[q]? = some ce) (hv : ce.vm = .none) (hcl : s.vm.findClass E = some ce.cls)
    (hx : ∀ t : State, t.heap = H → s.vm.Alike t.vm → XC E s t) (hf : ∀ z ∈ locs, free z.base) (hc : cells ≤ mc) (hs : slots ≤ ms) :
    vx_W p l e R s m args below meth c H locs cells slots (vx_MQ below Qc XC args s mc ms free) (F0 m pc ls rest) q := by
  intro T hT X
  have hpl : e.platform.magicAccessors = ({} : Platform).magicAccessors := by rw [X.admits.platform]
  obtain ⟨vm', hW', X', st⟩ := X.outThrough hlocks q (g := F0 m pc ls rest) rfl rfl rfl (cell := ce) (by rw [hT]; exact hcell) (by rw [hv]; rfl)
    (by obtain ⟨k9, h9, -⟩ := Vm.findClass_spec hcl; exact ⟨k9, h9⟩) (fun z hz => by
      rcases hpass z hz with h | ⟨hz0, nm, hl1, hn1⟩
      · exact Or.inl h
      · obtain ⟨c6, hc6, hcl6⟩ := Cond.classLink_spec hown hl1 e.platform hpl
        obtain ⟨a8, b8, h1, h2, h3⟩ := hn1
        cases Option.some.inj (h1.symm.trans hcl)
        cases Option.some.inj (h2.symm.trans hc6)
        exact Or.inr ⟨hz0, _, hcl6, h3⟩)
  obtain ⟨g₀, hfr⟩ := X'.frames_eq
  have hcell9 : ((T.setVm vm').setFrames (.throwing q :: below)).heap[q]? = some ce := by
    show T.heap[q]? = some ce
    rw [hT]; exact hcell
  have hend : Ended ((T.setVm vm').setFrames (.throwing q :: below)) below (.threw q) := State.frames_setFrames _ (State.cur_lt_of_frames hfr)
  refine ⟨(T.setVm vm').setFrames (.throwing q :: below), ?_, .threw q, X'.here.running, hend, Or.inr ⟨q, rfl, E, ce, locs, hx _ hT (X'.ends _).1.alike, hcell9, hv, hcl, (X'.ends _).1, (X'.ends _).2.mono hc hs, hf⟩⟩
  rw [X.pushThrowing_eq]
  exact st
/-- a thing of a world lies in the heap -/
theorem vx_lt {D : va_G} {cl : List vw_C} {ws : va_W} {H1 : Heap} (h : va_P D cl ws H1) {k : Nat} {q : Nat × va_E} (hk : ws[k]? = some q) : q.1 < H1.size := (h k q hk).lt
end VXS
/-! ===== END ===== -/
/-! ===== BEGIN methods with a table of their own: called by a name, returning or throwing ===== -/
section VXH
/-! vx_backW, vx_callVX, vx_callSX, vx_callVW, vx_runVW, vx_runVX, vx_runSX, vx_ofWH follow the same proofs as their sisters above (Free/Laws.lean, Shelf42/LK1.lean); vx_outP calls Shelf42/NT130.lean (outThrough). -/
section
variable {l : Launch} {R : Room} {p : Program} {e : Env} {below : List Frame} {s : State} {sargs : Array Value} {y : MethodName} {len W9 : Nat}
theorem vx_backW {ws : List Cond} {rm : Room} {Pc : Array Value → State → Prop} {Qc : Array Value → State → Outcome → State → Prop} {XC : String → State → State → Prop} {mc ms : Nat} {free : Addr → Prop} {bytes : ByteArray} {maxL : Nat} {ret : Option FieldType} {hh : List (Nat × Nat × Nat × Nat)}
    (hM : vx_Met l y ws rm Pc Qc XC mc ms free) (hblind : FrameBlind Pc) (hrc : rm.cells = mc) (hrs : rm.slots = ms)
    (hframes : rm.frames + 1 ≤ R.frames) (hlocals : W9 + (maxL + 11) + rm.locals ≤ R.locals)
    (hws : ∀ w ∈ ws, ∀ a' U, s.WarmedH U.vm → w.before a' U = true) (hcode : Cond.codeWith y bytes maxL ret hh ∈ ws) (hinit : ∀ a' U, s.WarmedH U.vm → (Cond.initialized y.cls).before a' U = true) :
    vx_Back l R p e below s sargs y len W9 (PreOf R mc ms Pc) (PostOf Qc mc ms free) (vx_Post XC mc ms free) := by
  intro m meth c A g ig mk a X hg hsize hdg hW hn hp
  have h1 : (headSpec ws rm).pre.before a A.U = true := atoms_intro fun w hw => hws w hw _ _ X.warmed
  have h2 : (Cond.codeWith y bytes maxL ret hh).before a A.U = true := hws _ hcode _ _ X.warmed
  have h3 : (Cond.initialized y.cls).before a A.U = true := hinit _ _ X.warmed
  have h4 : A.cells + (headSpec ws rm).room.cells ≤ R.cells := by rw [show (headSpec ws rm).room.cells = mc from hrc]; exact hp.1
  have h5 : A.slots + (headSpec ws rm).room.slots ≤ R.slots := by rw [show (headSpec ws rm).room.slots = ms from hrs]; exact hp.2.1
  have hPc : Pc a (A.U.calling g mk a) := hblind _ _ _ _ hp.2.2
  obtain ⟨U, Ls, c0, s0⟩ := A
  dsimp only [Pt.U, Pt.locs, Pt.cells, Pt.slots] at h1 h2 h3 h4 h5 X hn hPc ⊢
  obtain ⟨m9, methY, cY, hn9, hmY, hcY, -, hlY, -⟩ := Cond.codeWith_spec h2
  cases Option.some.inj (hn9.symm.trans hn)
  obtain ⟨kY, hkY, -⟩ := className_of_methodNamed hn
  have hinitY : kY.init = .initialized := Cond.initialized_spec (findClass_of_methodNamed hn) hkY h3
  have h : At U g.method c below := by rw [hg]; exact X.here
  have hlocals9 : W9 + (maxL + 11) + (headSpec ws rm).room.locals ≤ R.locals := hlocals
  have happ : (headSpec ws rm).appliesLoose y e.platform (U.calling g mk a) = true :=
    Spec.appliesLoose_calling (g := g) h hdg hn hkY hinitY
      (X.room_calling (g := g) (R' := (headSpec ws rm).room) hsize hmY hcY hframes (by rw [hlY]; omega) h4 h5) h1
  obtain ⟨mid, hmid⟩ := h.above
  have hfr : (U.setTop g).frames = (.java g :: mid) ++ below := by rw [State.frames_setTop' g h.top, hmid]; rfl
  obtain ⟨o, s₂, hsteps, -, hend, hq⟩ := Steps.callFree hM p X.admits X.cas X.clock (acts := []) hfr happ hPc trivial
  have hq' : vx_Q Qc XC mc ms free a (U.calling g mk a) o s₂ := hq
  rw [State.frames_setTop' g h.top] at hend
  obtain ⟨g₀, hg0⟩ := Option.isSome_iff_exists.mp h.top
  obtain ⟨r, hr⟩ := State.topJava?_eq_some.mp hg0
  have hr' : (({ U with heap := s₂.heap, slotsUsed := s₂.slotsUsed } : State).setVm s₂.vm).frames = .java g₀ :: r := hr
  rcases hq' with ⟨hqc, L, hfe, hL⟩ | ⟨q, rfl, E, ce, L, hx, hce, hcv, hcl, hW₂, hsm, hL⟩
  · obtain ⟨⟨v, rfl⟩, hW₂, e2, q2, q3, q4, q5, q6⟩ := id hfe
    have e3 : s₂ = ({ (U.calling g mk a).setFrames s₂.frames with heap := s₂.heap, slotsUsed := s₂.slotsUsed } : State).setVm s₂.vm := by
      have : s₂ = ({ s₂ with vm := (U.calling g mk a).vm } : State).setVm s₂.vm := rfl
      rw [e2] at this
      exact this
    obtain ⟨c₂, i₂, len₂, hc₂, hd₂, hf₂⟩ := hend
    have hW' : U.WarmedH s₂.vm := hW₂
    have hcc : c₂ = c := by
      have h1 : s₂.code? g.method = U.code? g.method := by
        rw [State.code?_eq, State.code?_eq, hW'.alike.method?]
      exact Option.some.inj (hc₂.symm.trans (h1.trans h.code))
    subst hcc
    have hlen : len₂ = len := by rw [hdg] at hd₂; cases hd₂; rfl
    subst hlen
    have hs₂ : s₂ = (({ U with heap := s₂.heap, slotsUsed := s₂.slotsUsed } : State).setVm s₂.vm).setTop { g with pc := g.pc + len₂, stack := v.toList ++ g.stack } := by
      refine e3.trans ?_
      rw [hf₂, State.calling_eq h.top, State.setFrames_setFrames, State.setTop_of_frames _ hr', hr]
      rfl
    have hsame : U.sameButNew ({ U with heap := s₂.heap, slotsUsed := s₂.slotsUsed } : State) L mc ms := by
      refine ⟨?_, q2, q3, q4, q5, q6⟩
      obtain ⟨t, ht, -⟩ := State.frames_cons hr
      show ({ U with heap := s₂.heap, slotsUsed := s₂.slotsUsed } : State) = { U.setFrames U.frames with heap := s₂.heap, slotsUsed := s₂.slotsUsed }
      rw [State.setFrames_self ht]
    subst hg
    refine Or.inl ⟨v, ⟨(({ U with heap := s₂.heap, slotsUsed := s₂.slotsUsed } : State).setVm s₂.vm), Ls ++ L, c0 + mc, s0 + ms⟩,
      ⟨X.admits, X.cas, X.clock, X.frames, X.room, X.hears, X.method, X.code, (X.here.setHeapUsed s₂.heap s₂.slotsUsed).setVm hW'.alike, X.tail, State.WarmedH.trans X.warmed hW', X.limits, X.bytes, X.same.trans (hsame.setVm s.vm)⟩,
      ⟨g, mk, s₂, L, rfl, rfl, hqc, rfl, hL, rfl, rfl⟩, ?_⟩
    show Steps p.tables e below _ ((({ U with heap := s₂.heap, slotsUsed := s₂.slotsUsed } : State).setVm s₂.vm).setTop { g with pc := g.pc + len₂, stack := v.toList ++ g.stack })
    rw [← hs₂]
    exact hsteps
  · obtain ⟨e2, q2, q3, q4, q5, q6⟩ := id hsm
    have e3 : s₂ = ({ (U.calling g mk a).setFrames s₂.frames with heap := s₂.heap, slotsUsed := s₂.slotsUsed } : State).setVm s₂.vm := by
      have : s₂ = ({ s₂ with vm := (U.calling g mk a).vm } : State).setVm s₂.vm := rfl
      rw [e2] at this
      exact this
    have hf₂ : s₂.frames = .throwing q :: .java g :: U.frames.tail := hend
    have hW' : U.WarmedH s₂.vm := hW₂
    have hs₂ : s₂ = ((({ U with heap := s₂.heap, slotsUsed := s₂.slotsUsed } : State).setVm s₂.vm).setTop g).pushFrame (.throwing q) := by
      refine e3.trans ?_
      rw [hf₂, State.calling_eq h.top, State.setFrames_setFrames, State.pushFrame, State.frames_setTop _ hr', State.setTop_of_frames _ hr', State.setFrames_setFrames, hr]
      rfl
    have hsame : U.sameButNew ({ U with heap := s₂.heap, slotsUsed := s₂.slotsUsed } : State) L mc ms := by
      refine ⟨?_, q2, q3, q4, q5, q6⟩
      obtain ⟨t, ht, -⟩ := State.frames_cons hr
      show ({ U with heap := s₂.heap, slotsUsed := s₂.slotsUsed } : State) = { U.setFrames U.frames with heap := s₂.heap, slotsUsed := s₂.slotsUsed }
      rw [State.setFrames_self ht]
    subst hg
    refine Or.inr ⟨q, ⟨(({ U with heap := s₂.heap, slotsUsed := s₂.slotsUsed } : State).setVm s₂.vm), Ls ++ L, c0 + mc, s0 + ms⟩,
      ⟨X.admits, X.cas, X.clock, X.frames, X.room, X.hears, X.method, X.code, (X.here.setHeapUsed s₂.heap s₂.slotsUsed).setVm hW'.alike, X.tail, State.WarmedH.trans X.warmed hW', X.limits, X.bytes, X.same.trans (hsame.setVm s.vm)⟩,
      ⟨g, mk, s₂, L, E, ce, rfl, rfl, hx, hce, hcv, hcl, rfl, hL, rfl, rfl⟩, ?_⟩
    show Steps p.tables e below _ (((({ U with heap := s₂.heap, slotsUsed := s₂.slotsUsed } : State).setVm s₂.vm).setTop g).pushFrame (.throwing q))
    rw [← hs₂]
    exact hsteps
end
variable {p : Program} {l : Launch} {e : Env} {R : Room} {s : State} {m : MethodId} {args : Array Value} {below : List Frame} {meth : Method} {c : Code} {T : State} {H : Heap} {locs : List Loc} {cells slots : Nat}
theorem vx_callVX (X : Stand p l e R s m args below meth c T locs cells slots) (hexec : p.tables.exec = Jvm.exec) {own C : String} {index : Nat} {y : MethodName} {bytes : ByteArray} {maxL : Nat} {ret : Option FieldType} {hh : List (Nat × Nat × Nat × Nat)}
    (hown : s.vm.findClass own = some m.cls) (hlink : (Cond.methodLink own index y).before args s = true) (hinst : (Cond.instanceMethod y).before args s = true) (hsel : (Cond.selects C y y).before args s = true)
    (hcode : (Cond.codeWith y bytes maxL ret hh).before args s = true) (hy : y.cls ≠ "java/lang/invoke/MethodHandle" ∧ y.cls ≠ "java/lang/invoke/VarHandle")
    {W9 : Nat} {Pre : Pt → Array Value → Prop} {Post : Pt → Array Value → Option Value → Pt → Prop} {PostX : Pt → Array Value → Addr → Pt → Prop} (hK : vx_Back l R p e below s args y 3 W9 Pre Post PostX)
    {b : Addr} {cellB : Cell} (hcell : T.heap[b]? = some cellB) (hobj : cellB.vm.isStatics = false) (hcls : s.vm.findClass C = some cellB.cls)
    {g : JFrame} (hg : g.method = m) (hsize : g.locals.size = c.maxLocals) {argsL rest : List Value} (hlen : ∀ sig, parseMethodDescriptor y.desc = some sig → argsL.length = sig.parameters.length)
    (hstack : g.stack = argsL.reverse ++ .ref b :: rest) (hW : 2 * g.monitorRoom + (rest.map fun v => v.category).sum ≤ W9) (hdg : decode c.code g.pc = .ok (.invokevirtual index, 3))
    (hpre : ∀ vm₁, s.WarmedH vm₁ → Pre ⟨T.setVm vm₁, locs, cells, slots⟩ (Value.ref b :: argsL).toArray) :
    (∃ (v : Option Value) (vm₁ : Vm) (B : Pt), s.WarmedH vm₁ ∧ Stand p l e R s m args below meth c B.U B.locs B.cells B.slots ∧ Post ⟨T.setVm vm₁, locs, cells, slots⟩ (Value.ref b :: argsL).toArray v B ∧
      ∀ target, Steps p.tables e below (B.U.setTop { g with pc := g.pc + 3, stack := v.toList ++ rest }) target → Steps p.tables e below (T.setTop g) target) ∨
    (∃ (q : Addr) (vm₁ : Vm) (B : Pt), s.WarmedH vm₁ ∧ Stand p l e R s m args below meth c B.U B.locs B.cells B.slots ∧ PostX ⟨T.setVm vm₁, locs, cells, slots⟩ (Value.ref b :: argsL).toArray q B ∧
      Steps p.tables e below (T.setTop g) ((B.U.setTop { g with stack := rest }).pushFrame (.throwing q))) := by
  obtain ⟨mk, methM, hnamed, hmethM, hstM, habM⟩ := Cond.instanceMethod_spec hinst
  obtain ⟨m8, methM', cM, hn8, hmethM', -, -, -, -, -, -, hsigM⟩ := Cond.codeWith_spec hcode
  cases Option.some.inj (hn8.symm.trans hnamed)
  cases hmethM.symm.trans hmethM'
  obtain ⟨c2, r2, m2, q1, q2, q3, q4, kP, hkP, hkPi⟩ := Cond.selects_spec hsel
  cases hcls.symm.trans q1
  cases (State.methodFound?_of_named hnamed hy).symm.trans q2
  cases hnamed.symm.trans q3
  have hselP : selectMethod e.platform s.vm cellB.cls mk = .method mk := by rw [Launch.admits_selectMethod X.admits]; exact q4
  obtain ⟨vm₁, X₁, hstep₁⟩ := X.invokevirtual hexec hown hlink hnamed hmethM hstM hkP hkPi hy (a := b) (cell := cellB) hcell
    (fun z h => by rw [h] at hobj; cases hobj) hselP hmethM habM hkP hkPi (g := g) hg (argsL := argsL) (rest := rest) (hlen _ hsigM) hstack hdg
  rcases hK m meth c ⟨T.setVm vm₁, locs, cells, slots⟩ { g with stack := rest } (.invokevirtual index) mk (Value.ref b :: argsL).toArray X₁ hg hsize hdg hW (X₁.named hnamed) (hpre vm₁ X₁.warmed) with ⟨v, B, X', hpost, hsteps⟩ | ⟨q, B, X', hpost, hsteps⟩
  · exact Or.inl ⟨v, vm₁, B, X₁.warmed, X', hpost, fun target h => hstep₁ _ fun acts => by rw [doInvoke_state]; exact hsteps.trans h⟩
  · exact Or.inr ⟨q, vm₁, B, X₁.warmed, X', hpost, hstep₁ _ fun acts => by rw [doInvoke_state]; exact hsteps⟩
theorem vx_callSX (X : Stand p l e R s m args below meth c T locs cells slots) (hexec : p.tables.exec = Jvm.exec) {own : String} {index : Nat} {y : MethodName} {bytes : ByteArray} {maxL : Nat} {ret : Option FieldType} {hh : List (Nat × Nat × Nat × Nat)}
    (hown : s.vm.findClass own = some m.cls) (hlink : (Cond.methodLink own index y).before args s = true) (hstat : (Cond.static y).before args s = true) (hinit : (Cond.initialized y.cls).before args s = true)
    (hcode : (Cond.codeWith y bytes maxL ret hh).before args s = true) (hy : y.cls ≠ "java/lang/invoke/MethodHandle" ∧ y.cls ≠ "java/lang/invoke/VarHandle")
    {W9 : Nat} {Pre : Pt → Array Value → Prop} {Post : Pt → Array Value → Option Value → Pt → Prop} {PostX : Pt → Array Value → Addr → Pt → Prop} (hK : vx_Back l R p e below s args y 3 W9 Pre Post PostX)
    {g : JFrame} (hg : g.method = m) (hsize : g.locals.size = c.maxLocals) {argsL rest : List Value} (hlen : ∀ sig, parseMethodDescriptor y.desc = some sig → argsL.length = sig.parameters.length)
    (hstack : g.stack = argsL.reverse ++ rest) (hW : 2 * g.monitorRoom + (rest.map fun v => v.category).sum ≤ W9) (hdg : decode c.code g.pc = .ok (.invokestatic index, 3))
    (hpre : ∀ vm₁, s.WarmedH vm₁ → Pre ⟨T.setVm vm₁, locs, cells, slots⟩ argsL.toArray) :
    (∃ (v : Option Value) (vm₁ : Vm) (B : Pt), s.WarmedH vm₁ ∧ Stand p l e R s m args below meth c B.U B.locs B.cells B.slots ∧ Post ⟨T.setVm vm₁, locs, cells, slots⟩ argsL.toArray v B ∧
      ∀ target, Steps p.tables e below (B.U.setTop { g with pc := g.pc + 3, stack := v.toList ++ rest }) target → Steps p.tables e below (T.setTop g) target) ∨
    (∃ (q : Addr) (vm₁ : Vm) (B : Pt), s.WarmedH vm₁ ∧ Stand p l e R s m args below meth c B.U B.locs B.cells B.slots ∧ PostX ⟨T.setVm vm₁, locs, cells, slots⟩ argsL.toArray q B ∧
      Steps p.tables e below (T.setTop g) ((B.U.setTop { g with stack := rest }).pushFrame (.throwing q))) := by
  obtain ⟨mk, methM, cM, hnamed, hmethM, -, -, -, -, -, -, hsigM⟩ := Cond.codeWith_spec hcode
  have hstatic : methM.isStatic = true := Cond.static_spec hnamed hmethM hstat
  obtain ⟨kP, hkP, -⟩ := className_of_methodNamed hnamed
  have hinitP : kP.init = .initialized := Cond.initialized_spec (findClass_of_methodNamed hnamed) hkP hinit
  obtain ⟨vm₁, X₁, hstep₁⟩ := X.invokestatic hexec hown hlink hnamed hmethM hstatic hkP hinitP hy (g := g) hg (argsL := argsL) (rest := rest) (hlen _ hsigM) hstack hdg
  rcases hK m meth c ⟨T.setVm vm₁, locs, cells, slots⟩ { g with stack := rest } (.invokestatic index) mk argsL.toArray X₁ hg hsize hdg hW (X₁.named hnamed) (hpre vm₁ X₁.warmed) with ⟨v, B, X', hpost, hsteps⟩ | ⟨q, B, X', hpost, hsteps⟩
  · exact Or.inl ⟨v, vm₁, B, X₁.warmed, X', hpost, fun target h => hstep₁ _ fun acts => by rw [doInvoke_state]; exact hsteps.trans h⟩
  · exact Or.inr ⟨q, vm₁, B, X₁.warmed, X', hpost, hstep₁ _ fun acts => by rw [doInvoke_state]; exact hsteps⟩
theorem vx_callVW (X : Stand p l e R s m args below meth c T locs cells slots) (hexec : p.tables.exec = Jvm.exec) {own C : String} {index : Nat} {y : MethodName} {bytes : ByteArray} {maxL : Nat} {ret : Option FieldType} {hh : List (Nat × Nat × Nat × Nat)}
    (hown : s.vm.findClass own = some m.cls) (hlink : (Cond.methodLink own index y).before args s = true) (hinst : (Cond.instanceMethod y).before args s = true) (hsel : (Cond.selects C y y).before args s = true)
    (hcode : (Cond.codeWith y bytes maxL ret hh).before args s = true) (hy : y.cls ≠ "java/lang/invoke/MethodHandle" ∧ y.cls ≠ "java/lang/invoke/VarHandle")
    {W9 : Nat} {Pre : Pt → Array Value → Prop} {Post : Pt → Array Value → Option Value → Pt → Prop} (hK : Back l R p e below s args y 3 W9 Pre Post)
    {b : Addr} {cellB : Cell} (hcell : T.heap[b]? = some cellB) (hobj : cellB.vm.isStatics = false) (hcls : s.vm.findClass C = some cellB.cls)
    {g : JFrame} (hg : g.method = m) (hsize : g.locals.size = c.maxLocals) {argsL rest : List Value} (hlen : ∀ sig, parseMethodDescriptor y.desc = some sig → argsL.length = sig.parameters.length)
    (hstack : g.stack = argsL.reverse ++ .ref b :: rest) (hW : 2 * g.monitorRoom + (rest.map fun v => v.category).sum ≤ W9) (hdg : decode c.code g.pc = .ok (.invokevirtual index, 3))
    (hpre : ∀ vm₁, s.WarmedH vm₁ → Pre ⟨T.setVm vm₁, locs, cells, slots⟩ (Value.ref b :: argsL).toArray) :
    ∃ (v : Option Value) (vm₁ : Vm) (B : Pt), s.WarmedH vm₁ ∧ Stand p l e R s m args below meth c B.U B.locs B.cells B.slots ∧ Post ⟨T.setVm vm₁, locs, cells, slots⟩ (Value.ref b :: argsL).toArray v B ∧
      ∀ target, Steps p.tables e below (B.U.setTop { g with pc := g.pc + 3, stack := v.toList ++ rest }) target → Steps p.tables e below (T.setTop g) target := by
  obtain ⟨mk, methM, hnamed, hmethM, hstM, habM⟩ := Cond.instanceMethod_spec hinst
  obtain ⟨m8, methM', cM, hn8, hmethM', -, -, -, -, -, -, hsigM⟩ := Cond.codeWith_spec hcode
  cases Option.some.inj (hn8.symm.trans hnamed)
  cases hmethM.symm.trans hmethM'
  obtain ⟨c2, r2, m2, q1, q2, q3, q4, kP, hkP, hkPi⟩ := Cond.selects_spec hsel
  cases hcls.symm.trans q1
  cases (State.methodFound?_of_named hnamed hy).symm.trans q2
  cases hnamed.symm.trans q3
  have hselP : selectMethod e.platform s.vm cellB.cls mk = .method mk := by rw [Launch.admits_selectMethod X.admits]; exact q4
  obtain ⟨vm₁, X₁, hstep₁⟩ := X.invokevirtual hexec hown hlink hnamed hmethM hstM hkP hkPi hy (a := b) (cell := cellB) hcell
    (fun z h => by rw [h] at hobj; cases hobj) hselP hmethM habM hkP hkPi (g := g) hg (argsL := argsL) (rest := rest) (hlen _ hsigM) hstack hdg
  obtain ⟨v, B, X', hpost, hsteps⟩ := hK m meth c ⟨T.setVm vm₁, locs, cells, slots⟩ { g with stack := rest } (.invokevirtual index) mk (Value.ref b :: argsL).toArray X₁ hg hsize hdg hW (X₁.named hnamed) (hpre vm₁ X₁.warmed)
  exact ⟨v, vm₁, B, X₁.warmed, X', hpost, fun target h => hstep₁ _ fun acts => by rw [doInvoke_state]; exact hsteps.trans h⟩
abbrev vx_CVW (R : Room) (s : State) (args : Array Value) (own C : String) (index : Nat) (y : MethodName) (bytes : ByteArray) (maxL : Nat) (ret : Option FieldType) (hh : List (Nat × Nat × Nat × Nat)) (ws : List Cond) (rm : Room) (mc ms n : Nat) : Prop :=
  (rm.cells = mc ∧ rm.slots = ms ∧ rm.frames + 1 ≤ R.frames ∧ 8 + (maxL + 11) + rm.locals ≤ R.locals ∧ (∀ w ∈ ws, ∀ (a' : Array Value) (U : State), s.WarmedH U.vm → w.before a' U = true) ∧ Cond.codeWith y bytes maxL ret hh ∈ ws) ∧
  (Cond.codeWith y bytes maxL ret hh).before args s = true ∧ (Cond.initialized y.cls).before args s = true ∧ (y.cls ≠ "java/lang/invoke/MethodHandle" ∧ y.cls ≠ "java/lang/invoke/VarHandle") ∧
  (∀ sig, parseMethodDescriptor y.desc = some sig → n = sig.parameters.length) ∧ (Cond.methodLink own index y).before args s = true ∧ (Cond.instanceMethod y).before args s = true ∧ (Cond.selects C y y).before args s = true
theorem vx_cwVW {own C : String} {index maxL mc ms : Nat} {y : MethodName} {bytes : ByteArray} {ret : Option FieldType} {hh : List (Nat × Nat × Nat × Nat)} {Ts ws ws' : List Cond} {rm : Room} (n : Nat) (ht : ∀ w ∈ Ts, w.before args s = true) (hT : GoodIn Ts (wsV own index C y ws)) (hw : ws = Cond.codeWith y bytes maxL ret hh :: ws') (hrc : rm.cells = mc) (hrs : rm.slots = ms)
    (hd : y.cls = C ∧ y.cls ≠ "java/lang/invoke/MethodHandle" ∧ y.cls ≠ "java/lang/invoke/VarHandle" ∧ (parseMethodDescriptor y.desc).map (fun d => d.parameters.length) = some n) (hR : rm.frames + 1 ≤ R.frames ∧ 8 + (maxL + 11) + rm.locals ≤ R.locals) :
    vx_CVW R s args own C index y bytes maxL ret hh ws rm mc ms n := by
  obtain ⟨hC, hd⟩ := hd
  subst hC
  have ok : ∀ w ∈ wsV own index y.cls y ws, w.before args s = true := fun w h => ht w (hT w h).1
  have hG : GoodIn Ts ws := fun w h => hT w (by unfold wsV; exact List.mem_append_right _ h)
  have hc : Cond.codeWith y bytes maxL ret hh ∈ ws := by rw [hw]; exact List.mem_cons_self
  refine ⟨⟨hrc, hrs, hR.1, hR.2, pay_in ht hG, hc⟩, ht _ (hG _ hc).1, ok _ (by simp [wsV]), ⟨hd.1, hd.2.1⟩, fun sig h => ?_, ok _ (by simp [wsV]), ok _ (by simp [wsV]), ok _ (by simp [wsV])⟩
  have h2 := hd.2.2
  rw [h] at h2
  exact (Option.some.inj h2).symm
theorem vx_runVW {y : MethodName} {bytes cc : ByteArray} {maxL nL mc ms n index : Nat} {ret : Option FieldType} {hh : List (Nat × Nat × Nat × Nat)} {ws : List Cond} {rm : Room} {Pc : Array Value → State → Prop} {Qc : Array Value → State → Outcome → State → Prop} {free : Addr → Prop} {Ts : List Cond} {own C : String} {b : Addr} {As rest : List Value} {g : JFrame}
    (S : CallFix p m c cc nL s args Ts own) (hM : Met l y ws rm Pc Qc mc ms free) (cw : vx_CVW R s args own C index y bytes maxL ret hh ws rm mc ms n) (hp : PreV s H C b Pc As)
    (hg : g.method = m) (hn : As.length = n) (hsize : g.locals.size = nL) (hstack : g.stack = As.reverse ++ .ref b :: rest) (hW : 2 * g.monitorRoom + (rest.map fun v => v.category).sum ≤ 8) (hdg : decode cc g.pc = .ok (.invokevirtual index, 3)) (hf : cells + mc ≤ R.cells ∧ slots + ms ≤ R.slots) :
    va_Run p l e R s m args below meth c H locs cells slots mc ms g rest (Qc (Value.ref b :: As).toArray) free := by
  obtain ⟨⟨hrc, hrs, hfr, hlo, hws, hcw⟩, hcode, hini, hy, hlen, hl, hin, hse⟩ := cw
  have hK : Back l R p e below s args y 3 8 (PreOf R mc ms Pc) (PostOf Qc mc ms free) := va_backW (hh := hh) (bytes := bytes) (maxL := maxL) (ret := ret) hM hp.1 hrc hrs hfr hlo hws hcw (fun a' U hW => word_at hW (Or.inl (by first | rfl | simp [Cond.onTables, Cond.keeps, Cond.steady])) hini)
  obtain ⟨hx, hb, hml, ho, -⟩ := S
  obtain ⟨-, ⟨cellB, hcB, hoB, hclB⟩, hPc⟩ := hp
  intro T hT X
  obtain ⟨v, vm₁, ⟨U', l2, c2, s2⟩, hW₁, X', ⟨g', mk, t, L, e1, e2, hq, h1, hL, h2, h3⟩, st⟩ := vx_callVW X hx (C := C) (hh := hh) (bytes := bytes) (maxL := maxL) (ret := ret) ho hl hin hse hcode hy hK (by rw [hT]; exact hcB) hoB hclB hg (hsize.trans hml.symm) (argsL := As) (rest := rest) (fun sig h => hn.trans (hlen sig h)) hstack hW (by rw [hb]; exact hdg)
    (fun vm₁ hW₁ => ⟨hf.1, hf.2, hPc (T.setVm vm₁) hT hW₁⟩)
  dsimp only [Pt.U, Pt.locs, Pt.cells, Pt.slots] at X' e1 e2 h1 h2 h3 st
  subst h1; subst h2; subst h3
  exact ⟨v, (T.setVm vm₁).calling g' mk (Value.ref b :: As).toArray, t, U', L, hT, X', hL, e1, e2, hq, st⟩
section
variable {y : MethodName} {bytes cc : ByteArray} {maxL nL mc ms n index : Nat} {ret : Option FieldType} {ws : List Cond} {rm : Room} {Pc : Array Value → State → Prop} {Qc : Array Value → State → Outcome → State → Prop} {XC : String → State → State → Prop} {free : Addr → Prop} {Ts : List Cond} {own C : String} {b : Addr} {As rest : List Value} {g : JFrame}
theorem vx_runVX {hh : List (Nat × Nat × Nat × Nat)} (S : CallFix p m c cc nL s args Ts own) (hM : vx_Met l y ws rm Pc Qc XC mc ms free) (cw : vx_CVW R s args own C index y bytes maxL ret hh ws rm mc ms n) (hp : PreV s H C b Pc As)
    (hg : g.method = m) (hn : As.length = n) (hsize : g.locals.size = nL) (hstack : g.stack = As.reverse ++ .ref b :: rest) (hW : 2 * g.monitorRoom + (rest.map fun v => v.category).sum ≤ 8) (hdg : decode cc g.pc = .ok (.invokevirtual index, 3)) (hf : cells + mc ≤ R.cells ∧ slots + ms ≤ R.slots) :
    vx_Run p l e R s m args below meth c H locs cells slots mc ms g rest (Qc (Value.ref b :: As).toArray) XC free := by
  obtain ⟨⟨hrc, hrs, hfr, hlo, hws, hcw⟩, hcode, hini, hy, hlen, hl, hin, hse⟩ := cw
  have hK : vx_Back l R p e below s args y 3 8 (PreOf R mc ms Pc) (PostOf Qc mc ms free) (vx_Post XC mc ms free) := vx_backW (hh := hh) (bytes := bytes) (maxL := maxL) (ret := ret) hM hp.1 hrc hrs hfr hlo hws hcw (fun a' U hW => word_at hW (Or.inl (by first | rfl | simp [Cond.onTables, Cond.keeps, Cond.steady])) hini)
  obtain ⟨hx, hb, hml, ho, -⟩ := S
  obtain ⟨-, ⟨cellB, hcB, hoB, hclB⟩, hPc⟩ := hp
  intro T hT X
  rcases vx_callVX X hx (C := C) (hh := hh) (bytes := bytes) (maxL := maxL) (ret := ret) ho hl hin hse hcode hy hK (by rw [hT]; exact hcB) hoB hclB hg (hsize.trans hml.symm) (argsL := As) (rest := rest) (fun sig h => hn.trans (hlen sig h)) hstack hW (by rw [hb]; exact hdg)
    (fun vm₁ hW₁ => ⟨hf.1, hf.2, hPc (T.setVm vm₁) hT hW₁⟩) with ⟨v, vm₁, ⟨U', l2, c2, s2⟩, hW₁, X', ⟨g', mk, t, L, e1, e2, hq, h1, hL, h2, h3⟩, st⟩ | ⟨q, vm₁, ⟨U', l2, c2, s2⟩, hW₁, X', ⟨g', mk, t, L, E, ce, e1, e2, hq, hce, hcv, hcl, h1, hL, h2, h3⟩, st⟩
  · dsimp only [Pt.U, Pt.locs, Pt.cells, Pt.slots] at X' e1 e2 h1 h2 h3 st
    subst h1; subst h2; subst h3
    exact Or.inl ⟨v, (T.setVm vm₁).calling g' mk (Value.ref b :: As).toArray, t, U', L, hT, X', hL, e1, e2, hq, st⟩
  · dsimp only [Pt.U, Pt.locs, Pt.cells, Pt.slots] at X' e1 e2 h1 h2 h3 st hcl
    subst h1; subst h2; subst h3
    exact Or.inr ⟨q, (T.setVm vm₁).calling g' mk (Value.ref b :: As).toArray, t, U', L, E, ce, hT, X', hL, e1, e2, hq, hce, hcv, vx_cls hW₁ hcl, st⟩
theorem vx_runSX {hh : List (Nat × Nat × Nat × Nat)} (S : CallFix p m c cc nL s args Ts own) (hM : vx_Met l y ws rm Pc Qc XC mc ms free) (cw : vx_CSW R s args own index y bytes maxL ret hh ws rm mc ms n) (hp : PreS s H Pc As)
    (hg : g.method = m) (hn : As.length = n) (hsize : g.locals.size = nL) (hstack : g.stack = As.reverse ++ rest) (hW : 2 * g.monitorRoom + (rest.map fun v => v.category).sum ≤ 8) (hdg : decode cc g.pc = .ok (.invokestatic index, 3)) (hf : cells + mc ≤ R.cells ∧ slots + ms ≤ R.slots) :
    vx_Run p l e R s m args below meth c H locs cells slots mc ms g rest (Qc As.toArray) XC free := by
  obtain ⟨⟨hrc, hrs, hfr, hlo, hws, hcw⟩, hcode, hini, hy, hlen, hl, hstt⟩ := cw
  have hK : vx_Back l R p e below s args y 3 8 (PreOf R mc ms Pc) (PostOf Qc mc ms free) (vx_Post XC mc ms free) := vx_backW (hh := hh) (bytes := bytes) (maxL := maxL) (ret := ret) hM hp.1 hrc hrs hfr hlo hws hcw (fun a' U hW => word_at hW (Or.inl (by first | rfl | simp [Cond.onTables, Cond.keeps, Cond.steady])) hini)
  obtain ⟨hx, hb, hml, ho, -⟩ := S
  intro T hT X
  rcases vx_callSX X hx (hh := hh) (bytes := bytes) (maxL := maxL) (ret := ret) ho hl hstt hini hcode hy hK hg (hsize.trans hml.symm) (argsL := As) (rest := rest) (fun sig h => hn.trans (hlen sig h)) hstack hW (by rw [hb]; exact hdg)
    (fun vm₁ hW₁ => ⟨hf.1, hf.2, hp.2 (T.setVm vm₁) hT hW₁⟩) with ⟨v, vm₁, ⟨U', l2, c2, s2⟩, hW₁, X', ⟨g', mk, t, L, e1, e2, hq, h1, hL, h2, h3⟩, st⟩ | ⟨q, vm₁, ⟨U', l2, c2, s2⟩, hW₁, X', ⟨g', mk, t, L, E, ce, e1, e2, hq, hce, hcv, hcl, h1, hL, h2, h3⟩, st⟩
  · dsimp only [Pt.U, Pt.locs, Pt.cells, Pt.slots] at X' e1 e2 h1 h2 h3 st
    subst h1; subst h2; subst h3
    exact Or.inl ⟨v, (T.setVm vm₁).calling g' mk As.toArray, t, U', L, hT, X', hL, e1, e2, hq, st⟩
  · dsimp only [Pt.U, Pt.locs, Pt.cells, Pt.slots] at X' e1 e2 h1 h2 h3 st hcl
    subst h1; subst h2; subst h3
    exact Or.inr ⟨q, (T.setVm vm₁).calling g' mk As.toArray, t, U', L, E, ce, hT, X', hL, e1, e2, hq, hce, hcv, vx_cls hW₁ hcl, st⟩
end
end VXH
theorem vx_ofWH {l : Launch} {y : MethodName} {ws ws' : List Cond} {rm : Room} {Pc : Array Value → State → Prop} {Qc : Array Value → State → Outcome → State → Prop} {XC : String → State → State → Prop} {mc ms : Nat} {free : Addr → Prop} {cc : ByteArray} {maxL : Nat} {ret : Option FieldType} {hh : List (Nat × Nat × Nat × Nat)}
    (hy : plainName y.cls = true) (hw : ws = Cond.codeWith y cc maxL ret hh :: ws')
    (body : ∀ p e s m args below meth c s₁, BodyLoose p l y (headSpec ws rm) cc maxL ret e s m args below meth c s₁ → c.maxLocals = maxL → Pc args s →
      W p l e (headSpec ws rm).room s m args below meth c s.heap [] 0 0 (vx_MQ below Qc XC args s mc ms free) (entryFrame m args maxL)) : vx_Met l y ws rm Pc Qc XC mc ms free := by
  refine MetFree.of_bodyS (code := cc) (maxLocals := maxL) (ret := ret) hy ?_ ?_
  · intro args s m h hn
    obtain ⟨m9, meth, c, hn9, h1, h2, h3, h4, -, h5, h6, -⟩ := Cond.codeWith_spec (atoms_spec (ws := ws) h _ (by rw [hw]; exact List.mem_cons_self))
    cases hn.symm.trans hn9
    exact ⟨meth, c, h1, h2, h3, h4, h5, h6⟩
  · intro p e s m args below meth c s₁ B hml hP _
    have hh0 : s₁.heap = s.heap := by rw [B.state]; rfl
    obtain ⟨t, a1, o, b1, b2, b3⟩ := body p e s m args below meth c s₁ B hml hP s₁ hh0 (Stand.of_body B)
    exact ⟨t, o, a1, b1, b2, b3⟩
/-! ===== END ===== -/
end
section
def RX0 : String := "TavernDice$Dice"
def TX0 : u_T := fun k => match k with
  | 0 => ("TavernDice$Dice", "sums", "[I", true)
  | 1 => ("TavernDice$Dice", "faces", "[I", true)
  | 2 => ("TavernDice$Dice", "count", "I", false)
  | _ => ("TavernDice$Dice", "outcomes", "I", false)
def tyX0 : Nat → FieldType := fun k => match k with
  | 0 => .array .int
  | 1 => .array .int
  | 2 => .int
  | _ => .int
abbrev wsX00 : List Cond := u_ws RX0 TX0 4
theorem nmX0 : ∀ a, a < 4 → ∀ b, b < 4 → a ≠ b → (TX0 a).2.1 ≠ (TX0 b).2.1 := by decide +kernel
theorem tyX0_ok : ∀ k, k < 4 → parseFieldDescriptor (TX0 k).2.2.1 = some (tyX0 k) := by decide +kernel
abbrev cX0_init : ByteArray := prog_2_method_1_code
def yX0_init : MethodName := ⟨RX0, "<init>", "()V"⟩
abbrev cX0_layOut : ByteArray := prog_2_method_2_code
def yX0_layOut : MethodName := ⟨RX0, "layOut", "(III)V"⟩
abbrev cX0_addOutcome : ByteArray := prog_2_method_3_code
def yX0_addOutcome : MethodName := ⟨RX0, "addOutcome", "(III)V"⟩
abbrev cX0_bitOf : ByteArray := prog_2_method_4_code
def yX0_bitOf : MethodName := ⟨RX0, "bitOf", "(I)I"⟩
abbrev cX0_comes : ByteArray := prog_2_method_5_code
def yX0_comes : MethodName := ⟨RX0, "comes", "(III)Z"⟩
abbrev cX0_holds : ByteArray := prog_2_method_6_code
def yX0_holds : MethodName := ⟨RX0, "holds", "(III)Z"⟩
abbrev cX0_countWays : ByteArray := prog_2_method_7_code
def yX0_countWays : MethodName := ⟨RX0, "countWays", "(II)I"⟩
abbrev cX0_gainOver : ByteArray := prog_2_method_8_code
def yX0_gainOver : MethodName := ⟨RX0, "gainOver", "(III)I"⟩
def RX1 : String := "TavernDice$Wager"
def TX1 : u_T := fun k => match k with
  | 0 => ("TavernDice$Wager", "patron", "I", true)
  | 1 => ("TavernDice$Wager", "kind", "I", true)
  | 2 => ("TavernDice$Wager", "number", "I", true)
  | 3 => ("TavernDice$Wager", "stake", "I", true)
  | 4 => ("TavernDice$Wager", "brings", "I", true)
  | _ => ("TavernDice$Wager", "ways", "I", true)
def tyX1 : Nat → FieldType := fun k => match k with
  | 0 => .int
  | 1 => .int
  | 2 => .int
  | 3 => .int
  | 4 => .int
  | _ => .int
abbrev wsX10 : List Cond := u_ws RX1 TX1 6
theorem nmX1 : ∀ a, a < 6 → ∀ b, b < 6 → a ≠ b → (TX1 a).2.1 ≠ (TX1 b).2.1 := by decide +kernel
theorem tyX1_ok : ∀ k, k < 6 → parseFieldDescriptor (TX1 k).2.2.1 = some (tyX1 k) := by decide +kernel
abbrev cX1_init : ByteArray := prog_3_method_1_code
def yX1_init : MethodName := ⟨RX1, "<init>", "(IIIIII)V"⟩
def RX2 : String := "TavernDice"
def TX2 : u_T := fun k => match k with
  | 0 => ("TavernDice", "dice", "LTavernDice$Dice;", true)
  | 1 => ("TavernDice", "wagers", "Ljava/util/ArrayList;", true)
  | 2 => ("TavernDice", "purses", "[I", true)
  | 3 => ("TavernDice", "bank", "I", false)
  | _ => ("TavernDice", "rounds", "I", false)
def tyX2 : Nat → FieldType := fun k => match k with
  | 0 => .object "TavernDice$Dice"
  | 1 => .object "java/util/ArrayList"
  | 2 => .array .int
  | 3 => .int
  | _ => .int
abbrev wsX20 : List Cond := u_ws RX2 TX2 5
theorem nmX2 : ∀ a, a < 5 → ∀ b, b < 5 → a ≠ b → (TX2 a).2.1 ≠ (TX2 b).2.1 := by decide +kernel
theorem tyX2_ok : ∀ k, k < 5 → parseFieldDescriptor (TX2 k).2.2.1 = some (tyX2 k) := by decide +kernel
abbrev cX2_init : ByteArray := prog_1_method_1_code
def yX2_init : MethodName := ⟨RX2, "<init>", "()V"⟩
abbrev cX2_setDice : ByteArray := prog_1_method_2_code
def yX2_setDice : MethodName := ⟨RX2, "setDice", "(III)I"⟩
abbrev cX2_dice : ByteArray := prog_1_method_3_code
def yX2_dice : MethodName := ⟨RX2, "dice", "()I"⟩
abbrev cX2_outcomes : ByteArray := prog_1_method_4_code
def yX2_outcomes : MethodName := ⟨RX2, "outcomes", "()I"⟩
abbrev cX2_sumOf : ByteArray := prog_1_method_5_code
def yX2_sumOf : MethodName := ⟨RX2, "sumOf", "(I)I"⟩
abbrev cX2_ways : ByteArray := prog_1_method_6_code
def yX2_ways : MethodName := ⟨RX2, "ways", "(II)I"⟩
abbrev cX2_chance : ByteArray := prog_1_method_7_code
def yX2_chance : MethodName := ⟨RX2, "chance", "(II)D"⟩
abbrev cX2_lay : ByteArray := prog_1_method_8_code
def yX2_lay : MethodName := ⟨RX2, "lay", "(IIIIII)I"⟩
abbrev cX2_takeBack : ByteArray := prog_1_method_9_code
def yX2_takeBack : MethodName := ⟨RX2, "takeBack", "(I)I"⟩
abbrev cX2_settle : ByteArray := prog_1_method_10_code
def yX2_settle : MethodName := ⟨RX2, "settle", "(I)I"⟩
abbrev cX2_open : ByteArray := prog_1_method_11_code
def yX2_open : MethodName := ⟨RX2, "open", "()I"⟩
abbrev cX2_bank : ByteArray := prog_1_method_12_code
def yX2_bank : MethodName := ⟨RX2, "bank", "()I"⟩
abbrev cX2_rounds : ByteArray := prog_1_method_13_code
def yX2_rounds : MethodName := ⟨RX2, "rounds", "()I"⟩
abbrev cX2_purseOf : ByteArray := prog_1_method_14_code
def yX2_purseOf : MethodName := ⟨RX2, "purseOf", "(I)I"⟩
abbrev cX2_patronOf : ByteArray := prog_1_method_15_code
def yX2_patronOf : MethodName := ⟨RX2, "patronOf", "(I)I"⟩
abbrev cX2_stakeOf : ByteArray := prog_1_method_16_code
def yX2_stakeOf : MethodName := ⟨RX2, "stakeOf", "(I)I"⟩
abbrev cX2_bringsOf : ByteArray := prog_1_method_17_code
def yX2_bringsOf : MethodName := ⟨RX2, "bringsOf", "(I)I"⟩
abbrev cX2_staked : ByteArray := prog_1_method_18_code
def yX2_staked : MethodName := ⟨RX2, "staked", "()I"⟩
abbrev cX2_edgeTop : ByteArray := prog_1_method_19_code
def yX2_edgeTop : MethodName := ⟨RX2, "edgeTop", "(I)I"⟩
abbrev cX2_edgeBottom : ByteArray := prog_1_method_20_code
def yX2_edgeBottom : MethodName := ⟨RX2, "edgeBottom", "(I)I"⟩
abbrev cX2_allEdgesTop : ByteArray := prog_1_method_21_code
def yX2_allEdgesTop : MethodName := ⟨RX2, "allEdgesTop", "()I"⟩
abbrev cX2_allEdgesBottom : ByteArray := prog_1_method_22_code
def yX2_allEdgesBottom : MethodName := ⟨RX2, "allEdgesBottom", "()I"⟩
abbrev cX2_dearestWager : ByteArray := prog_1_method_23_code
def yX2_dearestWager : MethodName := ⟨RX2, "dearestWager", "()I"⟩
abbrev cX2_gainAt : ByteArray := prog_1_method_24_code
def yX2_gainAt : MethodName := ⟨RX2, "gainAt", "(I)I"⟩
abbrev cX2_worstGain : ByteArray := prog_1_method_25_code
def yX2_worstGain : MethodName := ⟨RX2, "worstGain", "()I"⟩
abbrev cX2_worstOutcome : ByteArray := prog_1_method_26_code
def yX2_worstOutcome : MethodName := ⟨RX2, "worstOutcome", "()I"⟩
abbrev cX2_purseAt : ByteArray := prog_1_method_27_code
def yX2_purseAt : MethodName := ⟨RX2, "purseAt", "(II)I"⟩
abbrev cX2_leastPurse : ByteArray := prog_1_method_28_code
def yX2_leastPurse : MethodName := ⟨RX2, "leastPurse", "(I)I"⟩
abbrev cX2_isHedged : ByteArray := prog_1_method_29_code
def yX2_isHedged : MethodName := ⟨RX2, "isHedged", "(I)Z"⟩
abbrev cX2_hedgeFor : ByteArray := prog_1_method_30_code
def yX2_hedgeFor : MethodName := ⟨RX2, "hedgeFor", "(III)I"⟩
abbrev cX2_fairWin : ByteArray := prog_1_method_31_code
def yX2_fairWin : MethodName := ⟨RX2, "fairWin", "(III)I"⟩
abbrev cX2_digest : ByteArray := prog_1_method_32_code
def yX2_digest : MethodName := ⟨RX2, "digest", "()J"⟩
abbrev cX2_digestOfWagers : ByteArray := prog_1_method_33_code
def yX2_digestOfWagers : MethodName := ⟨RX2, "digestOfWagers", "(J)J"⟩
abbrev cX2_digestOfPatrons : ByteArray := prog_1_method_34_code
def yX2_digestOfPatrons : MethodName := ⟨RX2, "digestOfPatrons", "(J)J"⟩
abbrev cX2_digested : ByteArray := prog_1_method_35_code
def yX2_digested : MethodName := ⟨RX2, "digested", "(JJ)J"⟩
abbrev cX2_gainOfAll : ByteArray := prog_1_method_36_code
def yX2_gainOfAll : MethodName := ⟨RX2, "gainOfAll", "(I)I"⟩
abbrev cX2_purseBehind : ByteArray := prog_1_method_37_code
def yX2_purseBehind : MethodName := ⟨RX2, "purseBehind", "(II)I"⟩
abbrev cX2_gainOverOutcomes : ByteArray := prog_1_method_38_code
def yX2_gainOverOutcomes : MethodName := ⟨RX2, "gainOverOutcomes", "(LTavernDice$Wager;)I"⟩
abbrev cX2_gainOfAllOverOutcomes : ByteArray := prog_1_method_39_code
def yX2_gainOfAllOverOutcomes : MethodName := ⟨RX2, "gainOfAllOverOutcomes", "()I"⟩
abbrev cX2_lowestTop : ByteArray := prog_1_method_40_code
def yX2_lowestTop : MethodName := ⟨RX2, "lowestTop", "(I)I"⟩
abbrev cX2_lowestBottom : ByteArray := prog_1_method_41_code
def yX2_lowestBottom : MethodName := ⟨RX2, "lowestBottom", "(I)I"⟩
abbrev cX2_commonDivisor : ByteArray := prog_1_method_42_code
def yX2_commonDivisor : MethodName := ⟨RX2, "commonDivisor", "(II)I"⟩
abbrev cX2_broughtBy : ByteArray := prog_1_method_43_code
def yX2_broughtBy : MethodName := ⟨RX2, "broughtBy", "(III)I"⟩
abbrev cX2_isDie : ByteArray := prog_1_method_44_code
def yX2_isDie : MethodName := ⟨RX2, "isDie", "(I)Z"⟩
abbrev cX2_isDieOrNone : ByteArray := prog_1_method_45_code
def yX2_isDieOrNone : MethodName := ⟨RX2, "isDieOrNone", "(I)Z"⟩
abbrev cX2_checkOutcome : ByteArray := prog_1_method_46_code
def yX2_checkOutcome : MethodName := ⟨RX2, "checkOutcome", "(I)V"⟩
abbrev cX2_checkWager : ByteArray := prog_1_method_47_code
def yX2_checkWager : MethodName := ⟨RX2, "checkWager", "(I)V"⟩
abbrev cX2_checkPatron : ByteArray := prog_1_method_48_code
def yX2_checkPatron : MethodName := ⟨RX2, "checkPatron", "(I)V"⟩
abbrev cX2_checkEvent : ByteArray := prog_1_method_49_code
def yX2_checkEvent : MethodName := ⟨RX2, "checkEvent", "(II)V"⟩
abbrev cX2_checkWin : ByteArray := prog_1_method_50_code
def yX2_checkWin : MethodName := ⟨RX2, "checkWin", "(I)V"⟩
abbrev cX2_checkBase : ByteArray := prog_1_method_51_code
def yX2_checkBase : MethodName := ⟨RX2, "checkBase", "(I)V"⟩
def RX3 : String := "TavernDiceModel"
def TX3 : u_T := fun k => match k with
  | 0 => ("TavernDiceModel", "thrown", "I", false)
  | 1 => ("TavernDiceModel", "faces", "[I", true)
  | 2 => ("TavernDiceModel", "dice", "I", false)
  | 3 => ("TavernDiceModel", "outcomes", "I", false)
  | 4 => ("TavernDiceModel", "purse", "[I", true)
  | 5 => ("TavernDiceModel", "bank", "I", false)
  | 6 => ("TavernDiceModel", "rounds", "I", false)
  | 7 => ("TavernDiceModel", "open", "I", false)
  | 8 => ("TavernDiceModel", "who", "[I", true)
  | 9 => ("TavernDiceModel", "kind", "[I", true)
  | 10 => ("TavernDiceModel", "number", "[I", true)
  | 11 => ("TavernDiceModel", "stake", "[I", true)
  | 12 => ("TavernDiceModel", "brings", "[I", true)
  | 13 => ("TavernDiceModel", "isHit", "[Z", true)
  | _ => ("TavernDiceModel", "sums", "[I", true)
def tyX3 : Nat → FieldType := fun k => match k with
  | 0 => .int
  | 1 => .array .int
  | 2 => .int
  | 3 => .int
  | 4 => .array .int
  | 5 => .int
  | 6 => .int
  | 7 => .int
  | 8 => .array .int
  | 9 => .array .int
  | 10 => .array .int
  | 11 => .array .int
  | 12 => .array .int
  | 13 => .array .boolean
  | _ => .array .int
abbrev wsX30 : List Cond := u_ws RX3 TX3 15
theorem nmX3 : ∀ a, a < 15 → ∀ b, b < 15 → a ≠ b → (TX3 a).2.1 ≠ (TX3 b).2.1 := by decide +kernel
theorem tyX3_ok : ∀ k, k < 15 → parseFieldDescriptor (TX3 k).2.2.1 = some (tyX3 k) := by decide +kernel
abbrev cX3_init : ByteArray := prog_5_method_1_code
def yX3_init : MethodName := ⟨RX3, "<init>", "()V"⟩
abbrev cX3_thrown : ByteArray := prog_5_method_2_code
def yX3_thrown : MethodName := ⟨RX3, "thrown", "()I"⟩
abbrev cX3_no : ByteArray := prog_5_method_3_code
def yX3_no : MethodName := ⟨RX3, "no", "(I)I"⟩
abbrev cX3_ok : ByteArray := prog_5_method_4_code
def yX3_ok : MethodName := ⟨RX3, "ok", "(I)I"⟩
abbrev cX3_isIn : ByteArray := prog_5_method_5_code
def yX3_isIn : MethodName := ⟨RX3, "isIn", "(III)Z"⟩
abbrev cX3_isWager : ByteArray := prog_5_method_6_code
def yX3_isWager : MethodName := ⟨RX3, "isWager", "(I)Z"⟩
abbrev cX3_isOutcome : ByteArray := prog_5_method_7_code
def yX3_isOutcome : MethodName := ⟨RX3, "isOutcome", "(I)Z"⟩
abbrev cX3_isPatron : ByteArray := prog_5_method_8_code
def yX3_isPatron : MethodName := ⟨RX3, "isPatron", "(I)Z"⟩
abbrev cX3_isEvent : ByteArray := prog_5_method_9_code
def yX3_isEvent : MethodName := ⟨RX3, "isEvent", "(II)Z"⟩
abbrev cX3_face : ByteArray := prog_5_method_10_code
def yX3_face : MethodName := ⟨RX3, "face", "(II)I"⟩
abbrev cX3_sum : ByteArray := prog_5_method_11_code
def yX3_sum : MethodName := ⟨RX3, "sum", "(I)I"⟩
abbrev cX3_comes : ByteArray := prog_5_method_12_code
def yX3_comes : MethodName := ⟨RX3, "comes", "(III)Z"⟩
abbrev cX3_add : ByteArray := prog_5_method_13_code
def yX3_add : MethodName := ⟨RX3, "add", "()V"⟩
abbrev cX3_without : ByteArray := prog_5_method_14_code
def yX3_without : MethodName := ⟨RX3, "without", "(I)I"⟩
abbrev cX3_many : ByteArray := prog_5_method_15_code
def yX3_many : MethodName := ⟨RX3, "many", "(II)I"⟩
abbrev cX3_edge : ByteArray := prog_5_method_16_code
def yX3_edge : MethodName := ⟨RX3, "edge", "(I)I"⟩
abbrev cX3_edges : ByteArray := prog_5_method_17_code
def yX3_edges : MethodName := ⟨RX3, "edges", "()I"⟩
abbrev cX3_divisor : ByteArray := prog_5_method_18_code
def yX3_divisor : MethodName := ⟨RX3, "divisor", "(II)I"⟩
abbrev cX3_top : ByteArray := prog_5_method_19_code
def yX3_top : MethodName := ⟨RX3, "top", "(I)I"⟩
abbrev cX3_bottom : ByteArray := prog_5_method_20_code
def yX3_bottom : MethodName := ⟨RX3, "bottom", "(I)I"⟩
abbrev cX3_dear : ByteArray := prog_5_method_21_code
def yX3_dear : MethodName := ⟨RX3, "dear", "()I"⟩
abbrev cX3_gain : ByteArray := prog_5_method_22_code
def yX3_gain : MethodName := ⟨RX3, "gain", "(I)I"⟩
abbrev cX3_worst : ByteArray := prog_5_method_23_code
def yX3_worst : MethodName := ⟨RX3, "worst", "()I"⟩
abbrev cX3_behind : ByteArray := prog_5_method_24_code
def yX3_behind : MethodName := ⟨RX3, "behind", "(II)I"⟩
abbrev cX3_least : ByteArray := prog_5_method_25_code
def yX3_least : MethodName := ⟨RX3, "least", "(I)I"⟩
abbrev cX3_hedged : ByteArray := prog_5_method_26_code
def yX3_hedged : MethodName := ⟨RX3, "hedged", "(I)Z"⟩
abbrev cX3_hedge : ByteArray := prog_5_method_27_code
def yX3_hedge : MethodName := ⟨RX3, "hedge", "(III)I"⟩
abbrev cX3_isDie : ByteArray := prog_5_method_28_code
def yX3_isDie : MethodName := ⟨RX3, "isDie", "(I)Z"⟩
abbrev cX3_setDice : ByteArray := prog_5_method_29_code
def yX3_setDice : MethodName := ⟨RX3, "setDice", "(III)I"⟩
abbrev cX3_dice : ByteArray := prog_5_method_30_code
def yX3_dice : MethodName := ⟨RX3, "dice", "()I"⟩
abbrev cX3_outcomes : ByteArray := prog_5_method_31_code
def yX3_outcomes : MethodName := ⟨RX3, "outcomes", "()I"⟩
abbrev cX3_sumOf : ByteArray := prog_5_method_32_code
def yX3_sumOf : MethodName := ⟨RX3, "sumOf", "(I)I"⟩
abbrev cX3_ways : ByteArray := prog_5_method_33_code
def yX3_ways : MethodName := ⟨RX3, "ways", "(II)I"⟩
abbrev cX3_chance : ByteArray := prog_5_method_34_code
def yX3_chance : MethodName := ⟨RX3, "chance", "(II)D"⟩
abbrev cX3_lay : ByteArray := prog_5_method_35_code
def yX3_lay : MethodName := ⟨RX3, "lay", "(IIIIII)I"⟩
abbrev cX3_takeBack : ByteArray := prog_5_method_36_code
def yX3_takeBack : MethodName := ⟨RX3, "takeBack", "(I)I"⟩
abbrev cX3_settle : ByteArray := prog_5_method_37_code
def yX3_settle : MethodName := ⟨RX3, "settle", "(I)I"⟩
abbrev cX3_open : ByteArray := prog_5_method_38_code
def yX3_open : MethodName := ⟨RX3, "open", "()I"⟩
abbrev cX3_bank : ByteArray := prog_5_method_39_code
def yX3_bank : MethodName := ⟨RX3, "bank", "()I"⟩
abbrev cX3_rounds : ByteArray := prog_5_method_40_code
def yX3_rounds : MethodName := ⟨RX3, "rounds", "()I"⟩
abbrev cX3_purseOf : ByteArray := prog_5_method_41_code
def yX3_purseOf : MethodName := ⟨RX3, "purseOf", "(I)I"⟩
abbrev cX3_of : ByteArray := prog_5_method_42_code
def yX3_of : MethodName := ⟨RX3, "of", "(I[I)I"⟩
abbrev cX3_patronOf : ByteArray := prog_5_method_43_code
def yX3_patronOf : MethodName := ⟨RX3, "patronOf", "(I)I"⟩
abbrev cX3_stakeOf : ByteArray := prog_5_method_44_code
def yX3_stakeOf : MethodName := ⟨RX3, "stakeOf", "(I)I"⟩
abbrev cX3_bringsOf : ByteArray := prog_5_method_45_code
def yX3_bringsOf : MethodName := ⟨RX3, "bringsOf", "(I)I"⟩
abbrev cX3_allStakes : ByteArray := prog_5_method_46_code
def yX3_allStakes : MethodName := ⟨RX3, "allStakes", "()I"⟩
abbrev cX3_staked : ByteArray := prog_5_method_47_code
def yX3_staked : MethodName := ⟨RX3, "staked", "()I"⟩
abbrev cX3_edgeTop : ByteArray := prog_5_method_48_code
def yX3_edgeTop : MethodName := ⟨RX3, "edgeTop", "(I)I"⟩
abbrev cX3_edgeBottom : ByteArray := prog_5_method_49_code
def yX3_edgeBottom : MethodName := ⟨RX3, "edgeBottom", "(I)I"⟩
abbrev cX3_allEdgesTop : ByteArray := prog_5_method_50_code
def yX3_allEdgesTop : MethodName := ⟨RX3, "allEdgesTop", "()I"⟩
abbrev cX3_allEdgesBottom : ByteArray := prog_5_method_51_code
def yX3_allEdgesBottom : MethodName := ⟨RX3, "allEdgesBottom", "()I"⟩
abbrev cX3_dearestWager : ByteArray := prog_5_method_52_code
def yX3_dearestWager : MethodName := ⟨RX3, "dearestWager", "()I"⟩
abbrev cX3_gainAt : ByteArray := prog_5_method_53_code
def yX3_gainAt : MethodName := ⟨RX3, "gainAt", "(I)I"⟩
abbrev cX3_worstGain : ByteArray := prog_5_method_54_code
def yX3_worstGain : MethodName := ⟨RX3, "worstGain", "()I"⟩
abbrev cX3_worstOutcome : ByteArray := prog_5_method_55_code
def yX3_worstOutcome : MethodName := ⟨RX3, "worstOutcome", "()I"⟩
abbrev cX3_purseAt : ByteArray := prog_5_method_56_code
def yX3_purseAt : MethodName := ⟨RX3, "purseAt", "(II)I"⟩
abbrev cX3_leastPurse : ByteArray := prog_5_method_57_code
def yX3_leastPurse : MethodName := ⟨RX3, "leastPurse", "(I)I"⟩
abbrev cX3_isHedged : ByteArray := prog_5_method_58_code
def yX3_isHedged : MethodName := ⟨RX3, "isHedged", "(I)Z"⟩
abbrev cX3_hedgeFor : ByteArray := prog_5_method_59_code
def yX3_hedgeFor : MethodName := ⟨RX3, "hedgeFor", "(III)I"⟩
abbrev cX3_fairWin : ByteArray := prog_5_method_60_code
def yX3_fairWin : MethodName := ⟨RX3, "fairWin", "(III)I"⟩
abbrev cX3_digest : ByteArray := prog_5_method_61_code
def yX3_digest : MethodName := ⟨RX3, "digest", "()J"⟩
def RJx145de : String := "java/io/Serializable"
def TJx145de : u_T := fun k => match k with
  | _ => ("", "", "", false)
def tyJx145de : Nat → FieldType := fun k => match k with
  | _ => .int
abbrev wsJx145de0 : List Cond := u_ws RJx145de TJx145de 0
theorem nmJx145de : ∀ a, a < 0 → ∀ b, b < 0 → a ≠ b → (TJx145de a).2.1 ≠ (TJx145de b).2.1 := by decide +kernel
theorem tyJx145de_ok : ∀ k, k < 0 → parseFieldDescriptor (TJx145de k).2.2.1 = some (tyJx145de k) := by decide +kernel
def RJx8e188 : String := "java/lang/Cloneable"
def TJx8e188 : u_T := fun k => match k with
  | _ => ("", "", "", false)
def tyJx8e188 : Nat → FieldType := fun k => match k with
  | _ => .int
abbrev wsJx8e1880 : List Cond := u_ws RJx8e188 TJx8e188 0
theorem nmJx8e188 : ∀ a, a < 0 → ∀ b, b < 0 → a ≠ b → (TJx8e188 a).2.1 ≠ (TJx8e188 b).2.1 := by decide +kernel
theorem tyJx8e188_ok : ∀ k, k < 0 → parseFieldDescriptor (TJx8e188 k).2.2.1 = some (tyJx8e188 k) := by decide +kernel
def RJ6 : String := "java/lang/Integer"
def TJ6 : u_T := fun k => match k with
  | _ => ("", "", "", false)
def tyJ6 : Nat → FieldType := fun k => match k with
  | _ => .int
abbrev wsJ60 : List Cond := u_ws RJ6 TJ6 0
theorem nmJ6 : ∀ a, a < 0 → ∀ b, b < 0 → a ≠ b → (TJ6 a).2.1 ≠ (TJ6 b).2.1 := by decide +kernel
theorem tyJ6_ok : ∀ k, k < 0 → parseFieldDescriptor (TJ6 k).2.2.1 = some (tyJ6 k) := by decide +kernel
abbrev cJ6_bitCount_0f7a4 : ByteArray := prog_12_method_49_code
def yJ6_bitCount_0f7a4 : MethodName := ⟨RJ6, "bitCount", "(I)I"⟩
def RJxab1ab : String := "java/lang/Iterable"
def TJxab1ab : u_T := fun k => match k with
  | _ => ("", "", "", false)
def tyJxab1ab : Nat → FieldType := fun k => match k with
  | _ => .int
abbrev wsJxab1ab0 : List Cond := u_ws RJxab1ab TJxab1ab 0
theorem nmJxab1ab : ∀ a, a < 0 → ∀ b, b < 0 → a ≠ b → (TJxab1ab a).2.1 ≠ (TJxab1ab b).2.1 := by decide +kernel
theorem tyJxab1ab_ok : ∀ k, k < 0 → parseFieldDescriptor (TJxab1ab k).2.2.1 = some (tyJxab1ab k) := by decide +kernel
def RJ9 : String := "java/lang/Math"
def TJ9 : u_T := fun k => match k with
  | _ => ("", "", "", false)
def tyJ9 : Nat → FieldType := fun k => match k with
  | _ => .int
abbrev wsJ90 : List Cond := u_ws RJ9 TJ9 0
theorem nmJ9 : ∀ a, a < 0 → ∀ b, b < 0 → a ≠ b → (TJ9 a).2.1 ≠ (TJ9 b).2.1 := by decide +kernel
theorem tyJ9_ok : ∀ k, k < 0 → parseFieldDescriptor (TJ9 k).2.2.1 = some (tyJ9 k) := by decide +kernel
abbrev cJ9_abs_0f7a4 : ByteArray := prog_14_method_59_code
def yJ9_abs_0f7a4 : MethodName := ⟨RJ9, "abs", "(I)I"⟩
abbrev cJ9_max_7cf53 : ByteArray := prog_14_method_65_code
def yJ9_max_7cf53 : MethodName := ⟨RJ9, "max", "(II)I"⟩
abbrev cJ9_min_7cf53 : ByteArray := prog_14_method_69_code
def yJ9_min_7cf53 : MethodName := ⟨RJ9, "min", "(II)I"⟩
def RJ0 : String := "java/lang/String"
def TJ0 : u_T := fun k => match k with
  | _ => ("", "", "", false)
def tyJ0 : Nat → FieldType := fun k => match k with
  | _ => .int
abbrev wsJ00 : List Cond := u_ws RJ0 TJ0 0
theorem nmJ0 : ∀ a, a < 0 → ∀ b, b < 0 → a ≠ b → (TJ0 a).2.1 ≠ (TJ0 b).2.1 := by decide +kernel
theorem tyJ0_ok : ∀ k, k < 0 → parseFieldDescriptor (TJ0 k).2.2.1 = some (tyJ0 k) := by decide +kernel
def RJ10 : String := "java/lang/System"
def TJ10 : u_T := fun k => match k with
  | _ => ("", "", "", false)
def tyJ10 : Nat → FieldType := fun k => match k with
  | _ => .int
abbrev wsJ100 : List Cond := u_ws RJ10 TJ10 0
theorem nmJ10 : ∀ a, a < 0 → ∀ b, b < 0 → a ≠ b → (TJ10 a).2.1 ≠ (TJ10 b).2.1 := by decide +kernel
theorem tyJ10_ok : ∀ k, k < 0 → parseFieldDescriptor (TJ10 k).2.2.1 = some (tyJ10 k) := by decide +kernel
def RJxa1e45 : String := "java/util/AbstractCollection"
def TJxa1e45 : u_T := fun k => match k with
  | _ => ("", "", "", false)
def tyJxa1e45 : Nat → FieldType := fun k => match k with
  | _ => .int
abbrev wsJxa1e450 : List Cond := u_ws RJxa1e45 TJxa1e45 0
theorem nmJxa1e45 : ∀ a, a < 0 → ∀ b, b < 0 → a ≠ b → (TJxa1e45 a).2.1 ≠ (TJxa1e45 b).2.1 := by decide +kernel
theorem tyJxa1e45_ok : ∀ k, k < 0 → parseFieldDescriptor (TJxa1e45 k).2.2.1 = some (tyJxa1e45 k) := by decide +kernel
abbrev cJxa1e45_init_da8c8 : ByteArray := prog_19_method_1_code
def yJxa1e45_init_da8c8 : MethodName := ⟨RJxa1e45, "<init>", "()V"⟩
def RJxc12de : String := "java/util/AbstractList"
def TJxc12de : u_T := fun k => match k with
  | _ => ("", "", "", false)
def tyJxc12de : Nat → FieldType := fun k => match k with
  | _ => .int
abbrev wsJxc12de0 : List Cond := u_ws RJxc12de TJxc12de 0
theorem nmJxc12de : ∀ a, a < 0 → ∀ b, b < 0 → a ≠ b → (TJxc12de a).2.1 ≠ (TJxc12de b).2.1 := by decide +kernel
theorem tyJxc12de_ok : ∀ k, k < 0 → parseFieldDescriptor (TJxc12de k).2.2.1 = some (tyJxc12de k) := by decide +kernel
abbrev cJxc12de_init_da8c8 : ByteArray := prog_20_method_1_code
def yJxc12de_init_da8c8 : MethodName := ⟨RJxc12de, "<init>", "()V"⟩
def RJx4a65c : String := "java/util/ArrayList"
def TJx4a65c : u_T := fun k => match k with
  | 0 => ("java/util/AbstractList", "modCount", "I", false)
  | 1 => ("java/util/ArrayList", "elementData", "[Ljava/lang/Object;", false)
  | _ => ("java/util/ArrayList", "size", "I", false)
def tyJx4a65c : Nat → FieldType := fun k => match k with
  | 0 => .int
  | 1 => .array (.object "java/lang/Object")
  | _ => .int
abbrev wsJx4a65c0 : List Cond := u_ws RJx4a65c TJx4a65c 3
theorem nmJx4a65c : ∀ a, a < 3 → ∀ b, b < 3 → a ≠ b → (TJx4a65c a).2.1 ≠ (TJx4a65c b).2.1 := by decide +kernel
theorem tyJx4a65c_ok : ∀ k, k < 3 → parseFieldDescriptor (TJx4a65c k).2.2.1 = some (tyJx4a65c k) := by decide +kernel
abbrev cJx4a65c_init_da8c8 : ByteArray := prog_21_method_2_code
def yJx4a65c_init_da8c8 : MethodName := ⟨RJx4a65c, "<init>", "()V"⟩
abbrev cJx4a65c_grow_92f84 : ByteArray := prog_21_method_6_code
def yJx4a65c_grow_92f84 : MethodName := ⟨RJx4a65c, "grow", "(I)[Ljava/lang/Object;"⟩
abbrev cJx4a65c_grow_d5877 : ByteArray := prog_21_method_7_code
def yJx4a65c_grow_d5877 : MethodName := ⟨RJx4a65c, "grow", "()[Ljava/lang/Object;"⟩
abbrev cJx4a65c_size_8abf5 : ByteArray := prog_21_method_8_code
def yJx4a65c_size_8abf5 : MethodName := ⟨RJx4a65c, "size", "()I"⟩
abbrev cJx4a65c_isEmpty_aae02 : ByteArray := prog_21_method_9_code
def yJx4a65c_isEmpty_aae02 : MethodName := ⟨RJx4a65c, "isEmpty", "()Z"⟩
abbrev cJx4a65c_elementData_915e3 : ByteArray := prog_21_method_18_code
def yJx4a65c_elementData_915e3 : MethodName := ⟨RJx4a65c, "elementData", "(I)Ljava/lang/Object;"⟩
abbrev cJx4a65c_get_915e3 : ByteArray := prog_21_method_20_code
def yJx4a65c_get_915e3 : MethodName := ⟨RJx4a65c, "get", "(I)Ljava/lang/Object;"⟩
abbrev cJx4a65c_add_72be8 : ByteArray := prog_21_method_24_code
def yJx4a65c_add_72be8 : MethodName := ⟨RJx4a65c, "add", "(Ljava/lang/Object;[Ljava/lang/Object;I)V"⟩
abbrev cJx4a65c_add_9ea2d : ByteArray := prog_21_method_25_code
def yJx4a65c_add_9ea2d : MethodName := ⟨RJx4a65c, "add", "(Ljava/lang/Object;)Z"⟩
abbrev cJx4a65c_remove_915e3 : ByteArray := prog_21_method_29_code
def yJx4a65c_remove_915e3 : MethodName := ⟨RJx4a65c, "remove", "(I)Ljava/lang/Object;"⟩
abbrev cJx4a65c_fastRemove_b59b0 : ByteArray := prog_21_method_39_code
def yJx4a65c_fastRemove_b59b0 : MethodName := ⟨RJx4a65c, "fastRemove", "([Ljava/lang/Object;I)V"⟩
abbrev cJx4a65c_clear_da8c8 : ByteArray := prog_21_method_40_code
def yJx4a65c_clear_da8c8 : MethodName := ⟨RJx4a65c, "clear", "()V"⟩
def RJ7 : String := "java/util/Arrays"
def TJ7 : u_T := fun k => match k with
  | _ => ("", "", "", false)
def tyJ7 : Nat → FieldType := fun k => match k with
  | _ => .int
abbrev wsJ70 : List Cond := u_ws RJ7 TJ7 0
theorem nmJ7 : ∀ a, a < 0 → ∀ b, b < 0 → a ≠ b → (TJ7 a).2.1 ≠ (TJ7 b).2.1 := by decide +kernel
theorem tyJ7_ok : ∀ k, k < 0 → parseFieldDescriptor (TJ7 k).2.2.1 = some (tyJ7 k) := by decide +kernel
abbrev cJ7_copyOf_1904c : ByteArray := prog_22_method_119_code
def yJ7_copyOf_1904c : MethodName := ⟨RJ7, "copyOf", "([Ljava/lang/Object;I)[Ljava/lang/Object;"⟩
abbrev cJ7_copyOf_6403c : ByteArray := prog_22_method_120_code
def yJ7_copyOf_6403c : MethodName := ⟨RJ7, "copyOf", "([Ljava/lang/Object;ILjava/lang/Class;)[Ljava/lang/Object;"⟩
def RJx5ef63 : String := "java/util/Collection"
def TJx5ef63 : u_T := fun k => match k with
  | _ => ("", "", "", false)
def tyJx5ef63 : Nat → FieldType := fun k => match k with
  | _ => .int
abbrev wsJx5ef630 : List Cond := u_ws RJx5ef63 TJx5ef63 0
theorem nmJx5ef63 : ∀ a, a < 0 → ∀ b, b < 0 → a ≠ b → (TJx5ef63 a).2.1 ≠ (TJx5ef63 b).2.1 := by decide +kernel
theorem tyJx5ef63_ok : ∀ k, k < 0 → parseFieldDescriptor (TJx5ef63 k).2.2.1 = some (tyJx5ef63 k) := by decide +kernel
def RJxbd725 : String := "java/util/List"
def TJxbd725 : u_T := fun k => match k with
  | _ => ("", "", "", false)
def tyJxbd725 : Nat → FieldType := fun k => match k with
  | _ => .int
abbrev wsJxbd7250 : List Cond := u_ws RJxbd725 TJxbd725 0
theorem nmJxbd725 : ∀ a, a < 0 → ∀ b, b < 0 → a ≠ b → (TJxbd725 a).2.1 ≠ (TJxbd725 b).2.1 := by decide +kernel
theorem tyJxbd725_ok : ∀ k, k < 0 → parseFieldDescriptor (TJxbd725 k).2.2.1 = some (tyJxbd725 k) := by decide +kernel
def RJ15 : String := "java/util/Objects"
def TJ15 : u_T := fun k => match k with
  | _ => ("", "", "", false)
def tyJ15 : Nat → FieldType := fun k => match k with
  | _ => .int
abbrev wsJ150 : List Cond := u_ws RJ15 TJ15 0
theorem nmJ15 : ∀ a, a < 0 → ∀ b, b < 0 → a ≠ b → (TJ15 a).2.1 ≠ (TJ15 b).2.1 := by decide +kernel
theorem tyJ15_ok : ∀ k, k < 0 → parseFieldDescriptor (TJ15 k).2.2.1 = some (tyJ15 k) := by decide +kernel
abbrev cJ15_checkIndex_7cf53 : ByteArray := prog_25_method_17_code
def yJ15_checkIndex_7cf53 : MethodName := ⟨RJ15, "checkIndex", "(II)I"⟩
def RJxf0a74 : String := "java/util/RandomAccess"
def TJxf0a74 : u_T := fun k => match k with
  | _ => ("", "", "", false)
def tyJxf0a74 : Nat → FieldType := fun k => match k with
  | _ => .int
abbrev wsJxf0a740 : List Cond := u_ws RJxf0a74 TJxf0a74 0
theorem nmJxf0a74 : ∀ a, a < 0 → ∀ b, b < 0 → a ≠ b → (TJxf0a74 a).2.1 ≠ (TJxf0a74 b).2.1 := by decide +kernel
theorem tyJxf0a74_ok : ∀ k, k < 0 → parseFieldDescriptor (TJxf0a74 k).2.2.1 = some (tyJxf0a74 k) := by decide +kernel
def RJxa66e6 : String := "java/util/SequencedCollection"
def TJxa66e6 : u_T := fun k => match k with
  | _ => ("", "", "", false)
def tyJxa66e6 : Nat → FieldType := fun k => match k with
  | _ => .int
abbrev wsJxa66e60 : List Cond := u_ws RJxa66e6 TJxa66e6 0
theorem nmJxa66e6 : ∀ a, a < 0 → ∀ b, b < 0 → a ≠ b → (TJxa66e6 a).2.1 ≠ (TJxa66e6 b).2.1 := by decide +kernel
theorem tyJxa66e6_ok : ∀ k, k < 0 → parseFieldDescriptor (TJxa66e6 k).2.2.1 = some (tyJxa66e6 k) := by decide +kernel
def RJ8 : String := "jdk/internal/util/ArraysSupport"
def TJ8 : u_T := fun k => match k with
  | _ => ("", "", "", false)
def tyJ8 : Nat → FieldType := fun k => match k with
  | _ => .int
abbrev wsJ80 : List Cond := u_ws RJ8 TJ8 0
theorem nmJ8 : ∀ a, a < 0 → ∀ b, b < 0 → a ≠ b → (TJ8 a).2.1 ≠ (TJ8 b).2.1 := by decide +kernel
theorem tyJ8_ok : ∀ k, k < 0 → parseFieldDescriptor (TJ8 k).2.2.1 = some (tyJ8 k) := by decide +kernel
abbrev cJ8_newLength_cabcc : ByteArray := prog_28_method_27_code
def yJ8_newLength_cabcc : MethodName := ⟨RJ8, "newLength", "(III)I"⟩
abbrev cJ8_hugeLength_7cf53 : ByteArray := prog_28_method_28_code
def yJ8_hugeLength_7cf53 : MethodName := ⟨RJ8, "hugeLength", "(II)I"⟩
def RJ3 : String := "jdk/internal/util/Preconditions"
def TJ3 : u_T := fun k => match k with
  | _ => ("", "", "", false)
def tyJ3 : Nat → FieldType := fun k => match k with
  | _ => .int
abbrev wsJ30 : List Cond := u_ws RJ3 TJ3 0
theorem nmJ3 : ∀ a, a < 0 → ∀ b, b < 0 → a ≠ b → (TJ3 a).2.1 ≠ (TJ3 b).2.1 := by decide +kernel
theorem tyJ3_ok : ∀ k, k < 0 → parseFieldDescriptor (TJ3 k).2.2.1 = some (tyJ3 k) := by decide +kernel
abbrev cJ3_checkIndex_8e157 : ByteArray := prog_29_method_11_code
def yJ3_checkIndex_8e157 : MethodName := ⟨RJ3, "checkIndex", "(IILjava/util/function/BiFunction;)I"⟩
def RL : String := "TavernDiceLaw"
abbrev cL_setDice : ByteArray := method_3_code
def yL_setDice : MethodName := ⟨RL, "setDice", "(LTavernDice;III[J)I"⟩
abbrev cL_sumOf : ByteArray := method_4_code
def yL_sumOf : MethodName := ⟨RL, "sumOf", "(LTavernDice;I[J)I"⟩
abbrev cL_ways : ByteArray := method_5_code
def yL_ways : MethodName := ⟨RL, "ways", "(LTavernDice;II[J)I"⟩
abbrev cL_chance : ByteArray := method_6_code
def yL_chance : MethodName := ⟨RL, "chance", "(LTavernDice;II[D)I"⟩
abbrev cL_lay : ByteArray := method_7_code
def yL_lay : MethodName := ⟨RL, "lay", "(LTavernDice;IIIIII[J)I"⟩
abbrev cL_takeBack : ByteArray := method_8_code
def yL_takeBack : MethodName := ⟨RL, "takeBack", "(LTavernDice;I[J)I"⟩
abbrev cL_settle : ByteArray := method_9_code
def yL_settle : MethodName := ⟨RL, "settle", "(LTavernDice;I[J)I"⟩
abbrev cL_purseOf : ByteArray := method_10_code
def yL_purseOf : MethodName := ⟨RL, "purseOf", "(LTavernDice;I[J)I"⟩
abbrev cL_patronOf : ByteArray := method_11_code
def yL_patronOf : MethodName := ⟨RL, "patronOf", "(LTavernDice;I[J)I"⟩
abbrev cL_stakeOf : ByteArray := method_12_code
def yL_stakeOf : MethodName := ⟨RL, "stakeOf", "(LTavernDice;I[J)I"⟩
abbrev cL_bringsOf : ByteArray := method_13_code
def yL_bringsOf : MethodName := ⟨RL, "bringsOf", "(LTavernDice;I[J)I"⟩
abbrev cL_edgeTop : ByteArray := method_14_code
def yL_edgeTop : MethodName := ⟨RL, "edgeTop", "(LTavernDice;I[J)I"⟩
abbrev cL_edgeBottom : ByteArray := method_15_code
def yL_edgeBottom : MethodName := ⟨RL, "edgeBottom", "(LTavernDice;I[J)I"⟩
abbrev cL_gainAt : ByteArray := method_16_code
def yL_gainAt : MethodName := ⟨RL, "gainAt", "(LTavernDice;I[J)I"⟩
abbrev cL_purseAt : ByteArray := method_17_code
def yL_purseAt : MethodName := ⟨RL, "purseAt", "(LTavernDice;II[J)I"⟩
abbrev cL_leastPurse : ByteArray := method_18_code
def yL_leastPurse : MethodName := ⟨RL, "leastPurse", "(LTavernDice;I[J)I"⟩
abbrev cL_isHedged : ByteArray := method_19_code
def yL_isHedged : MethodName := ⟨RL, "isHedged", "(LTavernDice;I[J)I"⟩
abbrev cL_hedgeFor : ByteArray := method_20_code
def yL_hedgeFor : MethodName := ⟨RL, "hedgeFor", "(LTavernDice;III[J)I"⟩
abbrev cL_fairWin : ByteArray := method_21_code
def yL_fairWin : MethodName := ⟨RL, "fairWin", "(LTavernDice;III[J)I"⟩
abbrev cL_law : ByteArray := code
def yL_law : MethodName := ⟨RL, "law", "([I)Z"⟩
def wsL_law0_r1 : List Cond := [Cond.classLink RL 8 RX2, Cond.instantiable RX2 5, Cond.initialized RX2, Cond.classLink RL 79 RX3, Cond.instantiable RX3 15, Cond.initialized RX3, Cond.arrayClass .long, Cond.arrayClass .double, Cond.methodLink RL 78 yX2_init, Cond.instanceMethod yX2_init, Cond.code yX2_init cX2_init 2 none, Cond.methodLink RX2 3 objectInit, Cond.instanceMethod objectInit, Cond.code objectInit ⟨#[0xb1]⟩ 1 none, Cond.classLink RX2 9 RX0, Cond.instantiable RX0 4, Cond.initialized RX0, Cond.fieldLink RX2 12 "TavernDice" "dice" "LTavernDice$Dice;", Cond.classLink RX2 16 RJx4a65c, Cond.instantiable RJx4a65c 3, Cond.initialized RJx4a65c, Cond.fieldLink RX2 19 "TavernDice" "wagers" "Ljava/util/ArrayList;", Cond.arrayClass .int, Cond.fieldLink RX2 23 "TavernDice" "purses" "[I"]
def wsL_law0_r2 : List Cond := [Cond.fieldLink RX2 27 "TavernDice" "bank" "I", Cond.methodLink RX2 11 yX0_init, Cond.instanceMethod yX0_init, Cond.code yX0_init cX0_init 1 none, Cond.methodLink RX0 3 objectInit, Cond.fieldLink RX0 9 "TavernDice$Dice" "sums" "[I", Cond.fieldLink RX0 15 "TavernDice$Dice" "faces" "[I", Cond.methodLink RX0 18 yX0_layOut, Cond.instanceMethod yX0_layOut, Cond.selects RX0 yX0_layOut yX0_layOut, Cond.code yX0_layOut cX0_layOut 7 none, Cond.fieldLink RX0 22 "TavernDice$Dice" "count" "I", Cond.fieldLink RX0 26 "TavernDice$Dice" "outcomes" "I", Cond.methodLink RX0 29 Lib.Math.min.name, Cond.static Lib.Math.min.name, Cond.initialized "java/lang/Math", Cond.code Lib.Math.min.name Lib.Math.min.code 2 (some .int), Cond.methodLink RX0 35 yX0_addOutcome, Cond.instanceMethod yX0_addOutcome, Cond.selects RX0 yX0_addOutcome yX0_addOutcome, Cond.code yX0_addOutcome cX0_addOutcome 4 none, Cond.methodLink RX0 38 yX0_bitOf, Cond.static yX0_bitOf, Cond.code yX0_bitOf cX0_bitOf 1 (some .int)]
def wsL_law0_r3 : List Cond := [Cond.methodLink RX2 18 yJx4a65c_init_da8c8, Cond.instanceMethod yJx4a65c_init_da8c8, Cond.code yJx4a65c_init_da8c8 cJx4a65c_init_da8c8 1 none, Cond.fieldLink RJx4a65c 39 "java/util/ArrayList" "DEFAULTCAPACITY_EMPTY_ELEMENTDATA" "[Ljava/lang/Object;", Cond.fieldLink RJx4a65c 9 "java/util/ArrayList" "elementData" "[Ljava/lang/Object;", Cond.methodLink RJx4a65c 1 yJxc12de_init_da8c8, Cond.instanceMethod yJxc12de_init_da8c8, Cond.initialized RJxc12de, Cond.code yJxc12de_init_da8c8 cJxc12de_init_da8c8 1 none, Cond.fieldLink RJxc12de 7 "java/util/AbstractList" "modCount" "I", Cond.methodLink RJxc12de 1 yJxa1e45_init_da8c8, Cond.instanceMethod yJxa1e45_init_da8c8, Cond.initialized RJxa1e45, Cond.code yJxa1e45_init_da8c8 cJxa1e45_init_da8c8 1 none, Cond.methodLink RJxa1e45 1 objectInit, Cond.methodLink RL 81 yX3_init, Cond.instanceMethod yX3_init, Cond.code yX3_init cX3_init 1 none, Cond.methodLink RX3 3 objectInit, Cond.fieldLink RX3 9 "TavernDiceModel" "faces" "[I", Cond.fieldLink RX3 13 "TavernDiceModel" "dice" "I", Cond.fieldLink RX3 17 "TavernDiceModel" "outcomes" "I", Cond.fieldLink RX3 20 "TavernDiceModel" "purse" "[I", Cond.fieldLink RX3 23 "TavernDiceModel" "bank" "I"]
def wsL_law0_r4 : List Cond := [Cond.fieldLink RX3 26 "TavernDiceModel" "who" "[I", Cond.fieldLink RX3 29 "TavernDiceModel" "kind" "[I", Cond.fieldLink RX3 32 "TavernDiceModel" "number" "[I", Cond.fieldLink RX3 35 "TavernDiceModel" "stake" "[I", Cond.fieldLink RX3 38 "TavernDiceModel" "brings" "[I", Cond.arrayClass .boolean, Cond.fieldLink RX3 41 "TavernDiceModel" "isHit" "[Z", Cond.fieldLink RX3 45 "TavernDiceModel" "sums" "[I", Cond.methodLink RL 82 yL_setDice, Cond.static yL_setDice, Cond.initialized RL, Cond.codeWith yL_setDice cL_setDice 6 (some .int) [(0, 12, 15, 13), (0, 12, 19, 15)], Cond.classLink RL 13 "java/lang/IllegalArgumentException", Cond.classLink RL 15 "java/lang/IllegalStateException", Cond.methodLink RL 7 yX2_setDice, Cond.instanceMethod yX2_setDice, Cond.selects RX2 yX2_setDice yX2_setDice, Cond.code yX2_setDice cX2_setDice 4 (some .int), Cond.classLink RX2 38 "java/lang/IllegalArgumentException", Cond.initialized "java/lang/IllegalArgumentException", Cond.classLink RX2 49 "java/lang/IllegalStateException", Cond.initialized "java/lang/IllegalStateException", Cond.fieldLink RX2 58 "TavernDice$Dice" "outcomes" "I", Cond.methodLink RX2 31 yX2_isDie]
def wsL_law0_r5 : List Cond := [Cond.static yX2_isDie, Cond.code yX2_isDie cX2_isDie 1 (some .boolean), Cond.methodLink RX2 35 yX2_isDieOrNone, Cond.static yX2_isDieOrNone, Cond.code yX2_isDieOrNone cX2_isDieOrNone 1 (some .boolean), Cond.methodLink RX2 45 yJx4a65c_isEmpty_aae02, Cond.instanceMethod yJx4a65c_isEmpty_aae02, Cond.selects RJx4a65c yJx4a65c_isEmpty_aae02 yJx4a65c_isEmpty_aae02, Cond.code yJx4a65c_isEmpty_aae02 cJx4a65c_isEmpty_aae02 1 (some .boolean), Cond.fieldLink RJx4a65c 48 "java/util/ArrayList" "size" "I", Cond.methodLink RX2 54 yX0_layOut, Cond.methodLink RL 87 yX3_setDice, Cond.instanceMethod yX3_setDice, Cond.selects RX3 yX3_setDice yX3_setDice, Cond.code yX3_setDice cX3_setDice 4 (some .int), Cond.fieldLink RX3 48 "TavernDiceModel" "thrown" "I", Cond.fieldLink RX3 51 "TavernDiceModel" "open" "I", Cond.methodLink RX3 105 Lib.Math.max.name, Cond.static Lib.Math.max.name, Cond.code Lib.Math.max.name Lib.Math.max.code 2 (some .int), Cond.methodLink RX3 98 yX3_isDie, Cond.static yX3_isDie, Cond.code yX3_isDie cX3_isDie 1 (some .boolean), Cond.methodLink RX3 54 yX3_isIn]
def wsL_law0_r6 : List Cond := [Cond.static yX3_isIn, Cond.code yX3_isIn cX3_isIn 3 (some .boolean), Cond.methodLink RX3 102 yX3_no, Cond.instanceMethod yX3_no, Cond.selects RX3 yX3_no yX3_no, Cond.code yX3_no cX3_no 2 (some .int), Cond.methodLink RL 88 yX3_thrown, Cond.instanceMethod yX3_thrown, Cond.selects RX3 yX3_thrown yX3_thrown, Cond.code yX3_thrown cX3_thrown 1 (some .int), Cond.methodLink RL 92 yX2_dice, Cond.instanceMethod yX2_dice, Cond.selects RX2 yX2_dice yX2_dice, Cond.code yX2_dice cX2_dice 1 (some .int), Cond.fieldLink RX2 61 "TavernDice$Dice" "count" "I", Cond.methodLink RL 95 yX3_dice, Cond.instanceMethod yX3_dice, Cond.selects RX3 yX3_dice yX3_dice, Cond.code yX3_dice cX3_dice 1 (some .int), Cond.methodLink RX3 108 yX3_ok, Cond.instanceMethod yX3_ok, Cond.selects RX3 yX3_ok yX3_ok, Cond.code yX3_ok cX3_ok 2 (some .int), Cond.methodLink RL 96 yX2_outcomes]
def wsL_law0_r7 : List Cond := [Cond.instanceMethod yX2_outcomes, Cond.selects RX2 yX2_outcomes yX2_outcomes, Cond.code yX2_outcomes cX2_outcomes 1 (some .int), Cond.methodLink RL 99 yX3_outcomes, Cond.instanceMethod yX3_outcomes, Cond.selects RX3 yX3_outcomes yX3_outcomes, Cond.code yX3_outcomes cX3_outcomes 1 (some .int), Cond.methodLink RL 100 yL_sumOf, Cond.static yL_sumOf, Cond.codeWith yL_sumOf cL_sumOf 4 (some .int) [(0, 9, 12, 21)], Cond.classLink RL 21 "java/lang/IndexOutOfBoundsException", Cond.methodLink RL 17 yX2_sumOf, Cond.instanceMethod yX2_sumOf, Cond.selects RX2 yX2_sumOf yX2_sumOf, Cond.code yX2_sumOf cX2_sumOf 2 (some .int), Cond.fieldLink RX2 68 "TavernDice$Dice" "sums" "[I", Cond.methodLink RX2 64 yX2_checkOutcome, Cond.instanceMethod yX2_checkOutcome, Cond.selects RX2 yX2_checkOutcome yX2_checkOutcome, Cond.code yX2_checkOutcome cX2_checkOutcome 2 none, Cond.classLink RX2 254 "java/lang/IndexOutOfBoundsException", Cond.initialized "java/lang/IndexOutOfBoundsException", Cond.methodLink RL 103 yX3_sumOf, Cond.instanceMethod yX3_sumOf]
def wsL_law0_r8 : List Cond := [Cond.selects RX3 yX3_sumOf yX3_sumOf, Cond.code yX3_sumOf cX3_sumOf 2 (some .int), Cond.methodLink RX3 111 yX3_isOutcome, Cond.instanceMethod yX3_isOutcome, Cond.selects RX3 yX3_isOutcome yX3_isOutcome, Cond.code yX3_isOutcome cX3_isOutcome 2 (some .boolean), Cond.methodLink RX3 65 yX3_sum, Cond.instanceMethod yX3_sum, Cond.selects RX3 yX3_sum yX3_sum, Cond.code yX3_sum cX3_sum 4 (some .int), Cond.methodLink RX3 58 yX3_face, Cond.instanceMethod yX3_face, Cond.selects RX3 yX3_face yX3_face, Cond.code yX3_face cX3_face 5 (some .int), Cond.methodLink RL 104 yL_ways, Cond.static yL_ways, Cond.codeWith yL_ways cL_ways 5 (some .int) [(0, 10, 13, 13)], Cond.methodLink RL 23 yX2_ways, Cond.instanceMethod yX2_ways, Cond.selects RX2 yX2_ways yX2_ways, Cond.code yX2_ways cX2_ways 3 (some .int), Cond.methodLink RX2 71 yX2_checkEvent, Cond.static yX2_checkEvent, Cond.code yX2_checkEvent cX2_checkEvent 2 none]
def wsL_law0_r9 : List Cond := [Cond.methodLink RX2 75 yX0_countWays, Cond.instanceMethod yX0_countWays, Cond.selects RX0 yX0_countWays yX0_countWays, Cond.code yX0_countWays cX0_countWays 5 (some .int), Cond.methodLink RX0 51 yX0_comes, Cond.instanceMethod yX0_comes, Cond.selects RX0 yX0_comes yX0_comes, Cond.code yX0_comes cX0_comes 4 (some .boolean), Cond.methodLink RX0 42 yX0_holds, Cond.instanceMethod yX0_holds, Cond.selects RX0 yX0_holds yX0_holds, Cond.code yX0_holds cX0_holds 4 (some .boolean), Cond.methodLink RX0 46 yJ6_bitCount_0f7a4, Cond.static yJ6_bitCount_0f7a4, Cond.initialized RJ6, Cond.code yJ6_bitCount_0f7a4 cJ6_bitCount_0f7a4 1 (some .int), Cond.constant RJ6 265 (1431655765), Cond.constant RJ6 266 (858993459), Cond.constant RJ6 267 (252645135), Cond.methodLink RL 107 yX3_ways, Cond.instanceMethod yX3_ways, Cond.selects RX3 yX3_ways yX3_ways, Cond.code yX3_ways cX3_ways 3 (some .int), Cond.methodLink RX3 114 yX3_isEvent]
def wsL_law0_r10 : List Cond := [Cond.static yX3_isEvent, Cond.code yX3_isEvent cX3_isEvent 2 (some .boolean), Cond.methodLink RX3 74 yX3_many, Cond.instanceMethod yX3_many, Cond.selects RX3 yX3_many yX3_many, Cond.code yX3_many cX3_many 5 (some .int), Cond.methodLink RX3 69 Lib.Math.min.name, Cond.methodLink RX3 77 yX3_without, Cond.instanceMethod yX3_without, Cond.selects RX3 yX3_without yX3_without, Cond.code yX3_without cX3_without 4 (some .int), Cond.methodLink RX3 80 yX3_add, Cond.instanceMethod yX3_add, Cond.selects RX3 yX3_add yX3_add, Cond.code yX3_add cX3_add 5 none, Cond.methodLink RL 108 yL_chance, Cond.static yL_chance, Cond.codeWith yL_chance cL_chance 5 (some .int) [(0, 9, 12, 13)], Cond.methodLink RL 27 yX2_chance, Cond.instanceMethod yX2_chance, Cond.selects RX2 yX2_chance yX2_chance, Cond.code yX2_chance cX2_chance 3 (some .double), Cond.methodLink RL 111 yX3_chance, Cond.instanceMethod yX3_chance]
def wsL_law0_r11 : List Cond := [Cond.selects RX3 yX3_chance yX3_chance, Cond.code yX3_chance cX3_chance 3 (some .double), Cond.methodLink RL 112 yL_lay, Cond.static yL_lay, Cond.codeWith yL_lay cL_lay 9 (some .int) [(0, 18, 21, 21), (0, 18, 25, 13), (0, 18, 29, 15)], Cond.methodLink RL 31 yX2_lay, Cond.instanceMethod yX2_lay, Cond.selects RX2 yX2_lay yX2_lay, Cond.code yX2_lay cX2_lay 8 (some .int), Cond.classLink RX2 98 RX1, Cond.instantiable RX1 6, Cond.initialized RX1, Cond.methodLink RX2 79 yX2_checkPatron, Cond.static yX2_checkPatron, Cond.code yX2_checkPatron cX2_checkPatron 1 none, Cond.methodLink RX2 84 yX2_checkWin, Cond.static yX2_checkWin, Cond.code yX2_checkWin cX2_checkWin 1 none, Cond.methodLink RX2 87 yX2_checkBase, Cond.static yX2_checkBase, Cond.code yX2_checkBase cX2_checkBase 1 none, Cond.methodLink RX2 90 yJx4a65c_size_8abf5, Cond.instanceMethod yJx4a65c_size_8abf5, Cond.selects RJx4a65c yJx4a65c_size_8abf5 yJx4a65c_size_8abf5]
def wsL_law0_r12 : List Cond := [Cond.code yJx4a65c_size_8abf5 cJx4a65c_size_8abf5 1 (some .int), Cond.methodLink RX2 100 yX2_broughtBy, Cond.static yX2_broughtBy, Cond.code yX2_broughtBy cX2_broughtBy 3 (some .int), Cond.methodLink RX2 104 yX1_init, Cond.instanceMethod yX1_init, Cond.code yX1_init cX1_init 7 none, Cond.methodLink RX1 1 objectInit, Cond.fieldLink RX1 7 "TavernDice$Wager" "patron" "I", Cond.fieldLink RX1 13 "TavernDice$Wager" "kind" "I", Cond.fieldLink RX1 16 "TavernDice$Wager" "number" "I", Cond.fieldLink RX1 19 "TavernDice$Wager" "stake" "I", Cond.fieldLink RX1 22 "TavernDice$Wager" "brings" "I", Cond.fieldLink RX1 25 "TavernDice$Wager" "ways" "I", Cond.methodLink RX2 107 yJx4a65c_add_9ea2d, Cond.instanceMethod yJx4a65c_add_9ea2d, Cond.selects RJx4a65c yJx4a65c_add_9ea2d yJx4a65c_add_9ea2d, Cond.code yJx4a65c_add_9ea2d cJx4a65c_add_9ea2d 2 (some .boolean), Cond.fieldLink RJx4a65c 63 "java/util/ArrayList" "modCount" "I", Cond.sameField "java/util/ArrayList" "java/util/AbstractList" "modCount" "I", Cond.methodLink RJx4a65c 131 yJx4a65c_add_72be8, Cond.instanceMethod yJx4a65c_add_72be8, Cond.selects RJx4a65c yJx4a65c_add_72be8 yJx4a65c_add_72be8, Cond.code yJx4a65c_add_72be8 cJx4a65c_add_72be8 4 none]
def wsL_law0_r13 : List Cond := [Cond.methodLink RJx4a65c 129 yJx4a65c_grow_d5877, Cond.instanceMethod yJx4a65c_grow_d5877, Cond.selects RJx4a65c yJx4a65c_grow_d5877 yJx4a65c_grow_d5877, Cond.code yJx4a65c_grow_d5877 cJx4a65c_grow_d5877 1 (some (.array (.object "java/lang/Object"))), Cond.methodLink RJx4a65c 69 yJx4a65c_grow_92f84, Cond.instanceMethod yJx4a65c_grow_92f84, Cond.selects RJx4a65c yJx4a65c_grow_92f84 yJx4a65c_grow_92f84, Cond.code yJx4a65c_grow_92f84 cJx4a65c_grow_92f84 4 (some (.array (.object "java/lang/Object"))), Cond.methodLink RJx4a65c 79 Lib.Math.max.name, Cond.classLink RJx4a65c 7 "java/lang/Object", Cond.methodLink RJx4a65c 73 yJ8_newLength_cabcc, Cond.static yJ8_newLength_cabcc, Cond.initialized RJ8, Cond.code yJ8_newLength_cabcc cJ8_newLength_cabcc 4 (some .int), Cond.methodLink RJ8 194 Lib.Math.max.name, Cond.constant RJ8 200 (2147483639), Cond.methodLink RJ8 201 yJ8_hugeLength_7cf53, Cond.static yJ8_hugeLength_7cf53, Cond.code yJ8_hugeLength_7cf53 cJ8_hugeLength_7cf53 3 (some .int), Cond.methodLink RJx4a65c 66 yJ7_copyOf_1904c, Cond.static yJ7_copyOf_1904c, Cond.initialized RJ7, Cond.code yJ7_copyOf_1904c cJ7_copyOf_1904c 2 (some (.array (.object "java/lang/Object"))), Cond.methodLink RJ7 86 ⟨"java/lang/Object", "getClass", "()Ljava/lang/Class;"⟩]
def wsL_law0_r14 : List Cond := [Cond.selects "[Ljava/lang/Object;" ⟨"java/lang/Object", "getClass", "()Ljava/lang/Class;"⟩ ⟨"java/lang/Object", "getClass", "()Ljava/lang/Class;"⟩, Cond.instanceMethod ⟨"java/lang/Object", "getClass", "()Ljava/lang/Class;"⟩, Cond.native ⟨"java/lang/Object", "getClass", "()Ljava/lang/Class;"⟩, Cond.methodLink RJ7 300 yJ7_copyOf_6403c, Cond.static yJ7_copyOf_6403c, Cond.code yJ7_copyOf_6403c cJ7_copyOf_6403c 4 (some (.array (.object "java/lang/Object"))), Cond.classLink RJ7 110 "[Ljava/lang/Object;", Cond.classLink RJ7 2 "java/lang/Object", Cond.methodLink RJ7 304 Lib.Math.min.name, Cond.methodLink RJ7 150 arraycopyName, Cond.native arraycopyName, Cond.static arraycopyName, Cond.initialized "java/lang/System", Cond.methodLink RL 115 yX3_lay, Cond.instanceMethod yX3_lay, Cond.selects RX3 yX3_lay yX3_lay, Cond.code yX3_lay cX3_lay 8 (some .int), Cond.methodLink RX3 118 yX3_isPatron, Cond.static yX3_isPatron, Cond.code yX3_isPatron cX3_isPatron 1 (some .boolean), Cond.methodLink RX3 62 yX3_comes, Cond.instanceMethod yX3_comes, Cond.selects RX3 yX3_comes yX3_comes, Cond.code yX3_comes cX3_comes 6 (some .boolean)]
def wsL_law0_r15 : List Cond := [Cond.methodLink RL 116 yL_takeBack, Cond.static yL_takeBack, Cond.codeWith yL_takeBack cL_takeBack 4 (some .int) [(0, 9, 12, 21)], Cond.methodLink RL 35 yX2_takeBack, Cond.instanceMethod yX2_takeBack, Cond.selects RX2 yX2_takeBack yX2_takeBack, Cond.code yX2_takeBack cX2_takeBack 3 (some .int), Cond.classLink RX2 98 "TavernDice$Wager", Cond.fieldLink RX2 118 "TavernDice$Wager" "patron" "I", Cond.fieldLink RX2 121 "TavernDice$Wager" "stake" "I", Cond.methodLink RX2 111 yX2_checkWager, Cond.instanceMethod yX2_checkWager, Cond.selects RX2 yX2_checkWager yX2_checkWager, Cond.code yX2_checkWager cX2_checkWager 2 none, Cond.methodLink RX2 114 yJx4a65c_remove_915e3, Cond.instanceMethod yJx4a65c_remove_915e3, Cond.selects RJx4a65c yJx4a65c_remove_915e3 yJx4a65c_remove_915e3, Cond.code yJx4a65c_remove_915e3 cJx4a65c_remove_915e3 4 (some (.object "java/lang/Object")), Cond.methodLink RJx4a65c 118 yJ15_checkIndex_7cf53, Cond.static yJ15_checkIndex_7cf53, Cond.initialized RJ15, Cond.code yJ15_checkIndex_7cf53 cJ15_checkIndex_7cf53 2 (some .int), Cond.methodLink RJ15 105 yJ3_checkIndex_8e157, Cond.static yJ3_checkIndex_8e157]
def wsL_law0_r16 : List Cond := [Cond.initialized RJ3, Cond.code yJ3_checkIndex_8e157 cJ3_checkIndex_8e157 3 (some .int), Cond.methodLink RJx4a65c 144 yJx4a65c_fastRemove_b59b0, Cond.instanceMethod yJx4a65c_fastRemove_b59b0, Cond.selects RJx4a65c yJx4a65c_fastRemove_b59b0 yJx4a65c_fastRemove_b59b0, Cond.code yJx4a65c_fastRemove_b59b0 cJx4a65c_fastRemove_b59b0 4 none, Cond.methodLink RJx4a65c 112 arraycopyName, Cond.methodLink RL 118 yX3_takeBack, Cond.instanceMethod yX3_takeBack, Cond.selects RX3 yX3_takeBack yX3_takeBack, Cond.code yX3_takeBack cX3_takeBack 4 (some .int), Cond.methodLink RX3 124 arraycopyName, Cond.methodLink RX3 121 yX3_isWager, Cond.instanceMethod yX3_isWager, Cond.selects RX3 yX3_isWager yX3_isWager, Cond.code yX3_isWager cX3_isWager 2 (some .boolean), Cond.methodLink RL 119 yL_settle, Cond.static yL_settle, Cond.codeWith yL_settle cL_settle 4 (some .int) [(0, 9, 12, 21)], Cond.methodLink RL 38 yX2_settle, Cond.instanceMethod yX2_settle, Cond.selects RX2 yX2_settle yX2_settle, Cond.code yX2_settle cX2_settle 4 (some .int), Cond.fieldLink RX2 134 "TavernDice" "rounds" "I"]
def wsL_law0_r17 : List Cond := [Cond.methodLink RX2 124 yX2_gainOfAll, Cond.instanceMethod yX2_gainOfAll, Cond.selects RX2 yX2_gainOfAll yX2_gainOfAll, Cond.code yX2_gainOfAll cX2_gainOfAll 5 (some .int), Cond.fieldLink RX2 232 "TavernDice$Wager" "kind" "I", Cond.fieldLink RX2 235 "TavernDice$Wager" "number" "I", Cond.fieldLink RX2 140 "TavernDice$Wager" "brings" "I", Cond.methodLink RX2 137 yJx4a65c_get_915e3, Cond.instanceMethod yJx4a65c_get_915e3, Cond.selects RJx4a65c yJx4a65c_get_915e3 yJx4a65c_get_915e3, Cond.code yJx4a65c_get_915e3 cJx4a65c_get_915e3 2 (some (.object "java/lang/Object")), Cond.methodLink RJx4a65c 123 yJx4a65c_elementData_915e3, Cond.instanceMethod yJx4a65c_elementData_915e3, Cond.selects RJx4a65c yJx4a65c_elementData_915e3 yJx4a65c_elementData_915e3, Cond.code yJx4a65c_elementData_915e3 cJx4a65c_elementData_915e3 2 (some (.object "java/lang/Object")), Cond.methodLink RX2 238 yX0_comes, Cond.methodLink RX2 128 yX2_purseBehind, Cond.instanceMethod yX2_purseBehind, Cond.selects RX2 yX2_purseBehind yX2_purseBehind, Cond.code yX2_purseBehind cX2_purseBehind 6 (some .int), Cond.methodLink RX2 131 yJx4a65c_clear_da8c8, Cond.instanceMethod yJx4a65c_clear_da8c8, Cond.selects RJx4a65c yJx4a65c_clear_da8c8 yJx4a65c_clear_da8c8, Cond.code yJx4a65c_clear_da8c8 cJx4a65c_clear_da8c8 4 none]
def wsL_law0_r18 : List Cond := [Cond.methodLink RL 121 yX3_settle, Cond.instanceMethod yX3_settle, Cond.selects RX3 yX3_settle yX3_settle, Cond.code yX3_settle cX3_settle 4 (some .int), Cond.fieldLink RX3 130 "TavernDiceModel" "rounds" "I", Cond.methodLink RX3 92 yX3_gain, Cond.instanceMethod yX3_gain, Cond.selects RX3 yX3_gain yX3_gain, Cond.code yX3_gain cX3_gain 4 (some .int), Cond.methodLink RL 122 yX2_open, Cond.instanceMethod yX2_open, Cond.selects RX2 yX2_open yX2_open, Cond.code yX2_open cX2_open 1 (some .int), Cond.methodLink RL 125 yX3_open, Cond.instanceMethod yX3_open, Cond.selects RX3 yX3_open yX3_open, Cond.code yX3_open cX3_open 1 (some .int), Cond.methodLink RL 126 yX2_bank, Cond.instanceMethod yX2_bank, Cond.selects RX2 yX2_bank yX2_bank, Cond.code yX2_bank cX2_bank 1 (some .int), Cond.methodLink RL 129 yX3_bank, Cond.instanceMethod yX3_bank, Cond.selects RX3 yX3_bank yX3_bank]
def wsL_law0_r19 : List Cond := [Cond.code yX3_bank cX3_bank 1 (some .int), Cond.methodLink RL 130 yX2_rounds, Cond.instanceMethod yX2_rounds, Cond.selects RX2 yX2_rounds yX2_rounds, Cond.code yX2_rounds cX2_rounds 1 (some .int), Cond.methodLink RL 133 yX3_rounds, Cond.instanceMethod yX3_rounds, Cond.selects RX3 yX3_rounds yX3_rounds, Cond.code yX3_rounds cX3_rounds 1 (some .int), Cond.methodLink RL 134 yL_purseOf, Cond.static yL_purseOf, Cond.codeWith yL_purseOf cL_purseOf 4 (some .int) [(0, 9, 12, 21)], Cond.methodLink RL 41 yX2_purseOf, Cond.instanceMethod yX2_purseOf, Cond.selects RX2 yX2_purseOf yX2_purseOf, Cond.code yX2_purseOf cX2_purseOf 2 (some .int), Cond.methodLink RL 136 yX3_purseOf, Cond.instanceMethod yX3_purseOf, Cond.selects RX3 yX3_purseOf yX3_purseOf, Cond.code yX3_purseOf cX3_purseOf 2 (some .int), Cond.methodLink RL 137 yL_patronOf, Cond.static yL_patronOf, Cond.codeWith yL_patronOf cL_patronOf 4 (some .int) [(0, 9, 12, 21)], Cond.methodLink RL 44 yX2_patronOf]
def wsL_law0_r20 : List Cond := [Cond.instanceMethod yX2_patronOf, Cond.selects RX2 yX2_patronOf yX2_patronOf, Cond.code yX2_patronOf cX2_patronOf 2 (some .int), Cond.methodLink RL 139 yX3_patronOf, Cond.instanceMethod yX3_patronOf, Cond.selects RX3 yX3_patronOf yX3_patronOf, Cond.code yX3_patronOf cX3_patronOf 2 (some .int), Cond.methodLink RX3 133 yX3_of, Cond.instanceMethod yX3_of, Cond.selects RX3 yX3_of yX3_of, Cond.code yX3_of cX3_of 3 (some .int), Cond.methodLink RL 140 yL_stakeOf, Cond.static yL_stakeOf, Cond.codeWith yL_stakeOf cL_stakeOf 4 (some .int) [(0, 9, 12, 21)], Cond.methodLink RL 47 yX2_stakeOf, Cond.instanceMethod yX2_stakeOf, Cond.selects RX2 yX2_stakeOf yX2_stakeOf, Cond.code yX2_stakeOf cX2_stakeOf 2 (some .int), Cond.methodLink RL 142 yX3_stakeOf, Cond.instanceMethod yX3_stakeOf, Cond.selects RX3 yX3_stakeOf yX3_stakeOf, Cond.code yX3_stakeOf cX3_stakeOf 2 (some .int), Cond.methodLink RL 143 yL_bringsOf, Cond.static yL_bringsOf]
def wsL_law0_r21 : List Cond := [Cond.codeWith yL_bringsOf cL_bringsOf 4 (some .int) [(0, 9, 12, 21)], Cond.methodLink RL 50 yX2_bringsOf, Cond.instanceMethod yX2_bringsOf, Cond.selects RX2 yX2_bringsOf yX2_bringsOf, Cond.code yX2_bringsOf cX2_bringsOf 2 (some .int), Cond.methodLink RL 145 yX3_bringsOf, Cond.instanceMethod yX3_bringsOf, Cond.selects RX3 yX3_bringsOf yX3_bringsOf, Cond.code yX3_bringsOf cX3_bringsOf 2 (some .int), Cond.methodLink RL 146 yX2_staked, Cond.instanceMethod yX2_staked, Cond.selects RX2 yX2_staked yX2_staked, Cond.code yX2_staked cX2_staked 3 (some .int), Cond.methodLink RL 149 yX3_staked, Cond.instanceMethod yX3_staked, Cond.selects RX3 yX3_staked yX3_staked, Cond.code yX3_staked cX3_staked 1 (some .int), Cond.methodLink RX3 137 yX3_allStakes, Cond.instanceMethod yX3_allStakes, Cond.selects RX3 yX3_allStakes yX3_allStakes, Cond.code yX3_allStakes cX3_allStakes 3 (some .int), Cond.methodLink RL 150 yL_edgeTop, Cond.static yL_edgeTop, Cond.codeWith yL_edgeTop cL_edgeTop 4 (some .int) [(0, 9, 12, 21)]]
def wsL_law0_r22 : List Cond := [Cond.methodLink RL 53 yX2_edgeTop, Cond.instanceMethod yX2_edgeTop, Cond.selects RX2 yX2_edgeTop yX2_edgeTop, Cond.code yX2_edgeTop cX2_edgeTop 2 (some .int), Cond.methodLink RX2 143 yX2_gainOverOutcomes, Cond.instanceMethod yX2_gainOverOutcomes, Cond.selects RX2 yX2_gainOverOutcomes yX2_gainOverOutcomes, Cond.code yX2_gainOverOutcomes cX2_gainOverOutcomes 2 (some .int), Cond.fieldLink RX2 242 "TavernDice$Wager" "ways" "I", Cond.methodLink RX2 164 yX0_gainOver, Cond.instanceMethod yX0_gainOver, Cond.selects RX0 yX0_gainOver yX0_gainOver, Cond.code yX0_gainOver cX0_gainOver 4 (some .int), Cond.methodLink RX2 147 yX2_lowestTop, Cond.instanceMethod yX2_lowestTop, Cond.selects RX2 yX2_lowestTop yX2_lowestTop, Cond.code yX2_lowestTop cX2_lowestTop 2 (some .int), Cond.methodLink RX2 245 yX2_commonDivisor, Cond.static yX2_commonDivisor, Cond.code yX2_commonDivisor cX2_commonDivisor 6 (some .int), Cond.methodLink RX2 248 Lib.Math.abs.name, Cond.static Lib.Math.abs.name, Cond.code Lib.Math.abs.name Lib.Math.abs.code 1 (some .int), Cond.methodLink RX2 251 Lib.Math.max.name]
def wsL_law0_r23 : List Cond := [Cond.methodLink RL 152 yX3_edgeTop, Cond.instanceMethod yX3_edgeTop, Cond.selects RX3 yX3_edgeTop yX3_edgeTop, Cond.code yX3_edgeTop cX3_edgeTop 2 (some .int), Cond.methodLink RX3 83 yX3_edge, Cond.instanceMethod yX3_edge, Cond.selects RX3 yX3_edge yX3_edge, Cond.code yX3_edge cX3_edge 3 (some .int), Cond.methodLink RX3 141 yX3_top, Cond.instanceMethod yX3_top, Cond.selects RX3 yX3_top yX3_top, Cond.code yX3_top cX3_top 2 (some .int), Cond.methodLink RX3 89 yX3_divisor, Cond.static yX3_divisor, Cond.code yX3_divisor cX3_divisor 5 (some .int), Cond.methodLink RX3 86 Lib.Math.abs.name, Cond.methodLink RL 153 yL_edgeBottom, Cond.static yL_edgeBottom, Cond.codeWith yL_edgeBottom cL_edgeBottom 4 (some .int) [(0, 9, 12, 21)], Cond.methodLink RL 56 yX2_edgeBottom, Cond.instanceMethod yX2_edgeBottom, Cond.selects RX2 yX2_edgeBottom yX2_edgeBottom, Cond.code yX2_edgeBottom cX2_edgeBottom 2 (some .int), Cond.methodLink RX2 150 yX2_lowestBottom]
def wsL_law0_r24 : List Cond := [Cond.instanceMethod yX2_lowestBottom, Cond.selects RX2 yX2_lowestBottom yX2_lowestBottom, Cond.code yX2_lowestBottom cX2_lowestBottom 2 (some .int), Cond.methodLink RL 155 yX3_edgeBottom, Cond.instanceMethod yX3_edgeBottom, Cond.selects RX3 yX3_edgeBottom yX3_edgeBottom, Cond.code yX3_edgeBottom cX3_edgeBottom 2 (some .int), Cond.methodLink RX3 144 yX3_bottom, Cond.instanceMethod yX3_bottom, Cond.selects RX3 yX3_bottom yX3_bottom, Cond.code yX3_bottom cX3_bottom 2 (some .int), Cond.methodLink RL 156 yX2_allEdgesTop, Cond.instanceMethod yX2_allEdgesTop, Cond.selects RX2 yX2_allEdgesTop yX2_allEdgesTop, Cond.code yX2_allEdgesTop cX2_allEdgesTop 1 (some .int), Cond.methodLink RX2 153 yX2_gainOfAllOverOutcomes, Cond.instanceMethod yX2_gainOfAllOverOutcomes, Cond.selects RX2 yX2_gainOfAllOverOutcomes yX2_gainOfAllOverOutcomes, Cond.code yX2_gainOfAllOverOutcomes cX2_gainOfAllOverOutcomes 3 (some .int), Cond.methodLink RL 159 yX3_allEdgesTop, Cond.instanceMethod yX3_allEdgesTop, Cond.selects RX3 yX3_allEdgesTop yX3_allEdgesTop, Cond.code yX3_allEdgesTop cX3_allEdgesTop 1 (some .int), Cond.methodLink RX3 147 yX3_edges]
def wsL_law0_r25 : List Cond := [Cond.instanceMethod yX3_edges, Cond.selects RX3 yX3_edges yX3_edges, Cond.code yX3_edges cX3_edges 3 (some .int), Cond.methodLink RL 160 yX2_allEdgesBottom, Cond.instanceMethod yX2_allEdgesBottom, Cond.selects RX2 yX2_allEdgesBottom yX2_allEdgesBottom, Cond.code yX2_allEdgesBottom cX2_allEdgesBottom 1 (some .int), Cond.methodLink RL 163 yX3_allEdgesBottom, Cond.instanceMethod yX3_allEdgesBottom, Cond.selects RX3 yX3_allEdgesBottom yX3_allEdgesBottom, Cond.code yX3_allEdgesBottom cX3_allEdgesBottom 1 (some .int), Cond.methodLink RL 164 yX2_dearestWager, Cond.instanceMethod yX2_dearestWager, Cond.selects RX2 yX2_dearestWager yX2_dearestWager, Cond.code yX2_dearestWager cX2_dearestWager 10 (some .int), Cond.methodLink RL 167 yX3_dearestWager, Cond.instanceMethod yX3_dearestWager, Cond.selects RX3 yX3_dearestWager yX3_dearestWager, Cond.code yX3_dearestWager cX3_dearestWager 1 (some .int), Cond.methodLink RX3 150 yX3_dear, Cond.instanceMethod yX3_dear, Cond.selects RX3 yX3_dear yX3_dear, Cond.code yX3_dear cX3_dear 3 (some .int), Cond.methodLink RL 168 yL_gainAt]
def wsL_law0_r26 : List Cond := [Cond.static yL_gainAt, Cond.codeWith yL_gainAt cL_gainAt 4 (some .int) [(0, 9, 12, 21)], Cond.methodLink RL 59 yX2_gainAt, Cond.instanceMethod yX2_gainAt, Cond.selects RX2 yX2_gainAt yX2_gainAt, Cond.code yX2_gainAt cX2_gainAt 2 (some .int), Cond.methodLink RL 170 yX3_gainAt, Cond.instanceMethod yX3_gainAt, Cond.selects RX3 yX3_gainAt yX3_gainAt, Cond.code yX3_gainAt cX3_gainAt 2 (some .int), Cond.methodLink RL 171 yX2_worstGain, Cond.instanceMethod yX2_worstGain, Cond.selects RX2 yX2_worstGain yX2_worstGain, Cond.code yX2_worstGain cX2_worstGain 1 (some .int), Cond.methodLink RX2 156 yX2_worstOutcome, Cond.instanceMethod yX2_worstOutcome, Cond.selects RX2 yX2_worstOutcome yX2_worstOutcome, Cond.code yX2_worstOutcome cX2_worstOutcome 5 (some .int), Cond.methodLink RL 174 yX3_worstGain, Cond.instanceMethod yX3_worstGain, Cond.selects RX3 yX3_worstGain yX3_worstGain, Cond.code yX3_worstGain cX3_worstGain 1 (some .int), Cond.methodLink RX3 153 yX3_worst, Cond.instanceMethod yX3_worst]
def wsL_law0_r27 : List Cond := [Cond.selects RX3 yX3_worst yX3_worst, Cond.code yX3_worst cX3_worst 3 (some .int), Cond.methodLink RL 175 yX2_worstOutcome, Cond.methodLink RL 178 yX3_worstOutcome, Cond.instanceMethod yX3_worstOutcome, Cond.selects RX3 yX3_worstOutcome yX3_worstOutcome, Cond.code yX3_worstOutcome cX3_worstOutcome 1 (some .int), Cond.methodLink RL 179 yL_purseAt, Cond.static yL_purseAt, Cond.codeWith yL_purseAt cL_purseAt 5 (some .int) [(0, 10, 13, 21)], Cond.methodLink RL 62 yX2_purseAt, Cond.instanceMethod yX2_purseAt, Cond.selects RX2 yX2_purseAt yX2_purseAt, Cond.code yX2_purseAt cX2_purseAt 3 (some .int), Cond.methodLink RL 181 yX3_purseAt, Cond.instanceMethod yX3_purseAt, Cond.selects RX3 yX3_purseAt yX3_purseAt, Cond.code yX3_purseAt cX3_purseAt 3 (some .int), Cond.methodLink RX3 95 yX3_behind, Cond.instanceMethod yX3_behind, Cond.selects RX3 yX3_behind yX3_behind, Cond.code yX3_behind cX3_behind 5 (some .int), Cond.methodLink RL 182 yL_leastPurse, Cond.static yL_leastPurse]
def wsL_law0_r28 : List Cond := [Cond.codeWith yL_leastPurse cL_leastPurse 4 (some .int) [(0, 9, 12, 21)], Cond.methodLink RL 65 yX2_leastPurse, Cond.instanceMethod yX2_leastPurse, Cond.selects RX2 yX2_leastPurse yX2_leastPurse, Cond.code yX2_leastPurse cX2_leastPurse 4 (some .int), Cond.methodLink RX2 159 Lib.Math.min.name, Cond.methodLink RL 184 yX3_leastPurse, Cond.instanceMethod yX3_leastPurse, Cond.selects RX3 yX3_leastPurse yX3_leastPurse, Cond.code yX3_leastPurse cX3_leastPurse 2 (some .int), Cond.methodLink RX3 156 yX3_least, Cond.instanceMethod yX3_least, Cond.selects RX3 yX3_least yX3_least, Cond.code yX3_least cX3_least 4 (some .int), Cond.methodLink RL 185 yL_isHedged, Cond.static yL_isHedged, Cond.codeWith yL_isHedged cL_isHedged 4 (some .int) [(0, 16, 19, 21)], Cond.methodLink RL 68 yX2_isHedged, Cond.instanceMethod yX2_isHedged, Cond.selects RX2 yX2_isHedged yX2_isHedged, Cond.code yX2_isHedged cX2_isHedged 4 (some .boolean), Cond.methodLink RL 187 yX3_isHedged, Cond.instanceMethod yX3_isHedged, Cond.selects RX3 yX3_isHedged yX3_isHedged]
def wsL_law0_r29 : List Cond := [Cond.code yX3_isHedged cX3_isHedged 2 (some .boolean), Cond.methodLink RX3 159 yX3_hedged, Cond.instanceMethod yX3_hedged, Cond.selects RX3 yX3_hedged yX3_hedged, Cond.code yX3_hedged cX3_hedged 3 (some .boolean), Cond.methodLink RL 188 yL_hedgeFor, Cond.static yL_hedgeFor, Cond.codeWith yL_hedgeFor cL_hedgeFor 6 (some .int) [(0, 12, 15, 21), (0, 12, 19, 13)], Cond.methodLink RL 72 yX2_hedgeFor, Cond.instanceMethod yX2_hedgeFor, Cond.selects RX2 yX2_hedgeFor yX2_hedgeFor, Cond.code yX2_hedgeFor cX2_hedgeFor 8 (some .int), Cond.methodLink RL 190 yX3_hedgeFor, Cond.instanceMethod yX3_hedgeFor, Cond.selects RX3 yX3_hedgeFor yX3_hedgeFor, Cond.code yX3_hedgeFor cX3_hedgeFor 4 (some .int), Cond.methodLink RX3 162 yX3_hedge, Cond.instanceMethod yX3_hedge, Cond.selects RX3 yX3_hedge yX3_hedge, Cond.code yX3_hedge cX3_hedge 5 (some .int), Cond.methodLink RL 191 yL_fairWin, Cond.static yL_fairWin, Cond.codeWith yL_fairWin cL_fairWin 6 (some .int) [(0, 12, 15, 13)], Cond.methodLink RL 75 yX2_fairWin]
def wsL_law0_r30 : List Cond := [Cond.instanceMethod yX2_fairWin, Cond.selects RX2 yX2_fairWin yX2_fairWin, Cond.code yX2_fairWin cX2_fairWin 6 (some .int), Cond.methodLink RL 193 yX3_fairWin, Cond.instanceMethod yX3_fairWin, Cond.selects RX3 yX3_fairWin yX3_fairWin, Cond.code yX3_fairWin cX3_fairWin 6 (some .int), Cond.methodLink RL 194 yX2_digest, Cond.instanceMethod yX2_digest, Cond.selects RX2 yX2_digest yX2_digest, Cond.code yX2_digest cX2_digest 4 (some .long), Cond.constantLong RX2 167 (2141), Cond.methodLink RX2 169 yX2_dice, Cond.methodLink RX2 171 yX2_digested, Cond.static yX2_digested, Cond.code yX2_digested cX2_digested 4 (some .long), Cond.constantLong RX2 230 (31), Cond.methodLink RX2 175 yX2_outcomes, Cond.methodLink RX2 177 yX2_open, Cond.methodLink RX2 180 yX2_bank, Cond.methodLink RX2 182 yX2_rounds, Cond.methodLink RX2 184 yX2_staked, Cond.methodLink RX2 187 yX2_allEdgesTop, Cond.methodLink RX2 190 yX2_allEdgesBottom]
def wsL_law0_r31 : List Cond := [Cond.methodLink RX2 193 yX2_dearestWager, Cond.methodLink RX2 196 yX2_worstGain, Cond.methodLink RX2 199 yX2_digestOfWagers, Cond.instanceMethod yX2_digestOfWagers, Cond.selects RX2 yX2_digestOfWagers yX2_digestOfWagers, Cond.code yX2_digestOfWagers cX2_digestOfWagers 6 (some .long), Cond.methodLink RX2 206 yX2_patronOf, Cond.methodLink RX2 209 yX2_stakeOf, Cond.methodLink RX2 212 yX2_bringsOf, Cond.methodLink RX2 215 yX2_edgeTop, Cond.methodLink RX2 218 yX2_edgeBottom, Cond.methodLink RX2 203 yX2_digestOfPatrons, Cond.instanceMethod yX2_digestOfPatrons, Cond.selects RX2 yX2_digestOfPatrons yX2_digestOfPatrons, Cond.code yX2_digestOfPatrons cX2_digestOfPatrons 6 (some .long), Cond.methodLink RX2 221 yX2_purseOf, Cond.methodLink RX2 224 yX2_leastPurse, Cond.methodLink RX2 227 yX2_isHedged, Cond.methodLink RL 198 yX3_digest, Cond.instanceMethod yX3_digest, Cond.selects RX3 yX3_digest yX3_digest, Cond.code yX3_digest cX3_digest 9 (some .long), Cond.constantLong RX3 166 (2141), Cond.constantLong RX3 168 (31)]
def wsL_law0 : List Cond := (wsL_law0_r1 ++ (wsL_law0_r2 ++ (wsL_law0_r3 ++ (wsL_law0_r4 ++ (wsL_law0_r5 ++ (wsL_law0_r6 ++ (wsL_law0_r7 ++ (wsL_law0_r8 ++ (wsL_law0_r9 ++ (wsL_law0_r10 ++ (wsL_law0_r11 ++ (wsL_law0_r12 ++ (wsL_law0_r13 ++ (wsL_law0_r14 ++ (wsL_law0_r15 ++ (wsL_law0_r16 ++ (wsL_law0_r17 ++ (wsL_law0_r18 ++ (wsL_law0_r19 ++ (wsL_law0_r20 ++ (wsL_law0_r21 ++ (wsL_law0_r22 ++ (wsL_law0_r23 ++ (wsL_law0_r24 ++ (wsL_law0_r25 ++ (wsL_law0_r26 ++ (wsL_law0_r27 ++ (wsL_law0_r28 ++ (wsL_law0_r29 ++ (wsL_law0_r30 ++ wsL_law0_r31)))))))))))))))))))))))))))))) ++ wsX20 ++ wsX30 ++ wsX00 ++ wsJx4a65c0 ++ wsX10 ++ ([] : List Cond)
def wsL_law : List Cond := wsL_law0 ++ (vx_atS RX2 42 "java/lang/IllegalArgumentException" ["java/lang/RuntimeException", "java/lang/Exception"]).filter goodWord ++ (vx_atS RX2 53 "java/lang/IllegalStateException" ["java/lang/RuntimeException", "java/lang/Exception"]).filter goodWord ++ (vx_atS RX2 258 "java/lang/IndexOutOfBoundsException" ["java/lang/RuntimeException", "java/lang/Exception"]).filter goodWord
end
section
/-! where the words stand in the tables; by program -/
theorem tb_1 : ∀ w ∈ tables_1_1, w ∈ lw_tbl := fun w h => List.mem_append_right _ (List.mem_append_left _ h)
theorem tb_2 : ∀ w ∈ tables_1_2, w ∈ lw_tbl := fun w h => List.mem_append_right _ (List.mem_append_right _ (List.mem_append_left _ h))
theorem tb_3 : ∀ w ∈ tables_1_3, w ∈ lw_tbl := fun w h => List.mem_append_right _ (List.mem_append_right _ (List.mem_append_right _ (List.mem_append_left _ h)))
theorem tb_4 : ∀ w ∈ tables_1_4, w ∈ lw_tbl := fun w h => List.mem_append_right _ (List.mem_append_right _ (List.mem_append_right _ (List.mem_append_right _ h)))
theorem tb_s1 : ∀ q ∈ lw_privs_1, Cond.selects q.1.cls q.1 q.1 ∈ lw_tbl := fun q h => List.mem_append_left _ (List.mem_map.mpr ⟨q, List.mem_append_left _ h, rfl⟩)
theorem tb_s2 : ∀ q ∈ lw_privs_2, Cond.selects q.1.cls q.1 q.1 ∈ lw_tbl := fun q h => List.mem_append_left _ (List.mem_map.mpr ⟨q, List.mem_append_right _ (List.mem_append_left _ h), rfl⟩)
theorem tb_s3 : ∀ q ∈ lw_privs_3, Cond.selects q.1.cls q.1 q.1 ∈ lw_tbl := fun q h => List.mem_append_left _ (List.mem_map.mpr ⟨q, List.mem_append_right _ (List.mem_append_right _ h), rfl⟩)
theorem mt_1_0 : Cond.classLink RL 8 RX2 ∈ lw_tbl := tb_1 _ (List.mem_of_getElem? (i := 21) rfl)
theorem mt_1_1 : Cond.instantiable RX2 5 ∈ lw_tbl := tb_1 _ (List.mem_of_getElem? (i := 22) rfl)
theorem mt_1_2 : Cond.initialized RX2 ∈ lw_tbl := tb_1 _ (List.mem_of_getElem? (i := 1) rfl)
theorem mt_1_3 : Cond.classLink RL 79 RX3 ∈ lw_tbl := tb_3 _ (List.mem_of_getElem? (i := 156) rfl)
theorem mt_1_4 : Cond.instantiable RX3 15 ∈ lw_tbl := tb_3 _ (List.mem_of_getElem? (i := 157) rfl)
theorem mt_1_5 : Cond.initialized RX3 ∈ lw_tbl := tb_1 _ (List.mem_of_getElem? (i := 7) rfl)
theorem mt_1_6 : Cond.arrayClass .long ∈ lw_tbl := tb_4 _ (List.mem_of_getElem? (i := 210) rfl)
theorem mt_1_7 : Cond.arrayClass .double ∈ lw_tbl := tb_4 _ (List.mem_of_getElem? (i := 211) rfl)
theorem mt_1_8 : Cond.methodLink RL 78 yX2_init ∈ lw_tbl := tb_1 _ (List.mem_of_getElem? (i := 23) rfl)
theorem mt_1_9 : Cond.instanceMethod yX2_init ∈ lw_tbl := tb_1 _ (List.mem_of_getElem? (i := 24) rfl)
theorem mt_1_10 : Cond.code yX2_init cX2_init 2 none ∈ lw_tbl := tb_1 _ (List.mem_of_getElem? (i := 25) rfl)
theorem mt_1_11 : Cond.methodLink RX2 3 objectInit ∈ lw_tbl := tb_1 _ (List.mem_of_getElem? (i := 26) rfl)
theorem mt_1_12 : Cond.instanceMethod objectInit ∈ lw_tbl := tb_1 _ (List.mem_of_getElem? (i := 27) rfl)
theorem mt_1_13 : Cond.code objectInit ⟨#[0xb1]⟩ 1 none ∈ lw_tbl := tb_1 _ (List.mem_of_getElem? (i := 28) rfl)
theorem mt_1_14 : Cond.classLink RX2 9 RX0 ∈ lw_tbl := tb_1 _ (List.mem_of_getElem? (i := 29) rfl)
theorem mt_1_15 : Cond.instantiable RX0 4 ∈ lw_tbl := tb_1 _ (List.mem_of_getElem? (i := 30) rfl)
theorem mt_1_16 : Cond.initialized RX0 ∈ lw_tbl := tb_1 _ (List.mem_of_getElem? (i := 2) rfl)
theorem mt_1_17 : Cond.fieldLink RX2 12 "TavernDice" "dice" "LTavernDice$Dice;" ∈ lw_tbl := tb_1 _ (List.mem_of_getElem? (i := 92) rfl)
theorem mt_1_18 : Cond.classLink RX2 16 RJx4a65c ∈ lw_tbl := tb_1 _ (List.mem_of_getElem? (i := 66) rfl)
theorem mt_1_19 : Cond.instantiable RJx4a65c 3 ∈ lw_tbl := tb_1 _ (List.mem_of_getElem? (i := 67) rfl)
theorem mt_1_20 : Cond.initialized RJx4a65c ∈ lw_tbl := tb_1 _ (List.mem_of_getElem? (i := 6) rfl)
theorem mt_1_21 : Cond.fieldLink RX2 19 "TavernDice" "wagers" "Ljava/util/ArrayList;" ∈ lw_tbl := tb_1 _ (List.mem_of_getElem? (i := 93) rfl)
theorem mt_1_22 : Cond.arrayClass .int ∈ lw_tbl := tb_1 _ (List.mem_of_getElem? (i := 65) rfl)
theorem mt_1_23 : Cond.fieldLink RX2 23 "TavernDice" "purses" "[I" ∈ lw_tbl := tb_1 _ (List.mem_of_getElem? (i := 94) rfl)
theorem mtr_1 : ∀ w ∈ wsL_law0_r1, w ∈ lw_tbl := List.forall_mem_cons.mpr ⟨mt_1_0, List.forall_mem_cons.mpr ⟨mt_1_1, List.forall_mem_cons.mpr ⟨mt_1_2, List.forall_mem_cons.mpr ⟨mt_1_3, List.forall_mem_cons.mpr ⟨mt_1_4, List.forall_mem_cons.mpr ⟨mt_1_5, List.forall_mem_cons.mpr ⟨mt_1_6, List.forall_mem_cons.mpr ⟨mt_1_7, List.forall_mem_cons.mpr ⟨mt_1_8, List.forall_mem_cons.mpr ⟨mt_1_9, List.forall_mem_cons.mpr ⟨mt_1_10, List.forall_mem_cons.mpr ⟨mt_1_11, List.forall_mem_cons.mpr ⟨mt_1_12, List.forall_mem_cons.mpr ⟨mt_1_13, List.forall_mem_cons.mpr ⟨mt_1_14, List.forall_mem_cons.mpr ⟨mt_1_15, List.forall_mem_cons.mpr ⟨mt_1_16, List.forall_mem_cons.mpr ⟨mt_1_17, List.forall_mem_cons.mpr ⟨mt_1_18, List.forall_mem_cons.mpr ⟨mt_1_19, List.forall_mem_cons.mpr ⟨mt_1_20, List.forall_mem_cons.mpr ⟨mt_1_21, List.forall_mem_cons.mpr ⟨mt_1_22, List.forall_mem_cons.mpr ⟨mt_1_23, fun _ h => absurd h List.not_mem_nil⟩⟩⟩⟩⟩⟩⟩⟩⟩⟩⟩⟩⟩⟩⟩⟩⟩⟩⟩⟩⟩⟩⟩⟩
theorem mt_2_0 : Cond.fieldLink RX2 27 "TavernDice" "bank" "I" ∈ lw_tbl := tb_1 _ (List.mem_of_getElem? (i := 95) rfl)
theorem mt_2_1 : Cond.methodLink RX2 11 yX0_init ∈ lw_tbl := tb_1 _ (List.mem_of_getElem? (i := 31) rfl)
theorem mt_2_2 : Cond.instanceMethod yX0_init ∈ lw_tbl := tb_1 _ (List.mem_of_getElem? (i := 32) rfl)
theorem mt_2_3 : Cond.code yX0_init cX0_init 1 none ∈ lw_tbl := tb_1 _ (List.mem_of_getElem? (i := 33) rfl)
theorem mt_2_4 : Cond.methodLink RX0 3 objectInit ∈ lw_tbl := tb_1 _ (List.mem_of_getElem? (i := 34) rfl)
theorem mt_2_5 : Cond.fieldLink RX0 9 "TavernDice$Dice" "sums" "[I" ∈ lw_tbl := tb_1 _ (List.mem_of_getElem? (i := 49) rfl)
theorem mt_2_6 : Cond.fieldLink RX0 15 "TavernDice$Dice" "faces" "[I" ∈ lw_tbl := tb_1 _ (List.mem_of_getElem? (i := 51) rfl)
theorem mt_2_7 : Cond.methodLink RX0 18 yX0_layOut ∈ lw_tbl := tb_1 _ (List.mem_of_getElem? (i := 35) rfl)
theorem mt_2_8 : Cond.instanceMethod yX0_layOut ∈ lw_tbl := tb_1 _ (List.mem_of_getElem? (i := 36) rfl)
theorem mt_2_9 : Cond.selects RX0 yX0_layOut yX0_layOut ∈ lw_tbl := tb_1 _ (List.mem_of_getElem? (i := 37) rfl)
theorem mt_2_10 : Cond.code yX0_layOut cX0_layOut 7 none ∈ lw_tbl := tb_1 _ (List.mem_of_getElem? (i := 38) rfl)
theorem mt_2_11 : Cond.fieldLink RX0 22 "TavernDice$Dice" "count" "I" ∈ lw_tbl := tb_1 _ (List.mem_of_getElem? (i := 52) rfl)
theorem mt_2_12 : Cond.fieldLink RX0 26 "TavernDice$Dice" "outcomes" "I" ∈ lw_tbl := tb_1 _ (List.mem_of_getElem? (i := 54) rfl)
theorem mt_2_13 : Cond.methodLink RX0 29 Lib.Math.min.name ∈ lw_tbl := tb_1 _ (List.mem_of_getElem? (i := 39) rfl)
theorem mt_2_14 : Cond.static Lib.Math.min.name ∈ lw_tbl := tb_1 _ (List.mem_of_getElem? (i := 40) rfl)
theorem mt_2_15 : Cond.initialized "java/lang/Math" ∈ lw_tbl := tb_1 _ (List.mem_of_getElem? (i := 3) rfl)
theorem mt_2_16 : Cond.code Lib.Math.min.name Lib.Math.min.code 2 (some .int) ∈ lw_tbl := tb_1 _ (List.mem_of_getElem? (i := 41) rfl)
theorem mt_2_17 : Cond.methodLink RX0 35 yX0_addOutcome ∈ lw_tbl := tb_1 _ (List.mem_of_getElem? (i := 42) rfl)
theorem mt_2_18 : Cond.instanceMethod yX0_addOutcome ∈ lw_tbl := tb_1 _ (List.mem_of_getElem? (i := 44) rfl)
theorem mt_2_19 : Cond.selects RX0 yX0_addOutcome yX0_addOutcome ∈ lw_tbl := tb_s1 _ (List.mem_of_getElem? (i := 0) rfl)
theorem mt_2_20 : Cond.code yX0_addOutcome cX0_addOutcome 4 none ∈ lw_tbl := tb_1 _ (List.mem_of_getElem? (i := 45) rfl)
theorem mt_2_21 : Cond.methodLink RX0 38 yX0_bitOf ∈ lw_tbl := tb_1 _ (List.mem_of_getElem? (i := 46) rfl)
theorem mt_2_22 : Cond.static yX0_bitOf ∈ lw_tbl := tb_1 _ (List.mem_of_getElem? (i := 47) rfl)
theorem mt_2_23 : Cond.code yX0_bitOf cX0_bitOf 1 (some .int) ∈ lw_tbl := tb_1 _ (List.mem_of_getElem? (i := 48) rfl)
theorem mtr_2 : ∀ w ∈ wsL_law0_r2, w ∈ lw_tbl := List.forall_mem_cons.mpr ⟨mt_2_0, List.forall_mem_cons.mpr ⟨mt_2_1, List.forall_mem_cons.mpr ⟨mt_2_2, List.forall_mem_cons.mpr ⟨mt_2_3, List.forall_mem_cons.mpr ⟨mt_2_4, List.forall_mem_cons.mpr ⟨mt_2_5, List.forall_mem_cons.mpr ⟨mt_2_6, List.forall_mem_cons.mpr ⟨mt_2_7, List.forall_mem_cons.mpr ⟨mt_2_8, List.forall_mem_cons.mpr ⟨mt_2_9, List.forall_mem_cons.mpr ⟨mt_2_10, List.forall_mem_cons.mpr ⟨mt_2_11, List.forall_mem_cons.mpr ⟨mt_2_12, List.forall_mem_cons.mpr ⟨mt_2_13, List.forall_mem_cons.mpr ⟨mt_2_14, List.forall_mem_cons.mpr ⟨mt_2_15, List.forall_mem_cons.mpr ⟨mt_2_16, List.forall_mem_cons.mpr ⟨mt_2_17, List.forall_mem_cons.mpr ⟨mt_2_18, List.forall_mem_cons.mpr ⟨mt_2_19, List.forall_mem_cons.mpr ⟨mt_2_20, List.forall_mem_cons.mpr ⟨mt_2_21, List.forall_mem_cons.mpr ⟨mt_2_22, List.forall_mem_cons.mpr ⟨mt_2_23, fun _ h => absurd h List.not_mem_nil⟩⟩⟩⟩⟩⟩⟩⟩⟩⟩⟩⟩⟩⟩⟩⟩⟩⟩⟩⟩⟩⟩⟩⟩
theorem mt_3_0 : Cond.methodLink RX2 18 yJx4a65c_init_da8c8 ∈ lw_tbl := tb_1 _ (List.mem_of_getElem? (i := 68) rfl)
theorem mt_3_1 : Cond.instanceMethod yJx4a65c_init_da8c8 ∈ lw_tbl := tb_1 _ (List.mem_of_getElem? (i := 69) rfl)
theorem mt_3_2 : Cond.code yJx4a65c_init_da8c8 cJx4a65c_init_da8c8 1 none ∈ lw_tbl := tb_1 _ (List.mem_of_getElem? (i := 70) rfl)
theorem mt_3_3 : Cond.fieldLink RJx4a65c 39 "java/util/ArrayList" "DEFAULTCAPACITY_EMPTY_ELEMENTDATA" "[Ljava/lang/Object;" ∈ lw_tbl := tb_1 _ (List.mem_of_getElem? (i := 78) rfl)
theorem mt_3_4 : Cond.fieldLink RJx4a65c 9 "java/util/ArrayList" "elementData" "[Ljava/lang/Object;" ∈ lw_tbl := tb_1 _ (List.mem_of_getElem? (i := 80) rfl)
theorem mt_3_5 : Cond.methodLink RJx4a65c 1 yJxc12de_init_da8c8 ∈ lw_tbl := tb_1 _ (List.mem_of_getElem? (i := 71) rfl)
theorem mt_3_6 : Cond.instanceMethod yJxc12de_init_da8c8 ∈ lw_tbl := tb_1 _ (List.mem_of_getElem? (i := 72) rfl)
theorem mt_3_7 : Cond.initialized RJxc12de ∈ lw_tbl := tb_1 _ (List.mem_of_getElem? (i := 5) rfl)
theorem mt_3_8 : Cond.code yJxc12de_init_da8c8 cJxc12de_init_da8c8 1 none ∈ lw_tbl := tb_1 _ (List.mem_of_getElem? (i := 73) rfl)
theorem mt_3_9 : Cond.fieldLink RJxc12de 7 "java/util/AbstractList" "modCount" "I" ∈ lw_tbl := tb_1 _ (List.mem_of_getElem? (i := 82) rfl)
theorem mt_3_10 : Cond.methodLink RJxc12de 1 yJxa1e45_init_da8c8 ∈ lw_tbl := tb_1 _ (List.mem_of_getElem? (i := 74) rfl)
theorem mt_3_11 : Cond.instanceMethod yJxa1e45_init_da8c8 ∈ lw_tbl := tb_1 _ (List.mem_of_getElem? (i := 75) rfl)
theorem mt_3_12 : Cond.initialized RJxa1e45 ∈ lw_tbl := tb_1 _ (List.mem_of_getElem? (i := 4) rfl)
theorem mt_3_13 : Cond.code yJxa1e45_init_da8c8 cJxa1e45_init_da8c8 1 none ∈ lw_tbl := tb_1 _ (List.mem_of_getElem? (i := 76) rfl)
theorem mt_3_14 : Cond.methodLink RJxa1e45 1 objectInit ∈ lw_tbl := tb_1 _ (List.mem_of_getElem? (i := 77) rfl)
theorem mt_3_15 : Cond.methodLink RL 81 yX3_init ∈ lw_tbl := tb_3 _ (List.mem_of_getElem? (i := 158) rfl)
theorem mt_3_16 : Cond.instanceMethod yX3_init ∈ lw_tbl := tb_3 _ (List.mem_of_getElem? (i := 159) rfl)
theorem mt_3_17 : Cond.code yX3_init cX3_init 1 none ∈ lw_tbl := tb_3 _ (List.mem_of_getElem? (i := 160) rfl)
theorem mt_3_18 : Cond.methodLink RX3 3 objectInit ∈ lw_tbl := tb_3 _ (List.mem_of_getElem? (i := 161) rfl)
theorem mt_3_19 : Cond.fieldLink RX3 9 "TavernDiceModel" "faces" "[I" ∈ lw_tbl := tb_3 _ (List.mem_of_getElem? (i := 163) rfl)
theorem mt_3_20 : Cond.fieldLink RX3 13 "TavernDiceModel" "dice" "I" ∈ lw_tbl := tb_3 _ (List.mem_of_getElem? (i := 164) rfl)
theorem mt_3_21 : Cond.fieldLink RX3 17 "TavernDiceModel" "outcomes" "I" ∈ lw_tbl := tb_3 _ (List.mem_of_getElem? (i := 165) rfl)
theorem mt_3_22 : Cond.fieldLink RX3 20 "TavernDiceModel" "purse" "[I" ∈ lw_tbl := tb_3 _ (List.mem_of_getElem? (i := 166) rfl)
theorem mt_3_23 : Cond.fieldLink RX3 23 "TavernDiceModel" "bank" "I" ∈ lw_tbl := tb_3 _ (List.mem_of_getElem? (i := 167) rfl)
theorem mtr_3 : ∀ w ∈ wsL_law0_r3, w ∈ lw_tbl := List.forall_mem_cons.mpr ⟨mt_3_0, List.forall_mem_cons.mpr ⟨mt_3_1, List.forall_mem_cons.mpr ⟨mt_3_2, List.forall_mem_cons.mpr ⟨mt_3_3, List.forall_mem_cons.mpr ⟨mt_3_4, List.forall_mem_cons.mpr ⟨mt_3_5, List.forall_mem_cons.mpr ⟨mt_3_6, List.forall_mem_cons.mpr ⟨mt_3_7, List.forall_mem_cons.mpr ⟨mt_3_8, List.forall_mem_cons.mpr ⟨mt_3_9, List.forall_mem_cons.mpr ⟨mt_3_10, List.forall_mem_cons.mpr ⟨mt_3_11, List.forall_mem_cons.mpr ⟨mt_3_12, List.forall_mem_cons.mpr ⟨mt_3_13, List.forall_mem_cons.mpr ⟨mt_3_14, List.forall_mem_cons.mpr ⟨mt_3_15, List.forall_mem_cons.mpr ⟨mt_3_16, List.forall_mem_cons.mpr ⟨mt_3_17, List.forall_mem_cons.mpr ⟨mt_3_18, List.forall_mem_cons.mpr ⟨mt_3_19, List.forall_mem_cons.mpr ⟨mt_3_20, List.forall_mem_cons.mpr ⟨mt_3_21, List.forall_mem_cons.mpr ⟨mt_3_22, List.forall_mem_cons.mpr ⟨mt_3_23, fun _ h => absurd h List.not_mem_nil⟩⟩⟩⟩⟩⟩⟩⟩⟩⟩⟩⟩⟩⟩⟩⟩⟩⟩⟩⟩⟩⟩⟩⟩
theorem mt_4_0 : Cond.fieldLink RX3 26 "TavernDiceModel" "who" "[I" ∈ lw_tbl := tb_3 _ (List.mem_of_getElem? (i := 170) rfl)
theorem mt_4_1 : Cond.fieldLink RX3 29 "TavernDiceModel" "kind" "[I" ∈ lw_tbl := tb_3 _ (List.mem_of_getElem? (i := 171) rfl)
theorem mt_4_2 : Cond.fieldLink RX3 32 "TavernDiceModel" "number" "[I" ∈ lw_tbl := tb_3 _ (List.mem_of_getElem? (i := 172) rfl)
theorem mt_4_3 : Cond.fieldLink RX3 35 "TavernDiceModel" "stake" "[I" ∈ lw_tbl := tb_3 _ (List.mem_of_getElem? (i := 173) rfl)
theorem mt_4_4 : Cond.fieldLink RX3 38 "TavernDiceModel" "brings" "[I" ∈ lw_tbl := tb_3 _ (List.mem_of_getElem? (i := 174) rfl)
theorem mt_4_5 : Cond.arrayClass .boolean ∈ lw_tbl := tb_3 _ (List.mem_of_getElem? (i := 208) rfl)
theorem mt_4_6 : Cond.fieldLink RX3 41 "TavernDiceModel" "isHit" "[Z" ∈ lw_tbl := tb_3 _ (List.mem_of_getElem? (i := 175) rfl)
theorem mt_4_7 : Cond.fieldLink RX3 45 "TavernDiceModel" "sums" "[I" ∈ lw_tbl := tb_3 _ (List.mem_of_getElem? (i := 176) rfl)
theorem mt_4_8 : Cond.methodLink RL 82 yL_setDice ∈ lw_tbl := tb_2 _ (List.mem_of_getElem? (i := 124) rfl)
theorem mt_4_9 : Cond.static yL_setDice ∈ lw_tbl := tb_2 _ (List.mem_of_getElem? (i := 125) rfl)
theorem mt_4_10 : Cond.initialized RL ∈ lw_tbl := tb_1 _ (List.mem_of_getElem? (i := 0) rfl)
theorem mt_4_11 : Cond.codeWith yL_setDice cL_setDice 6 (some .int) [(0, 12, 15, 13), (0, 12, 19, 15)] ∈ lw_tbl := tb_2 _ (List.mem_of_getElem? (i := 126) rfl)
theorem mt_4_12 : Cond.classLink RL 13 "java/lang/IllegalArgumentException" ∈ lw_tbl := tb_2 _ (List.mem_of_getElem? (i := 127) rfl)
theorem mt_4_13 : Cond.classLink RL 15 "java/lang/IllegalStateException" ∈ lw_tbl := tb_2 _ (List.mem_of_getElem? (i := 128) rfl)
theorem mt_4_14 : Cond.methodLink RL 7 yX2_setDice ∈ lw_tbl := tb_2 _ (List.mem_of_getElem? (i := 129) rfl)
theorem mt_4_15 : Cond.instanceMethod yX2_setDice ∈ lw_tbl := tb_2 _ (List.mem_of_getElem? (i := 130) rfl)
theorem mt_4_16 : Cond.selects RX2 yX2_setDice yX2_setDice ∈ lw_tbl := tb_2 _ (List.mem_of_getElem? (i := 131) rfl)
theorem mt_4_17 : Cond.code yX2_setDice cX2_setDice 4 (some .int) ∈ lw_tbl := tb_2 _ (List.mem_of_getElem? (i := 132) rfl)
theorem mt_4_18 : Cond.classLink RX2 38 "java/lang/IllegalArgumentException" ∈ lw_tbl := tb_2 _ (List.mem_of_getElem? (i := 139) rfl)
theorem mt_4_19 : Cond.initialized "java/lang/IllegalArgumentException" ∈ lw_tbl := tb_1 _ (List.mem_of_getElem? (i := 11) rfl)
theorem mt_4_20 : Cond.classLink RX2 49 "java/lang/IllegalStateException" ∈ lw_tbl := tb_2 _ (List.mem_of_getElem? (i := 159) rfl)
theorem mt_4_21 : Cond.initialized "java/lang/IllegalStateException" ∈ lw_tbl := tb_1 _ (List.mem_of_getElem? (i := 12) rfl)
theorem mt_4_22 : Cond.fieldLink RX2 58 "TavernDice$Dice" "outcomes" "I" ∈ lw_tbl := tb_1 _ (List.mem_of_getElem? (i := 55) rfl)
theorem mt_4_23 : Cond.methodLink RX2 31 yX2_isDie ∈ lw_tbl := tb_2 _ (List.mem_of_getElem? (i := 133) rfl)
theorem mtr_4 : ∀ w ∈ wsL_law0_r4, w ∈ lw_tbl := List.forall_mem_cons.mpr ⟨mt_4_0, List.forall_mem_cons.mpr ⟨mt_4_1, List.forall_mem_cons.mpr ⟨mt_4_2, List.forall_mem_cons.mpr ⟨mt_4_3, List.forall_mem_cons.mpr ⟨mt_4_4, List.forall_mem_cons.mpr ⟨mt_4_5, List.forall_mem_cons.mpr ⟨mt_4_6, List.forall_mem_cons.mpr ⟨mt_4_7, List.forall_mem_cons.mpr ⟨mt_4_8, List.forall_mem_cons.mpr ⟨mt_4_9, List.forall_mem_cons.mpr ⟨mt_4_10, List.forall_mem_cons.mpr ⟨mt_4_11, List.forall_mem_cons.mpr ⟨mt_4_12, List.forall_mem_cons.mpr ⟨mt_4_13, List.forall_mem_cons.mpr ⟨mt_4_14, List.forall_mem_cons.mpr ⟨mt_4_15, List.forall_mem_cons.mpr ⟨mt_4_16, List.forall_mem_cons.mpr ⟨mt_4_17, List.forall_mem_cons.mpr ⟨mt_4_18, List.forall_mem_cons.mpr ⟨mt_4_19, List.forall_mem_cons.mpr ⟨mt_4_20, List.forall_mem_cons.mpr ⟨mt_4_21, List.forall_mem_cons.mpr ⟨mt_4_22, List.forall_mem_cons.mpr ⟨mt_4_23, fun _ h => absurd h List.not_mem_nil⟩⟩⟩⟩⟩⟩⟩⟩⟩⟩⟩⟩⟩⟩⟩⟩⟩⟩⟩⟩⟩⟩⟩⟩
theorem mt_5_0 : Cond.static yX2_isDie ∈ lw_tbl := tb_2 _ (List.mem_of_getElem? (i := 134) rfl)
theorem mt_5_1 : Cond.code yX2_isDie cX2_isDie 1 (some .boolean) ∈ lw_tbl := tb_2 _ (List.mem_of_getElem? (i := 135) rfl)
theorem mt_5_2 : Cond.methodLink RX2 35 yX2_isDieOrNone ∈ lw_tbl := tb_2 _ (List.mem_of_getElem? (i := 136) rfl)
theorem mt_5_3 : Cond.static yX2_isDieOrNone ∈ lw_tbl := tb_2 _ (List.mem_of_getElem? (i := 137) rfl)
theorem mt_5_4 : Cond.code yX2_isDieOrNone cX2_isDieOrNone 1 (some .boolean) ∈ lw_tbl := tb_2 _ (List.mem_of_getElem? (i := 138) rfl)
theorem mt_5_5 : Cond.methodLink RX2 45 yJx4a65c_isEmpty_aae02 ∈ lw_tbl := tb_2 _ (List.mem_of_getElem? (i := 155) rfl)
theorem mt_5_6 : Cond.instanceMethod yJx4a65c_isEmpty_aae02 ∈ lw_tbl := tb_2 _ (List.mem_of_getElem? (i := 156) rfl)
theorem mt_5_7 : Cond.selects RJx4a65c yJx4a65c_isEmpty_aae02 yJx4a65c_isEmpty_aae02 ∈ lw_tbl := tb_2 _ (List.mem_of_getElem? (i := 157) rfl)
theorem mt_5_8 : Cond.code yJx4a65c_isEmpty_aae02 cJx4a65c_isEmpty_aae02 1 (some .boolean) ∈ lw_tbl := tb_2 _ (List.mem_of_getElem? (i := 158) rfl)
theorem mt_5_9 : Cond.fieldLink RJx4a65c 48 "java/util/ArrayList" "size" "I" ∈ lw_tbl := tb_1 _ (List.mem_of_getElem? (i := 81) rfl)
theorem mt_5_10 : Cond.methodLink RX2 54 yX0_layOut ∈ lw_tbl := tb_2 _ (List.mem_of_getElem? (i := 175) rfl)
theorem mt_5_11 : Cond.methodLink RL 87 yX3_setDice ∈ lw_tbl := tb_3 _ (List.mem_of_getElem? (i := 213) rfl)
theorem mt_5_12 : Cond.instanceMethod yX3_setDice ∈ lw_tbl := tb_3 _ (List.mem_of_getElem? (i := 214) rfl)
theorem mt_5_13 : Cond.selects RX3 yX3_setDice yX3_setDice ∈ lw_tbl := tb_3 _ (List.mem_of_getElem? (i := 215) rfl)
theorem mt_5_14 : Cond.code yX3_setDice cX3_setDice 4 (some .int) ∈ lw_tbl := tb_3 _ (List.mem_of_getElem? (i := 216) rfl)
theorem mt_5_15 : Cond.fieldLink RX3 48 "TavernDiceModel" "thrown" "I" ∈ lw_tbl := tb_3 _ (List.mem_of_getElem? (i := 162) rfl)
theorem mt_5_16 : Cond.fieldLink RX3 51 "TavernDiceModel" "open" "I" ∈ lw_tbl := tb_3 _ (List.mem_of_getElem? (i := 169) rfl)
theorem mt_5_17 : Cond.methodLink RX3 105 Lib.Math.max.name ∈ lw_tbl := tb_3 _ (List.mem_of_getElem? (i := 227) rfl)
theorem mt_5_18 : Cond.static Lib.Math.max.name ∈ lw_tbl := tb_1 _ (List.mem_of_getElem? (i := 178) rfl)
theorem mt_5_19 : Cond.code Lib.Math.max.name Lib.Math.max.code 2 (some .int) ∈ lw_tbl := tb_1 _ (List.mem_of_getElem? (i := 179) rfl)
theorem mt_5_20 : Cond.methodLink RX3 98 yX3_isDie ∈ lw_tbl := tb_3 _ (List.mem_of_getElem? (i := 217) rfl)
theorem mt_5_21 : Cond.static yX3_isDie ∈ lw_tbl := tb_3 _ (List.mem_of_getElem? (i := 218) rfl)
theorem mt_5_22 : Cond.code yX3_isDie cX3_isDie 1 (some .boolean) ∈ lw_tbl := tb_3 _ (List.mem_of_getElem? (i := 219) rfl)
theorem mt_5_23 : Cond.methodLink RX3 54 yX3_isIn ∈ lw_tbl := tb_3 _ (List.mem_of_getElem? (i := 220) rfl)
theorem mtr_5 : ∀ w ∈ wsL_law0_r5, w ∈ lw_tbl := List.forall_mem_cons.mpr ⟨mt_5_0, List.forall_mem_cons.mpr ⟨mt_5_1, List.forall_mem_cons.mpr ⟨mt_5_2, List.forall_mem_cons.mpr ⟨mt_5_3, List.forall_mem_cons.mpr ⟨mt_5_4, List.forall_mem_cons.mpr ⟨mt_5_5, List.forall_mem_cons.mpr ⟨mt_5_6, List.forall_mem_cons.mpr ⟨mt_5_7, List.forall_mem_cons.mpr ⟨mt_5_8, List.forall_mem_cons.mpr ⟨mt_5_9, List.forall_mem_cons.mpr ⟨mt_5_10, List.forall_mem_cons.mpr ⟨mt_5_11, List.forall_mem_cons.mpr ⟨mt_5_12, List.forall_mem_cons.mpr ⟨mt_5_13, List.forall_mem_cons.mpr ⟨mt_5_14, List.forall_mem_cons.mpr ⟨mt_5_15, List.forall_mem_cons.mpr ⟨mt_5_16, List.forall_mem_cons.mpr ⟨mt_5_17, List.forall_mem_cons.mpr ⟨mt_5_18, List.forall_mem_cons.mpr ⟨mt_5_19, List.forall_mem_cons.mpr ⟨mt_5_20, List.forall_mem_cons.mpr ⟨mt_5_21, List.forall_mem_cons.mpr ⟨mt_5_22, List.forall_mem_cons.mpr ⟨mt_5_23, fun _ h => absurd h List.not_mem_nil⟩⟩⟩⟩⟩⟩⟩⟩⟩⟩⟩⟩⟩⟩⟩⟩⟩⟩⟩⟩⟩⟩⟩⟩
theorem mt_6_0 : Cond.static yX3_isIn ∈ lw_tbl := tb_3 _ (List.mem_of_getElem? (i := 221) rfl)
theorem mt_6_1 : Cond.code yX3_isIn cX3_isIn 3 (some .boolean) ∈ lw_tbl := tb_3 _ (List.mem_of_getElem? (i := 222) rfl)
theorem mt_6_2 : Cond.methodLink RX3 102 yX3_no ∈ lw_tbl := tb_3 _ (List.mem_of_getElem? (i := 223) rfl)
theorem mt_6_3 : Cond.instanceMethod yX3_no ∈ lw_tbl := tb_3 _ (List.mem_of_getElem? (i := 225) rfl)
theorem mt_6_4 : Cond.selects RX3 yX3_no yX3_no ∈ lw_tbl := tb_s2 _ (List.mem_of_getElem? (i := 1) rfl)
theorem mt_6_5 : Cond.code yX3_no cX3_no 2 (some .int) ∈ lw_tbl := tb_3 _ (List.mem_of_getElem? (i := 226) rfl)
theorem mt_6_6 : Cond.methodLink RL 88 yX3_thrown ∈ lw_tbl := tb_3 _ (List.mem_of_getElem? (i := 209) rfl)
theorem mt_6_7 : Cond.instanceMethod yX3_thrown ∈ lw_tbl := tb_3 _ (List.mem_of_getElem? (i := 210) rfl)
theorem mt_6_8 : Cond.selects RX3 yX3_thrown yX3_thrown ∈ lw_tbl := tb_3 _ (List.mem_of_getElem? (i := 211) rfl)
theorem mt_6_9 : Cond.code yX3_thrown cX3_thrown 1 (some .int) ∈ lw_tbl := tb_3 _ (List.mem_of_getElem? (i := 212) rfl)
theorem mt_6_10 : Cond.methodLink RL 92 yX2_dice ∈ lw_tbl := tb_1 _ (List.mem_of_getElem? (i := 108) rfl)
theorem mt_6_11 : Cond.instanceMethod yX2_dice ∈ lw_tbl := tb_1 _ (List.mem_of_getElem? (i := 109) rfl)
theorem mt_6_12 : Cond.selects RX2 yX2_dice yX2_dice ∈ lw_tbl := tb_1 _ (List.mem_of_getElem? (i := 110) rfl)
theorem mt_6_13 : Cond.code yX2_dice cX2_dice 1 (some .int) ∈ lw_tbl := tb_1 _ (List.mem_of_getElem? (i := 111) rfl)
theorem mt_6_14 : Cond.fieldLink RX2 61 "TavernDice$Dice" "count" "I" ∈ lw_tbl := tb_1 _ (List.mem_of_getElem? (i := 53) rfl)
theorem mt_6_15 : Cond.methodLink RL 95 yX3_dice ∈ lw_tbl := tb_3 _ (List.mem_of_getElem? (i := 228) rfl)
theorem mt_6_16 : Cond.instanceMethod yX3_dice ∈ lw_tbl := tb_3 _ (List.mem_of_getElem? (i := 229) rfl)
theorem mt_6_17 : Cond.selects RX3 yX3_dice yX3_dice ∈ lw_tbl := tb_3 _ (List.mem_of_getElem? (i := 230) rfl)
theorem mt_6_18 : Cond.code yX3_dice cX3_dice 1 (some .int) ∈ lw_tbl := tb_3 _ (List.mem_of_getElem? (i := 231) rfl)
theorem mt_6_19 : Cond.methodLink RX3 108 yX3_ok ∈ lw_tbl := tb_3 _ (List.mem_of_getElem? (i := 232) rfl)
theorem mt_6_20 : Cond.instanceMethod yX3_ok ∈ lw_tbl := tb_3 _ (List.mem_of_getElem? (i := 234) rfl)
theorem mt_6_21 : Cond.selects RX3 yX3_ok yX3_ok ∈ lw_tbl := tb_s2 _ (List.mem_of_getElem? (i := 2) rfl)
theorem mt_6_22 : Cond.code yX3_ok cX3_ok 2 (some .int) ∈ lw_tbl := tb_3 _ (List.mem_of_getElem? (i := 235) rfl)
theorem mt_6_23 : Cond.methodLink RL 96 yX2_outcomes ∈ lw_tbl := tb_1 _ (List.mem_of_getElem? (i := 112) rfl)
theorem mtr_6 : ∀ w ∈ wsL_law0_r6, w ∈ lw_tbl := List.forall_mem_cons.mpr ⟨mt_6_0, List.forall_mem_cons.mpr ⟨mt_6_1, List.forall_mem_cons.mpr ⟨mt_6_2, List.forall_mem_cons.mpr ⟨mt_6_3, List.forall_mem_cons.mpr ⟨mt_6_4, List.forall_mem_cons.mpr ⟨mt_6_5, List.forall_mem_cons.mpr ⟨mt_6_6, List.forall_mem_cons.mpr ⟨mt_6_7, List.forall_mem_cons.mpr ⟨mt_6_8, List.forall_mem_cons.mpr ⟨mt_6_9, List.forall_mem_cons.mpr ⟨mt_6_10, List.forall_mem_cons.mpr ⟨mt_6_11, List.forall_mem_cons.mpr ⟨mt_6_12, List.forall_mem_cons.mpr ⟨mt_6_13, List.forall_mem_cons.mpr ⟨mt_6_14, List.forall_mem_cons.mpr ⟨mt_6_15, List.forall_mem_cons.mpr ⟨mt_6_16, List.forall_mem_cons.mpr ⟨mt_6_17, List.forall_mem_cons.mpr ⟨mt_6_18, List.forall_mem_cons.mpr ⟨mt_6_19, List.forall_mem_cons.mpr ⟨mt_6_20, List.forall_mem_cons.mpr ⟨mt_6_21, List.forall_mem_cons.mpr ⟨mt_6_22, List.forall_mem_cons.mpr ⟨mt_6_23, fun _ h => absurd h List.not_mem_nil⟩⟩⟩⟩⟩⟩⟩⟩⟩⟩⟩⟩⟩⟩⟩⟩⟩⟩⟩⟩⟩⟩⟩⟩
theorem mt_7_0 : Cond.instanceMethod yX2_outcomes ∈ lw_tbl := tb_1 _ (List.mem_of_getElem? (i := 113) rfl)
theorem mt_7_1 : Cond.selects RX2 yX2_outcomes yX2_outcomes ∈ lw_tbl := tb_1 _ (List.mem_of_getElem? (i := 114) rfl)
theorem mt_7_2 : Cond.code yX2_outcomes cX2_outcomes 1 (some .int) ∈ lw_tbl := tb_1 _ (List.mem_of_getElem? (i := 115) rfl)
theorem mt_7_3 : Cond.methodLink RL 99 yX3_outcomes ∈ lw_tbl := tb_3 _ (List.mem_of_getElem? (i := 236) rfl)
theorem mt_7_4 : Cond.instanceMethod yX3_outcomes ∈ lw_tbl := tb_3 _ (List.mem_of_getElem? (i := 237) rfl)
theorem mt_7_5 : Cond.selects RX3 yX3_outcomes yX3_outcomes ∈ lw_tbl := tb_3 _ (List.mem_of_getElem? (i := 238) rfl)
theorem mt_7_6 : Cond.code yX3_outcomes cX3_outcomes 1 (some .int) ∈ lw_tbl := tb_3 _ (List.mem_of_getElem? (i := 239) rfl)
theorem mt_7_7 : Cond.methodLink RL 100 yL_sumOf ∈ lw_tbl := tb_2 _ (List.mem_of_getElem? (i := 176) rfl)
theorem mt_7_8 : Cond.static yL_sumOf ∈ lw_tbl := tb_2 _ (List.mem_of_getElem? (i := 177) rfl)
theorem mt_7_9 : Cond.codeWith yL_sumOf cL_sumOf 4 (some .int) [(0, 9, 12, 21)] ∈ lw_tbl := tb_2 _ (List.mem_of_getElem? (i := 178) rfl)
theorem mt_7_10 : Cond.classLink RL 21 "java/lang/IndexOutOfBoundsException" ∈ lw_tbl := tb_2 _ (List.mem_of_getElem? (i := 179) rfl)
theorem mt_7_11 : Cond.methodLink RL 17 yX2_sumOf ∈ lw_tbl := tb_2 _ (List.mem_of_getElem? (i := 180) rfl)
theorem mt_7_12 : Cond.instanceMethod yX2_sumOf ∈ lw_tbl := tb_2 _ (List.mem_of_getElem? (i := 181) rfl)
theorem mt_7_13 : Cond.selects RX2 yX2_sumOf yX2_sumOf ∈ lw_tbl := tb_2 _ (List.mem_of_getElem? (i := 182) rfl)
theorem mt_7_14 : Cond.code yX2_sumOf cX2_sumOf 2 (some .int) ∈ lw_tbl := tb_2 _ (List.mem_of_getElem? (i := 183) rfl)
theorem mt_7_15 : Cond.fieldLink RX2 68 "TavernDice$Dice" "sums" "[I" ∈ lw_tbl := tb_1 _ (List.mem_of_getElem? (i := 50) rfl)
theorem mt_7_16 : Cond.methodLink RX2 64 yX2_checkOutcome ∈ lw_tbl := tb_2 _ (List.mem_of_getElem? (i := 184) rfl)
theorem mt_7_17 : Cond.instanceMethod yX2_checkOutcome ∈ lw_tbl := tb_2 _ (List.mem_of_getElem? (i := 186) rfl)
theorem mt_7_18 : Cond.selects RX2 yX2_checkOutcome yX2_checkOutcome ∈ lw_tbl := tb_s1 _ (List.mem_of_getElem? (i := 12) rfl)
theorem mt_7_19 : Cond.code yX2_checkOutcome cX2_checkOutcome 2 none ∈ lw_tbl := tb_2 _ (List.mem_of_getElem? (i := 187) rfl)
theorem mt_7_20 : Cond.classLink RX2 254 "java/lang/IndexOutOfBoundsException" ∈ lw_tbl := tb_2 _ (List.mem_of_getElem? (i := 10) rfl)
theorem mt_7_21 : Cond.initialized "java/lang/IndexOutOfBoundsException" ∈ lw_tbl := tb_1 _ (List.mem_of_getElem? (i := 13) rfl)
theorem mt_7_22 : Cond.methodLink RL 103 yX3_sumOf ∈ lw_tbl := tb_4 _ (List.mem_of_getElem? (i := 0) rfl)
theorem mt_7_23 : Cond.instanceMethod yX3_sumOf ∈ lw_tbl := tb_4 _ (List.mem_of_getElem? (i := 1) rfl)
theorem mtr_7 : ∀ w ∈ wsL_law0_r7, w ∈ lw_tbl := List.forall_mem_cons.mpr ⟨mt_7_0, List.forall_mem_cons.mpr ⟨mt_7_1, List.forall_mem_cons.mpr ⟨mt_7_2, List.forall_mem_cons.mpr ⟨mt_7_3, List.forall_mem_cons.mpr ⟨mt_7_4, List.forall_mem_cons.mpr ⟨mt_7_5, List.forall_mem_cons.mpr ⟨mt_7_6, List.forall_mem_cons.mpr ⟨mt_7_7, List.forall_mem_cons.mpr ⟨mt_7_8, List.forall_mem_cons.mpr ⟨mt_7_9, List.forall_mem_cons.mpr ⟨mt_7_10, List.forall_mem_cons.mpr ⟨mt_7_11, List.forall_mem_cons.mpr ⟨mt_7_12, List.forall_mem_cons.mpr ⟨mt_7_13, List.forall_mem_cons.mpr ⟨mt_7_14, List.forall_mem_cons.mpr ⟨mt_7_15, List.forall_mem_cons.mpr ⟨mt_7_16, List.forall_mem_cons.mpr ⟨mt_7_17, List.forall_mem_cons.mpr ⟨mt_7_18, List.forall_mem_cons.mpr ⟨mt_7_19, List.forall_mem_cons.mpr ⟨mt_7_20, List.forall_mem_cons.mpr ⟨mt_7_21, List.forall_mem_cons.mpr ⟨mt_7_22, List.forall_mem_cons.mpr ⟨mt_7_23, fun _ h => absurd h List.not_mem_nil⟩⟩⟩⟩⟩⟩⟩⟩⟩⟩⟩⟩⟩⟩⟩⟩⟩⟩⟩⟩⟩⟩⟩⟩
theorem mt_8_0 : Cond.selects RX3 yX3_sumOf yX3_sumOf ∈ lw_tbl := tb_4 _ (List.mem_of_getElem? (i := 2) rfl)
theorem mt_8_1 : Cond.code yX3_sumOf cX3_sumOf 2 (some .int) ∈ lw_tbl := tb_4 _ (List.mem_of_getElem? (i := 3) rfl)
theorem mt_8_2 : Cond.methodLink RX3 111 yX3_isOutcome ∈ lw_tbl := tb_4 _ (List.mem_of_getElem? (i := 4) rfl)
theorem mt_8_3 : Cond.instanceMethod yX3_isOutcome ∈ lw_tbl := tb_4 _ (List.mem_of_getElem? (i := 6) rfl)
theorem mt_8_4 : Cond.selects RX3 yX3_isOutcome yX3_isOutcome ∈ lw_tbl := tb_s2 _ (List.mem_of_getElem? (i := 3) rfl)
theorem mt_8_5 : Cond.code yX3_isOutcome cX3_isOutcome 2 (some .boolean) ∈ lw_tbl := tb_4 _ (List.mem_of_getElem? (i := 7) rfl)
theorem mt_8_6 : Cond.methodLink RX3 65 yX3_sum ∈ lw_tbl := tb_4 _ (List.mem_of_getElem? (i := 8) rfl)
theorem mt_8_7 : Cond.instanceMethod yX3_sum ∈ lw_tbl := tb_4 _ (List.mem_of_getElem? (i := 10) rfl)
theorem mt_8_8 : Cond.selects RX3 yX3_sum yX3_sum ∈ lw_tbl := tb_s2 _ (List.mem_of_getElem? (i := 4) rfl)
theorem mt_8_9 : Cond.code yX3_sum cX3_sum 4 (some .int) ∈ lw_tbl := tb_4 _ (List.mem_of_getElem? (i := 11) rfl)
theorem mt_8_10 : Cond.methodLink RX3 58 yX3_face ∈ lw_tbl := tb_4 _ (List.mem_of_getElem? (i := 12) rfl)
theorem mt_8_11 : Cond.instanceMethod yX3_face ∈ lw_tbl := tb_4 _ (List.mem_of_getElem? (i := 14) rfl)
theorem mt_8_12 : Cond.selects RX3 yX3_face yX3_face ∈ lw_tbl := tb_s2 _ (List.mem_of_getElem? (i := 5) rfl)
theorem mt_8_13 : Cond.code yX3_face cX3_face 5 (some .int) ∈ lw_tbl := tb_4 _ (List.mem_of_getElem? (i := 15) rfl)
theorem mt_8_14 : Cond.methodLink RL 104 yL_ways ∈ lw_tbl := tb_2 _ (List.mem_of_getElem? (i := 189) rfl)
theorem mt_8_15 : Cond.static yL_ways ∈ lw_tbl := tb_2 _ (List.mem_of_getElem? (i := 190) rfl)
theorem mt_8_16 : Cond.codeWith yL_ways cL_ways 5 (some .int) [(0, 10, 13, 13)] ∈ lw_tbl := tb_2 _ (List.mem_of_getElem? (i := 191) rfl)
theorem mt_8_17 : Cond.methodLink RL 23 yX2_ways ∈ lw_tbl := tb_2 _ (List.mem_of_getElem? (i := 192) rfl)
theorem mt_8_18 : Cond.instanceMethod yX2_ways ∈ lw_tbl := tb_2 _ (List.mem_of_getElem? (i := 193) rfl)
theorem mt_8_19 : Cond.selects RX2 yX2_ways yX2_ways ∈ lw_tbl := tb_2 _ (List.mem_of_getElem? (i := 194) rfl)
theorem mt_8_20 : Cond.code yX2_ways cX2_ways 3 (some .int) ∈ lw_tbl := tb_2 _ (List.mem_of_getElem? (i := 195) rfl)
theorem mt_8_21 : Cond.methodLink RX2 71 yX2_checkEvent ∈ lw_tbl := tb_2 _ (List.mem_of_getElem? (i := 196) rfl)
theorem mt_8_22 : Cond.static yX2_checkEvent ∈ lw_tbl := tb_2 _ (List.mem_of_getElem? (i := 197) rfl)
theorem mt_8_23 : Cond.code yX2_checkEvent cX2_checkEvent 2 none ∈ lw_tbl := tb_2 _ (List.mem_of_getElem? (i := 198) rfl)
theorem mtr_8 : ∀ w ∈ wsL_law0_r8, w ∈ lw_tbl := List.forall_mem_cons.mpr ⟨mt_8_0, List.forall_mem_cons.mpr ⟨mt_8_1, List.forall_mem_cons.mpr ⟨mt_8_2, List.forall_mem_cons.mpr ⟨mt_8_3, List.forall_mem_cons.mpr ⟨mt_8_4, List.forall_mem_cons.mpr ⟨mt_8_5, List.forall_mem_cons.mpr ⟨mt_8_6, List.forall_mem_cons.mpr ⟨mt_8_7, List.forall_mem_cons.mpr ⟨mt_8_8, List.forall_mem_cons.mpr ⟨mt_8_9, List.forall_mem_cons.mpr ⟨mt_8_10, List.forall_mem_cons.mpr ⟨mt_8_11, List.forall_mem_cons.mpr ⟨mt_8_12, List.forall_mem_cons.mpr ⟨mt_8_13, List.forall_mem_cons.mpr ⟨mt_8_14, List.forall_mem_cons.mpr ⟨mt_8_15, List.forall_mem_cons.mpr ⟨mt_8_16, List.forall_mem_cons.mpr ⟨mt_8_17, List.forall_mem_cons.mpr ⟨mt_8_18, List.forall_mem_cons.mpr ⟨mt_8_19, List.forall_mem_cons.mpr ⟨mt_8_20, List.forall_mem_cons.mpr ⟨mt_8_21, List.forall_mem_cons.mpr ⟨mt_8_22, List.forall_mem_cons.mpr ⟨mt_8_23, fun _ h => absurd h List.not_mem_nil⟩⟩⟩⟩⟩⟩⟩⟩⟩⟩⟩⟩⟩⟩⟩⟩⟩⟩⟩⟩⟩⟩⟩⟩
theorem mt_9_0 : Cond.methodLink RX2 75 yX0_countWays ∈ lw_tbl := tb_2 _ (List.mem_of_getElem? (i := 119) rfl)
theorem mt_9_1 : Cond.instanceMethod yX0_countWays ∈ lw_tbl := tb_2 _ (List.mem_of_getElem? (i := 120) rfl)
theorem mt_9_2 : Cond.selects RX0 yX0_countWays yX0_countWays ∈ lw_tbl := tb_2 _ (List.mem_of_getElem? (i := 121) rfl)
theorem mt_9_3 : Cond.code yX0_countWays cX0_countWays 5 (some .int) ∈ lw_tbl := tb_2 _ (List.mem_of_getElem? (i := 122) rfl)
theorem mt_9_4 : Cond.methodLink RX0 51 yX0_comes ∈ lw_tbl := tb_2 _ (List.mem_of_getElem? (i := 123) rfl)
theorem mt_9_5 : Cond.instanceMethod yX0_comes ∈ lw_tbl := tb_1 _ (List.mem_of_getElem? (i := 205) rfl)
theorem mt_9_6 : Cond.selects RX0 yX0_comes yX0_comes ∈ lw_tbl := tb_1 _ (List.mem_of_getElem? (i := 206) rfl)
theorem mt_9_7 : Cond.code yX0_comes cX0_comes 4 (some .boolean) ∈ lw_tbl := tb_1 _ (List.mem_of_getElem? (i := 207) rfl)
theorem mt_9_8 : Cond.methodLink RX0 42 yX0_holds ∈ lw_tbl := tb_1 _ (List.mem_of_getElem? (i := 208) rfl)
theorem mt_9_9 : Cond.instanceMethod yX0_holds ∈ lw_tbl := tb_1 _ (List.mem_of_getElem? (i := 210) rfl)
theorem mt_9_10 : Cond.selects RX0 yX0_holds yX0_holds ∈ lw_tbl := tb_s1 _ (List.mem_of_getElem? (i := 6) rfl)
theorem mt_9_11 : Cond.code yX0_holds cX0_holds 4 (some .boolean) ∈ lw_tbl := tb_1 _ (List.mem_of_getElem? (i := 211) rfl)
theorem mt_9_12 : Cond.methodLink RX0 46 yJ6_bitCount_0f7a4 ∈ lw_tbl := tb_1 _ (List.mem_of_getElem? (i := 212) rfl)
theorem mt_9_13 : Cond.static yJ6_bitCount_0f7a4 ∈ lw_tbl := tb_1 _ (List.mem_of_getElem? (i := 213) rfl)
theorem mt_9_14 : Cond.initialized RJ6 ∈ lw_tbl := tb_1 _ (List.mem_of_getElem? (i := 14) rfl)
theorem mt_9_15 : Cond.code yJ6_bitCount_0f7a4 cJ6_bitCount_0f7a4 1 (some .int) ∈ lw_tbl := tb_1 _ (List.mem_of_getElem? (i := 214) rfl)
theorem mt_9_16 : Cond.constant RJ6 265 (1431655765) ∈ lw_tbl := tb_1 _ (List.mem_of_getElem? (i := 215) rfl)
theorem mt_9_17 : Cond.constant RJ6 266 (858993459) ∈ lw_tbl := tb_1 _ (List.mem_of_getElem? (i := 216) rfl)
theorem mt_9_18 : Cond.constant RJ6 267 (252645135) ∈ lw_tbl := tb_1 _ (List.mem_of_getElem? (i := 217) rfl)
theorem mt_9_19 : Cond.methodLink RL 107 yX3_ways ∈ lw_tbl := tb_4 _ (List.mem_of_getElem? (i := 16) rfl)
theorem mt_9_20 : Cond.instanceMethod yX3_ways ∈ lw_tbl := tb_4 _ (List.mem_of_getElem? (i := 17) rfl)
theorem mt_9_21 : Cond.selects RX3 yX3_ways yX3_ways ∈ lw_tbl := tb_4 _ (List.mem_of_getElem? (i := 18) rfl)
theorem mt_9_22 : Cond.code yX3_ways cX3_ways 3 (some .int) ∈ lw_tbl := tb_4 _ (List.mem_of_getElem? (i := 19) rfl)
theorem mt_9_23 : Cond.methodLink RX3 114 yX3_isEvent ∈ lw_tbl := tb_4 _ (List.mem_of_getElem? (i := 20) rfl)
theorem mtr_9 : ∀ w ∈ wsL_law0_r9, w ∈ lw_tbl := List.forall_mem_cons.mpr ⟨mt_9_0, List.forall_mem_cons.mpr ⟨mt_9_1, List.forall_mem_cons.mpr ⟨mt_9_2, List.forall_mem_cons.mpr ⟨mt_9_3, List.forall_mem_cons.mpr ⟨mt_9_4, List.forall_mem_cons.mpr ⟨mt_9_5, List.forall_mem_cons.mpr ⟨mt_9_6, List.forall_mem_cons.mpr ⟨mt_9_7, List.forall_mem_cons.mpr ⟨mt_9_8, List.forall_mem_cons.mpr ⟨mt_9_9, List.forall_mem_cons.mpr ⟨mt_9_10, List.forall_mem_cons.mpr ⟨mt_9_11, List.forall_mem_cons.mpr ⟨mt_9_12, List.forall_mem_cons.mpr ⟨mt_9_13, List.forall_mem_cons.mpr ⟨mt_9_14, List.forall_mem_cons.mpr ⟨mt_9_15, List.forall_mem_cons.mpr ⟨mt_9_16, List.forall_mem_cons.mpr ⟨mt_9_17, List.forall_mem_cons.mpr ⟨mt_9_18, List.forall_mem_cons.mpr ⟨mt_9_19, List.forall_mem_cons.mpr ⟨mt_9_20, List.forall_mem_cons.mpr ⟨mt_9_21, List.forall_mem_cons.mpr ⟨mt_9_22, List.forall_mem_cons.mpr ⟨mt_9_23, fun _ h => absurd h List.not_mem_nil⟩⟩⟩⟩⟩⟩⟩⟩⟩⟩⟩⟩⟩⟩⟩⟩⟩⟩⟩⟩⟩⟩⟩⟩
theorem mt_10_0 : Cond.static yX3_isEvent ∈ lw_tbl := tb_4 _ (List.mem_of_getElem? (i := 21) rfl)
theorem mt_10_1 : Cond.code yX3_isEvent cX3_isEvent 2 (some .boolean) ∈ lw_tbl := tb_4 _ (List.mem_of_getElem? (i := 22) rfl)
theorem mt_10_2 : Cond.methodLink RX3 74 yX3_many ∈ lw_tbl := tb_4 _ (List.mem_of_getElem? (i := 23) rfl)
theorem mt_10_3 : Cond.instanceMethod yX3_many ∈ lw_tbl := tb_4 _ (List.mem_of_getElem? (i := 25) rfl)
theorem mt_10_4 : Cond.selects RX3 yX3_many yX3_many ∈ lw_tbl := tb_s2 _ (List.mem_of_getElem? (i := 6) rfl)
theorem mt_10_5 : Cond.code yX3_many cX3_many 5 (some .int) ∈ lw_tbl := tb_4 _ (List.mem_of_getElem? (i := 26) rfl)
theorem mt_10_6 : Cond.methodLink RX3 69 Lib.Math.min.name ∈ lw_tbl := tb_4 _ (List.mem_of_getElem? (i := 31) rfl)
theorem mt_10_7 : Cond.methodLink RX3 77 yX3_without ∈ lw_tbl := tb_4 _ (List.mem_of_getElem? (i := 27) rfl)
theorem mt_10_8 : Cond.instanceMethod yX3_without ∈ lw_tbl := tb_4 _ (List.mem_of_getElem? (i := 29) rfl)
theorem mt_10_9 : Cond.selects RX3 yX3_without yX3_without ∈ lw_tbl := tb_s2 _ (List.mem_of_getElem? (i := 7) rfl)
theorem mt_10_10 : Cond.code yX3_without cX3_without 4 (some .int) ∈ lw_tbl := tb_4 _ (List.mem_of_getElem? (i := 30) rfl)
theorem mt_10_11 : Cond.methodLink RX3 80 yX3_add ∈ lw_tbl := tb_4 _ (List.mem_of_getElem? (i := 32) rfl)
theorem mt_10_12 : Cond.instanceMethod yX3_add ∈ lw_tbl := tb_4 _ (List.mem_of_getElem? (i := 34) rfl)
theorem mt_10_13 : Cond.selects RX3 yX3_add yX3_add ∈ lw_tbl := tb_s2 _ (List.mem_of_getElem? (i := 8) rfl)
theorem mt_10_14 : Cond.code yX3_add cX3_add 5 none ∈ lw_tbl := tb_4 _ (List.mem_of_getElem? (i := 35) rfl)
theorem mt_10_15 : Cond.methodLink RL 108 yL_chance ∈ lw_tbl := tb_2 _ (List.mem_of_getElem? (i := 200) rfl)
theorem mt_10_16 : Cond.static yL_chance ∈ lw_tbl := tb_2 _ (List.mem_of_getElem? (i := 201) rfl)
theorem mt_10_17 : Cond.codeWith yL_chance cL_chance 5 (some .int) [(0, 9, 12, 13)] ∈ lw_tbl := tb_2 _ (List.mem_of_getElem? (i := 202) rfl)
theorem mt_10_18 : Cond.methodLink RL 27 yX2_chance ∈ lw_tbl := tb_2 _ (List.mem_of_getElem? (i := 203) rfl)
theorem mt_10_19 : Cond.instanceMethod yX2_chance ∈ lw_tbl := tb_2 _ (List.mem_of_getElem? (i := 204) rfl)
theorem mt_10_20 : Cond.selects RX2 yX2_chance yX2_chance ∈ lw_tbl := tb_2 _ (List.mem_of_getElem? (i := 205) rfl)
theorem mt_10_21 : Cond.code yX2_chance cX2_chance 3 (some .double) ∈ lw_tbl := tb_2 _ (List.mem_of_getElem? (i := 206) rfl)
theorem mt_10_22 : Cond.methodLink RL 111 yX3_chance ∈ lw_tbl := tb_4 _ (List.mem_of_getElem? (i := 36) rfl)
theorem mt_10_23 : Cond.instanceMethod yX3_chance ∈ lw_tbl := tb_4 _ (List.mem_of_getElem? (i := 37) rfl)
theorem mtr_10 : ∀ w ∈ wsL_law0_r10, w ∈ lw_tbl := List.forall_mem_cons.mpr ⟨mt_10_0, List.forall_mem_cons.mpr ⟨mt_10_1, List.forall_mem_cons.mpr ⟨mt_10_2, List.forall_mem_cons.mpr ⟨mt_10_3, List.forall_mem_cons.mpr ⟨mt_10_4, List.forall_mem_cons.mpr ⟨mt_10_5, List.forall_mem_cons.mpr ⟨mt_10_6, List.forall_mem_cons.mpr ⟨mt_10_7, List.forall_mem_cons.mpr ⟨mt_10_8, List.forall_mem_cons.mpr ⟨mt_10_9, List.forall_mem_cons.mpr ⟨mt_10_10, List.forall_mem_cons.mpr ⟨mt_10_11, List.forall_mem_cons.mpr ⟨mt_10_12, List.forall_mem_cons.mpr ⟨mt_10_13, List.forall_mem_cons.mpr ⟨mt_10_14, List.forall_mem_cons.mpr ⟨mt_10_15, List.forall_mem_cons.mpr ⟨mt_10_16, List.forall_mem_cons.mpr ⟨mt_10_17, List.forall_mem_cons.mpr ⟨mt_10_18, List.forall_mem_cons.mpr ⟨mt_10_19, List.forall_mem_cons.mpr ⟨mt_10_20, List.forall_mem_cons.mpr ⟨mt_10_21, List.forall_mem_cons.mpr ⟨mt_10_22, List.forall_mem_cons.mpr ⟨mt_10_23, fun _ h => absurd h List.not_mem_nil⟩⟩⟩⟩⟩⟩⟩⟩⟩⟩⟩⟩⟩⟩⟩⟩⟩⟩⟩⟩⟩⟩⟩⟩
theorem mt_11_0 : Cond.selects RX3 yX3_chance yX3_chance ∈ lw_tbl := tb_4 _ (List.mem_of_getElem? (i := 38) rfl)
theorem mt_11_1 : Cond.code yX3_chance cX3_chance 3 (some .double) ∈ lw_tbl := tb_4 _ (List.mem_of_getElem? (i := 39) rfl)
theorem mt_11_2 : Cond.methodLink RL 112 yL_lay ∈ lw_tbl := tb_2 _ (List.mem_of_getElem? (i := 207) rfl)
theorem mt_11_3 : Cond.static yL_lay ∈ lw_tbl := tb_2 _ (List.mem_of_getElem? (i := 208) rfl)
theorem mt_11_4 : Cond.codeWith yL_lay cL_lay 9 (some .int) [(0, 18, 21, 21), (0, 18, 25, 13), (0, 18, 29, 15)] ∈ lw_tbl := tb_2 _ (List.mem_of_getElem? (i := 209) rfl)
theorem mt_11_5 : Cond.methodLink RL 31 yX2_lay ∈ lw_tbl := tb_2 _ (List.mem_of_getElem? (i := 210) rfl)
theorem mt_11_6 : Cond.instanceMethod yX2_lay ∈ lw_tbl := tb_2 _ (List.mem_of_getElem? (i := 211) rfl)
theorem mt_11_7 : Cond.selects RX2 yX2_lay yX2_lay ∈ lw_tbl := tb_2 _ (List.mem_of_getElem? (i := 212) rfl)
theorem mt_11_8 : Cond.code yX2_lay cX2_lay 8 (some .int) ∈ lw_tbl := tb_2 _ (List.mem_of_getElem? (i := 213) rfl)
theorem mt_11_9 : Cond.classLink RX2 98 RX1 ∈ lw_tbl := tb_1 _ (List.mem_of_getElem? (i := 150) rfl)
theorem mt_11_10 : Cond.instantiable RX1 6 ∈ lw_tbl := tb_2 _ (List.mem_of_getElem? (i := 225) rfl)
theorem mt_11_11 : Cond.initialized RX1 ∈ lw_tbl := tb_1 _ (List.mem_of_getElem? (i := 15) rfl)
theorem mt_11_12 : Cond.methodLink RX2 79 yX2_checkPatron ∈ lw_tbl := tb_2 _ (List.mem_of_getElem? (i := 102) rfl)
theorem mt_11_13 : Cond.static yX2_checkPatron ∈ lw_tbl := tb_2 _ (List.mem_of_getElem? (i := 103) rfl)
theorem mt_11_14 : Cond.code yX2_checkPatron cX2_checkPatron 1 none ∈ lw_tbl := tb_2 _ (List.mem_of_getElem? (i := 104) rfl)
theorem mt_11_15 : Cond.methodLink RX2 84 yX2_checkWin ∈ lw_tbl := tb_2 _ (List.mem_of_getElem? (i := 215) rfl)
theorem mt_11_16 : Cond.static yX2_checkWin ∈ lw_tbl := tb_2 _ (List.mem_of_getElem? (i := 216) rfl)
theorem mt_11_17 : Cond.code yX2_checkWin cX2_checkWin 1 none ∈ lw_tbl := tb_2 _ (List.mem_of_getElem? (i := 217) rfl)
theorem mt_11_18 : Cond.methodLink RX2 87 yX2_checkBase ∈ lw_tbl := tb_2 _ (List.mem_of_getElem? (i := 219) rfl)
theorem mt_11_19 : Cond.static yX2_checkBase ∈ lw_tbl := tb_2 _ (List.mem_of_getElem? (i := 220) rfl)
theorem mt_11_20 : Cond.code yX2_checkBase cX2_checkBase 1 none ∈ lw_tbl := tb_2 _ (List.mem_of_getElem? (i := 221) rfl)
theorem mt_11_21 : Cond.methodLink RX2 90 yJx4a65c_size_8abf5 ∈ lw_tbl := tb_1 _ (List.mem_of_getElem? (i := 120) rfl)
theorem mt_11_22 : Cond.instanceMethod yJx4a65c_size_8abf5 ∈ lw_tbl := tb_1 _ (List.mem_of_getElem? (i := 121) rfl)
theorem mt_11_23 : Cond.selects RJx4a65c yJx4a65c_size_8abf5 yJx4a65c_size_8abf5 ∈ lw_tbl := tb_1 _ (List.mem_of_getElem? (i := 122) rfl)
theorem mtr_11 : ∀ w ∈ wsL_law0_r11, w ∈ lw_tbl := List.forall_mem_cons.mpr ⟨mt_11_0, List.forall_mem_cons.mpr ⟨mt_11_1, List.forall_mem_cons.mpr ⟨mt_11_2, List.forall_mem_cons.mpr ⟨mt_11_3, List.forall_mem_cons.mpr ⟨mt_11_4, List.forall_mem_cons.mpr ⟨mt_11_5, List.forall_mem_cons.mpr ⟨mt_11_6, List.forall_mem_cons.mpr ⟨mt_11_7, List.forall_mem_cons.mpr ⟨mt_11_8, List.forall_mem_cons.mpr ⟨mt_11_9, List.forall_mem_cons.mpr ⟨mt_11_10, List.forall_mem_cons.mpr ⟨mt_11_11, List.forall_mem_cons.mpr ⟨mt_11_12, List.forall_mem_cons.mpr ⟨mt_11_13, List.forall_mem_cons.mpr ⟨mt_11_14, List.forall_mem_cons.mpr ⟨mt_11_15, List.forall_mem_cons.mpr ⟨mt_11_16, List.forall_mem_cons.mpr ⟨mt_11_17, List.forall_mem_cons.mpr ⟨mt_11_18, List.forall_mem_cons.mpr ⟨mt_11_19, List.forall_mem_cons.mpr ⟨mt_11_20, List.forall_mem_cons.mpr ⟨mt_11_21, List.forall_mem_cons.mpr ⟨mt_11_22, List.forall_mem_cons.mpr ⟨mt_11_23, fun _ h => absurd h List.not_mem_nil⟩⟩⟩⟩⟩⟩⟩⟩⟩⟩⟩⟩⟩⟩⟩⟩⟩⟩⟩⟩⟩⟩⟩⟩
theorem mt_12_0 : Cond.code yJx4a65c_size_8abf5 cJx4a65c_size_8abf5 1 (some .int) ∈ lw_tbl := tb_1 _ (List.mem_of_getElem? (i := 123) rfl)
theorem mt_12_1 : Cond.methodLink RX2 100 yX2_broughtBy ∈ lw_tbl := tb_2 _ (List.mem_of_getElem? (i := 226) rfl)
theorem mt_12_2 : Cond.static yX2_broughtBy ∈ lw_tbl := tb_2 _ (List.mem_of_getElem? (i := 227) rfl)
theorem mt_12_3 : Cond.code yX2_broughtBy cX2_broughtBy 3 (some .int) ∈ lw_tbl := tb_2 _ (List.mem_of_getElem? (i := 228) rfl)
theorem mt_12_4 : Cond.methodLink RX2 104 yX1_init ∈ lw_tbl := tb_2 _ (List.mem_of_getElem? (i := 229) rfl)
theorem mt_12_5 : Cond.instanceMethod yX1_init ∈ lw_tbl := tb_2 _ (List.mem_of_getElem? (i := 230) rfl)
theorem mt_12_6 : Cond.code yX1_init cX1_init 7 none ∈ lw_tbl := tb_2 _ (List.mem_of_getElem? (i := 231) rfl)
theorem mt_12_7 : Cond.methodLink RX1 1 objectInit ∈ lw_tbl := tb_2 _ (List.mem_of_getElem? (i := 232) rfl)
theorem mt_12_8 : Cond.fieldLink RX1 7 "TavernDice$Wager" "patron" "I" ∈ lw_tbl := tb_2 _ (List.mem_of_getElem? (i := 233) rfl)
theorem mt_12_9 : Cond.fieldLink RX1 13 "TavernDice$Wager" "kind" "I" ∈ lw_tbl := tb_2 _ (List.mem_of_getElem? (i := 235) rfl)
theorem mt_12_10 : Cond.fieldLink RX1 16 "TavernDice$Wager" "number" "I" ∈ lw_tbl := tb_2 _ (List.mem_of_getElem? (i := 237) rfl)
theorem mt_12_11 : Cond.fieldLink RX1 19 "TavernDice$Wager" "stake" "I" ∈ lw_tbl := tb_2 _ (List.mem_of_getElem? (i := 239) rfl)
theorem mt_12_12 : Cond.fieldLink RX1 22 "TavernDice$Wager" "brings" "I" ∈ lw_tbl := tb_3 _ (List.mem_of_getElem? (i := 1) rfl)
theorem mt_12_13 : Cond.fieldLink RX1 25 "TavernDice$Wager" "ways" "I" ∈ lw_tbl := tb_3 _ (List.mem_of_getElem? (i := 3) rfl)
theorem mt_12_14 : Cond.methodLink RX2 107 yJx4a65c_add_9ea2d ∈ lw_tbl := tb_3 _ (List.mem_of_getElem? (i := 18) rfl)
theorem mt_12_15 : Cond.instanceMethod yJx4a65c_add_9ea2d ∈ lw_tbl := tb_3 _ (List.mem_of_getElem? (i := 19) rfl)
theorem mt_12_16 : Cond.selects RJx4a65c yJx4a65c_add_9ea2d yJx4a65c_add_9ea2d ∈ lw_tbl := tb_3 _ (List.mem_of_getElem? (i := 20) rfl)
theorem mt_12_17 : Cond.code yJx4a65c_add_9ea2d cJx4a65c_add_9ea2d 2 (some .boolean) ∈ lw_tbl := tb_3 _ (List.mem_of_getElem? (i := 21) rfl)
theorem mt_12_18 : Cond.fieldLink RJx4a65c 63 "java/util/ArrayList" "modCount" "I" ∈ lw_tbl := tb_1 _ (List.mem_of_getElem? (i := 83) rfl)
theorem mt_12_19 : Cond.sameField "java/util/ArrayList" "java/util/AbstractList" "modCount" "I" ∈ lw_tbl := tb_1 _ (List.mem_of_getElem? (i := 84) rfl)
theorem mt_12_20 : Cond.methodLink RJx4a65c 131 yJx4a65c_add_72be8 ∈ lw_tbl := tb_3 _ (List.mem_of_getElem? (i := 22) rfl)
theorem mt_12_21 : Cond.instanceMethod yJx4a65c_add_72be8 ∈ lw_tbl := tb_3 _ (List.mem_of_getElem? (i := 24) rfl)
theorem mt_12_22 : Cond.selects RJx4a65c yJx4a65c_add_72be8 yJx4a65c_add_72be8 ∈ lw_tbl := tb_s1 _ (List.mem_of_getElem? (i := 13) rfl)
theorem mt_12_23 : Cond.code yJx4a65c_add_72be8 cJx4a65c_add_72be8 4 none ∈ lw_tbl := tb_3 _ (List.mem_of_getElem? (i := 25) rfl)
theorem mtr_12 : ∀ w ∈ wsL_law0_r12, w ∈ lw_tbl := List.forall_mem_cons.mpr ⟨mt_12_0, List.forall_mem_cons.mpr ⟨mt_12_1, List.forall_mem_cons.mpr ⟨mt_12_2, List.forall_mem_cons.mpr ⟨mt_12_3, List.forall_mem_cons.mpr ⟨mt_12_4, List.forall_mem_cons.mpr ⟨mt_12_5, List.forall_mem_cons.mpr ⟨mt_12_6, List.forall_mem_cons.mpr ⟨mt_12_7, List.forall_mem_cons.mpr ⟨mt_12_8, List.forall_mem_cons.mpr ⟨mt_12_9, List.forall_mem_cons.mpr ⟨mt_12_10, List.forall_mem_cons.mpr ⟨mt_12_11, List.forall_mem_cons.mpr ⟨mt_12_12, List.forall_mem_cons.mpr ⟨mt_12_13, List.forall_mem_cons.mpr ⟨mt_12_14, List.forall_mem_cons.mpr ⟨mt_12_15, List.forall_mem_cons.mpr ⟨mt_12_16, List.forall_mem_cons.mpr ⟨mt_12_17, List.forall_mem_cons.mpr ⟨mt_12_18, List.forall_mem_cons.mpr ⟨mt_12_19, List.forall_mem_cons.mpr ⟨mt_12_20, List.forall_mem_cons.mpr ⟨mt_12_21, List.forall_mem_cons.mpr ⟨mt_12_22, List.forall_mem_cons.mpr ⟨mt_12_23, fun _ h => absurd h List.not_mem_nil⟩⟩⟩⟩⟩⟩⟩⟩⟩⟩⟩⟩⟩⟩⟩⟩⟩⟩⟩⟩⟩⟩⟩⟩
theorem mt_13_0 : Cond.methodLink RJx4a65c 129 yJx4a65c_grow_d5877 ∈ lw_tbl := tb_3 _ (List.mem_of_getElem? (i := 26) rfl)
theorem mt_13_1 : Cond.instanceMethod yJx4a65c_grow_d5877 ∈ lw_tbl := tb_3 _ (List.mem_of_getElem? (i := 28) rfl)
theorem mt_13_2 : Cond.selects RJx4a65c yJx4a65c_grow_d5877 yJx4a65c_grow_d5877 ∈ lw_tbl := tb_s1 _ (List.mem_of_getElem? (i := 14) rfl)
theorem mt_13_3 : Cond.code yJx4a65c_grow_d5877 cJx4a65c_grow_d5877 1 (some (.array (.object "java/lang/Object"))) ∈ lw_tbl := tb_3 _ (List.mem_of_getElem? (i := 29) rfl)
theorem mt_13_4 : Cond.methodLink RJx4a65c 69 yJx4a65c_grow_92f84 ∈ lw_tbl := tb_3 _ (List.mem_of_getElem? (i := 30) rfl)
theorem mt_13_5 : Cond.instanceMethod yJx4a65c_grow_92f84 ∈ lw_tbl := tb_3 _ (List.mem_of_getElem? (i := 32) rfl)
theorem mt_13_6 : Cond.selects RJx4a65c yJx4a65c_grow_92f84 yJx4a65c_grow_92f84 ∈ lw_tbl := tb_s1 _ (List.mem_of_getElem? (i := 15) rfl)
theorem mt_13_7 : Cond.code yJx4a65c_grow_92f84 cJx4a65c_grow_92f84 4 (some (.array (.object "java/lang/Object"))) ∈ lw_tbl := tb_3 _ (List.mem_of_getElem? (i := 33) rfl)
theorem mt_13_8 : Cond.methodLink RJx4a65c 79 Lib.Math.max.name ∈ lw_tbl := tb_3 _ (List.mem_of_getElem? (i := 67) rfl)
theorem mt_13_9 : Cond.classLink RJx4a65c 7 "java/lang/Object" ∈ lw_tbl := tb_3 _ (List.mem_of_getElem? (i := 68) rfl)
theorem mt_13_10 : Cond.methodLink RJx4a65c 73 yJ8_newLength_cabcc ∈ lw_tbl := tb_3 _ (List.mem_of_getElem? (i := 34) rfl)
theorem mt_13_11 : Cond.static yJ8_newLength_cabcc ∈ lw_tbl := tb_3 _ (List.mem_of_getElem? (i := 35) rfl)
theorem mt_13_12 : Cond.initialized RJ8 ∈ lw_tbl := tb_1 _ (List.mem_of_getElem? (i := 16) rfl)
theorem mt_13_13 : Cond.code yJ8_newLength_cabcc cJ8_newLength_cabcc 4 (some .int) ∈ lw_tbl := tb_3 _ (List.mem_of_getElem? (i := 36) rfl)
theorem mt_13_14 : Cond.methodLink RJ8 194 Lib.Math.max.name ∈ lw_tbl := tb_3 _ (List.mem_of_getElem? (i := 37) rfl)
theorem mt_13_15 : Cond.constant RJ8 200 (2147483639) ∈ lw_tbl := tb_3 _ (List.mem_of_getElem? (i := 38) rfl)
theorem mt_13_16 : Cond.methodLink RJ8 201 yJ8_hugeLength_7cf53 ∈ lw_tbl := tb_3 _ (List.mem_of_getElem? (i := 39) rfl)
theorem mt_13_17 : Cond.static yJ8_hugeLength_7cf53 ∈ lw_tbl := tb_3 _ (List.mem_of_getElem? (i := 40) rfl)
theorem mt_13_18 : Cond.code yJ8_hugeLength_7cf53 cJ8_hugeLength_7cf53 3 (some .int) ∈ lw_tbl := tb_3 _ (List.mem_of_getElem? (i := 41) rfl)
theorem mt_13_19 : Cond.methodLink RJx4a65c 66 yJ7_copyOf_1904c ∈ lw_tbl := tb_3 _ (List.mem_of_getElem? (i := 42) rfl)
theorem mt_13_20 : Cond.static yJ7_copyOf_1904c ∈ lw_tbl := tb_3 _ (List.mem_of_getElem? (i := 43) rfl)
theorem mt_13_21 : Cond.initialized RJ7 ∈ lw_tbl := tb_1 _ (List.mem_of_getElem? (i := 17) rfl)
theorem mt_13_22 : Cond.code yJ7_copyOf_1904c cJ7_copyOf_1904c 2 (some (.array (.object "java/lang/Object"))) ∈ lw_tbl := tb_3 _ (List.mem_of_getElem? (i := 44) rfl)
theorem mt_13_23 : Cond.methodLink RJ7 86 ⟨"java/lang/Object", "getClass", "()Ljava/lang/Class;"⟩ ∈ lw_tbl := tb_3 _ (List.mem_of_getElem? (i := 45) rfl)
theorem mtr_13 : ∀ w ∈ wsL_law0_r13, w ∈ lw_tbl := List.forall_mem_cons.mpr ⟨mt_13_0, List.forall_mem_cons.mpr ⟨mt_13_1, List.forall_mem_cons.mpr ⟨mt_13_2, List.forall_mem_cons.mpr ⟨mt_13_3, List.forall_mem_cons.mpr ⟨mt_13_4, List.forall_mem_cons.mpr ⟨mt_13_5, List.forall_mem_cons.mpr ⟨mt_13_6, List.forall_mem_cons.mpr ⟨mt_13_7, List.forall_mem_cons.mpr ⟨mt_13_8, List.forall_mem_cons.mpr ⟨mt_13_9, List.forall_mem_cons.mpr ⟨mt_13_10, List.forall_mem_cons.mpr ⟨mt_13_11, List.forall_mem_cons.mpr ⟨mt_13_12, List.forall_mem_cons.mpr ⟨mt_13_13, List.forall_mem_cons.mpr ⟨mt_13_14, List.forall_mem_cons.mpr ⟨mt_13_15, List.forall_mem_cons.mpr ⟨mt_13_16, List.forall_mem_cons.mpr ⟨mt_13_17, List.forall_mem_cons.mpr ⟨mt_13_18, List.forall_mem_cons.mpr ⟨mt_13_19, List.forall_mem_cons.mpr ⟨mt_13_20, List.forall_mem_cons.mpr ⟨mt_13_21, List.forall_mem_cons.mpr ⟨mt_13_22, List.forall_mem_cons.mpr ⟨mt_13_23, fun _ h => absurd h List.not_mem_nil⟩⟩⟩⟩⟩⟩⟩⟩⟩⟩⟩⟩⟩⟩⟩⟩⟩⟩⟩⟩⟩⟩⟩⟩
theorem mt_14_0 : Cond.selects "[Ljava/lang/Object;" ⟨"java/lang/Object", "getClass", "()Ljava/lang/Class;"⟩ ⟨"java/lang/Object", "getClass", "()Ljava/lang/Class;"⟩ ∈ lw_tbl := tb_4 _ (List.mem_of_getElem? (i := 224) rfl)
theorem mt_14_1 : Cond.instanceMethod ⟨"java/lang/Object", "getClass", "()Ljava/lang/Class;"⟩ ∈ lw_tbl := tb_3 _ (List.mem_of_getElem? (i := 46) rfl)
theorem mt_14_2 : Cond.native ⟨"java/lang/Object", "getClass", "()Ljava/lang/Class;"⟩ ∈ lw_tbl := tb_3 _ (List.mem_of_getElem? (i := 56) rfl)
theorem mt_14_3 : Cond.methodLink RJ7 300 yJ7_copyOf_6403c ∈ lw_tbl := tb_3 _ (List.mem_of_getElem? (i := 57) rfl)
theorem mt_14_4 : Cond.static yJ7_copyOf_6403c ∈ lw_tbl := tb_3 _ (List.mem_of_getElem? (i := 58) rfl)
theorem mt_14_5 : Cond.code yJ7_copyOf_6403c cJ7_copyOf_6403c 4 (some (.array (.object "java/lang/Object"))) ∈ lw_tbl := tb_3 _ (List.mem_of_getElem? (i := 59) rfl)
theorem mt_14_6 : Cond.classLink RJ7 110 "[Ljava/lang/Object;" ∈ lw_tbl := tb_3 _ (List.mem_of_getElem? (i := 60) rfl)
theorem mt_14_7 : Cond.classLink RJ7 2 "java/lang/Object" ∈ lw_tbl := tb_3 _ (List.mem_of_getElem? (i := 62) rfl)
theorem mt_14_8 : Cond.methodLink RJ7 304 Lib.Math.min.name ∈ lw_tbl := tb_3 _ (List.mem_of_getElem? (i := 63) rfl)
theorem mt_14_9 : Cond.methodLink RJ7 150 arraycopyName ∈ lw_tbl := tb_3 _ (List.mem_of_getElem? (i := 64) rfl)
theorem mt_14_10 : Cond.native arraycopyName ∈ lw_tbl := tb_3 _ (List.mem_of_getElem? (i := 66) rfl)
theorem mt_14_11 : Cond.static arraycopyName ∈ lw_tbl := tb_3 _ (List.mem_of_getElem? (i := 65) rfl)
theorem mt_14_12 : Cond.initialized "java/lang/System" ∈ lw_tbl := tb_1 _ (List.mem_of_getElem? (i := 18) rfl)
theorem mt_14_13 : Cond.methodLink RL 115 yX3_lay ∈ lw_tbl := tb_4 _ (List.mem_of_getElem? (i := 40) rfl)
theorem mt_14_14 : Cond.instanceMethod yX3_lay ∈ lw_tbl := tb_4 _ (List.mem_of_getElem? (i := 41) rfl)
theorem mt_14_15 : Cond.selects RX3 yX3_lay yX3_lay ∈ lw_tbl := tb_4 _ (List.mem_of_getElem? (i := 42) rfl)
theorem mt_14_16 : Cond.code yX3_lay cX3_lay 8 (some .int) ∈ lw_tbl := tb_4 _ (List.mem_of_getElem? (i := 43) rfl)
theorem mt_14_17 : Cond.methodLink RX3 118 yX3_isPatron ∈ lw_tbl := tb_4 _ (List.mem_of_getElem? (i := 44) rfl)
theorem mt_14_18 : Cond.static yX3_isPatron ∈ lw_tbl := tb_4 _ (List.mem_of_getElem? (i := 45) rfl)
theorem mt_14_19 : Cond.code yX3_isPatron cX3_isPatron 1 (some .boolean) ∈ lw_tbl := tb_4 _ (List.mem_of_getElem? (i := 46) rfl)
theorem mt_14_20 : Cond.methodLink RX3 62 yX3_comes ∈ lw_tbl := tb_4 _ (List.mem_of_getElem? (i := 47) rfl)
theorem mt_14_21 : Cond.instanceMethod yX3_comes ∈ lw_tbl := tb_4 _ (List.mem_of_getElem? (i := 49) rfl)
theorem mt_14_22 : Cond.selects RX3 yX3_comes yX3_comes ∈ lw_tbl := tb_s2 _ (List.mem_of_getElem? (i := 9) rfl)
theorem mt_14_23 : Cond.code yX3_comes cX3_comes 6 (some .boolean) ∈ lw_tbl := tb_4 _ (List.mem_of_getElem? (i := 50) rfl)
theorem mtr_14 : ∀ w ∈ wsL_law0_r14, w ∈ lw_tbl := List.forall_mem_cons.mpr ⟨mt_14_0, List.forall_mem_cons.mpr ⟨mt_14_1, List.forall_mem_cons.mpr ⟨mt_14_2, List.forall_mem_cons.mpr ⟨mt_14_3, List.forall_mem_cons.mpr ⟨mt_14_4, List.forall_mem_cons.mpr ⟨mt_14_5, List.forall_mem_cons.mpr ⟨mt_14_6, List.forall_mem_cons.mpr ⟨mt_14_7, List.forall_mem_cons.mpr ⟨mt_14_8, List.forall_mem_cons.mpr ⟨mt_14_9, List.forall_mem_cons.mpr ⟨mt_14_10, List.forall_mem_cons.mpr ⟨mt_14_11, List.forall_mem_cons.mpr ⟨mt_14_12, List.forall_mem_cons.mpr ⟨mt_14_13, List.forall_mem_cons.mpr ⟨mt_14_14, List.forall_mem_cons.mpr ⟨mt_14_15, List.forall_mem_cons.mpr ⟨mt_14_16, List.forall_mem_cons.mpr ⟨mt_14_17, List.forall_mem_cons.mpr ⟨mt_14_18, List.forall_mem_cons.mpr ⟨mt_14_19, List.forall_mem_cons.mpr ⟨mt_14_20, List.forall_mem_cons.mpr ⟨mt_14_21, List.forall_mem_cons.mpr ⟨mt_14_22, List.forall_mem_cons.mpr ⟨mt_14_23, fun _ h => absurd h List.not_mem_nil⟩⟩⟩⟩⟩⟩⟩⟩⟩⟩⟩⟩⟩⟩⟩⟩⟩⟩⟩⟩⟩⟩⟩⟩
theorem mt_15_0 : Cond.methodLink RL 116 yL_takeBack ∈ lw_tbl := tb_3 _ (List.mem_of_getElem? (i := 69) rfl)
theorem mt_15_1 : Cond.static yL_takeBack ∈ lw_tbl := tb_3 _ (List.mem_of_getElem? (i := 70) rfl)
theorem mt_15_2 : Cond.codeWith yL_takeBack cL_takeBack 4 (some .int) [(0, 9, 12, 21)] ∈ lw_tbl := tb_3 _ (List.mem_of_getElem? (i := 71) rfl)
theorem mt_15_3 : Cond.methodLink RL 35 yX2_takeBack ∈ lw_tbl := tb_3 _ (List.mem_of_getElem? (i := 72) rfl)
theorem mt_15_4 : Cond.instanceMethod yX2_takeBack ∈ lw_tbl := tb_3 _ (List.mem_of_getElem? (i := 73) rfl)
theorem mt_15_5 : Cond.selects RX2 yX2_takeBack yX2_takeBack ∈ lw_tbl := tb_3 _ (List.mem_of_getElem? (i := 74) rfl)
theorem mt_15_6 : Cond.code yX2_takeBack cX2_takeBack 3 (some .int) ∈ lw_tbl := tb_3 _ (List.mem_of_getElem? (i := 75) rfl)
theorem mt_15_7 : Cond.classLink RX2 98 "TavernDice$Wager" ∈ lw_tbl := tb_1 _ (List.mem_of_getElem? (i := 150) rfl)
theorem mt_15_8 : Cond.fieldLink RX2 118 "TavernDice$Wager" "patron" "I" ∈ lw_tbl := tb_2 _ (List.mem_of_getElem? (i := 234) rfl)
theorem mt_15_9 : Cond.fieldLink RX2 121 "TavernDice$Wager" "stake" "I" ∈ lw_tbl := tb_3 _ (List.mem_of_getElem? (i := 0) rfl)
theorem mt_15_10 : Cond.methodLink RX2 111 yX2_checkWager ∈ lw_tbl := tb_2 _ (List.mem_of_getElem? (i := 6) rfl)
theorem mt_15_11 : Cond.instanceMethod yX2_checkWager ∈ lw_tbl := tb_2 _ (List.mem_of_getElem? (i := 8) rfl)
theorem mt_15_12 : Cond.selects RX2 yX2_checkWager yX2_checkWager ∈ lw_tbl := tb_s1 _ (List.mem_of_getElem? (i := 8) rfl)
theorem mt_15_13 : Cond.code yX2_checkWager cX2_checkWager 2 none ∈ lw_tbl := tb_2 _ (List.mem_of_getElem? (i := 9) rfl)
theorem mt_15_14 : Cond.methodLink RX2 114 yJx4a65c_remove_915e3 ∈ lw_tbl := tb_3 _ (List.mem_of_getElem? (i := 76) rfl)
theorem mt_15_15 : Cond.instanceMethod yJx4a65c_remove_915e3 ∈ lw_tbl := tb_3 _ (List.mem_of_getElem? (i := 77) rfl)
theorem mt_15_16 : Cond.selects RJx4a65c yJx4a65c_remove_915e3 yJx4a65c_remove_915e3 ∈ lw_tbl := tb_3 _ (List.mem_of_getElem? (i := 78) rfl)
theorem mt_15_17 : Cond.code yJx4a65c_remove_915e3 cJx4a65c_remove_915e3 4 (some (.object "java/lang/Object")) ∈ lw_tbl := tb_3 _ (List.mem_of_getElem? (i := 79) rfl)
theorem mt_15_18 : Cond.methodLink RJx4a65c 118 yJ15_checkIndex_7cf53 ∈ lw_tbl := tb_1 _ (List.mem_of_getElem? (i := 140) rfl)
theorem mt_15_19 : Cond.static yJ15_checkIndex_7cf53 ∈ lw_tbl := tb_1 _ (List.mem_of_getElem? (i := 141) rfl)
theorem mt_15_20 : Cond.initialized RJ15 ∈ lw_tbl := tb_1 _ (List.mem_of_getElem? (i := 19) rfl)
theorem mt_15_21 : Cond.code yJ15_checkIndex_7cf53 cJ15_checkIndex_7cf53 2 (some .int) ∈ lw_tbl := tb_1 _ (List.mem_of_getElem? (i := 142) rfl)
theorem mt_15_22 : Cond.methodLink RJ15 105 yJ3_checkIndex_8e157 ∈ lw_tbl := tb_1 _ (List.mem_of_getElem? (i := 143) rfl)
theorem mt_15_23 : Cond.static yJ3_checkIndex_8e157 ∈ lw_tbl := tb_1 _ (List.mem_of_getElem? (i := 144) rfl)
theorem mtr_15 : ∀ w ∈ wsL_law0_r15, w ∈ lw_tbl := List.forall_mem_cons.mpr ⟨mt_15_0, List.forall_mem_cons.mpr ⟨mt_15_1, List.forall_mem_cons.mpr ⟨mt_15_2, List.forall_mem_cons.mpr ⟨mt_15_3, List.forall_mem_cons.mpr ⟨mt_15_4, List.forall_mem_cons.mpr ⟨mt_15_5, List.forall_mem_cons.mpr ⟨mt_15_6, List.forall_mem_cons.mpr ⟨mt_15_7, List.forall_mem_cons.mpr ⟨mt_15_8, List.forall_mem_cons.mpr ⟨mt_15_9, List.forall_mem_cons.mpr ⟨mt_15_10, List.forall_mem_cons.mpr ⟨mt_15_11, List.forall_mem_cons.mpr ⟨mt_15_12, List.forall_mem_cons.mpr ⟨mt_15_13, List.forall_mem_cons.mpr ⟨mt_15_14, List.forall_mem_cons.mpr ⟨mt_15_15, List.forall_mem_cons.mpr ⟨mt_15_16, List.forall_mem_cons.mpr ⟨mt_15_17, List.forall_mem_cons.mpr ⟨mt_15_18, List.forall_mem_cons.mpr ⟨mt_15_19, List.forall_mem_cons.mpr ⟨mt_15_20, List.forall_mem_cons.mpr ⟨mt_15_21, List.forall_mem_cons.mpr ⟨mt_15_22, List.forall_mem_cons.mpr ⟨mt_15_23, fun _ h => absurd h List.not_mem_nil⟩⟩⟩⟩⟩⟩⟩⟩⟩⟩⟩⟩⟩⟩⟩⟩⟩⟩⟩⟩⟩⟩⟩⟩
theorem mt_16_0 : Cond.initialized RJ3 ∈ lw_tbl := tb_1 _ (List.mem_of_getElem? (i := 20) rfl)
theorem mt_16_1 : Cond.code yJ3_checkIndex_8e157 cJ3_checkIndex_8e157 3 (some .int) ∈ lw_tbl := tb_1 _ (List.mem_of_getElem? (i := 145) rfl)
theorem mt_16_2 : Cond.methodLink RJx4a65c 144 yJx4a65c_fastRemove_b59b0 ∈ lw_tbl := tb_3 _ (List.mem_of_getElem? (i := 80) rfl)
theorem mt_16_3 : Cond.instanceMethod yJx4a65c_fastRemove_b59b0 ∈ lw_tbl := tb_3 _ (List.mem_of_getElem? (i := 82) rfl)
theorem mt_16_4 : Cond.selects RJx4a65c yJx4a65c_fastRemove_b59b0 yJx4a65c_fastRemove_b59b0 ∈ lw_tbl := tb_s2 _ (List.mem_of_getElem? (i := 0) rfl)
theorem mt_16_5 : Cond.code yJx4a65c_fastRemove_b59b0 cJx4a65c_fastRemove_b59b0 4 none ∈ lw_tbl := tb_3 _ (List.mem_of_getElem? (i := 83) rfl)
theorem mt_16_6 : Cond.methodLink RJx4a65c 112 arraycopyName ∈ lw_tbl := tb_3 _ (List.mem_of_getElem? (i := 84) rfl)
theorem mt_16_7 : Cond.methodLink RL 118 yX3_takeBack ∈ lw_tbl := tb_4 _ (List.mem_of_getElem? (i := 51) rfl)
theorem mt_16_8 : Cond.instanceMethod yX3_takeBack ∈ lw_tbl := tb_4 _ (List.mem_of_getElem? (i := 52) rfl)
theorem mt_16_9 : Cond.selects RX3 yX3_takeBack yX3_takeBack ∈ lw_tbl := tb_4 _ (List.mem_of_getElem? (i := 53) rfl)
theorem mt_16_10 : Cond.code yX3_takeBack cX3_takeBack 4 (some .int) ∈ lw_tbl := tb_4 _ (List.mem_of_getElem? (i := 54) rfl)
theorem mt_16_11 : Cond.methodLink RX3 124 arraycopyName ∈ lw_tbl := tb_4 _ (List.mem_of_getElem? (i := 59) rfl)
theorem mt_16_12 : Cond.methodLink RX3 121 yX3_isWager ∈ lw_tbl := tb_4 _ (List.mem_of_getElem? (i := 55) rfl)
theorem mt_16_13 : Cond.instanceMethod yX3_isWager ∈ lw_tbl := tb_4 _ (List.mem_of_getElem? (i := 57) rfl)
theorem mt_16_14 : Cond.selects RX3 yX3_isWager yX3_isWager ∈ lw_tbl := tb_s2 _ (List.mem_of_getElem? (i := 10) rfl)
theorem mt_16_15 : Cond.code yX3_isWager cX3_isWager 2 (some .boolean) ∈ lw_tbl := tb_4 _ (List.mem_of_getElem? (i := 58) rfl)
theorem mt_16_16 : Cond.methodLink RL 119 yL_settle ∈ lw_tbl := tb_3 _ (List.mem_of_getElem? (i := 85) rfl)
theorem mt_16_17 : Cond.static yL_settle ∈ lw_tbl := tb_3 _ (List.mem_of_getElem? (i := 86) rfl)
theorem mt_16_18 : Cond.codeWith yL_settle cL_settle 4 (some .int) [(0, 9, 12, 21)] ∈ lw_tbl := tb_3 _ (List.mem_of_getElem? (i := 87) rfl)
theorem mt_16_19 : Cond.methodLink RL 38 yX2_settle ∈ lw_tbl := tb_3 _ (List.mem_of_getElem? (i := 88) rfl)
theorem mt_16_20 : Cond.instanceMethod yX2_settle ∈ lw_tbl := tb_3 _ (List.mem_of_getElem? (i := 89) rfl)
theorem mt_16_21 : Cond.selects RX2 yX2_settle yX2_settle ∈ lw_tbl := tb_3 _ (List.mem_of_getElem? (i := 90) rfl)
theorem mt_16_22 : Cond.code yX2_settle cX2_settle 4 (some .int) ∈ lw_tbl := tb_3 _ (List.mem_of_getElem? (i := 91) rfl)
theorem mt_16_23 : Cond.fieldLink RX2 134 "TavernDice" "rounds" "I" ∈ lw_tbl := tb_1 _ (List.mem_of_getElem? (i := 96) rfl)
theorem mtr_16 : ∀ w ∈ wsL_law0_r16, w ∈ lw_tbl := List.forall_mem_cons.mpr ⟨mt_16_0, List.forall_mem_cons.mpr ⟨mt_16_1, List.forall_mem_cons.mpr ⟨mt_16_2, List.forall_mem_cons.mpr ⟨mt_16_3, List.forall_mem_cons.mpr ⟨mt_16_4, List.forall_mem_cons.mpr ⟨mt_16_5, List.forall_mem_cons.mpr ⟨mt_16_6, List.forall_mem_cons.mpr ⟨mt_16_7, List.forall_mem_cons.mpr ⟨mt_16_8, List.forall_mem_cons.mpr ⟨mt_16_9, List.forall_mem_cons.mpr ⟨mt_16_10, List.forall_mem_cons.mpr ⟨mt_16_11, List.forall_mem_cons.mpr ⟨mt_16_12, List.forall_mem_cons.mpr ⟨mt_16_13, List.forall_mem_cons.mpr ⟨mt_16_14, List.forall_mem_cons.mpr ⟨mt_16_15, List.forall_mem_cons.mpr ⟨mt_16_16, List.forall_mem_cons.mpr ⟨mt_16_17, List.forall_mem_cons.mpr ⟨mt_16_18, List.forall_mem_cons.mpr ⟨mt_16_19, List.forall_mem_cons.mpr ⟨mt_16_20, List.forall_mem_cons.mpr ⟨mt_16_21, List.forall_mem_cons.mpr ⟨mt_16_22, List.forall_mem_cons.mpr ⟨mt_16_23, fun _ h => absurd h List.not_mem_nil⟩⟩⟩⟩⟩⟩⟩⟩⟩⟩⟩⟩⟩⟩⟩⟩⟩⟩⟩⟩⟩⟩⟩⟩
theorem mt_17_0 : Cond.methodLink RX2 124 yX2_gainOfAll ∈ lw_tbl := tb_1 _ (List.mem_of_getElem? (i := 200) rfl)
theorem mt_17_1 : Cond.instanceMethod yX2_gainOfAll ∈ lw_tbl := tb_1 _ (List.mem_of_getElem? (i := 202) rfl)
theorem mt_17_2 : Cond.selects RX2 yX2_gainOfAll yX2_gainOfAll ∈ lw_tbl := tb_s1 _ (List.mem_of_getElem? (i := 5) rfl)
theorem mt_17_3 : Cond.code yX2_gainOfAll cX2_gainOfAll 5 (some .int) ∈ lw_tbl := tb_1 _ (List.mem_of_getElem? (i := 203) rfl)
theorem mt_17_4 : Cond.fieldLink RX2 232 "TavernDice$Wager" "kind" "I" ∈ lw_tbl := tb_2 _ (List.mem_of_getElem? (i := 236) rfl)
theorem mt_17_5 : Cond.fieldLink RX2 235 "TavernDice$Wager" "number" "I" ∈ lw_tbl := tb_2 _ (List.mem_of_getElem? (i := 238) rfl)
theorem mt_17_6 : Cond.fieldLink RX2 140 "TavernDice$Wager" "brings" "I" ∈ lw_tbl := tb_3 _ (List.mem_of_getElem? (i := 2) rfl)
theorem mt_17_7 : Cond.methodLink RX2 137 yJx4a65c_get_915e3 ∈ lw_tbl := tb_1 _ (List.mem_of_getElem? (i := 136) rfl)
theorem mt_17_8 : Cond.instanceMethod yJx4a65c_get_915e3 ∈ lw_tbl := tb_1 _ (List.mem_of_getElem? (i := 137) rfl)
theorem mt_17_9 : Cond.selects RJx4a65c yJx4a65c_get_915e3 yJx4a65c_get_915e3 ∈ lw_tbl := tb_1 _ (List.mem_of_getElem? (i := 138) rfl)
theorem mt_17_10 : Cond.code yJx4a65c_get_915e3 cJx4a65c_get_915e3 2 (some (.object "java/lang/Object")) ∈ lw_tbl := tb_1 _ (List.mem_of_getElem? (i := 139) rfl)
theorem mt_17_11 : Cond.methodLink RJx4a65c 123 yJx4a65c_elementData_915e3 ∈ lw_tbl := tb_1 _ (List.mem_of_getElem? (i := 146) rfl)
theorem mt_17_12 : Cond.instanceMethod yJx4a65c_elementData_915e3 ∈ lw_tbl := tb_1 _ (List.mem_of_getElem? (i := 147) rfl)
theorem mt_17_13 : Cond.selects RJx4a65c yJx4a65c_elementData_915e3 yJx4a65c_elementData_915e3 ∈ lw_tbl := tb_1 _ (List.mem_of_getElem? (i := 148) rfl)
theorem mt_17_14 : Cond.code yJx4a65c_elementData_915e3 cJx4a65c_elementData_915e3 2 (some (.object "java/lang/Object")) ∈ lw_tbl := tb_1 _ (List.mem_of_getElem? (i := 149) rfl)
theorem mt_17_15 : Cond.methodLink RX2 238 yX0_comes ∈ lw_tbl := tb_1 _ (List.mem_of_getElem? (i := 204) rfl)
theorem mt_17_16 : Cond.methodLink RX2 128 yX2_purseBehind ∈ lw_tbl := tb_2 _ (List.mem_of_getElem? (i := 110) rfl)
theorem mt_17_17 : Cond.instanceMethod yX2_purseBehind ∈ lw_tbl := tb_2 _ (List.mem_of_getElem? (i := 112) rfl)
theorem mt_17_18 : Cond.selects RX2 yX2_purseBehind yX2_purseBehind ∈ lw_tbl := tb_s1 _ (List.mem_of_getElem? (i := 11) rfl)
theorem mt_17_19 : Cond.code yX2_purseBehind cX2_purseBehind 6 (some .int) ∈ lw_tbl := tb_2 _ (List.mem_of_getElem? (i := 113) rfl)
theorem mt_17_20 : Cond.methodLink RX2 131 yJx4a65c_clear_da8c8 ∈ lw_tbl := tb_3 _ (List.mem_of_getElem? (i := 92) rfl)
theorem mt_17_21 : Cond.instanceMethod yJx4a65c_clear_da8c8 ∈ lw_tbl := tb_3 _ (List.mem_of_getElem? (i := 93) rfl)
theorem mt_17_22 : Cond.selects RJx4a65c yJx4a65c_clear_da8c8 yJx4a65c_clear_da8c8 ∈ lw_tbl := tb_3 _ (List.mem_of_getElem? (i := 94) rfl)
theorem mt_17_23 : Cond.code yJx4a65c_clear_da8c8 cJx4a65c_clear_da8c8 4 none ∈ lw_tbl := tb_3 _ (List.mem_of_getElem? (i := 95) rfl)
theorem mtr_17 : ∀ w ∈ wsL_law0_r17, w ∈ lw_tbl := List.forall_mem_cons.mpr ⟨mt_17_0, List.forall_mem_cons.mpr ⟨mt_17_1, List.forall_mem_cons.mpr ⟨mt_17_2, List.forall_mem_cons.mpr ⟨mt_17_3, List.forall_mem_cons.mpr ⟨mt_17_4, List.forall_mem_cons.mpr ⟨mt_17_5, List.forall_mem_cons.mpr ⟨mt_17_6, List.forall_mem_cons.mpr ⟨mt_17_7, List.forall_mem_cons.mpr ⟨mt_17_8, List.forall_mem_cons.mpr ⟨mt_17_9, List.forall_mem_cons.mpr ⟨mt_17_10, List.forall_mem_cons.mpr ⟨mt_17_11, List.forall_mem_cons.mpr ⟨mt_17_12, List.forall_mem_cons.mpr ⟨mt_17_13, List.forall_mem_cons.mpr ⟨mt_17_14, List.forall_mem_cons.mpr ⟨mt_17_15, List.forall_mem_cons.mpr ⟨mt_17_16, List.forall_mem_cons.mpr ⟨mt_17_17, List.forall_mem_cons.mpr ⟨mt_17_18, List.forall_mem_cons.mpr ⟨mt_17_19, List.forall_mem_cons.mpr ⟨mt_17_20, List.forall_mem_cons.mpr ⟨mt_17_21, List.forall_mem_cons.mpr ⟨mt_17_22, List.forall_mem_cons.mpr ⟨mt_17_23, fun _ h => absurd h List.not_mem_nil⟩⟩⟩⟩⟩⟩⟩⟩⟩⟩⟩⟩⟩⟩⟩⟩⟩⟩⟩⟩⟩⟩⟩⟩
theorem mt_18_0 : Cond.methodLink RL 121 yX3_settle ∈ lw_tbl := tb_4 _ (List.mem_of_getElem? (i := 60) rfl)
theorem mt_18_1 : Cond.instanceMethod yX3_settle ∈ lw_tbl := tb_4 _ (List.mem_of_getElem? (i := 61) rfl)
theorem mt_18_2 : Cond.selects RX3 yX3_settle yX3_settle ∈ lw_tbl := tb_4 _ (List.mem_of_getElem? (i := 62) rfl)
theorem mt_18_3 : Cond.code yX3_settle cX3_settle 4 (some .int) ∈ lw_tbl := tb_4 _ (List.mem_of_getElem? (i := 63) rfl)
theorem mt_18_4 : Cond.fieldLink RX3 130 "TavernDiceModel" "rounds" "I" ∈ lw_tbl := tb_3 _ (List.mem_of_getElem? (i := 168) rfl)
theorem mt_18_5 : Cond.methodLink RX3 92 yX3_gain ∈ lw_tbl := tb_4 _ (List.mem_of_getElem? (i := 64) rfl)
theorem mt_18_6 : Cond.instanceMethod yX3_gain ∈ lw_tbl := tb_4 _ (List.mem_of_getElem? (i := 66) rfl)
theorem mt_18_7 : Cond.selects RX3 yX3_gain yX3_gain ∈ lw_tbl := tb_s2 _ (List.mem_of_getElem? (i := 11) rfl)
theorem mt_18_8 : Cond.code yX3_gain cX3_gain 4 (some .int) ∈ lw_tbl := tb_4 _ (List.mem_of_getElem? (i := 67) rfl)
theorem mt_18_9 : Cond.methodLink RL 122 yX2_open ∈ lw_tbl := tb_1 _ (List.mem_of_getElem? (i := 116) rfl)
theorem mt_18_10 : Cond.instanceMethod yX2_open ∈ lw_tbl := tb_1 _ (List.mem_of_getElem? (i := 117) rfl)
theorem mt_18_11 : Cond.selects RX2 yX2_open yX2_open ∈ lw_tbl := tb_1 _ (List.mem_of_getElem? (i := 118) rfl)
theorem mt_18_12 : Cond.code yX2_open cX2_open 1 (some .int) ∈ lw_tbl := tb_1 _ (List.mem_of_getElem? (i := 119) rfl)
theorem mt_18_13 : Cond.methodLink RL 125 yX3_open ∈ lw_tbl := tb_4 _ (List.mem_of_getElem? (i := 68) rfl)
theorem mt_18_14 : Cond.instanceMethod yX3_open ∈ lw_tbl := tb_4 _ (List.mem_of_getElem? (i := 69) rfl)
theorem mt_18_15 : Cond.selects RX3 yX3_open yX3_open ∈ lw_tbl := tb_4 _ (List.mem_of_getElem? (i := 70) rfl)
theorem mt_18_16 : Cond.code yX3_open cX3_open 1 (some .int) ∈ lw_tbl := tb_4 _ (List.mem_of_getElem? (i := 71) rfl)
theorem mt_18_17 : Cond.methodLink RL 126 yX2_bank ∈ lw_tbl := tb_1 _ (List.mem_of_getElem? (i := 124) rfl)
theorem mt_18_18 : Cond.instanceMethod yX2_bank ∈ lw_tbl := tb_1 _ (List.mem_of_getElem? (i := 125) rfl)
theorem mt_18_19 : Cond.selects RX2 yX2_bank yX2_bank ∈ lw_tbl := tb_1 _ (List.mem_of_getElem? (i := 126) rfl)
theorem mt_18_20 : Cond.code yX2_bank cX2_bank 1 (some .int) ∈ lw_tbl := tb_1 _ (List.mem_of_getElem? (i := 127) rfl)
theorem mt_18_21 : Cond.methodLink RL 129 yX3_bank ∈ lw_tbl := tb_4 _ (List.mem_of_getElem? (i := 72) rfl)
theorem mt_18_22 : Cond.instanceMethod yX3_bank ∈ lw_tbl := tb_4 _ (List.mem_of_getElem? (i := 73) rfl)
theorem mt_18_23 : Cond.selects RX3 yX3_bank yX3_bank ∈ lw_tbl := tb_4 _ (List.mem_of_getElem? (i := 74) rfl)
theorem mtr_18 : ∀ w ∈ wsL_law0_r18, w ∈ lw_tbl := List.forall_mem_cons.mpr ⟨mt_18_0, List.forall_mem_cons.mpr ⟨mt_18_1, List.forall_mem_cons.mpr ⟨mt_18_2, List.forall_mem_cons.mpr ⟨mt_18_3, List.forall_mem_cons.mpr ⟨mt_18_4, List.forall_mem_cons.mpr ⟨mt_18_5, List.forall_mem_cons.mpr ⟨mt_18_6, List.forall_mem_cons.mpr ⟨mt_18_7, List.forall_mem_cons.mpr ⟨mt_18_8, List.forall_mem_cons.mpr ⟨mt_18_9, List.forall_mem_cons.mpr ⟨mt_18_10, List.forall_mem_cons.mpr ⟨mt_18_11, List.forall_mem_cons.mpr ⟨mt_18_12, List.forall_mem_cons.mpr ⟨mt_18_13, List.forall_mem_cons.mpr ⟨mt_18_14, List.forall_mem_cons.mpr ⟨mt_18_15, List.forall_mem_cons.mpr ⟨mt_18_16, List.forall_mem_cons.mpr ⟨mt_18_17, List.forall_mem_cons.mpr ⟨mt_18_18, List.forall_mem_cons.mpr ⟨mt_18_19, List.forall_mem_cons.mpr ⟨mt_18_20, List.forall_mem_cons.mpr ⟨mt_18_21, List.forall_mem_cons.mpr ⟨mt_18_22, List.forall_mem_cons.mpr ⟨mt_18_23, fun _ h => absurd h List.not_mem_nil⟩⟩⟩⟩⟩⟩⟩⟩⟩⟩⟩⟩⟩⟩⟩⟩⟩⟩⟩⟩⟩⟩⟩⟩
theorem mt_19_0 : Cond.code yX3_bank cX3_bank 1 (some .int) ∈ lw_tbl := tb_4 _ (List.mem_of_getElem? (i := 75) rfl)
theorem mt_19_1 : Cond.methodLink RL 130 yX2_rounds ∈ lw_tbl := tb_1 _ (List.mem_of_getElem? (i := 128) rfl)
theorem mt_19_2 : Cond.instanceMethod yX2_rounds ∈ lw_tbl := tb_1 _ (List.mem_of_getElem? (i := 129) rfl)
theorem mt_19_3 : Cond.selects RX2 yX2_rounds yX2_rounds ∈ lw_tbl := tb_1 _ (List.mem_of_getElem? (i := 130) rfl)
theorem mt_19_4 : Cond.code yX2_rounds cX2_rounds 1 (some .int) ∈ lw_tbl := tb_1 _ (List.mem_of_getElem? (i := 131) rfl)
theorem mt_19_5 : Cond.methodLink RL 133 yX3_rounds ∈ lw_tbl := tb_4 _ (List.mem_of_getElem? (i := 76) rfl)
theorem mt_19_6 : Cond.instanceMethod yX3_rounds ∈ lw_tbl := tb_4 _ (List.mem_of_getElem? (i := 77) rfl)
theorem mt_19_7 : Cond.selects RX3 yX3_rounds yX3_rounds ∈ lw_tbl := tb_4 _ (List.mem_of_getElem? (i := 78) rfl)
theorem mt_19_8 : Cond.code yX3_rounds cX3_rounds 1 (some .int) ∈ lw_tbl := tb_4 _ (List.mem_of_getElem? (i := 79) rfl)
theorem mt_19_9 : Cond.methodLink RL 134 yL_purseOf ∈ lw_tbl := tb_3 _ (List.mem_of_getElem? (i := 96) rfl)
theorem mt_19_10 : Cond.static yL_purseOf ∈ lw_tbl := tb_3 _ (List.mem_of_getElem? (i := 97) rfl)
theorem mt_19_11 : Cond.codeWith yL_purseOf cL_purseOf 4 (some .int) [(0, 9, 12, 21)] ∈ lw_tbl := tb_3 _ (List.mem_of_getElem? (i := 98) rfl)
theorem mt_19_12 : Cond.methodLink RL 41 yX2_purseOf ∈ lw_tbl := tb_3 _ (List.mem_of_getElem? (i := 99) rfl)
theorem mt_19_13 : Cond.instanceMethod yX2_purseOf ∈ lw_tbl := tb_2 _ (List.mem_of_getElem? (i := 99) rfl)
theorem mt_19_14 : Cond.selects RX2 yX2_purseOf yX2_purseOf ∈ lw_tbl := tb_2 _ (List.mem_of_getElem? (i := 100) rfl)
theorem mt_19_15 : Cond.code yX2_purseOf cX2_purseOf 2 (some .int) ∈ lw_tbl := tb_2 _ (List.mem_of_getElem? (i := 101) rfl)
theorem mt_19_16 : Cond.methodLink RL 136 yX3_purseOf ∈ lw_tbl := tb_4 _ (List.mem_of_getElem? (i := 80) rfl)
theorem mt_19_17 : Cond.instanceMethod yX3_purseOf ∈ lw_tbl := tb_4 _ (List.mem_of_getElem? (i := 81) rfl)
theorem mt_19_18 : Cond.selects RX3 yX3_purseOf yX3_purseOf ∈ lw_tbl := tb_4 _ (List.mem_of_getElem? (i := 82) rfl)
theorem mt_19_19 : Cond.code yX3_purseOf cX3_purseOf 2 (some .int) ∈ lw_tbl := tb_4 _ (List.mem_of_getElem? (i := 83) rfl)
theorem mt_19_20 : Cond.methodLink RL 137 yL_patronOf ∈ lw_tbl := tb_3 _ (List.mem_of_getElem? (i := 100) rfl)
theorem mt_19_21 : Cond.static yL_patronOf ∈ lw_tbl := tb_3 _ (List.mem_of_getElem? (i := 101) rfl)
theorem mt_19_22 : Cond.codeWith yL_patronOf cL_patronOf 4 (some .int) [(0, 9, 12, 21)] ∈ lw_tbl := tb_3 _ (List.mem_of_getElem? (i := 102) rfl)
theorem mt_19_23 : Cond.methodLink RL 44 yX2_patronOf ∈ lw_tbl := tb_3 _ (List.mem_of_getElem? (i := 103) rfl)
theorem mtr_19 : ∀ w ∈ wsL_law0_r19, w ∈ lw_tbl := List.forall_mem_cons.mpr ⟨mt_19_0, List.forall_mem_cons.mpr ⟨mt_19_1, List.forall_mem_cons.mpr ⟨mt_19_2, List.forall_mem_cons.mpr ⟨mt_19_3, List.forall_mem_cons.mpr ⟨mt_19_4, List.forall_mem_cons.mpr ⟨mt_19_5, List.forall_mem_cons.mpr ⟨mt_19_6, List.forall_mem_cons.mpr ⟨mt_19_7, List.forall_mem_cons.mpr ⟨mt_19_8, List.forall_mem_cons.mpr ⟨mt_19_9, List.forall_mem_cons.mpr ⟨mt_19_10, List.forall_mem_cons.mpr ⟨mt_19_11, List.forall_mem_cons.mpr ⟨mt_19_12, List.forall_mem_cons.mpr ⟨mt_19_13, List.forall_mem_cons.mpr ⟨mt_19_14, List.forall_mem_cons.mpr ⟨mt_19_15, List.forall_mem_cons.mpr ⟨mt_19_16, List.forall_mem_cons.mpr ⟨mt_19_17, List.forall_mem_cons.mpr ⟨mt_19_18, List.forall_mem_cons.mpr ⟨mt_19_19, List.forall_mem_cons.mpr ⟨mt_19_20, List.forall_mem_cons.mpr ⟨mt_19_21, List.forall_mem_cons.mpr ⟨mt_19_22, List.forall_mem_cons.mpr ⟨mt_19_23, fun _ h => absurd h List.not_mem_nil⟩⟩⟩⟩⟩⟩⟩⟩⟩⟩⟩⟩⟩⟩⟩⟩⟩⟩⟩⟩⟩⟩⟩⟩
theorem mt_20_0 : Cond.instanceMethod yX2_patronOf ∈ lw_tbl := tb_2 _ (List.mem_of_getElem? (i := 3) rfl)
theorem mt_20_1 : Cond.selects RX2 yX2_patronOf yX2_patronOf ∈ lw_tbl := tb_2 _ (List.mem_of_getElem? (i := 4) rfl)
theorem mt_20_2 : Cond.code yX2_patronOf cX2_patronOf 2 (some .int) ∈ lw_tbl := tb_2 _ (List.mem_of_getElem? (i := 5) rfl)
theorem mt_20_3 : Cond.methodLink RL 139 yX3_patronOf ∈ lw_tbl := tb_4 _ (List.mem_of_getElem? (i := 84) rfl)
theorem mt_20_4 : Cond.instanceMethod yX3_patronOf ∈ lw_tbl := tb_4 _ (List.mem_of_getElem? (i := 85) rfl)
theorem mt_20_5 : Cond.selects RX3 yX3_patronOf yX3_patronOf ∈ lw_tbl := tb_4 _ (List.mem_of_getElem? (i := 86) rfl)
theorem mt_20_6 : Cond.code yX3_patronOf cX3_patronOf 2 (some .int) ∈ lw_tbl := tb_4 _ (List.mem_of_getElem? (i := 87) rfl)
theorem mt_20_7 : Cond.methodLink RX3 133 yX3_of ∈ lw_tbl := tb_4 _ (List.mem_of_getElem? (i := 88) rfl)
theorem mt_20_8 : Cond.instanceMethod yX3_of ∈ lw_tbl := tb_4 _ (List.mem_of_getElem? (i := 90) rfl)
theorem mt_20_9 : Cond.selects RX3 yX3_of yX3_of ∈ lw_tbl := tb_s2 _ (List.mem_of_getElem? (i := 12) rfl)
theorem mt_20_10 : Cond.code yX3_of cX3_of 3 (some .int) ∈ lw_tbl := tb_4 _ (List.mem_of_getElem? (i := 91) rfl)
theorem mt_20_11 : Cond.methodLink RL 140 yL_stakeOf ∈ lw_tbl := tb_3 _ (List.mem_of_getElem? (i := 104) rfl)
theorem mt_20_12 : Cond.static yL_stakeOf ∈ lw_tbl := tb_3 _ (List.mem_of_getElem? (i := 105) rfl)
theorem mt_20_13 : Cond.codeWith yL_stakeOf cL_stakeOf 4 (some .int) [(0, 9, 12, 21)] ∈ lw_tbl := tb_3 _ (List.mem_of_getElem? (i := 106) rfl)
theorem mt_20_14 : Cond.methodLink RL 47 yX2_stakeOf ∈ lw_tbl := tb_3 _ (List.mem_of_getElem? (i := 107) rfl)
theorem mt_20_15 : Cond.instanceMethod yX2_stakeOf ∈ lw_tbl := tb_2 _ (List.mem_of_getElem? (i := 79) rfl)
theorem mt_20_16 : Cond.selects RX2 yX2_stakeOf yX2_stakeOf ∈ lw_tbl := tb_2 _ (List.mem_of_getElem? (i := 80) rfl)
theorem mt_20_17 : Cond.code yX2_stakeOf cX2_stakeOf 2 (some .int) ∈ lw_tbl := tb_2 _ (List.mem_of_getElem? (i := 81) rfl)
theorem mt_20_18 : Cond.methodLink RL 142 yX3_stakeOf ∈ lw_tbl := tb_4 _ (List.mem_of_getElem? (i := 92) rfl)
theorem mt_20_19 : Cond.instanceMethod yX3_stakeOf ∈ lw_tbl := tb_4 _ (List.mem_of_getElem? (i := 93) rfl)
theorem mt_20_20 : Cond.selects RX3 yX3_stakeOf yX3_stakeOf ∈ lw_tbl := tb_4 _ (List.mem_of_getElem? (i := 94) rfl)
theorem mt_20_21 : Cond.code yX3_stakeOf cX3_stakeOf 2 (some .int) ∈ lw_tbl := tb_4 _ (List.mem_of_getElem? (i := 95) rfl)
theorem mt_20_22 : Cond.methodLink RL 143 yL_bringsOf ∈ lw_tbl := tb_3 _ (List.mem_of_getElem? (i := 108) rfl)
theorem mt_20_23 : Cond.static yL_bringsOf ∈ lw_tbl := tb_3 _ (List.mem_of_getElem? (i := 109) rfl)
theorem mtr_20 : ∀ w ∈ wsL_law0_r20, w ∈ lw_tbl := List.forall_mem_cons.mpr ⟨mt_20_0, List.forall_mem_cons.mpr ⟨mt_20_1, List.forall_mem_cons.mpr ⟨mt_20_2, List.forall_mem_cons.mpr ⟨mt_20_3, List.forall_mem_cons.mpr ⟨mt_20_4, List.forall_mem_cons.mpr ⟨mt_20_5, List.forall_mem_cons.mpr ⟨mt_20_6, List.forall_mem_cons.mpr ⟨mt_20_7, List.forall_mem_cons.mpr ⟨mt_20_8, List.forall_mem_cons.mpr ⟨mt_20_9, List.forall_mem_cons.mpr ⟨mt_20_10, List.forall_mem_cons.mpr ⟨mt_20_11, List.forall_mem_cons.mpr ⟨mt_20_12, List.forall_mem_cons.mpr ⟨mt_20_13, List.forall_mem_cons.mpr ⟨mt_20_14, List.forall_mem_cons.mpr ⟨mt_20_15, List.forall_mem_cons.mpr ⟨mt_20_16, List.forall_mem_cons.mpr ⟨mt_20_17, List.forall_mem_cons.mpr ⟨mt_20_18, List.forall_mem_cons.mpr ⟨mt_20_19, List.forall_mem_cons.mpr ⟨mt_20_20, List.forall_mem_cons.mpr ⟨mt_20_21, List.forall_mem_cons.mpr ⟨mt_20_22, List.forall_mem_cons.mpr ⟨mt_20_23, fun _ h => absurd h List.not_mem_nil⟩⟩⟩⟩⟩⟩⟩⟩⟩⟩⟩⟩⟩⟩⟩⟩⟩⟩⟩⟩⟩⟩⟩⟩
theorem mt_21_0 : Cond.codeWith yL_bringsOf cL_bringsOf 4 (some .int) [(0, 9, 12, 21)] ∈ lw_tbl := tb_3 _ (List.mem_of_getElem? (i := 110) rfl)
theorem mt_21_1 : Cond.methodLink RL 50 yX2_bringsOf ∈ lw_tbl := tb_3 _ (List.mem_of_getElem? (i := 111) rfl)
theorem mt_21_2 : Cond.instanceMethod yX2_bringsOf ∈ lw_tbl := tb_2 _ (List.mem_of_getElem? (i := 83) rfl)
theorem mt_21_3 : Cond.selects RX2 yX2_bringsOf yX2_bringsOf ∈ lw_tbl := tb_2 _ (List.mem_of_getElem? (i := 84) rfl)
theorem mt_21_4 : Cond.code yX2_bringsOf cX2_bringsOf 2 (some .int) ∈ lw_tbl := tb_2 _ (List.mem_of_getElem? (i := 85) rfl)
theorem mt_21_5 : Cond.methodLink RL 145 yX3_bringsOf ∈ lw_tbl := tb_4 _ (List.mem_of_getElem? (i := 96) rfl)
theorem mt_21_6 : Cond.instanceMethod yX3_bringsOf ∈ lw_tbl := tb_4 _ (List.mem_of_getElem? (i := 97) rfl)
theorem mt_21_7 : Cond.selects RX3 yX3_bringsOf yX3_bringsOf ∈ lw_tbl := tb_4 _ (List.mem_of_getElem? (i := 98) rfl)
theorem mt_21_8 : Cond.code yX3_bringsOf cX3_bringsOf 2 (some .int) ∈ lw_tbl := tb_4 _ (List.mem_of_getElem? (i := 99) rfl)
theorem mt_21_9 : Cond.methodLink RL 146 yX2_staked ∈ lw_tbl := tb_1 _ (List.mem_of_getElem? (i := 132) rfl)
theorem mt_21_10 : Cond.instanceMethod yX2_staked ∈ lw_tbl := tb_1 _ (List.mem_of_getElem? (i := 133) rfl)
theorem mt_21_11 : Cond.selects RX2 yX2_staked yX2_staked ∈ lw_tbl := tb_1 _ (List.mem_of_getElem? (i := 134) rfl)
theorem mt_21_12 : Cond.code yX2_staked cX2_staked 3 (some .int) ∈ lw_tbl := tb_1 _ (List.mem_of_getElem? (i := 135) rfl)
theorem mt_21_13 : Cond.methodLink RL 149 yX3_staked ∈ lw_tbl := tb_4 _ (List.mem_of_getElem? (i := 100) rfl)
theorem mt_21_14 : Cond.instanceMethod yX3_staked ∈ lw_tbl := tb_4 _ (List.mem_of_getElem? (i := 101) rfl)
theorem mt_21_15 : Cond.selects RX3 yX3_staked yX3_staked ∈ lw_tbl := tb_4 _ (List.mem_of_getElem? (i := 102) rfl)
theorem mt_21_16 : Cond.code yX3_staked cX3_staked 1 (some .int) ∈ lw_tbl := tb_4 _ (List.mem_of_getElem? (i := 103) rfl)
theorem mt_21_17 : Cond.methodLink RX3 137 yX3_allStakes ∈ lw_tbl := tb_4 _ (List.mem_of_getElem? (i := 104) rfl)
theorem mt_21_18 : Cond.instanceMethod yX3_allStakes ∈ lw_tbl := tb_4 _ (List.mem_of_getElem? (i := 106) rfl)
theorem mt_21_19 : Cond.selects RX3 yX3_allStakes yX3_allStakes ∈ lw_tbl := tb_s2 _ (List.mem_of_getElem? (i := 13) rfl)
theorem mt_21_20 : Cond.code yX3_allStakes cX3_allStakes 3 (some .int) ∈ lw_tbl := tb_4 _ (List.mem_of_getElem? (i := 107) rfl)
theorem mt_21_21 : Cond.methodLink RL 150 yL_edgeTop ∈ lw_tbl := tb_3 _ (List.mem_of_getElem? (i := 112) rfl)
theorem mt_21_22 : Cond.static yL_edgeTop ∈ lw_tbl := tb_3 _ (List.mem_of_getElem? (i := 113) rfl)
theorem mt_21_23 : Cond.codeWith yL_edgeTop cL_edgeTop 4 (some .int) [(0, 9, 12, 21)] ∈ lw_tbl := tb_3 _ (List.mem_of_getElem? (i := 114) rfl)
theorem mtr_21 : ∀ w ∈ wsL_law0_r21, w ∈ lw_tbl := List.forall_mem_cons.mpr ⟨mt_21_0, List.forall_mem_cons.mpr ⟨mt_21_1, List.forall_mem_cons.mpr ⟨mt_21_2, List.forall_mem_cons.mpr ⟨mt_21_3, List.forall_mem_cons.mpr ⟨mt_21_4, List.forall_mem_cons.mpr ⟨mt_21_5, List.forall_mem_cons.mpr ⟨mt_21_6, List.forall_mem_cons.mpr ⟨mt_21_7, List.forall_mem_cons.mpr ⟨mt_21_8, List.forall_mem_cons.mpr ⟨mt_21_9, List.forall_mem_cons.mpr ⟨mt_21_10, List.forall_mem_cons.mpr ⟨mt_21_11, List.forall_mem_cons.mpr ⟨mt_21_12, List.forall_mem_cons.mpr ⟨mt_21_13, List.forall_mem_cons.mpr ⟨mt_21_14, List.forall_mem_cons.mpr ⟨mt_21_15, List.forall_mem_cons.mpr ⟨mt_21_16, List.forall_mem_cons.mpr ⟨mt_21_17, List.forall_mem_cons.mpr ⟨mt_21_18, List.forall_mem_cons.mpr ⟨mt_21_19, List.forall_mem_cons.mpr ⟨mt_21_20, List.forall_mem_cons.mpr ⟨mt_21_21, List.forall_mem_cons.mpr ⟨mt_21_22, List.forall_mem_cons.mpr ⟨mt_21_23, fun _ h => absurd h List.not_mem_nil⟩⟩⟩⟩⟩⟩⟩⟩⟩⟩⟩⟩⟩⟩⟩⟩⟩⟩⟩⟩⟩⟩⟩⟩
theorem mt_22_0 : Cond.methodLink RL 53 yX2_edgeTop ∈ lw_tbl := tb_3 _ (List.mem_of_getElem? (i := 115) rfl)
theorem mt_22_1 : Cond.instanceMethod yX2_edgeTop ∈ lw_tbl := tb_2 _ (List.mem_of_getElem? (i := 87) rfl)
theorem mt_22_2 : Cond.selects RX2 yX2_edgeTop yX2_edgeTop ∈ lw_tbl := tb_2 _ (List.mem_of_getElem? (i := 88) rfl)
theorem mt_22_3 : Cond.code yX2_edgeTop cX2_edgeTop 2 (some .int) ∈ lw_tbl := tb_2 _ (List.mem_of_getElem? (i := 89) rfl)
theorem mt_22_4 : Cond.methodLink RX2 143 yX2_gainOverOutcomes ∈ lw_tbl := tb_1 _ (List.mem_of_getElem? (i := 159) rfl)
theorem mt_22_5 : Cond.instanceMethod yX2_gainOverOutcomes ∈ lw_tbl := tb_1 _ (List.mem_of_getElem? (i := 161) rfl)
theorem mt_22_6 : Cond.selects RX2 yX2_gainOverOutcomes yX2_gainOverOutcomes ∈ lw_tbl := tb_s1 _ (List.mem_of_getElem? (i := 2) rfl)
theorem mt_22_7 : Cond.code yX2_gainOverOutcomes cX2_gainOverOutcomes 2 (some .int) ∈ lw_tbl := tb_1 _ (List.mem_of_getElem? (i := 162) rfl)
theorem mt_22_8 : Cond.fieldLink RX2 242 "TavernDice$Wager" "ways" "I" ∈ lw_tbl := tb_3 _ (List.mem_of_getElem? (i := 4) rfl)
theorem mt_22_9 : Cond.methodLink RX2 164 yX0_gainOver ∈ lw_tbl := tb_1 _ (List.mem_of_getElem? (i := 163) rfl)
theorem mt_22_10 : Cond.instanceMethod yX0_gainOver ∈ lw_tbl := tb_1 _ (List.mem_of_getElem? (i := 164) rfl)
theorem mt_22_11 : Cond.selects RX0 yX0_gainOver yX0_gainOver ∈ lw_tbl := tb_1 _ (List.mem_of_getElem? (i := 165) rfl)
theorem mt_22_12 : Cond.code yX0_gainOver cX0_gainOver 4 (some .int) ∈ lw_tbl := tb_1 _ (List.mem_of_getElem? (i := 166) rfl)
theorem mt_22_13 : Cond.methodLink RX2 147 yX2_lowestTop ∈ lw_tbl := tb_1 _ (List.mem_of_getElem? (i := 167) rfl)
theorem mt_22_14 : Cond.instanceMethod yX2_lowestTop ∈ lw_tbl := tb_1 _ (List.mem_of_getElem? (i := 169) rfl)
theorem mt_22_15 : Cond.selects RX2 yX2_lowestTop yX2_lowestTop ∈ lw_tbl := tb_s1 _ (List.mem_of_getElem? (i := 3) rfl)
theorem mt_22_16 : Cond.code yX2_lowestTop cX2_lowestTop 2 (some .int) ∈ lw_tbl := tb_1 _ (List.mem_of_getElem? (i := 170) rfl)
theorem mt_22_17 : Cond.methodLink RX2 245 yX2_commonDivisor ∈ lw_tbl := tb_1 _ (List.mem_of_getElem? (i := 171) rfl)
theorem mt_22_18 : Cond.static yX2_commonDivisor ∈ lw_tbl := tb_1 _ (List.mem_of_getElem? (i := 172) rfl)
theorem mt_22_19 : Cond.code yX2_commonDivisor cX2_commonDivisor 6 (some .int) ∈ lw_tbl := tb_1 _ (List.mem_of_getElem? (i := 173) rfl)
theorem mt_22_20 : Cond.methodLink RX2 248 Lib.Math.abs.name ∈ lw_tbl := tb_1 _ (List.mem_of_getElem? (i := 174) rfl)
theorem mt_22_21 : Cond.static Lib.Math.abs.name ∈ lw_tbl := tb_1 _ (List.mem_of_getElem? (i := 175) rfl)
theorem mt_22_22 : Cond.code Lib.Math.abs.name Lib.Math.abs.code 1 (some .int) ∈ lw_tbl := tb_1 _ (List.mem_of_getElem? (i := 176) rfl)
theorem mt_22_23 : Cond.methodLink RX2 251 Lib.Math.max.name ∈ lw_tbl := tb_1 _ (List.mem_of_getElem? (i := 177) rfl)
theorem mtr_22 : ∀ w ∈ wsL_law0_r22, w ∈ lw_tbl := List.forall_mem_cons.mpr ⟨mt_22_0, List.forall_mem_cons.mpr ⟨mt_22_1, List.forall_mem_cons.mpr ⟨mt_22_2, List.forall_mem_cons.mpr ⟨mt_22_3, List.forall_mem_cons.mpr ⟨mt_22_4, List.forall_mem_cons.mpr ⟨mt_22_5, List.forall_mem_cons.mpr ⟨mt_22_6, List.forall_mem_cons.mpr ⟨mt_22_7, List.forall_mem_cons.mpr ⟨mt_22_8, List.forall_mem_cons.mpr ⟨mt_22_9, List.forall_mem_cons.mpr ⟨mt_22_10, List.forall_mem_cons.mpr ⟨mt_22_11, List.forall_mem_cons.mpr ⟨mt_22_12, List.forall_mem_cons.mpr ⟨mt_22_13, List.forall_mem_cons.mpr ⟨mt_22_14, List.forall_mem_cons.mpr ⟨mt_22_15, List.forall_mem_cons.mpr ⟨mt_22_16, List.forall_mem_cons.mpr ⟨mt_22_17, List.forall_mem_cons.mpr ⟨mt_22_18, List.forall_mem_cons.mpr ⟨mt_22_19, List.forall_mem_cons.mpr ⟨mt_22_20, List.forall_mem_cons.mpr ⟨mt_22_21, List.forall_mem_cons.mpr ⟨mt_22_22, List.forall_mem_cons.mpr ⟨mt_22_23, fun _ h => absurd h List.not_mem_nil⟩⟩⟩⟩⟩⟩⟩⟩⟩⟩⟩⟩⟩⟩⟩⟩⟩⟩⟩⟩⟩⟩⟩⟩
theorem mt_23_0 : Cond.methodLink RL 152 yX3_edgeTop ∈ lw_tbl := tb_4 _ (List.mem_of_getElem? (i := 108) rfl)
theorem mt_23_1 : Cond.instanceMethod yX3_edgeTop ∈ lw_tbl := tb_4 _ (List.mem_of_getElem? (i := 109) rfl)
theorem mt_23_2 : Cond.selects RX3 yX3_edgeTop yX3_edgeTop ∈ lw_tbl := tb_4 _ (List.mem_of_getElem? (i := 110) rfl)
theorem mt_23_3 : Cond.code yX3_edgeTop cX3_edgeTop 2 (some .int) ∈ lw_tbl := tb_4 _ (List.mem_of_getElem? (i := 111) rfl)
theorem mt_23_4 : Cond.methodLink RX3 83 yX3_edge ∈ lw_tbl := tb_4 _ (List.mem_of_getElem? (i := 112) rfl)
theorem mt_23_5 : Cond.instanceMethod yX3_edge ∈ lw_tbl := tb_4 _ (List.mem_of_getElem? (i := 114) rfl)
theorem mt_23_6 : Cond.selects RX3 yX3_edge yX3_edge ∈ lw_tbl := tb_s2 _ (List.mem_of_getElem? (i := 14) rfl)
theorem mt_23_7 : Cond.code yX3_edge cX3_edge 3 (some .int) ∈ lw_tbl := tb_4 _ (List.mem_of_getElem? (i := 115) rfl)
theorem mt_23_8 : Cond.methodLink RX3 141 yX3_top ∈ lw_tbl := tb_4 _ (List.mem_of_getElem? (i := 116) rfl)
theorem mt_23_9 : Cond.instanceMethod yX3_top ∈ lw_tbl := tb_4 _ (List.mem_of_getElem? (i := 118) rfl)
theorem mt_23_10 : Cond.selects RX3 yX3_top yX3_top ∈ lw_tbl := tb_s2 _ (List.mem_of_getElem? (i := 15) rfl)
theorem mt_23_11 : Cond.code yX3_top cX3_top 2 (some .int) ∈ lw_tbl := tb_4 _ (List.mem_of_getElem? (i := 119) rfl)
theorem mt_23_12 : Cond.methodLink RX3 89 yX3_divisor ∈ lw_tbl := tb_4 _ (List.mem_of_getElem? (i := 120) rfl)
theorem mt_23_13 : Cond.static yX3_divisor ∈ lw_tbl := tb_4 _ (List.mem_of_getElem? (i := 121) rfl)
theorem mt_23_14 : Cond.code yX3_divisor cX3_divisor 5 (some .int) ∈ lw_tbl := tb_4 _ (List.mem_of_getElem? (i := 122) rfl)
theorem mt_23_15 : Cond.methodLink RX3 86 Lib.Math.abs.name ∈ lw_tbl := tb_4 _ (List.mem_of_getElem? (i := 123) rfl)
theorem mt_23_16 : Cond.methodLink RL 153 yL_edgeBottom ∈ lw_tbl := tb_3 _ (List.mem_of_getElem? (i := 116) rfl)
theorem mt_23_17 : Cond.static yL_edgeBottom ∈ lw_tbl := tb_3 _ (List.mem_of_getElem? (i := 117) rfl)
theorem mt_23_18 : Cond.codeWith yL_edgeBottom cL_edgeBottom 4 (some .int) [(0, 9, 12, 21)] ∈ lw_tbl := tb_3 _ (List.mem_of_getElem? (i := 118) rfl)
theorem mt_23_19 : Cond.methodLink RL 56 yX2_edgeBottom ∈ lw_tbl := tb_3 _ (List.mem_of_getElem? (i := 119) rfl)
theorem mt_23_20 : Cond.instanceMethod yX2_edgeBottom ∈ lw_tbl := tb_2 _ (List.mem_of_getElem? (i := 91) rfl)
theorem mt_23_21 : Cond.selects RX2 yX2_edgeBottom yX2_edgeBottom ∈ lw_tbl := tb_2 _ (List.mem_of_getElem? (i := 92) rfl)
theorem mt_23_22 : Cond.code yX2_edgeBottom cX2_edgeBottom 2 (some .int) ∈ lw_tbl := tb_2 _ (List.mem_of_getElem? (i := 93) rfl)
theorem mt_23_23 : Cond.methodLink RX2 150 yX2_lowestBottom ∈ lw_tbl := tb_1 _ (List.mem_of_getElem? (i := 184) rfl)
theorem mtr_23 : ∀ w ∈ wsL_law0_r23, w ∈ lw_tbl := List.forall_mem_cons.mpr ⟨mt_23_0, List.forall_mem_cons.mpr ⟨mt_23_1, List.forall_mem_cons.mpr ⟨mt_23_2, List.forall_mem_cons.mpr ⟨mt_23_3, List.forall_mem_cons.mpr ⟨mt_23_4, List.forall_mem_cons.mpr ⟨mt_23_5, List.forall_mem_cons.mpr ⟨mt_23_6, List.forall_mem_cons.mpr ⟨mt_23_7, List.forall_mem_cons.mpr ⟨mt_23_8, List.forall_mem_cons.mpr ⟨mt_23_9, List.forall_mem_cons.mpr ⟨mt_23_10, List.forall_mem_cons.mpr ⟨mt_23_11, List.forall_mem_cons.mpr ⟨mt_23_12, List.forall_mem_cons.mpr ⟨mt_23_13, List.forall_mem_cons.mpr ⟨mt_23_14, List.forall_mem_cons.mpr ⟨mt_23_15, List.forall_mem_cons.mpr ⟨mt_23_16, List.forall_mem_cons.mpr ⟨mt_23_17, List.forall_mem_cons.mpr ⟨mt_23_18, List.forall_mem_cons.mpr ⟨mt_23_19, List.forall_mem_cons.mpr ⟨mt_23_20, List.forall_mem_cons.mpr ⟨mt_23_21, List.forall_mem_cons.mpr ⟨mt_23_22, List.forall_mem_cons.mpr ⟨mt_23_23, fun _ h => absurd h List.not_mem_nil⟩⟩⟩⟩⟩⟩⟩⟩⟩⟩⟩⟩⟩⟩⟩⟩⟩⟩⟩⟩⟩⟩⟩⟩
theorem mt_24_0 : Cond.instanceMethod yX2_lowestBottom ∈ lw_tbl := tb_1 _ (List.mem_of_getElem? (i := 186) rfl)
theorem mt_24_1 : Cond.selects RX2 yX2_lowestBottom yX2_lowestBottom ∈ lw_tbl := tb_s1 _ (List.mem_of_getElem? (i := 4) rfl)
theorem mt_24_2 : Cond.code yX2_lowestBottom cX2_lowestBottom 2 (some .int) ∈ lw_tbl := tb_1 _ (List.mem_of_getElem? (i := 187) rfl)
theorem mt_24_3 : Cond.methodLink RL 155 yX3_edgeBottom ∈ lw_tbl := tb_4 _ (List.mem_of_getElem? (i := 124) rfl)
theorem mt_24_4 : Cond.instanceMethod yX3_edgeBottom ∈ lw_tbl := tb_4 _ (List.mem_of_getElem? (i := 125) rfl)
theorem mt_24_5 : Cond.selects RX3 yX3_edgeBottom yX3_edgeBottom ∈ lw_tbl := tb_4 _ (List.mem_of_getElem? (i := 126) rfl)
theorem mt_24_6 : Cond.code yX3_edgeBottom cX3_edgeBottom 2 (some .int) ∈ lw_tbl := tb_4 _ (List.mem_of_getElem? (i := 127) rfl)
theorem mt_24_7 : Cond.methodLink RX3 144 yX3_bottom ∈ lw_tbl := tb_4 _ (List.mem_of_getElem? (i := 128) rfl)
theorem mt_24_8 : Cond.instanceMethod yX3_bottom ∈ lw_tbl := tb_4 _ (List.mem_of_getElem? (i := 130) rfl)
theorem mt_24_9 : Cond.selects RX3 yX3_bottom yX3_bottom ∈ lw_tbl := tb_s3 _ (List.mem_of_getElem? (i := 0) rfl)
theorem mt_24_10 : Cond.code yX3_bottom cX3_bottom 2 (some .int) ∈ lw_tbl := tb_4 _ (List.mem_of_getElem? (i := 131) rfl)
theorem mt_24_11 : Cond.methodLink RL 156 yX2_allEdgesTop ∈ lw_tbl := tb_1 _ (List.mem_of_getElem? (i := 151) rfl)
theorem mt_24_12 : Cond.instanceMethod yX2_allEdgesTop ∈ lw_tbl := tb_1 _ (List.mem_of_getElem? (i := 152) rfl)
theorem mt_24_13 : Cond.selects RX2 yX2_allEdgesTop yX2_allEdgesTop ∈ lw_tbl := tb_1 _ (List.mem_of_getElem? (i := 153) rfl)
theorem mt_24_14 : Cond.code yX2_allEdgesTop cX2_allEdgesTop 1 (some .int) ∈ lw_tbl := tb_1 _ (List.mem_of_getElem? (i := 154) rfl)
theorem mt_24_15 : Cond.methodLink RX2 153 yX2_gainOfAllOverOutcomes ∈ lw_tbl := tb_1 _ (List.mem_of_getElem? (i := 155) rfl)
theorem mt_24_16 : Cond.instanceMethod yX2_gainOfAllOverOutcomes ∈ lw_tbl := tb_1 _ (List.mem_of_getElem? (i := 157) rfl)
theorem mt_24_17 : Cond.selects RX2 yX2_gainOfAllOverOutcomes yX2_gainOfAllOverOutcomes ∈ lw_tbl := tb_s1 _ (List.mem_of_getElem? (i := 1) rfl)
theorem mt_24_18 : Cond.code yX2_gainOfAllOverOutcomes cX2_gainOfAllOverOutcomes 3 (some .int) ∈ lw_tbl := tb_1 _ (List.mem_of_getElem? (i := 158) rfl)
theorem mt_24_19 : Cond.methodLink RL 159 yX3_allEdgesTop ∈ lw_tbl := tb_4 _ (List.mem_of_getElem? (i := 132) rfl)
theorem mt_24_20 : Cond.instanceMethod yX3_allEdgesTop ∈ lw_tbl := tb_4 _ (List.mem_of_getElem? (i := 133) rfl)
theorem mt_24_21 : Cond.selects RX3 yX3_allEdgesTop yX3_allEdgesTop ∈ lw_tbl := tb_4 _ (List.mem_of_getElem? (i := 134) rfl)
theorem mt_24_22 : Cond.code yX3_allEdgesTop cX3_allEdgesTop 1 (some .int) ∈ lw_tbl := tb_4 _ (List.mem_of_getElem? (i := 135) rfl)
theorem mt_24_23 : Cond.methodLink RX3 147 yX3_edges ∈ lw_tbl := tb_4 _ (List.mem_of_getElem? (i := 136) rfl)
theorem mtr_24 : ∀ w ∈ wsL_law0_r24, w ∈ lw_tbl := List.forall_mem_cons.mpr ⟨mt_24_0, List.forall_mem_cons.mpr ⟨mt_24_1, List.forall_mem_cons.mpr ⟨mt_24_2, List.forall_mem_cons.mpr ⟨mt_24_3, List.forall_mem_cons.mpr ⟨mt_24_4, List.forall_mem_cons.mpr ⟨mt_24_5, List.forall_mem_cons.mpr ⟨mt_24_6, List.forall_mem_cons.mpr ⟨mt_24_7, List.forall_mem_cons.mpr ⟨mt_24_8, List.forall_mem_cons.mpr ⟨mt_24_9, List.forall_mem_cons.mpr ⟨mt_24_10, List.forall_mem_cons.mpr ⟨mt_24_11, List.forall_mem_cons.mpr ⟨mt_24_12, List.forall_mem_cons.mpr ⟨mt_24_13, List.forall_mem_cons.mpr ⟨mt_24_14, List.forall_mem_cons.mpr ⟨mt_24_15, List.forall_mem_cons.mpr ⟨mt_24_16, List.forall_mem_cons.mpr ⟨mt_24_17, List.forall_mem_cons.mpr ⟨mt_24_18, List.forall_mem_cons.mpr ⟨mt_24_19, List.forall_mem_cons.mpr ⟨mt_24_20, List.forall_mem_cons.mpr ⟨mt_24_21, List.forall_mem_cons.mpr ⟨mt_24_22, List.forall_mem_cons.mpr ⟨mt_24_23, fun _ h => absurd h List.not_mem_nil⟩⟩⟩⟩⟩⟩⟩⟩⟩⟩⟩⟩⟩⟩⟩⟩⟩⟩⟩⟩⟩⟩⟩⟩
theorem mt_25_0 : Cond.instanceMethod yX3_edges ∈ lw_tbl := tb_4 _ (List.mem_of_getElem? (i := 138) rfl)
theorem mt_25_1 : Cond.selects RX3 yX3_edges yX3_edges ∈ lw_tbl := tb_s3 _ (List.mem_of_getElem? (i := 1) rfl)
theorem mt_25_2 : Cond.code yX3_edges cX3_edges 3 (some .int) ∈ lw_tbl := tb_4 _ (List.mem_of_getElem? (i := 139) rfl)
theorem mt_25_3 : Cond.methodLink RL 160 yX2_allEdgesBottom ∈ lw_tbl := tb_1 _ (List.mem_of_getElem? (i := 180) rfl)
theorem mt_25_4 : Cond.instanceMethod yX2_allEdgesBottom ∈ lw_tbl := tb_1 _ (List.mem_of_getElem? (i := 181) rfl)
theorem mt_25_5 : Cond.selects RX2 yX2_allEdgesBottom yX2_allEdgesBottom ∈ lw_tbl := tb_1 _ (List.mem_of_getElem? (i := 182) rfl)
theorem mt_25_6 : Cond.code yX2_allEdgesBottom cX2_allEdgesBottom 1 (some .int) ∈ lw_tbl := tb_1 _ (List.mem_of_getElem? (i := 183) rfl)
theorem mt_25_7 : Cond.methodLink RL 163 yX3_allEdgesBottom ∈ lw_tbl := tb_4 _ (List.mem_of_getElem? (i := 140) rfl)
theorem mt_25_8 : Cond.instanceMethod yX3_allEdgesBottom ∈ lw_tbl := tb_4 _ (List.mem_of_getElem? (i := 141) rfl)
theorem mt_25_9 : Cond.selects RX3 yX3_allEdgesBottom yX3_allEdgesBottom ∈ lw_tbl := tb_4 _ (List.mem_of_getElem? (i := 142) rfl)
theorem mt_25_10 : Cond.code yX3_allEdgesBottom cX3_allEdgesBottom 1 (some .int) ∈ lw_tbl := tb_4 _ (List.mem_of_getElem? (i := 143) rfl)
theorem mt_25_11 : Cond.methodLink RL 164 yX2_dearestWager ∈ lw_tbl := tb_1 _ (List.mem_of_getElem? (i := 188) rfl)
theorem mt_25_12 : Cond.instanceMethod yX2_dearestWager ∈ lw_tbl := tb_1 _ (List.mem_of_getElem? (i := 189) rfl)
theorem mt_25_13 : Cond.selects RX2 yX2_dearestWager yX2_dearestWager ∈ lw_tbl := tb_1 _ (List.mem_of_getElem? (i := 190) rfl)
theorem mt_25_14 : Cond.code yX2_dearestWager cX2_dearestWager 10 (some .int) ∈ lw_tbl := tb_1 _ (List.mem_of_getElem? (i := 191) rfl)
theorem mt_25_15 : Cond.methodLink RL 167 yX3_dearestWager ∈ lw_tbl := tb_4 _ (List.mem_of_getElem? (i := 144) rfl)
theorem mt_25_16 : Cond.instanceMethod yX3_dearestWager ∈ lw_tbl := tb_4 _ (List.mem_of_getElem? (i := 145) rfl)
theorem mt_25_17 : Cond.selects RX3 yX3_dearestWager yX3_dearestWager ∈ lw_tbl := tb_4 _ (List.mem_of_getElem? (i := 146) rfl)
theorem mt_25_18 : Cond.code yX3_dearestWager cX3_dearestWager 1 (some .int) ∈ lw_tbl := tb_4 _ (List.mem_of_getElem? (i := 147) rfl)
theorem mt_25_19 : Cond.methodLink RX3 150 yX3_dear ∈ lw_tbl := tb_4 _ (List.mem_of_getElem? (i := 148) rfl)
theorem mt_25_20 : Cond.instanceMethod yX3_dear ∈ lw_tbl := tb_4 _ (List.mem_of_getElem? (i := 150) rfl)
theorem mt_25_21 : Cond.selects RX3 yX3_dear yX3_dear ∈ lw_tbl := tb_s3 _ (List.mem_of_getElem? (i := 2) rfl)
theorem mt_25_22 : Cond.code yX3_dear cX3_dear 3 (some .int) ∈ lw_tbl := tb_4 _ (List.mem_of_getElem? (i := 151) rfl)
theorem mt_25_23 : Cond.methodLink RL 168 yL_gainAt ∈ lw_tbl := tb_3 _ (List.mem_of_getElem? (i := 120) rfl)
theorem mtr_25 : ∀ w ∈ wsL_law0_r25, w ∈ lw_tbl := List.forall_mem_cons.mpr ⟨mt_25_0, List.forall_mem_cons.mpr ⟨mt_25_1, List.forall_mem_cons.mpr ⟨mt_25_2, List.forall_mem_cons.mpr ⟨mt_25_3, List.forall_mem_cons.mpr ⟨mt_25_4, List.forall_mem_cons.mpr ⟨mt_25_5, List.forall_mem_cons.mpr ⟨mt_25_6, List.forall_mem_cons.mpr ⟨mt_25_7, List.forall_mem_cons.mpr ⟨mt_25_8, List.forall_mem_cons.mpr ⟨mt_25_9, List.forall_mem_cons.mpr ⟨mt_25_10, List.forall_mem_cons.mpr ⟨mt_25_11, List.forall_mem_cons.mpr ⟨mt_25_12, List.forall_mem_cons.mpr ⟨mt_25_13, List.forall_mem_cons.mpr ⟨mt_25_14, List.forall_mem_cons.mpr ⟨mt_25_15, List.forall_mem_cons.mpr ⟨mt_25_16, List.forall_mem_cons.mpr ⟨mt_25_17, List.forall_mem_cons.mpr ⟨mt_25_18, List.forall_mem_cons.mpr ⟨mt_25_19, List.forall_mem_cons.mpr ⟨mt_25_20, List.forall_mem_cons.mpr ⟨mt_25_21, List.forall_mem_cons.mpr ⟨mt_25_22, List.forall_mem_cons.mpr ⟨mt_25_23, fun _ h => absurd h List.not_mem_nil⟩⟩⟩⟩⟩⟩⟩⟩⟩⟩⟩⟩⟩⟩⟩⟩⟩⟩⟩⟩⟩⟩⟩⟩
theorem mt_26_0 : Cond.static yL_gainAt ∈ lw_tbl := tb_3 _ (List.mem_of_getElem? (i := 121) rfl)
theorem mt_26_1 : Cond.codeWith yL_gainAt cL_gainAt 4 (some .int) [(0, 9, 12, 21)] ∈ lw_tbl := tb_3 _ (List.mem_of_getElem? (i := 122) rfl)
theorem mt_26_2 : Cond.methodLink RL 59 yX2_gainAt ∈ lw_tbl := tb_3 _ (List.mem_of_getElem? (i := 123) rfl)
theorem mt_26_3 : Cond.instanceMethod yX2_gainAt ∈ lw_tbl := tb_3 _ (List.mem_of_getElem? (i := 124) rfl)
theorem mt_26_4 : Cond.selects RX2 yX2_gainAt yX2_gainAt ∈ lw_tbl := tb_3 _ (List.mem_of_getElem? (i := 125) rfl)
theorem mt_26_5 : Cond.code yX2_gainAt cX2_gainAt 2 (some .int) ∈ lw_tbl := tb_3 _ (List.mem_of_getElem? (i := 126) rfl)
theorem mt_26_6 : Cond.methodLink RL 170 yX3_gainAt ∈ lw_tbl := tb_4 _ (List.mem_of_getElem? (i := 152) rfl)
theorem mt_26_7 : Cond.instanceMethod yX3_gainAt ∈ lw_tbl := tb_4 _ (List.mem_of_getElem? (i := 153) rfl)
theorem mt_26_8 : Cond.selects RX3 yX3_gainAt yX3_gainAt ∈ lw_tbl := tb_4 _ (List.mem_of_getElem? (i := 154) rfl)
theorem mt_26_9 : Cond.code yX3_gainAt cX3_gainAt 2 (some .int) ∈ lw_tbl := tb_4 _ (List.mem_of_getElem? (i := 155) rfl)
theorem mt_26_10 : Cond.methodLink RL 171 yX2_worstGain ∈ lw_tbl := tb_1 _ (List.mem_of_getElem? (i := 192) rfl)
theorem mt_26_11 : Cond.instanceMethod yX2_worstGain ∈ lw_tbl := tb_1 _ (List.mem_of_getElem? (i := 193) rfl)
theorem mt_26_12 : Cond.selects RX2 yX2_worstGain yX2_worstGain ∈ lw_tbl := tb_1 _ (List.mem_of_getElem? (i := 194) rfl)
theorem mt_26_13 : Cond.code yX2_worstGain cX2_worstGain 1 (some .int) ∈ lw_tbl := tb_1 _ (List.mem_of_getElem? (i := 195) rfl)
theorem mt_26_14 : Cond.methodLink RX2 156 yX2_worstOutcome ∈ lw_tbl := tb_1 _ (List.mem_of_getElem? (i := 196) rfl)
theorem mt_26_15 : Cond.instanceMethod yX2_worstOutcome ∈ lw_tbl := tb_1 _ (List.mem_of_getElem? (i := 197) rfl)
theorem mt_26_16 : Cond.selects RX2 yX2_worstOutcome yX2_worstOutcome ∈ lw_tbl := tb_1 _ (List.mem_of_getElem? (i := 198) rfl)
theorem mt_26_17 : Cond.code yX2_worstOutcome cX2_worstOutcome 5 (some .int) ∈ lw_tbl := tb_1 _ (List.mem_of_getElem? (i := 199) rfl)
theorem mt_26_18 : Cond.methodLink RL 174 yX3_worstGain ∈ lw_tbl := tb_4 _ (List.mem_of_getElem? (i := 156) rfl)
theorem mt_26_19 : Cond.instanceMethod yX3_worstGain ∈ lw_tbl := tb_4 _ (List.mem_of_getElem? (i := 157) rfl)
theorem mt_26_20 : Cond.selects RX3 yX3_worstGain yX3_worstGain ∈ lw_tbl := tb_4 _ (List.mem_of_getElem? (i := 158) rfl)
theorem mt_26_21 : Cond.code yX3_worstGain cX3_worstGain 1 (some .int) ∈ lw_tbl := tb_4 _ (List.mem_of_getElem? (i := 159) rfl)
theorem mt_26_22 : Cond.methodLink RX3 153 yX3_worst ∈ lw_tbl := tb_4 _ (List.mem_of_getElem? (i := 160) rfl)
theorem mt_26_23 : Cond.instanceMethod yX3_worst ∈ lw_tbl := tb_4 _ (List.mem_of_getElem? (i := 162) rfl)
theorem mtr_26 : ∀ w ∈ wsL_law0_r26, w ∈ lw_tbl := List.forall_mem_cons.mpr ⟨mt_26_0, List.forall_mem_cons.mpr ⟨mt_26_1, List.forall_mem_cons.mpr ⟨mt_26_2, List.forall_mem_cons.mpr ⟨mt_26_3, List.forall_mem_cons.mpr ⟨mt_26_4, List.forall_mem_cons.mpr ⟨mt_26_5, List.forall_mem_cons.mpr ⟨mt_26_6, List.forall_mem_cons.mpr ⟨mt_26_7, List.forall_mem_cons.mpr ⟨mt_26_8, List.forall_mem_cons.mpr ⟨mt_26_9, List.forall_mem_cons.mpr ⟨mt_26_10, List.forall_mem_cons.mpr ⟨mt_26_11, List.forall_mem_cons.mpr ⟨mt_26_12, List.forall_mem_cons.mpr ⟨mt_26_13, List.forall_mem_cons.mpr ⟨mt_26_14, List.forall_mem_cons.mpr ⟨mt_26_15, List.forall_mem_cons.mpr ⟨mt_26_16, List.forall_mem_cons.mpr ⟨mt_26_17, List.forall_mem_cons.mpr ⟨mt_26_18, List.forall_mem_cons.mpr ⟨mt_26_19, List.forall_mem_cons.mpr ⟨mt_26_20, List.forall_mem_cons.mpr ⟨mt_26_21, List.forall_mem_cons.mpr ⟨mt_26_22, List.forall_mem_cons.mpr ⟨mt_26_23, fun _ h => absurd h List.not_mem_nil⟩⟩⟩⟩⟩⟩⟩⟩⟩⟩⟩⟩⟩⟩⟩⟩⟩⟩⟩⟩⟩⟩⟩⟩
theorem mt_27_0 : Cond.selects RX3 yX3_worst yX3_worst ∈ lw_tbl := tb_s3 _ (List.mem_of_getElem? (i := 3) rfl)
theorem mt_27_1 : Cond.code yX3_worst cX3_worst 3 (some .int) ∈ lw_tbl := tb_4 _ (List.mem_of_getElem? (i := 163) rfl)
theorem mt_27_2 : Cond.methodLink RL 175 yX2_worstOutcome ∈ lw_tbl := tb_1 _ (List.mem_of_getElem? (i := 218) rfl)
theorem mt_27_3 : Cond.methodLink RL 178 yX3_worstOutcome ∈ lw_tbl := tb_4 _ (List.mem_of_getElem? (i := 164) rfl)
theorem mt_27_4 : Cond.instanceMethod yX3_worstOutcome ∈ lw_tbl := tb_4 _ (List.mem_of_getElem? (i := 165) rfl)
theorem mt_27_5 : Cond.selects RX3 yX3_worstOutcome yX3_worstOutcome ∈ lw_tbl := tb_4 _ (List.mem_of_getElem? (i := 166) rfl)
theorem mt_27_6 : Cond.code yX3_worstOutcome cX3_worstOutcome 1 (some .int) ∈ lw_tbl := tb_4 _ (List.mem_of_getElem? (i := 167) rfl)
theorem mt_27_7 : Cond.methodLink RL 179 yL_purseAt ∈ lw_tbl := tb_3 _ (List.mem_of_getElem? (i := 127) rfl)
theorem mt_27_8 : Cond.static yL_purseAt ∈ lw_tbl := tb_3 _ (List.mem_of_getElem? (i := 128) rfl)
theorem mt_27_9 : Cond.codeWith yL_purseAt cL_purseAt 5 (some .int) [(0, 10, 13, 21)] ∈ lw_tbl := tb_3 _ (List.mem_of_getElem? (i := 129) rfl)
theorem mt_27_10 : Cond.methodLink RL 62 yX2_purseAt ∈ lw_tbl := tb_3 _ (List.mem_of_getElem? (i := 130) rfl)
theorem mt_27_11 : Cond.instanceMethod yX2_purseAt ∈ lw_tbl := tb_3 _ (List.mem_of_getElem? (i := 131) rfl)
theorem mt_27_12 : Cond.selects RX2 yX2_purseAt yX2_purseAt ∈ lw_tbl := tb_3 _ (List.mem_of_getElem? (i := 132) rfl)
theorem mt_27_13 : Cond.code yX2_purseAt cX2_purseAt 3 (some .int) ∈ lw_tbl := tb_3 _ (List.mem_of_getElem? (i := 133) rfl)
theorem mt_27_14 : Cond.methodLink RL 181 yX3_purseAt ∈ lw_tbl := tb_4 _ (List.mem_of_getElem? (i := 168) rfl)
theorem mt_27_15 : Cond.instanceMethod yX3_purseAt ∈ lw_tbl := tb_4 _ (List.mem_of_getElem? (i := 169) rfl)
theorem mt_27_16 : Cond.selects RX3 yX3_purseAt yX3_purseAt ∈ lw_tbl := tb_4 _ (List.mem_of_getElem? (i := 170) rfl)
theorem mt_27_17 : Cond.code yX3_purseAt cX3_purseAt 3 (some .int) ∈ lw_tbl := tb_4 _ (List.mem_of_getElem? (i := 171) rfl)
theorem mt_27_18 : Cond.methodLink RX3 95 yX3_behind ∈ lw_tbl := tb_4 _ (List.mem_of_getElem? (i := 172) rfl)
theorem mt_27_19 : Cond.instanceMethod yX3_behind ∈ lw_tbl := tb_4 _ (List.mem_of_getElem? (i := 174) rfl)
theorem mt_27_20 : Cond.selects RX3 yX3_behind yX3_behind ∈ lw_tbl := tb_s3 _ (List.mem_of_getElem? (i := 4) rfl)
theorem mt_27_21 : Cond.code yX3_behind cX3_behind 5 (some .int) ∈ lw_tbl := tb_4 _ (List.mem_of_getElem? (i := 175) rfl)
theorem mt_27_22 : Cond.methodLink RL 182 yL_leastPurse ∈ lw_tbl := tb_3 _ (List.mem_of_getElem? (i := 134) rfl)
theorem mt_27_23 : Cond.static yL_leastPurse ∈ lw_tbl := tb_3 _ (List.mem_of_getElem? (i := 135) rfl)
theorem mtr_27 : ∀ w ∈ wsL_law0_r27, w ∈ lw_tbl := List.forall_mem_cons.mpr ⟨mt_27_0, List.forall_mem_cons.mpr ⟨mt_27_1, List.forall_mem_cons.mpr ⟨mt_27_2, List.forall_mem_cons.mpr ⟨mt_27_3, List.forall_mem_cons.mpr ⟨mt_27_4, List.forall_mem_cons.mpr ⟨mt_27_5, List.forall_mem_cons.mpr ⟨mt_27_6, List.forall_mem_cons.mpr ⟨mt_27_7, List.forall_mem_cons.mpr ⟨mt_27_8, List.forall_mem_cons.mpr ⟨mt_27_9, List.forall_mem_cons.mpr ⟨mt_27_10, List.forall_mem_cons.mpr ⟨mt_27_11, List.forall_mem_cons.mpr ⟨mt_27_12, List.forall_mem_cons.mpr ⟨mt_27_13, List.forall_mem_cons.mpr ⟨mt_27_14, List.forall_mem_cons.mpr ⟨mt_27_15, List.forall_mem_cons.mpr ⟨mt_27_16, List.forall_mem_cons.mpr ⟨mt_27_17, List.forall_mem_cons.mpr ⟨mt_27_18, List.forall_mem_cons.mpr ⟨mt_27_19, List.forall_mem_cons.mpr ⟨mt_27_20, List.forall_mem_cons.mpr ⟨mt_27_21, List.forall_mem_cons.mpr ⟨mt_27_22, List.forall_mem_cons.mpr ⟨mt_27_23, fun _ h => absurd h List.not_mem_nil⟩⟩⟩⟩⟩⟩⟩⟩⟩⟩⟩⟩⟩⟩⟩⟩⟩⟩⟩⟩⟩⟩⟩⟩
theorem mt_28_0 : Cond.codeWith yL_leastPurse cL_leastPurse 4 (some .int) [(0, 9, 12, 21)] ∈ lw_tbl := tb_3 _ (List.mem_of_getElem? (i := 136) rfl)
theorem mt_28_1 : Cond.methodLink RL 65 yX2_leastPurse ∈ lw_tbl := tb_3 _ (List.mem_of_getElem? (i := 137) rfl)
theorem mt_28_2 : Cond.instanceMethod yX2_leastPurse ∈ lw_tbl := tb_2 _ (List.mem_of_getElem? (i := 107) rfl)
theorem mt_28_3 : Cond.selects RX2 yX2_leastPurse yX2_leastPurse ∈ lw_tbl := tb_2 _ (List.mem_of_getElem? (i := 108) rfl)
theorem mt_28_4 : Cond.code yX2_leastPurse cX2_leastPurse 4 (some .int) ∈ lw_tbl := tb_2 _ (List.mem_of_getElem? (i := 109) rfl)
theorem mt_28_5 : Cond.methodLink RX2 159 Lib.Math.min.name ∈ lw_tbl := tb_2 _ (List.mem_of_getElem? (i := 114) rfl)
theorem mt_28_6 : Cond.methodLink RL 184 yX3_leastPurse ∈ lw_tbl := tb_4 _ (List.mem_of_getElem? (i := 176) rfl)
theorem mt_28_7 : Cond.instanceMethod yX3_leastPurse ∈ lw_tbl := tb_4 _ (List.mem_of_getElem? (i := 177) rfl)
theorem mt_28_8 : Cond.selects RX3 yX3_leastPurse yX3_leastPurse ∈ lw_tbl := tb_4 _ (List.mem_of_getElem? (i := 178) rfl)
theorem mt_28_9 : Cond.code yX3_leastPurse cX3_leastPurse 2 (some .int) ∈ lw_tbl := tb_4 _ (List.mem_of_getElem? (i := 179) rfl)
theorem mt_28_10 : Cond.methodLink RX3 156 yX3_least ∈ lw_tbl := tb_4 _ (List.mem_of_getElem? (i := 180) rfl)
theorem mt_28_11 : Cond.instanceMethod yX3_least ∈ lw_tbl := tb_4 _ (List.mem_of_getElem? (i := 182) rfl)
theorem mt_28_12 : Cond.selects RX3 yX3_least yX3_least ∈ lw_tbl := tb_s3 _ (List.mem_of_getElem? (i := 5) rfl)
theorem mt_28_13 : Cond.code yX3_least cX3_least 4 (some .int) ∈ lw_tbl := tb_4 _ (List.mem_of_getElem? (i := 183) rfl)
theorem mt_28_14 : Cond.methodLink RL 185 yL_isHedged ∈ lw_tbl := tb_3 _ (List.mem_of_getElem? (i := 138) rfl)
theorem mt_28_15 : Cond.static yL_isHedged ∈ lw_tbl := tb_3 _ (List.mem_of_getElem? (i := 139) rfl)
theorem mt_28_16 : Cond.codeWith yL_isHedged cL_isHedged 4 (some .int) [(0, 16, 19, 21)] ∈ lw_tbl := tb_3 _ (List.mem_of_getElem? (i := 140) rfl)
theorem mt_28_17 : Cond.methodLink RL 68 yX2_isHedged ∈ lw_tbl := tb_3 _ (List.mem_of_getElem? (i := 141) rfl)
theorem mt_28_18 : Cond.instanceMethod yX2_isHedged ∈ lw_tbl := tb_2 _ (List.mem_of_getElem? (i := 116) rfl)
theorem mt_28_19 : Cond.selects RX2 yX2_isHedged yX2_isHedged ∈ lw_tbl := tb_2 _ (List.mem_of_getElem? (i := 117) rfl)
theorem mt_28_20 : Cond.code yX2_isHedged cX2_isHedged 4 (some .boolean) ∈ lw_tbl := tb_2 _ (List.mem_of_getElem? (i := 118) rfl)
theorem mt_28_21 : Cond.methodLink RL 187 yX3_isHedged ∈ lw_tbl := tb_4 _ (List.mem_of_getElem? (i := 184) rfl)
theorem mt_28_22 : Cond.instanceMethod yX3_isHedged ∈ lw_tbl := tb_4 _ (List.mem_of_getElem? (i := 185) rfl)
theorem mt_28_23 : Cond.selects RX3 yX3_isHedged yX3_isHedged ∈ lw_tbl := tb_4 _ (List.mem_of_getElem? (i := 186) rfl)
theorem mtr_28 : ∀ w ∈ wsL_law0_r28, w ∈ lw_tbl := List.forall_mem_cons.mpr ⟨mt_28_0, List.forall_mem_cons.mpr ⟨mt_28_1, List.forall_mem_cons.mpr ⟨mt_28_2, List.forall_mem_cons.mpr ⟨mt_28_3, List.forall_mem_cons.mpr ⟨mt_28_4, List.forall_mem_cons.mpr ⟨mt_28_5, List.forall_mem_cons.mpr ⟨mt_28_6, List.forall_mem_cons.mpr ⟨mt_28_7, List.forall_mem_cons.mpr ⟨mt_28_8, List.forall_mem_cons.mpr ⟨mt_28_9, List.forall_mem_cons.mpr ⟨mt_28_10, List.forall_mem_cons.mpr ⟨mt_28_11, List.forall_mem_cons.mpr ⟨mt_28_12, List.forall_mem_cons.mpr ⟨mt_28_13, List.forall_mem_cons.mpr ⟨mt_28_14, List.forall_mem_cons.mpr ⟨mt_28_15, List.forall_mem_cons.mpr ⟨mt_28_16, List.forall_mem_cons.mpr ⟨mt_28_17, List.forall_mem_cons.mpr ⟨mt_28_18, List.forall_mem_cons.mpr ⟨mt_28_19, List.forall_mem_cons.mpr ⟨mt_28_20, List.forall_mem_cons.mpr ⟨mt_28_21, List.forall_mem_cons.mpr ⟨mt_28_22, List.forall_mem_cons.mpr ⟨mt_28_23, fun _ h => absurd h List.not_mem_nil⟩⟩⟩⟩⟩⟩⟩⟩⟩⟩⟩⟩⟩⟩⟩⟩⟩⟩⟩⟩⟩⟩⟩⟩
theorem mt_29_0 : Cond.code yX3_isHedged cX3_isHedged 2 (some .boolean) ∈ lw_tbl := tb_4 _ (List.mem_of_getElem? (i := 187) rfl)
theorem mt_29_1 : Cond.methodLink RX3 159 yX3_hedged ∈ lw_tbl := tb_4 _ (List.mem_of_getElem? (i := 188) rfl)
theorem mt_29_2 : Cond.instanceMethod yX3_hedged ∈ lw_tbl := tb_4 _ (List.mem_of_getElem? (i := 190) rfl)
theorem mt_29_3 : Cond.selects RX3 yX3_hedged yX3_hedged ∈ lw_tbl := tb_s3 _ (List.mem_of_getElem? (i := 6) rfl)
theorem mt_29_4 : Cond.code yX3_hedged cX3_hedged 3 (some .boolean) ∈ lw_tbl := tb_4 _ (List.mem_of_getElem? (i := 191) rfl)
theorem mt_29_5 : Cond.methodLink RL 188 yL_hedgeFor ∈ lw_tbl := tb_3 _ (List.mem_of_getElem? (i := 142) rfl)
theorem mt_29_6 : Cond.static yL_hedgeFor ∈ lw_tbl := tb_3 _ (List.mem_of_getElem? (i := 143) rfl)
theorem mt_29_7 : Cond.codeWith yL_hedgeFor cL_hedgeFor 6 (some .int) [(0, 12, 15, 21), (0, 12, 19, 13)] ∈ lw_tbl := tb_3 _ (List.mem_of_getElem? (i := 144) rfl)
theorem mt_29_8 : Cond.methodLink RL 72 yX2_hedgeFor ∈ lw_tbl := tb_3 _ (List.mem_of_getElem? (i := 145) rfl)
theorem mt_29_9 : Cond.instanceMethod yX2_hedgeFor ∈ lw_tbl := tb_3 _ (List.mem_of_getElem? (i := 146) rfl)
theorem mt_29_10 : Cond.selects RX2 yX2_hedgeFor yX2_hedgeFor ∈ lw_tbl := tb_3 _ (List.mem_of_getElem? (i := 147) rfl)
theorem mt_29_11 : Cond.code yX2_hedgeFor cX2_hedgeFor 8 (some .int) ∈ lw_tbl := tb_3 _ (List.mem_of_getElem? (i := 148) rfl)
theorem mt_29_12 : Cond.methodLink RL 190 yX3_hedgeFor ∈ lw_tbl := tb_4 _ (List.mem_of_getElem? (i := 192) rfl)
theorem mt_29_13 : Cond.instanceMethod yX3_hedgeFor ∈ lw_tbl := tb_4 _ (List.mem_of_getElem? (i := 193) rfl)
theorem mt_29_14 : Cond.selects RX3 yX3_hedgeFor yX3_hedgeFor ∈ lw_tbl := tb_4 _ (List.mem_of_getElem? (i := 194) rfl)
theorem mt_29_15 : Cond.code yX3_hedgeFor cX3_hedgeFor 4 (some .int) ∈ lw_tbl := tb_4 _ (List.mem_of_getElem? (i := 195) rfl)
theorem mt_29_16 : Cond.methodLink RX3 162 yX3_hedge ∈ lw_tbl := tb_4 _ (List.mem_of_getElem? (i := 196) rfl)
theorem mt_29_17 : Cond.instanceMethod yX3_hedge ∈ lw_tbl := tb_4 _ (List.mem_of_getElem? (i := 198) rfl)
theorem mt_29_18 : Cond.selects RX3 yX3_hedge yX3_hedge ∈ lw_tbl := tb_s3 _ (List.mem_of_getElem? (i := 7) rfl)
theorem mt_29_19 : Cond.code yX3_hedge cX3_hedge 5 (some .int) ∈ lw_tbl := tb_4 _ (List.mem_of_getElem? (i := 199) rfl)
theorem mt_29_20 : Cond.methodLink RL 191 yL_fairWin ∈ lw_tbl := tb_3 _ (List.mem_of_getElem? (i := 149) rfl)
theorem mt_29_21 : Cond.static yL_fairWin ∈ lw_tbl := tb_3 _ (List.mem_of_getElem? (i := 150) rfl)
theorem mt_29_22 : Cond.codeWith yL_fairWin cL_fairWin 6 (some .int) [(0, 12, 15, 13)] ∈ lw_tbl := tb_3 _ (List.mem_of_getElem? (i := 151) rfl)
theorem mt_29_23 : Cond.methodLink RL 75 yX2_fairWin ∈ lw_tbl := tb_3 _ (List.mem_of_getElem? (i := 152) rfl)
theorem mtr_29 : ∀ w ∈ wsL_law0_r29, w ∈ lw_tbl := List.forall_mem_cons.mpr ⟨mt_29_0, List.forall_mem_cons.mpr ⟨mt_29_1, List.forall_mem_cons.mpr ⟨mt_29_2, List.forall_mem_cons.mpr ⟨mt_29_3, List.forall_mem_cons.mpr ⟨mt_29_4, List.forall_mem_cons.mpr ⟨mt_29_5, List.forall_mem_cons.mpr ⟨mt_29_6, List.forall_mem_cons.mpr ⟨mt_29_7, List.forall_mem_cons.mpr ⟨mt_29_8, List.forall_mem_cons.mpr ⟨mt_29_9, List.forall_mem_cons.mpr ⟨mt_29_10, List.forall_mem_cons.mpr ⟨mt_29_11, List.forall_mem_cons.mpr ⟨mt_29_12, List.forall_mem_cons.mpr ⟨mt_29_13, List.forall_mem_cons.mpr ⟨mt_29_14, List.forall_mem_cons.mpr ⟨mt_29_15, List.forall_mem_cons.mpr ⟨mt_29_16, List.forall_mem_cons.mpr ⟨mt_29_17, List.forall_mem_cons.mpr ⟨mt_29_18, List.forall_mem_cons.mpr ⟨mt_29_19, List.forall_mem_cons.mpr ⟨mt_29_20, List.forall_mem_cons.mpr ⟨mt_29_21, List.forall_mem_cons.mpr ⟨mt_29_22, List.forall_mem_cons.mpr ⟨mt_29_23, fun _ h => absurd h List.not_mem_nil⟩⟩⟩⟩⟩⟩⟩⟩⟩⟩⟩⟩⟩⟩⟩⟩⟩⟩⟩⟩⟩⟩⟩⟩
theorem mt_30_0 : Cond.instanceMethod yX2_fairWin ∈ lw_tbl := tb_3 _ (List.mem_of_getElem? (i := 153) rfl)
theorem mt_30_1 : Cond.selects RX2 yX2_fairWin yX2_fairWin ∈ lw_tbl := tb_3 _ (List.mem_of_getElem? (i := 154) rfl)
theorem mt_30_2 : Cond.code yX2_fairWin cX2_fairWin 6 (some .int) ∈ lw_tbl := tb_3 _ (List.mem_of_getElem? (i := 155) rfl)
theorem mt_30_3 : Cond.methodLink RL 193 yX3_fairWin ∈ lw_tbl := tb_4 _ (List.mem_of_getElem? (i := 200) rfl)
theorem mt_30_4 : Cond.instanceMethod yX3_fairWin ∈ lw_tbl := tb_4 _ (List.mem_of_getElem? (i := 201) rfl)
theorem mt_30_5 : Cond.selects RX3 yX3_fairWin yX3_fairWin ∈ lw_tbl := tb_4 _ (List.mem_of_getElem? (i := 202) rfl)
theorem mt_30_6 : Cond.code yX3_fairWin cX3_fairWin 6 (some .int) ∈ lw_tbl := tb_4 _ (List.mem_of_getElem? (i := 203) rfl)
theorem mt_30_7 : Cond.methodLink RL 194 yX2_digest ∈ lw_tbl := tb_1 _ (List.mem_of_getElem? (i := 219) rfl)
theorem mt_30_8 : Cond.instanceMethod yX2_digest ∈ lw_tbl := tb_1 _ (List.mem_of_getElem? (i := 220) rfl)
theorem mt_30_9 : Cond.selects RX2 yX2_digest yX2_digest ∈ lw_tbl := tb_1 _ (List.mem_of_getElem? (i := 221) rfl)
theorem mt_30_10 : Cond.code yX2_digest cX2_digest 4 (some .long) ∈ lw_tbl := tb_1 _ (List.mem_of_getElem? (i := 222) rfl)
theorem mt_30_11 : Cond.constantLong RX2 167 (2141) ∈ lw_tbl := tb_1 _ (List.mem_of_getElem? (i := 223) rfl)
theorem mt_30_12 : Cond.methodLink RX2 169 yX2_dice ∈ lw_tbl := tb_1 _ (List.mem_of_getElem? (i := 224) rfl)
theorem mt_30_13 : Cond.methodLink RX2 171 yX2_digested ∈ lw_tbl := tb_1 _ (List.mem_of_getElem? (i := 225) rfl)
theorem mt_30_14 : Cond.static yX2_digested ∈ lw_tbl := tb_1 _ (List.mem_of_getElem? (i := 226) rfl)
theorem mt_30_15 : Cond.code yX2_digested cX2_digested 4 (some .long) ∈ lw_tbl := tb_1 _ (List.mem_of_getElem? (i := 227) rfl)
theorem mt_30_16 : Cond.constantLong RX2 230 (31) ∈ lw_tbl := tb_1 _ (List.mem_of_getElem? (i := 228) rfl)
theorem mt_30_17 : Cond.methodLink RX2 175 yX2_outcomes ∈ lw_tbl := tb_1 _ (List.mem_of_getElem? (i := 229) rfl)
theorem mt_30_18 : Cond.methodLink RX2 177 yX2_open ∈ lw_tbl := tb_1 _ (List.mem_of_getElem? (i := 230) rfl)
theorem mt_30_19 : Cond.methodLink RX2 180 yX2_bank ∈ lw_tbl := tb_1 _ (List.mem_of_getElem? (i := 231) rfl)
theorem mt_30_20 : Cond.methodLink RX2 182 yX2_rounds ∈ lw_tbl := tb_1 _ (List.mem_of_getElem? (i := 232) rfl)
theorem mt_30_21 : Cond.methodLink RX2 184 yX2_staked ∈ lw_tbl := tb_1 _ (List.mem_of_getElem? (i := 233) rfl)
theorem mt_30_22 : Cond.methodLink RX2 187 yX2_allEdgesTop ∈ lw_tbl := tb_1 _ (List.mem_of_getElem? (i := 234) rfl)
theorem mt_30_23 : Cond.methodLink RX2 190 yX2_allEdgesBottom ∈ lw_tbl := tb_1 _ (List.mem_of_getElem? (i := 235) rfl)
theorem mtr_30 : ∀ w ∈ wsL_law0_r30, w ∈ lw_tbl := List.forall_mem_cons.mpr ⟨mt_30_0, List.forall_mem_cons.mpr ⟨mt_30_1, List.forall_mem_cons.mpr ⟨mt_30_2, List.forall_mem_cons.mpr ⟨mt_30_3, List.forall_mem_cons.mpr ⟨mt_30_4, List.forall_mem_cons.mpr ⟨mt_30_5, List.forall_mem_cons.mpr ⟨mt_30_6, List.forall_mem_cons.mpr ⟨mt_30_7, List.forall_mem_cons.mpr ⟨mt_30_8, List.forall_mem_cons.mpr ⟨mt_30_9, List.forall_mem_cons.mpr ⟨mt_30_10, List.forall_mem_cons.mpr ⟨mt_30_11, List.forall_mem_cons.mpr ⟨mt_30_12, List.forall_mem_cons.mpr ⟨mt_30_13, List.forall_mem_cons.mpr ⟨mt_30_14, List.forall_mem_cons.mpr ⟨mt_30_15, List.forall_mem_cons.mpr ⟨mt_30_16, List.forall_mem_cons.mpr ⟨mt_30_17, List.forall_mem_cons.mpr ⟨mt_30_18, List.forall_mem_cons.mpr ⟨mt_30_19, List.forall_mem_cons.mpr ⟨mt_30_20, List.forall_mem_cons.mpr ⟨mt_30_21, List.forall_mem_cons.mpr ⟨mt_30_22, List.forall_mem_cons.mpr ⟨mt_30_23, fun _ h => absurd h List.not_mem_nil⟩⟩⟩⟩⟩⟩⟩⟩⟩⟩⟩⟩⟩⟩⟩⟩⟩⟩⟩⟩⟩⟩⟩⟩
theorem mt_31_0 : Cond.methodLink RX2 193 yX2_dearestWager ∈ lw_tbl := tb_1 _ (List.mem_of_getElem? (i := 236) rfl)
theorem mt_31_1 : Cond.methodLink RX2 196 yX2_worstGain ∈ lw_tbl := tb_1 _ (List.mem_of_getElem? (i := 237) rfl)
theorem mt_31_2 : Cond.methodLink RX2 199 yX2_digestOfWagers ∈ lw_tbl := tb_1 _ (List.mem_of_getElem? (i := 238) rfl)
theorem mt_31_3 : Cond.instanceMethod yX2_digestOfWagers ∈ lw_tbl := tb_2 _ (List.mem_of_getElem? (i := 0) rfl)
theorem mt_31_4 : Cond.selects RX2 yX2_digestOfWagers yX2_digestOfWagers ∈ lw_tbl := tb_s1 _ (List.mem_of_getElem? (i := 7) rfl)
theorem mt_31_5 : Cond.code yX2_digestOfWagers cX2_digestOfWagers 6 (some .long) ∈ lw_tbl := tb_2 _ (List.mem_of_getElem? (i := 1) rfl)
theorem mt_31_6 : Cond.methodLink RX2 206 yX2_patronOf ∈ lw_tbl := tb_2 _ (List.mem_of_getElem? (i := 2) rfl)
theorem mt_31_7 : Cond.methodLink RX2 209 yX2_stakeOf ∈ lw_tbl := tb_2 _ (List.mem_of_getElem? (i := 78) rfl)
theorem mt_31_8 : Cond.methodLink RX2 212 yX2_bringsOf ∈ lw_tbl := tb_2 _ (List.mem_of_getElem? (i := 82) rfl)
theorem mt_31_9 : Cond.methodLink RX2 215 yX2_edgeTop ∈ lw_tbl := tb_2 _ (List.mem_of_getElem? (i := 86) rfl)
theorem mt_31_10 : Cond.methodLink RX2 218 yX2_edgeBottom ∈ lw_tbl := tb_2 _ (List.mem_of_getElem? (i := 90) rfl)
theorem mt_31_11 : Cond.methodLink RX2 203 yX2_digestOfPatrons ∈ lw_tbl := tb_2 _ (List.mem_of_getElem? (i := 94) rfl)
theorem mt_31_12 : Cond.instanceMethod yX2_digestOfPatrons ∈ lw_tbl := tb_2 _ (List.mem_of_getElem? (i := 96) rfl)
theorem mt_31_13 : Cond.selects RX2 yX2_digestOfPatrons yX2_digestOfPatrons ∈ lw_tbl := tb_s1 _ (List.mem_of_getElem? (i := 10) rfl)
theorem mt_31_14 : Cond.code yX2_digestOfPatrons cX2_digestOfPatrons 6 (some .long) ∈ lw_tbl := tb_2 _ (List.mem_of_getElem? (i := 97) rfl)
theorem mt_31_15 : Cond.methodLink RX2 221 yX2_purseOf ∈ lw_tbl := tb_2 _ (List.mem_of_getElem? (i := 98) rfl)
theorem mt_31_16 : Cond.methodLink RX2 224 yX2_leastPurse ∈ lw_tbl := tb_2 _ (List.mem_of_getElem? (i := 106) rfl)
theorem mt_31_17 : Cond.methodLink RX2 227 yX2_isHedged ∈ lw_tbl := tb_2 _ (List.mem_of_getElem? (i := 115) rfl)
theorem mt_31_18 : Cond.methodLink RL 198 yX3_digest ∈ lw_tbl := tb_4 _ (List.mem_of_getElem? (i := 204) rfl)
theorem mt_31_19 : Cond.instanceMethod yX3_digest ∈ lw_tbl := tb_4 _ (List.mem_of_getElem? (i := 205) rfl)
theorem mt_31_20 : Cond.selects RX3 yX3_digest yX3_digest ∈ lw_tbl := tb_4 _ (List.mem_of_getElem? (i := 206) rfl)
theorem mt_31_21 : Cond.code yX3_digest cX3_digest 9 (some .long) ∈ lw_tbl := tb_4 _ (List.mem_of_getElem? (i := 207) rfl)
theorem mt_31_22 : Cond.constantLong RX3 166 (2141) ∈ lw_tbl := tb_4 _ (List.mem_of_getElem? (i := 208) rfl)
theorem mt_31_23 : Cond.constantLong RX3 168 (31) ∈ lw_tbl := tb_4 _ (List.mem_of_getElem? (i := 209) rfl)
theorem mtr_31 : ∀ w ∈ wsL_law0_r31, w ∈ lw_tbl := List.forall_mem_cons.mpr ⟨mt_31_0, List.forall_mem_cons.mpr ⟨mt_31_1, List.forall_mem_cons.mpr ⟨mt_31_2, List.forall_mem_cons.mpr ⟨mt_31_3, List.forall_mem_cons.mpr ⟨mt_31_4, List.forall_mem_cons.mpr ⟨mt_31_5, List.forall_mem_cons.mpr ⟨mt_31_6, List.forall_mem_cons.mpr ⟨mt_31_7, List.forall_mem_cons.mpr ⟨mt_31_8, List.forall_mem_cons.mpr ⟨mt_31_9, List.forall_mem_cons.mpr ⟨mt_31_10, List.forall_mem_cons.mpr ⟨mt_31_11, List.forall_mem_cons.mpr ⟨mt_31_12, List.forall_mem_cons.mpr ⟨mt_31_13, List.forall_mem_cons.mpr ⟨mt_31_14, List.forall_mem_cons.mpr ⟨mt_31_15, List.forall_mem_cons.mpr ⟨mt_31_16, List.forall_mem_cons.mpr ⟨mt_31_17, List.forall_mem_cons.mpr ⟨mt_31_18, List.forall_mem_cons.mpr ⟨mt_31_19, List.forall_mem_cons.mpr ⟨mt_31_20, List.forall_mem_cons.mpr ⟨mt_31_21, List.forall_mem_cons.mpr ⟨mt_31_22, List.forall_mem_cons.mpr ⟨mt_31_23, fun _ h => absurd h List.not_mem_nil⟩⟩⟩⟩⟩⟩⟩⟩⟩⟩⟩⟩⟩⟩⟩⟩⟩⟩⟩⟩⟩⟩⟩⟩
theorem mtx_wsX20 : ∀ w ∈ wsX20, w ∈ lw_tbl := by decide +kernel
theorem mtx_wsX30 : ∀ w ∈ wsX30, w ∈ lw_tbl := by decide +kernel
theorem mtx_wsX00 : ∀ w ∈ wsX00, w ∈ lw_tbl := by decide +kernel
theorem mtx_wsJx4a65c0 : ∀ w ∈ wsJx4a65c0, w ∈ lw_tbl := by decide +kernel
theorem mtx_wsX10 : ∀ w ∈ wsX10, w ∈ lw_tbl := by decide +kernel
set_option maxRecDepth 100000 in
theorem wsL_law_in0 : ∀ w ∈ wsL_law0, w ∈ lw_tbl := fun w h => (fun h => (List.mem_append.mp h).elim (fun h => (List.mem_append.mp h).elim (fun h => (List.mem_append.mp h).elim (fun h => (List.mem_append.mp h).elim (fun h => (List.mem_append.mp h).elim (fun h => (List.mem_append.mp h).elim (fun h => (List.mem_append.mp h).elim (fun h => mtr_1 w h) (fun h => (List.mem_append.mp h).elim (fun h => mtr_2 w h) (fun h => (List.mem_append.mp h).elim (fun h => mtr_3 w h) (fun h => (List.mem_append.mp h).elim (fun h => mtr_4 w h) (fun h => (List.mem_append.mp h).elim (fun h => mtr_5 w h) (fun h => (List.mem_append.mp h).elim (fun h => mtr_6 w h) (fun h => (List.mem_append.mp h).elim (fun h => mtr_7 w h) (fun h => (List.mem_append.mp h).elim (fun h => mtr_8 w h) (fun h => (List.mem_append.mp h).elim (fun h => mtr_9 w h) (fun h => (List.mem_append.mp h).elim (fun h => mtr_10 w h) (fun h => (List.mem_append.mp h).elim (fun h => mtr_11 w h) (fun h => (List.mem_append.mp h).elim (fun h => mtr_12 w h) (fun h => (List.mem_append.mp h).elim (fun h => mtr_13 w h) (fun h => (List.mem_append.mp h).elim (fun h => mtr_14 w h) (fun h => (List.mem_append.mp h).elim (fun h => mtr_15 w h) (fun h => (List.mem_append.mp h).elim (fun h => mtr_16 w h) (fun h => (List.mem_append.mp h).elim (fun h => mtr_17 w h) (fun h => (List.mem_append.mp h).elim (fun h => mtr_18 w h) (fun h => (List.mem_append.mp h).elim (fun h => mtr_19 w h) (fun h => (List.mem_append.mp h).elim (fun h => mtr_20 w h) (fun h => (List.mem_append.mp h).elim (fun h => mtr_21 w h) (fun h => (List.mem_append.mp h).elim (fun h => mtr_22 w h) (fun h => (List.mem_append.mp h).elim (fun h => mtr_23 w h) (fun h => (List.mem_append.mp h).elim (fun h => mtr_24 w h) (fun h => (List.mem_append.mp h).elim (fun h => mtr_25 w h) (fun h => (List.mem_append.mp h).elim (fun h => mtr_26 w h) (fun h => (List.mem_append.mp h).elim (fun h => mtr_27 w h) (fun h => (List.mem_append.mp h).elim (fun h => mtr_28 w h) (fun h => (List.mem_append.mp h).elim (fun h => mtr_29 w h) (fun h => (List.mem_append.mp h).elim (fun h => mtr_30 w h) (fun h => mtr_31 w h))))))))))))))))))))))))))))))) (fun h => mtx_wsX20 w h)) (fun h => mtx_wsX30 w h)) (fun h => mtx_wsX00 w h)) (fun h => mtx_wsJx4a65c0 w h)) (fun h => mtx_wsX10 w h)) (fun h => absurd h List.not_mem_nil)) h
theorem wsL_law_x0 : ∀ w ∈ (vx_atS RX2 42 "java/lang/IllegalArgumentException" ["java/lang/RuntimeException", "java/lang/Exception"]).filter goodWord, w ∈ lw_tbl := by decide +kernel
theorem wsL_law_x1 : ∀ w ∈ (vx_atS RX2 53 "java/lang/IllegalStateException" ["java/lang/RuntimeException", "java/lang/Exception"]).filter goodWord, w ∈ lw_tbl := by decide +kernel
theorem wsL_law_x2 : ∀ w ∈ (vx_atS RX2 258 "java/lang/IndexOutOfBoundsException" ["java/lang/RuntimeException", "java/lang/Exception"]).filter goodWord, w ∈ lw_tbl := by decide +kernel
theorem wsL_law_in : ∀ w ∈ wsL_law, w ∈ lw_tbl := fun w h => (List.mem_append.mp h).elim (fun h => (List.mem_append.mp h).elim (fun h => (List.mem_append.mp h).elim (fun h => wsL_law_in0 w h) (fun h => wsL_law_x0 w h)) (fun h => wsL_law_x1 w h)) (fun h => wsL_law_x2 w h)
theorem inlX0 : ∀ w ∈ wsX00, w ∈ wsL_law := fun _ h => List.mem_append_left _ (List.mem_append_left _ (List.mem_append_left _ (List.mem_append_left _ (List.mem_append_left _ (List.mem_append_left _ (List.mem_append_right _ h))))))
theorem inX0 : ∀ w ∈ wsX00, w ∈ lw_tbl := fun w h => wsL_law_in w (inlX0 w h)
theorem inlX1 : ∀ w ∈ wsX10, w ∈ wsL_law := fun _ h => List.mem_append_left _ (List.mem_append_left _ (List.mem_append_left _ (List.mem_append_left _ (List.mem_append_right _ h))))
theorem inX1 : ∀ w ∈ wsX10, w ∈ lw_tbl := fun w h => wsL_law_in w (inlX1 w h)
theorem inlX2 : ∀ w ∈ wsX20, w ∈ wsL_law := fun _ h => List.mem_append_left _ (List.mem_append_left _ (List.mem_append_left _ (List.mem_append_left _ (List.mem_append_left _ (List.mem_append_left _ (List.mem_append_left _ (List.mem_append_left _ (List.mem_append_right _ h))))))))
theorem inX2 : ∀ w ∈ wsX20, w ∈ lw_tbl := fun w h => wsL_law_in w (inlX2 w h)
theorem inlX3 : ∀ w ∈ wsX30, w ∈ wsL_law := fun _ h => List.mem_append_left _ (List.mem_append_left _ (List.mem_append_left _ (List.mem_append_left _ (List.mem_append_left _ (List.mem_append_left _ (List.mem_append_left _ (List.mem_append_right _ h)))))))
theorem inX3 : ∀ w ∈ wsX30, w ∈ lw_tbl := fun w h => wsL_law_in w (inlX3 w h)
theorem inJx145de : ∀ w ∈ wsJx145de0, w ∈ lw_tbl := by decide +kernel
theorem inJx8e188 : ∀ w ∈ wsJx8e1880, w ∈ lw_tbl := by decide +kernel
theorem inJ6 : ∀ w ∈ wsJ60, w ∈ lw_tbl := by decide +kernel
theorem inJxab1ab : ∀ w ∈ wsJxab1ab0, w ∈ lw_tbl := by decide +kernel
theorem inJ9 : ∀ w ∈ wsJ90, w ∈ lw_tbl := by decide +kernel
theorem inJ0 : ∀ w ∈ wsJ00, w ∈ lw_tbl := by decide +kernel
theorem inJ10 : ∀ w ∈ wsJ100, w ∈ lw_tbl := by decide +kernel
theorem inJxa1e45 : ∀ w ∈ wsJxa1e450, w ∈ lw_tbl := by decide +kernel
theorem inJxc12de : ∀ w ∈ wsJxc12de0, w ∈ lw_tbl := by decide +kernel
theorem inlJx4a65c : ∀ w ∈ wsJx4a65c0, w ∈ wsL_law := fun _ h => List.mem_append_left _ (List.mem_append_left _ (List.mem_append_left _ (List.mem_append_left _ (List.mem_append_left _ (List.mem_append_right _ h)))))
theorem inJx4a65c : ∀ w ∈ wsJx4a65c0, w ∈ lw_tbl := fun w h => wsL_law_in w (inlJx4a65c w h)
theorem inJ7 : ∀ w ∈ wsJ70, w ∈ lw_tbl := by decide +kernel
theorem inJx5ef63 : ∀ w ∈ wsJx5ef630, w ∈ lw_tbl := by decide +kernel
theorem inJxbd725 : ∀ w ∈ wsJxbd7250, w ∈ lw_tbl := by decide +kernel
theorem inJ15 : ∀ w ∈ wsJ150, w ∈ lw_tbl := by decide +kernel
theorem inJxf0a74 : ∀ w ∈ wsJxf0a740, w ∈ lw_tbl := by decide +kernel
theorem inJxa66e6 : ∀ w ∈ wsJxa66e60, w ∈ lw_tbl := by decide +kernel
theorem inJ8 : ∀ w ∈ wsJ80, w ∈ lw_tbl := by decide +kernel
theorem inJ3 : ∀ w ∈ wsJ30, w ∈ lw_tbl := by decide +kernel
abbrev vwCl : List vw_C := [(RJx4a65c, TJx4a65c, 3), (RX0, TX0, 4), (RX1, TX1, 6), (RX2, TX2, 5), (RX3, TX3, 15)]
end
section
theorem dX0_init_0 : decode cX0_init 0 = .ok (.aload_n 0, 1) := by decide +kernel
theorem dX0_init_1 : decode cX0_init 1 = .ok (.invokespecial 3, 3) := by decide +kernel
theorem dX0_init_4 : decode cX0_init 4 = .ok (.aload_n 0, 1) := by decide +kernel
theorem dX0_init_5 : decode cX0_init 5 = .ok (.sipush 1728, 3) := by decide +kernel
theorem dX0_init_8 : decode cX0_init 8 = .ok (.newarray .int, 2) := by decide +kernel
theorem dX0_init_10 : decode cX0_init 10 = .ok (.putfield 9, 3) := by decide +kernel
theorem dX0_init_13 : decode cX0_init 13 = .ok (.aload_n 0, 1) := by decide +kernel
theorem dX0_init_14 : decode cX0_init 14 = .ok (.sipush 1728, 3) := by decide +kernel
theorem dX0_init_17 : decode cX0_init 17 = .ok (.newarray .int, 2) := by decide +kernel
theorem dX0_init_19 : decode cX0_init 19 = .ok (.putfield 15, 3) := by decide +kernel
theorem dX0_init_22 : decode cX0_init 22 = .ok (.aload_n 0, 1) := by decide +kernel
theorem dX0_init_23 : decode cX0_init 23 = .ok (.bipush 6, 2) := by decide +kernel
theorem dX0_init_25 : decode cX0_init 25 = .ok (.bipush 6, 2) := by decide +kernel
theorem dX0_init_27 : decode cX0_init 27 = .ok (.iconst 0, 1) := by decide +kernel
theorem dX0_init_28 : decode cX0_init 28 = .ok (.invokevirtual 18, 3) := by decide +kernel
theorem dX0_init_31 : decode cX0_init 31 = .ok (.return_, 1) := by decide +kernel
theorem dX0_layOut_0 : decode cX0_layOut 0 = .ok (.aload_n 0, 1) := by decide +kernel
theorem dX0_layOut_1 : decode cX0_layOut 1 = .ok (.iconst 1, 1) := by decide +kernel
theorem dX0_layOut_2 : decode cX0_layOut 2 = .ok (.iload_n 2, 1) := by decide +kernel
theorem dX0_layOut_3 : decode cX0_layOut 3 = .ok (.ifCond .le 7, 3) := by decide +kernel
theorem dX0_layOut_6 : decode cX0_layOut 6 = .ok (.iconst 1, 1) := by decide +kernel
theorem dX0_layOut_7 : decode cX0_layOut 7 = .ok (.goto 4, 3) := by decide +kernel
theorem dX0_layOut_10 : decode cX0_layOut 10 = .ok (.iconst 0, 1) := by decide +kernel
theorem dX0_layOut_11 : decode cX0_layOut 11 = .ok (.iadd, 1) := by decide +kernel
theorem dX0_layOut_12 : decode cX0_layOut 12 = .ok (.iload_n 3, 1) := by decide +kernel
theorem dX0_layOut_13 : decode cX0_layOut 13 = .ok (.ifCond .le 7, 3) := by decide +kernel
theorem dX0_layOut_16 : decode cX0_layOut 16 = .ok (.iconst 1, 1) := by decide +kernel
theorem dX0_layOut_17 : decode cX0_layOut 17 = .ok (.goto 4, 3) := by decide +kernel
theorem dX0_layOut_20 : decode cX0_layOut 20 = .ok (.iconst 0, 1) := by decide +kernel
theorem dX0_layOut_21 : decode cX0_layOut 21 = .ok (.iadd, 1) := by decide +kernel
theorem dX0_layOut_22 : decode cX0_layOut 22 = .ok (.putfield 22, 3) := by decide +kernel
theorem dX0_layOut_25 : decode cX0_layOut 25 = .ok (.aload_n 0, 1) := by decide +kernel
theorem dX0_layOut_26 : decode cX0_layOut 26 = .ok (.iconst 0, 1) := by decide +kernel
theorem dX0_layOut_27 : decode cX0_layOut 27 = .ok (.putfield 26, 3) := by decide +kernel
theorem dX0_layOut_30 : decode cX0_layOut 30 = .ok (.iconst 1, 1) := by decide +kernel
theorem dX0_layOut_31 : decode cX0_layOut 31 = .ok (.istore 4, 2) := by decide +kernel
theorem dX0_layOut_33 : decode cX0_layOut 33 = .ok (.iload 4, 2) := by decide +kernel
theorem dX0_layOut_35 : decode cX0_layOut 35 = .ok (.iload_n 1, 1) := by decide +kernel
theorem dX0_layOut_36 : decode cX0_layOut 36 = .ok (.if_icmp .gt 57, 3) := by decide +kernel
theorem dX0_layOut_39 : decode cX0_layOut 39 = .ok (.iconst 1, 1) := by decide +kernel
theorem dX0_layOut_40 : decode cX0_layOut 40 = .ok (.iload_n 2, 1) := by decide +kernel
theorem dX0_layOut_41 : decode cX0_layOut 41 = .ok (.invokestatic 29, 3) := by decide +kernel
theorem dX0_layOut_44 : decode cX0_layOut 44 = .ok (.istore 5, 2) := by decide +kernel
theorem dX0_layOut_46 : decode cX0_layOut 46 = .ok (.iload 5, 2) := by decide +kernel
theorem dX0_layOut_48 : decode cX0_layOut 48 = .ok (.iload_n 2, 1) := by decide +kernel
theorem dX0_layOut_49 : decode cX0_layOut 49 = .ok (.if_icmp .gt 38, 3) := by decide +kernel
theorem dX0_layOut_52 : decode cX0_layOut 52 = .ok (.iconst 1, 1) := by decide +kernel
theorem dX0_layOut_53 : decode cX0_layOut 53 = .ok (.iload_n 3, 1) := by decide +kernel
theorem dX0_layOut_54 : decode cX0_layOut 54 = .ok (.invokestatic 29, 3) := by decide +kernel
theorem dX0_layOut_57 : decode cX0_layOut 57 = .ok (.istore 6, 2) := by decide +kernel
theorem dX0_layOut_59 : decode cX0_layOut 59 = .ok (.iload 6, 2) := by decide +kernel
theorem dX0_layOut_61 : decode cX0_layOut 61 = .ok (.iload_n 3, 1) := by decide +kernel
theorem dX0_layOut_62 : decode cX0_layOut 62 = .ok (.if_icmp .gt 19, 3) := by decide +kernel
theorem dX0_layOut_65 : decode cX0_layOut 65 = .ok (.aload_n 0, 1) := by decide +kernel
theorem dX0_layOut_66 : decode cX0_layOut 66 = .ok (.iload 4, 2) := by decide +kernel
theorem dX0_layOut_68 : decode cX0_layOut 68 = .ok (.iload 5, 2) := by decide +kernel
theorem dX0_layOut_70 : decode cX0_layOut 70 = .ok (.iload 6, 2) := by decide +kernel
theorem dX0_layOut_72 : decode cX0_layOut 72 = .ok (.invokevirtual 35, 3) := by decide +kernel
theorem dX0_layOut_75 : decode cX0_layOut 75 = .ok (.iinc 6 1, 3) := by decide +kernel
theorem dX0_layOut_78 : decode cX0_layOut 78 = .ok (.goto (-19), 3) := by decide +kernel
theorem dX0_layOut_81 : decode cX0_layOut 81 = .ok (.iinc 5 1, 3) := by decide +kernel
theorem dX0_layOut_84 : decode cX0_layOut 84 = .ok (.goto (-38), 3) := by decide +kernel
theorem dX0_layOut_87 : decode cX0_layOut 87 = .ok (.iinc 4 1, 3) := by decide +kernel
theorem dX0_layOut_90 : decode cX0_layOut 90 = .ok (.goto (-57), 3) := by decide +kernel
theorem dX0_layOut_93 : decode cX0_layOut 93 = .ok (.return_, 1) := by decide +kernel
theorem dX0_addOutcome_0 : decode cX0_addOutcome 0 = .ok (.aload_n 0, 1) := by decide +kernel
theorem dX0_addOutcome_1 : decode cX0_addOutcome 1 = .ok (.getfield 26, 3) := by decide +kernel
theorem dX0_addOutcome_4 : decode cX0_addOutcome 4 = .ok (.sipush 1728, 3) := by decide +kernel
theorem dX0_addOutcome_7 : decode cX0_addOutcome 7 = .ok (.if_icmp .ge 50, 3) := by decide +kernel
theorem dX0_addOutcome_10 : decode cX0_addOutcome 10 = .ok (.aload_n 0, 1) := by decide +kernel
theorem dX0_addOutcome_11 : decode cX0_addOutcome 11 = .ok (.getfield 9, 3) := by decide +kernel
theorem dX0_addOutcome_14 : decode cX0_addOutcome 14 = .ok (.aload_n 0, 1) := by decide +kernel
theorem dX0_addOutcome_15 : decode cX0_addOutcome 15 = .ok (.getfield 26, 3) := by decide +kernel
theorem dX0_addOutcome_18 : decode cX0_addOutcome 18 = .ok (.iload_n 1, 1) := by decide +kernel
theorem dX0_addOutcome_19 : decode cX0_addOutcome 19 = .ok (.iload_n 2, 1) := by decide +kernel
theorem dX0_addOutcome_20 : decode cX0_addOutcome 20 = .ok (.iadd, 1) := by decide +kernel
theorem dX0_addOutcome_21 : decode cX0_addOutcome 21 = .ok (.iload_n 3, 1) := by decide +kernel
theorem dX0_addOutcome_22 : decode cX0_addOutcome 22 = .ok (.iadd, 1) := by decide +kernel
theorem dX0_addOutcome_23 : decode cX0_addOutcome 23 = .ok (.iastore, 1) := by decide +kernel
theorem dX0_addOutcome_24 : decode cX0_addOutcome 24 = .ok (.aload_n 0, 1) := by decide +kernel
theorem dX0_addOutcome_25 : decode cX0_addOutcome 25 = .ok (.getfield 15, 3) := by decide +kernel
theorem dX0_addOutcome_28 : decode cX0_addOutcome 28 = .ok (.aload_n 0, 1) := by decide +kernel
theorem dX0_addOutcome_29 : decode cX0_addOutcome 29 = .ok (.getfield 26, 3) := by decide +kernel
theorem dX0_addOutcome_32 : decode cX0_addOutcome 32 = .ok (.iload_n 1, 1) := by decide +kernel
theorem dX0_addOutcome_33 : decode cX0_addOutcome 33 = .ok (.invokestatic 38, 3) := by decide +kernel
theorem dX0_addOutcome_36 : decode cX0_addOutcome 36 = .ok (.iload_n 2, 1) := by decide +kernel
theorem dX0_addOutcome_37 : decode cX0_addOutcome 37 = .ok (.invokestatic 38, 3) := by decide +kernel
theorem dX0_addOutcome_40 : decode cX0_addOutcome 40 = .ok (.ior, 1) := by decide +kernel
theorem dX0_addOutcome_41 : decode cX0_addOutcome 41 = .ok (.iload_n 3, 1) := by decide +kernel
theorem dX0_addOutcome_42 : decode cX0_addOutcome 42 = .ok (.invokestatic 38, 3) := by decide +kernel
theorem dX0_addOutcome_45 : decode cX0_addOutcome 45 = .ok (.ior, 1) := by decide +kernel
theorem dX0_addOutcome_46 : decode cX0_addOutcome 46 = .ok (.iastore, 1) := by decide +kernel
theorem dX0_addOutcome_47 : decode cX0_addOutcome 47 = .ok (.aload_n 0, 1) := by decide +kernel
theorem dX0_addOutcome_48 : decode cX0_addOutcome 48 = .ok (.dup, 1) := by decide +kernel
theorem dX0_addOutcome_49 : decode cX0_addOutcome 49 = .ok (.getfield 26, 3) := by decide +kernel
theorem dX0_addOutcome_52 : decode cX0_addOutcome 52 = .ok (.iconst 1, 1) := by decide +kernel
theorem dX0_addOutcome_53 : decode cX0_addOutcome 53 = .ok (.iadd, 1) := by decide +kernel
theorem dX0_addOutcome_54 : decode cX0_addOutcome 54 = .ok (.putfield 26, 3) := by decide +kernel
theorem dX0_addOutcome_57 : decode cX0_addOutcome 57 = .ok (.return_, 1) := by decide +kernel
theorem dX0_bitOf_0 : decode cX0_bitOf 0 = .ok (.iload_n 0, 1) := by decide +kernel
theorem dX0_bitOf_1 : decode cX0_bitOf 1 = .ok (.iconst 1, 1) := by decide +kernel
theorem dX0_bitOf_2 : decode cX0_bitOf 2 = .ok (.if_icmp .lt 9, 3) := by decide +kernel
theorem dX0_bitOf_5 : decode cX0_bitOf 5 = .ok (.iload_n 0, 1) := by decide +kernel
theorem dX0_bitOf_6 : decode cX0_bitOf 6 = .ok (.bipush 12, 2) := by decide +kernel
theorem dX0_bitOf_8 : decode cX0_bitOf 8 = .ok (.if_icmp .le 7, 3) := by decide +kernel
theorem dX0_bitOf_11 : decode cX0_bitOf 11 = .ok (.iconst 0, 1) := by decide +kernel
theorem dX0_bitOf_12 : decode cX0_bitOf 12 = .ok (.goto 6, 3) := by decide +kernel
theorem dX0_bitOf_15 : decode cX0_bitOf 15 = .ok (.iconst 1, 1) := by decide +kernel
theorem dX0_bitOf_16 : decode cX0_bitOf 16 = .ok (.iload_n 0, 1) := by decide +kernel
theorem dX0_bitOf_17 : decode cX0_bitOf 17 = .ok (.ishl, 1) := by decide +kernel
theorem dX0_bitOf_18 : decode cX0_bitOf 18 = .ok (.ireturn, 1) := by decide +kernel
theorem dX0_comes_0 : decode cX0_comes 0 = .ok (.iload_n 1, 1) := by decide +kernel
theorem dX0_comes_1 : decode cX0_comes 1 = .ok (.iconst 5, 1) := by decide +kernel
theorem dX0_comes_2 : decode cX0_comes 2 = .ok (.if_icmp .lt 21, 3) := by decide +kernel
theorem dX0_comes_5 : decode cX0_comes 5 = .ok (.aload_n 0, 1) := by decide +kernel
theorem dX0_comes_6 : decode cX0_comes 6 = .ok (.iload_n 1, 1) := by decide +kernel
theorem dX0_comes_7 : decode cX0_comes 7 = .ok (.iconst 5, 1) := by decide +kernel
theorem dX0_comes_8 : decode cX0_comes 8 = .ok (.isub, 1) := by decide +kernel
theorem dX0_comes_9 : decode cX0_comes 9 = .ok (.iload_n 2, 1) := by decide +kernel
theorem dX0_comes_10 : decode cX0_comes 10 = .ok (.iload_n 3, 1) := by decide +kernel
theorem dX0_comes_11 : decode cX0_comes 11 = .ok (.invokevirtual 42, 3) := by decide +kernel
theorem dX0_comes_14 : decode cX0_comes 14 = .ok (.ifCond .ne 7, 3) := by decide +kernel
theorem dX0_comes_17 : decode cX0_comes 17 = .ok (.iconst 1, 1) := by decide +kernel
theorem dX0_comes_18 : decode cX0_comes 18 = .ok (.goto 4, 3) := by decide +kernel
theorem dX0_comes_21 : decode cX0_comes 21 = .ok (.iconst 0, 1) := by decide +kernel
theorem dX0_comes_22 : decode cX0_comes 22 = .ok (.ireturn, 1) := by decide +kernel
theorem dX0_comes_23 : decode cX0_comes 23 = .ok (.aload_n 0, 1) := by decide +kernel
theorem dX0_comes_24 : decode cX0_comes 24 = .ok (.iload_n 1, 1) := by decide +kernel
theorem dX0_comes_25 : decode cX0_comes 25 = .ok (.iload_n 2, 1) := by decide +kernel
theorem dX0_comes_26 : decode cX0_comes 26 = .ok (.iload_n 3, 1) := by decide +kernel
theorem dX0_comes_27 : decode cX0_comes 27 = .ok (.invokevirtual 42, 3) := by decide +kernel
theorem dX0_comes_30 : decode cX0_comes 30 = .ok (.ireturn, 1) := by decide +kernel
theorem dX0_holds_0 : decode cX0_holds 0 = .ok (.iload_n 1, 1) := by decide +kernel
theorem dX0_holds_1 : decode cX0_holds 1 = .ok (.tableswitch 124 0 4 #[35, 51, 67, 85, 104], 35) := by decide +kernel
theorem dX0_holds_36 : decode cX0_holds 36 = .ok (.aload_n 0, 1) := by decide +kernel
theorem dX0_holds_37 : decode cX0_holds 37 = .ok (.getfield 9, 3) := by decide +kernel
theorem dX0_holds_40 : decode cX0_holds 40 = .ok (.iload_n 3, 1) := by decide +kernel
theorem dX0_holds_41 : decode cX0_holds 41 = .ok (.iaload, 1) := by decide +kernel
theorem dX0_holds_42 : decode cX0_holds 42 = .ok (.iload_n 2, 1) := by decide +kernel
theorem dX0_holds_43 : decode cX0_holds 43 = .ok (.if_icmp .ne 7, 3) := by decide +kernel
theorem dX0_holds_46 : decode cX0_holds 46 = .ok (.iconst 1, 1) := by decide +kernel
theorem dX0_holds_47 : decode cX0_holds 47 = .ok (.goto 4, 3) := by decide +kernel
theorem dX0_holds_50 : decode cX0_holds 50 = .ok (.iconst 0, 1) := by decide +kernel
theorem dX0_holds_51 : decode cX0_holds 51 = .ok (.ireturn, 1) := by decide +kernel
theorem dX0_holds_52 : decode cX0_holds 52 = .ok (.aload_n 0, 1) := by decide +kernel
theorem dX0_holds_53 : decode cX0_holds 53 = .ok (.getfield 9, 3) := by decide +kernel
theorem dX0_holds_56 : decode cX0_holds 56 = .ok (.iload_n 3, 1) := by decide +kernel
theorem dX0_holds_57 : decode cX0_holds 57 = .ok (.iaload, 1) := by decide +kernel
theorem dX0_holds_58 : decode cX0_holds 58 = .ok (.iload_n 2, 1) := by decide +kernel
theorem dX0_holds_59 : decode cX0_holds 59 = .ok (.if_icmp .lt 7, 3) := by decide +kernel
theorem dX0_holds_62 : decode cX0_holds 62 = .ok (.iconst 1, 1) := by decide +kernel
theorem dX0_holds_63 : decode cX0_holds 63 = .ok (.goto 4, 3) := by decide +kernel
theorem dX0_holds_66 : decode cX0_holds 66 = .ok (.iconst 0, 1) := by decide +kernel
theorem dX0_holds_67 : decode cX0_holds 67 = .ok (.ireturn, 1) := by decide +kernel
theorem dX0_holds_68 : decode cX0_holds 68 = .ok (.aload_n 0, 1) := by decide +kernel
theorem dX0_holds_69 : decode cX0_holds 69 = .ok (.getfield 9, 3) := by decide +kernel
theorem dX0_holds_72 : decode cX0_holds 72 = .ok (.iload_n 3, 1) := by decide +kernel
theorem dX0_holds_73 : decode cX0_holds 73 = .ok (.iaload, 1) := by decide +kernel
theorem dX0_holds_74 : decode cX0_holds 74 = .ok (.iconst 2, 1) := by decide +kernel
theorem dX0_holds_75 : decode cX0_holds 75 = .ok (.irem, 1) := by decide +kernel
theorem dX0_holds_76 : decode cX0_holds 76 = .ok (.iconst 1, 1) := by decide +kernel
theorem dX0_holds_77 : decode cX0_holds 77 = .ok (.if_icmp .ne 7, 3) := by decide +kernel
theorem dX0_holds_80 : decode cX0_holds 80 = .ok (.iconst 1, 1) := by decide +kernel
theorem dX0_holds_81 : decode cX0_holds 81 = .ok (.goto 4, 3) := by decide +kernel
theorem dX0_holds_84 : decode cX0_holds 84 = .ok (.iconst 0, 1) := by decide +kernel
theorem dX0_holds_85 : decode cX0_holds 85 = .ok (.ireturn, 1) := by decide +kernel
theorem dX0_holds_86 : decode cX0_holds 86 = .ok (.aload_n 0, 1) := by decide +kernel
theorem dX0_holds_87 : decode cX0_holds 87 = .ok (.getfield 15, 3) := by decide +kernel
theorem dX0_holds_90 : decode cX0_holds 90 = .ok (.iload_n 3, 1) := by decide +kernel
theorem dX0_holds_91 : decode cX0_holds 91 = .ok (.iaload, 1) := by decide +kernel
theorem dX0_holds_92 : decode cX0_holds 92 = .ok (.invokestatic 46, 3) := by decide +kernel
theorem dX0_holds_95 : decode cX0_holds 95 = .ok (.iconst 1, 1) := by decide +kernel
theorem dX0_holds_96 : decode cX0_holds 96 = .ok (.if_icmp .ne 7, 3) := by decide +kernel
theorem dX0_holds_99 : decode cX0_holds 99 = .ok (.iconst 1, 1) := by decide +kernel
theorem dX0_holds_100 : decode cX0_holds 100 = .ok (.goto 4, 3) := by decide +kernel
theorem dX0_holds_103 : decode cX0_holds 103 = .ok (.iconst 0, 1) := by decide +kernel
theorem dX0_holds_104 : decode cX0_holds 104 = .ok (.ireturn, 1) := by decide +kernel
theorem dX0_holds_105 : decode cX0_holds 105 = .ok (.aload_n 0, 1) := by decide +kernel
theorem dX0_holds_106 : decode cX0_holds 106 = .ok (.getfield 15, 3) := by decide +kernel
theorem dX0_holds_109 : decode cX0_holds 109 = .ok (.iload_n 3, 1) := by decide +kernel
theorem dX0_holds_110 : decode cX0_holds 110 = .ok (.iaload, 1) := by decide +kernel
theorem dX0_holds_111 : decode cX0_holds 111 = .ok (.iload_n 2, 1) := by decide +kernel
theorem dX0_holds_112 : decode cX0_holds 112 = .ok (.invokestatic 38, 3) := by decide +kernel
theorem dX0_holds_115 : decode cX0_holds 115 = .ok (.iand, 1) := by decide +kernel
theorem dX0_holds_116 : decode cX0_holds 116 = .ok (.ifCond .eq 7, 3) := by decide +kernel
theorem dX0_holds_119 : decode cX0_holds 119 = .ok (.iconst 1, 1) := by decide +kernel
theorem dX0_holds_120 : decode cX0_holds 120 = .ok (.goto 4, 3) := by decide +kernel
theorem dX0_holds_123 : decode cX0_holds 123 = .ok (.iconst 0, 1) := by decide +kernel
theorem dX0_holds_124 : decode cX0_holds 124 = .ok (.ireturn, 1) := by decide +kernel
theorem dX0_holds_125 : decode cX0_holds 125 = .ok (.iconst 0, 1) := by decide +kernel
theorem dX0_holds_126 : decode cX0_holds 126 = .ok (.ireturn, 1) := by decide +kernel
theorem dX0_countWays_0 : decode cX0_countWays 0 = .ok (.iconst 0, 1) := by decide +kernel
theorem dX0_countWays_1 : decode cX0_countWays 1 = .ok (.istore_n 3, 1) := by decide +kernel
theorem dX0_countWays_2 : decode cX0_countWays 2 = .ok (.iconst 0, 1) := by decide +kernel
theorem dX0_countWays_3 : decode cX0_countWays 3 = .ok (.istore 4, 2) := by decide +kernel
theorem dX0_countWays_5 : decode cX0_countWays 5 = .ok (.iload 4, 2) := by decide +kernel
theorem dX0_countWays_7 : decode cX0_countWays 7 = .ok (.aload_n 0, 1) := by decide +kernel
theorem dX0_countWays_8 : decode cX0_countWays 8 = .ok (.getfield 26, 3) := by decide +kernel
theorem dX0_countWays_11 : decode cX0_countWays 11 = .ok (.if_icmp .ge 23, 3) := by decide +kernel
theorem dX0_countWays_14 : decode cX0_countWays 14 = .ok (.aload_n 0, 1) := by decide +kernel
theorem dX0_countWays_15 : decode cX0_countWays 15 = .ok (.iload_n 1, 1) := by decide +kernel
theorem dX0_countWays_16 : decode cX0_countWays 16 = .ok (.iload_n 2, 1) := by decide +kernel
theorem dX0_countWays_17 : decode cX0_countWays 17 = .ok (.iload 4, 2) := by decide +kernel
theorem dX0_countWays_19 : decode cX0_countWays 19 = .ok (.invokevirtual 51, 3) := by decide +kernel
theorem dX0_countWays_22 : decode cX0_countWays 22 = .ok (.ifCond .eq 6, 3) := by decide +kernel
theorem dX0_countWays_25 : decode cX0_countWays 25 = .ok (.iinc 3 1, 3) := by decide +kernel
theorem dX0_countWays_28 : decode cX0_countWays 28 = .ok (.iinc 4 1, 3) := by decide +kernel
theorem dX0_countWays_31 : decode cX0_countWays 31 = .ok (.goto (-26), 3) := by decide +kernel
theorem dX0_countWays_34 : decode cX0_countWays 34 = .ok (.iload_n 3, 1) := by decide +kernel
theorem dX0_countWays_35 : decode cX0_countWays 35 = .ok (.ireturn, 1) := by decide +kernel
theorem dX0_gainOver_0 : decode cX0_gainOver 0 = .ok (.iload_n 1, 1) := by decide +kernel
theorem dX0_gainOver_1 : decode cX0_gainOver 1 = .ok (.aload_n 0, 1) := by decide +kernel
theorem dX0_gainOver_2 : decode cX0_gainOver 2 = .ok (.getfield 26, 3) := by decide +kernel
theorem dX0_gainOver_5 : decode cX0_gainOver 5 = .ok (.iload_n 3, 1) := by decide +kernel
theorem dX0_gainOver_6 : decode cX0_gainOver 6 = .ok (.isub, 1) := by decide +kernel
theorem dX0_gainOver_7 : decode cX0_gainOver 7 = .ok (.imul, 1) := by decide +kernel
theorem dX0_gainOver_8 : decode cX0_gainOver 8 = .ok (.iload_n 2, 1) := by decide +kernel
theorem dX0_gainOver_9 : decode cX0_gainOver 9 = .ok (.iload_n 3, 1) := by decide +kernel
theorem dX0_gainOver_10 : decode cX0_gainOver 10 = .ok (.imul, 1) := by decide +kernel
theorem dX0_gainOver_11 : decode cX0_gainOver 11 = .ok (.isub, 1) := by decide +kernel
theorem dX0_gainOver_12 : decode cX0_gainOver 12 = .ok (.ireturn, 1) := by decide +kernel
theorem dX1_init_0 : decode cX1_init 0 = .ok (.aload_n 0, 1) := by decide +kernel
theorem dX1_init_1 : decode cX1_init 1 = .ok (.invokespecial 1, 3) := by decide +kernel
theorem dX1_init_4 : decode cX1_init 4 = .ok (.aload_n 0, 1) := by decide +kernel
theorem dX1_init_5 : decode cX1_init 5 = .ok (.iload_n 1, 1) := by decide +kernel
theorem dX1_init_6 : decode cX1_init 6 = .ok (.putfield 7, 3) := by decide +kernel
theorem dX1_init_9 : decode cX1_init 9 = .ok (.aload_n 0, 1) := by decide +kernel
theorem dX1_init_10 : decode cX1_init 10 = .ok (.iload_n 2, 1) := by decide +kernel
theorem dX1_init_11 : decode cX1_init 11 = .ok (.putfield 13, 3) := by decide +kernel
theorem dX1_init_14 : decode cX1_init 14 = .ok (.aload_n 0, 1) := by decide +kernel
theorem dX1_init_15 : decode cX1_init 15 = .ok (.iload_n 3, 1) := by decide +kernel
theorem dX1_init_16 : decode cX1_init 16 = .ok (.putfield 16, 3) := by decide +kernel
theorem dX1_init_19 : decode cX1_init 19 = .ok (.aload_n 0, 1) := by decide +kernel
theorem dX1_init_20 : decode cX1_init 20 = .ok (.iload 4, 2) := by decide +kernel
theorem dX1_init_22 : decode cX1_init 22 = .ok (.putfield 19, 3) := by decide +kernel
theorem dX1_init_25 : decode cX1_init 25 = .ok (.aload_n 0, 1) := by decide +kernel
theorem dX1_init_26 : decode cX1_init 26 = .ok (.iload 5, 2) := by decide +kernel
theorem dX1_init_28 : decode cX1_init 28 = .ok (.putfield 22, 3) := by decide +kernel
theorem dX1_init_31 : decode cX1_init 31 = .ok (.aload_n 0, 1) := by decide +kernel
theorem dX1_init_32 : decode cX1_init 32 = .ok (.iload 6, 2) := by decide +kernel
theorem dX1_init_34 : decode cX1_init 34 = .ok (.putfield 25, 3) := by decide +kernel
theorem dX1_init_37 : decode cX1_init 37 = .ok (.return_, 1) := by decide +kernel
theorem dX2_init_0 : decode cX2_init 0 = .ok (.aload_n 0, 1) := by decide +kernel
theorem dX2_init_1 : decode cX2_init 1 = .ok (.invokespecial 3, 3) := by decide +kernel
theorem dX2_init_4 : decode cX2_init 4 = .ok (.aload_n 0, 1) := by decide +kernel
theorem dX2_init_5 : decode cX2_init 5 = .ok (.new 9, 3) := by decide +kernel
theorem dX2_init_8 : decode cX2_init 8 = .ok (.dup, 1) := by decide +kernel
theorem dX2_init_9 : decode cX2_init 9 = .ok (.invokespecial 11, 3) := by decide +kernel
theorem dX2_init_12 : decode cX2_init 12 = .ok (.putfield 12, 3) := by decide +kernel
theorem dX2_init_15 : decode cX2_init 15 = .ok (.aload_n 0, 1) := by decide +kernel
theorem dX2_init_16 : decode cX2_init 16 = .ok (.new 16, 3) := by decide +kernel
theorem dX2_init_19 : decode cX2_init 19 = .ok (.dup, 1) := by decide +kernel
theorem dX2_init_20 : decode cX2_init 20 = .ok (.invokespecial 18, 3) := by decide +kernel
theorem dX2_init_23 : decode cX2_init 23 = .ok (.putfield 19, 3) := by decide +kernel
theorem dX2_init_26 : decode cX2_init 26 = .ok (.aload_n 0, 1) := by decide +kernel
theorem dX2_init_27 : decode cX2_init 27 = .ok (.bipush 6, 2) := by decide +kernel
theorem dX2_init_29 : decode cX2_init 29 = .ok (.newarray .int, 2) := by decide +kernel
theorem dX2_init_31 : decode cX2_init 31 = .ok (.putfield 23, 3) := by decide +kernel
theorem dX2_init_34 : decode cX2_init 34 = .ok (.aload_n 0, 1) := by decide +kernel
theorem dX2_init_35 : decode cX2_init 35 = .ok (.sipush 500, 3) := by decide +kernel
theorem dX2_init_38 : decode cX2_init 38 = .ok (.putfield 27, 3) := by decide +kernel
theorem dX2_init_41 : decode cX2_init 41 = .ok (.iconst 0, 1) := by decide +kernel
theorem dX2_init_42 : decode cX2_init 42 = .ok (.istore_n 1, 1) := by decide +kernel
theorem dX2_init_43 : decode cX2_init 43 = .ok (.iload_n 1, 1) := by decide +kernel
theorem dX2_init_44 : decode cX2_init 44 = .ok (.bipush 6, 2) := by decide +kernel
theorem dX2_init_46 : decode cX2_init 46 = .ok (.if_icmp .ge 17, 3) := by decide +kernel
theorem dX2_init_49 : decode cX2_init 49 = .ok (.aload_n 0, 1) := by decide +kernel
theorem dX2_init_50 : decode cX2_init 50 = .ok (.getfield 23, 3) := by decide +kernel
theorem dX2_init_53 : decode cX2_init 53 = .ok (.iload_n 1, 1) := by decide +kernel
theorem dX2_init_54 : decode cX2_init 54 = .ok (.bipush 100, 2) := by decide +kernel
theorem dX2_init_56 : decode cX2_init 56 = .ok (.iastore, 1) := by decide +kernel
theorem dX2_init_57 : decode cX2_init 57 = .ok (.iinc 1 1, 3) := by decide +kernel
theorem dX2_init_60 : decode cX2_init 60 = .ok (.goto (-17), 3) := by decide +kernel
theorem dX2_init_63 : decode cX2_init 63 = .ok (.return_, 1) := by decide +kernel
theorem dX2_setDice_0 : decode cX2_setDice 0 = .ok (.iload_n 1, 1) := by decide +kernel
theorem dX2_setDice_1 : decode cX2_setDice 1 = .ok (.invokestatic 31, 3) := by decide +kernel
theorem dX2_setDice_4 : decode cX2_setDice 4 = .ok (.ifCond .eq 25, 3) := by decide +kernel
theorem dX2_setDice_7 : decode cX2_setDice 7 = .ok (.iload_n 2, 1) := by decide +kernel
theorem dX2_setDice_8 : decode cX2_setDice 8 = .ok (.invokestatic 35, 3) := by decide +kernel
theorem dX2_setDice_11 : decode cX2_setDice 11 = .ok (.ifCond .eq 18, 3) := by decide +kernel
theorem dX2_setDice_14 : decode cX2_setDice 14 = .ok (.iload_n 3, 1) := by decide +kernel
theorem dX2_setDice_15 : decode cX2_setDice 15 = .ok (.invokestatic 35, 3) := by decide +kernel
theorem dX2_setDice_18 : decode cX2_setDice 18 = .ok (.ifCond .eq 11, 3) := by decide +kernel
theorem dX2_setDice_21 : decode cX2_setDice 21 = .ok (.iload_n 2, 1) := by decide +kernel
theorem dX2_setDice_22 : decode cX2_setDice 22 = .ok (.ifCond .ne 17, 3) := by decide +kernel
theorem dX2_setDice_25 : decode cX2_setDice 25 = .ok (.iload_n 3, 1) := by decide +kernel
theorem dX2_setDice_26 : decode cX2_setDice 26 = .ok (.ifCond .eq 13, 3) := by decide +kernel
theorem dX2_setDice_29 : decode cX2_setDice 29 = .ok (.new 38, 3) := by decide +kernel
theorem dX2_setDice_32 : decode cX2_setDice 32 = .ok (.dup, 1) := by decide +kernel
theorem dX2_setDice_33 : decode cX2_setDice 33 = .ok (.ldc 40, 2) := by decide +kernel
theorem dX2_setDice_35 : decode cX2_setDice 35 = .ok (.invokespecial 42, 3) := by decide +kernel
theorem dX2_setDice_38 : decode cX2_setDice 38 = .ok (.athrow, 1) := by decide +kernel
theorem dX2_setDice_39 : decode cX2_setDice 39 = .ok (.aload_n 0, 1) := by decide +kernel
theorem dX2_setDice_40 : decode cX2_setDice 40 = .ok (.getfield 19, 3) := by decide +kernel
theorem dX2_setDice_43 : decode cX2_setDice 43 = .ok (.invokevirtual 45, 3) := by decide +kernel
theorem dX2_setDice_46 : decode cX2_setDice 46 = .ok (.ifCond .ne 13, 3) := by decide +kernel
theorem dX2_setDice_49 : decode cX2_setDice 49 = .ok (.new 49, 3) := by decide +kernel
theorem dX2_setDice_52 : decode cX2_setDice 52 = .ok (.dup, 1) := by decide +kernel
theorem dX2_setDice_53 : decode cX2_setDice 53 = .ok (.ldc 51, 2) := by decide +kernel
theorem dX2_setDice_55 : decode cX2_setDice 55 = .ok (.invokespecial 53, 3) := by decide +kernel
theorem dX2_setDice_58 : decode cX2_setDice 58 = .ok (.athrow, 1) := by decide +kernel
theorem dX2_setDice_59 : decode cX2_setDice 59 = .ok (.aload_n 0, 1) := by decide +kernel
theorem dX2_setDice_60 : decode cX2_setDice 60 = .ok (.getfield 12, 3) := by decide +kernel
theorem dX2_setDice_63 : decode cX2_setDice 63 = .ok (.iload_n 1, 1) := by decide +kernel
theorem dX2_setDice_64 : decode cX2_setDice 64 = .ok (.iload_n 2, 1) := by decide +kernel
theorem dX2_setDice_65 : decode cX2_setDice 65 = .ok (.iload_n 3, 1) := by decide +kernel
theorem dX2_setDice_66 : decode cX2_setDice 66 = .ok (.invokevirtual 54, 3) := by decide +kernel
theorem dX2_setDice_69 : decode cX2_setDice 69 = .ok (.aload_n 0, 1) := by decide +kernel
theorem dX2_setDice_70 : decode cX2_setDice 70 = .ok (.getfield 12, 3) := by decide +kernel
theorem dX2_setDice_73 : decode cX2_setDice 73 = .ok (.getfield 58, 3) := by decide +kernel
theorem dX2_setDice_76 : decode cX2_setDice 76 = .ok (.ireturn, 1) := by decide +kernel
theorem dX2_dice_0 : decode cX2_dice 0 = .ok (.aload_n 0, 1) := by decide +kernel
theorem dX2_dice_1 : decode cX2_dice 1 = .ok (.getfield 12, 3) := by decide +kernel
theorem dX2_dice_4 : decode cX2_dice 4 = .ok (.getfield 61, 3) := by decide +kernel
theorem dX2_dice_7 : decode cX2_dice 7 = .ok (.ireturn, 1) := by decide +kernel
theorem dX2_outcomes_0 : decode cX2_outcomes 0 = .ok (.aload_n 0, 1) := by decide +kernel
theorem dX2_outcomes_1 : decode cX2_outcomes 1 = .ok (.getfield 12, 3) := by decide +kernel
theorem dX2_outcomes_4 : decode cX2_outcomes 4 = .ok (.getfield 58, 3) := by decide +kernel
theorem dX2_outcomes_7 : decode cX2_outcomes 7 = .ok (.ireturn, 1) := by decide +kernel
theorem dX2_sumOf_0 : decode cX2_sumOf 0 = .ok (.aload_n 0, 1) := by decide +kernel
theorem dX2_sumOf_1 : decode cX2_sumOf 1 = .ok (.iload_n 1, 1) := by decide +kernel
theorem dX2_sumOf_2 : decode cX2_sumOf 2 = .ok (.invokevirtual 64, 3) := by decide +kernel
theorem dX2_sumOf_5 : decode cX2_sumOf 5 = .ok (.aload_n 0, 1) := by decide +kernel
theorem dX2_sumOf_6 : decode cX2_sumOf 6 = .ok (.getfield 12, 3) := by decide +kernel
theorem dX2_sumOf_9 : decode cX2_sumOf 9 = .ok (.getfield 68, 3) := by decide +kernel
theorem dX2_sumOf_12 : decode cX2_sumOf 12 = .ok (.iload_n 1, 1) := by decide +kernel
theorem dX2_sumOf_13 : decode cX2_sumOf 13 = .ok (.iaload, 1) := by decide +kernel
theorem dX2_sumOf_14 : decode cX2_sumOf 14 = .ok (.ireturn, 1) := by decide +kernel
theorem dX2_ways_0 : decode cX2_ways 0 = .ok (.iload_n 1, 1) := by decide +kernel
theorem dX2_ways_1 : decode cX2_ways 1 = .ok (.iload_n 2, 1) := by decide +kernel
theorem dX2_ways_2 : decode cX2_ways 2 = .ok (.invokestatic 71, 3) := by decide +kernel
theorem dX2_ways_5 : decode cX2_ways 5 = .ok (.aload_n 0, 1) := by decide +kernel
theorem dX2_ways_6 : decode cX2_ways 6 = .ok (.getfield 12, 3) := by decide +kernel
theorem dX2_ways_9 : decode cX2_ways 9 = .ok (.iload_n 1, 1) := by decide +kernel
theorem dX2_ways_10 : decode cX2_ways 10 = .ok (.iload_n 2, 1) := by decide +kernel
theorem dX2_ways_11 : decode cX2_ways 11 = .ok (.invokevirtual 75, 3) := by decide +kernel
theorem dX2_ways_14 : decode cX2_ways 14 = .ok (.ireturn, 1) := by decide +kernel
theorem dX2_chance_0 : decode cX2_chance 0 = .ok (.iload_n 1, 1) := by decide +kernel
theorem dX2_chance_1 : decode cX2_chance 1 = .ok (.iload_n 2, 1) := by decide +kernel
theorem dX2_chance_2 : decode cX2_chance 2 = .ok (.invokestatic 71, 3) := by decide +kernel
theorem dX2_chance_5 : decode cX2_chance 5 = .ok (.aload_n 0, 1) := by decide +kernel
theorem dX2_chance_6 : decode cX2_chance 6 = .ok (.getfield 12, 3) := by decide +kernel
theorem dX2_chance_9 : decode cX2_chance 9 = .ok (.iload_n 1, 1) := by decide +kernel
theorem dX2_chance_10 : decode cX2_chance 10 = .ok (.iload_n 2, 1) := by decide +kernel
theorem dX2_chance_11 : decode cX2_chance 11 = .ok (.invokevirtual 75, 3) := by decide +kernel
theorem dX2_chance_14 : decode cX2_chance 14 = .ok (.i2d, 1) := by decide +kernel
theorem dX2_chance_15 : decode cX2_chance 15 = .ok (.aload_n 0, 1) := by decide +kernel
theorem dX2_chance_16 : decode cX2_chance 16 = .ok (.getfield 12, 3) := by decide +kernel
theorem dX2_chance_19 : decode cX2_chance 19 = .ok (.getfield 58, 3) := by decide +kernel
theorem dX2_chance_22 : decode cX2_chance 22 = .ok (.i2d, 1) := by decide +kernel
theorem dX2_chance_23 : decode cX2_chance 23 = .ok (.ddiv, 1) := by decide +kernel
theorem dX2_chance_24 : decode cX2_chance 24 = .ok (.dreturn, 1) := by decide +kernel
theorem dX2_lay_0 : decode cX2_lay 0 = .ok (.iload_n 1, 1) := by decide +kernel
theorem dX2_lay_1 : decode cX2_lay 1 = .ok (.invokestatic 79, 3) := by decide +kernel
theorem dX2_lay_4 : decode cX2_lay 4 = .ok (.iload_n 2, 1) := by decide +kernel
theorem dX2_lay_5 : decode cX2_lay 5 = .ok (.iload_n 3, 1) := by decide +kernel
theorem dX2_lay_6 : decode cX2_lay 6 = .ok (.invokestatic 71, 3) := by decide +kernel
theorem dX2_lay_9 : decode cX2_lay 9 = .ok (.iload 4, 2) := by decide +kernel
theorem dX2_lay_11 : decode cX2_lay 11 = .ok (.iconst 1, 1) := by decide +kernel
theorem dX2_lay_12 : decode cX2_lay 12 = .ok (.if_icmp .lt 10, 3) := by decide +kernel
theorem dX2_lay_15 : decode cX2_lay 15 = .ok (.iload 4, 2) := by decide +kernel
theorem dX2_lay_17 : decode cX2_lay 17 = .ok (.bipush 100, 2) := by decide +kernel
theorem dX2_lay_19 : decode cX2_lay 19 = .ok (.if_icmp .le 13, 3) := by decide +kernel
theorem dX2_lay_22 : decode cX2_lay 22 = .ok (.new 38, 3) := by decide +kernel
theorem dX2_lay_25 : decode cX2_lay 25 = .ok (.dup, 1) := by decide +kernel
theorem dX2_lay_26 : decode cX2_lay 26 = .ok (.ldc 82, 2) := by decide +kernel
theorem dX2_lay_28 : decode cX2_lay 28 = .ok (.invokespecial 42, 3) := by decide +kernel
theorem dX2_lay_31 : decode cX2_lay 31 = .ok (.athrow, 1) := by decide +kernel
theorem dX2_lay_32 : decode cX2_lay 32 = .ok (.iload 5, 2) := by decide +kernel
theorem dX2_lay_34 : decode cX2_lay 34 = .ok (.invokestatic 84, 3) := by decide +kernel
theorem dX2_lay_37 : decode cX2_lay 37 = .ok (.iload 6, 2) := by decide +kernel
theorem dX2_lay_39 : decode cX2_lay 39 = .ok (.invokestatic 87, 3) := by decide +kernel
theorem dX2_lay_42 : decode cX2_lay 42 = .ok (.aload_n 0, 1) := by decide +kernel
theorem dX2_lay_43 : decode cX2_lay 43 = .ok (.getfield 19, 3) := by decide +kernel
theorem dX2_lay_46 : decode cX2_lay 46 = .ok (.invokevirtual 90, 3) := by decide +kernel
theorem dX2_lay_49 : decode cX2_lay 49 = .ok (.bipush 12, 2) := by decide +kernel
theorem dX2_lay_51 : decode cX2_lay 51 = .ok (.if_icmp .lt 13, 3) := by decide +kernel
theorem dX2_lay_54 : decode cX2_lay 54 = .ok (.new 49, 3) := by decide +kernel
theorem dX2_lay_57 : decode cX2_lay 57 = .ok (.dup, 1) := by decide +kernel
theorem dX2_lay_58 : decode cX2_lay 58 = .ok (.ldc 94, 2) := by decide +kernel
theorem dX2_lay_60 : decode cX2_lay 60 = .ok (.invokespecial 53, 3) := by decide +kernel
theorem dX2_lay_63 : decode cX2_lay 63 = .ok (.athrow, 1) := by decide +kernel
theorem dX2_lay_64 : decode cX2_lay 64 = .ok (.aload_n 0, 1) := by decide +kernel
theorem dX2_lay_65 : decode cX2_lay 65 = .ok (.getfield 23, 3) := by decide +kernel
theorem dX2_lay_68 : decode cX2_lay 68 = .ok (.iload_n 1, 1) := by decide +kernel
theorem dX2_lay_69 : decode cX2_lay 69 = .ok (.iaload, 1) := by decide +kernel
theorem dX2_lay_70 : decode cX2_lay 70 = .ok (.iload 4, 2) := by decide +kernel
theorem dX2_lay_72 : decode cX2_lay 72 = .ok (.if_icmp .ge 13, 3) := by decide +kernel
theorem dX2_lay_75 : decode cX2_lay 75 = .ok (.new 49, 3) := by decide +kernel
theorem dX2_lay_78 : decode cX2_lay 78 = .ok (.dup, 1) := by decide +kernel
theorem dX2_lay_79 : decode cX2_lay 79 = .ok (.ldc 96, 2) := by decide +kernel
theorem dX2_lay_81 : decode cX2_lay 81 = .ok (.invokespecial 53, 3) := by decide +kernel
theorem dX2_lay_84 : decode cX2_lay 84 = .ok (.athrow, 1) := by decide +kernel
theorem dX2_lay_85 : decode cX2_lay 85 = .ok (.aload_n 0, 1) := by decide +kernel
theorem dX2_lay_86 : decode cX2_lay 86 = .ok (.getfield 23, 3) := by decide +kernel
theorem dX2_lay_89 : decode cX2_lay 89 = .ok (.iload_n 1, 1) := by decide +kernel
theorem dX2_lay_90 : decode cX2_lay 90 = .ok (.dup2, 1) := by decide +kernel
theorem dX2_lay_91 : decode cX2_lay 91 = .ok (.iaload, 1) := by decide +kernel
theorem dX2_lay_92 : decode cX2_lay 92 = .ok (.iload 4, 2) := by decide +kernel
theorem dX2_lay_94 : decode cX2_lay 94 = .ok (.isub, 1) := by decide +kernel
theorem dX2_lay_95 : decode cX2_lay 95 = .ok (.iastore, 1) := by decide +kernel
theorem dX2_lay_96 : decode cX2_lay 96 = .ok (.aload_n 0, 1) := by decide +kernel
theorem dX2_lay_97 : decode cX2_lay 97 = .ok (.getfield 12, 3) := by decide +kernel
theorem dX2_lay_100 : decode cX2_lay 100 = .ok (.iload_n 2, 1) := by decide +kernel
theorem dX2_lay_101 : decode cX2_lay 101 = .ok (.iload_n 3, 1) := by decide +kernel
theorem dX2_lay_102 : decode cX2_lay 102 = .ok (.invokevirtual 75, 3) := by decide +kernel
theorem dX2_lay_105 : decode cX2_lay 105 = .ok (.istore 7, 2) := by decide +kernel
theorem dX2_lay_107 : decode cX2_lay 107 = .ok (.aload_n 0, 1) := by decide +kernel
theorem dX2_lay_108 : decode cX2_lay 108 = .ok (.getfield 19, 3) := by decide +kernel
theorem dX2_lay_111 : decode cX2_lay 111 = .ok (.new 98, 3) := by decide +kernel
theorem dX2_lay_114 : decode cX2_lay 114 = .ok (.dup, 1) := by decide +kernel
theorem dX2_lay_115 : decode cX2_lay 115 = .ok (.iload_n 1, 1) := by decide +kernel
theorem dX2_lay_116 : decode cX2_lay 116 = .ok (.iload_n 2, 1) := by decide +kernel
theorem dX2_lay_117 : decode cX2_lay 117 = .ok (.iload_n 3, 1) := by decide +kernel
theorem dX2_lay_118 : decode cX2_lay 118 = .ok (.iload 4, 2) := by decide +kernel
theorem dX2_lay_120 : decode cX2_lay 120 = .ok (.iload 4, 2) := by decide +kernel
theorem dX2_lay_122 : decode cX2_lay 122 = .ok (.iload 5, 2) := by decide +kernel
theorem dX2_lay_124 : decode cX2_lay 124 = .ok (.iload 6, 2) := by decide +kernel
theorem dX2_lay_126 : decode cX2_lay 126 = .ok (.invokestatic 100, 3) := by decide +kernel
theorem dX2_lay_129 : decode cX2_lay 129 = .ok (.iload 7, 2) := by decide +kernel
theorem dX2_lay_131 : decode cX2_lay 131 = .ok (.invokespecial 104, 3) := by decide +kernel
theorem dX2_lay_134 : decode cX2_lay 134 = .ok (.invokevirtual 107, 3) := by decide +kernel
theorem dX2_lay_137 : decode cX2_lay 137 = .ok (.pop, 1) := by decide +kernel
theorem dX2_lay_138 : decode cX2_lay 138 = .ok (.aload_n 0, 1) := by decide +kernel
theorem dX2_lay_139 : decode cX2_lay 139 = .ok (.getfield 19, 3) := by decide +kernel
theorem dX2_lay_142 : decode cX2_lay 142 = .ok (.invokevirtual 90, 3) := by decide +kernel
theorem dX2_lay_145 : decode cX2_lay 145 = .ok (.iconst 1, 1) := by decide +kernel
theorem dX2_lay_146 : decode cX2_lay 146 = .ok (.isub, 1) := by decide +kernel
theorem dX2_lay_147 : decode cX2_lay 147 = .ok (.ireturn, 1) := by decide +kernel
theorem dX2_takeBack_0 : decode cX2_takeBack 0 = .ok (.aload_n 0, 1) := by decide +kernel
theorem dX2_takeBack_1 : decode cX2_takeBack 1 = .ok (.iload_n 1, 1) := by decide +kernel
theorem dX2_takeBack_2 : decode cX2_takeBack 2 = .ok (.invokevirtual 111, 3) := by decide +kernel
theorem dX2_takeBack_5 : decode cX2_takeBack 5 = .ok (.aload_n 0, 1) := by decide +kernel
theorem dX2_takeBack_6 : decode cX2_takeBack 6 = .ok (.getfield 19, 3) := by decide +kernel
theorem dX2_takeBack_9 : decode cX2_takeBack 9 = .ok (.iload_n 1, 1) := by decide +kernel
theorem dX2_takeBack_10 : decode cX2_takeBack 10 = .ok (.invokevirtual 114, 3) := by decide +kernel
theorem dX2_takeBack_13 : decode cX2_takeBack 13 = .ok (.checkcast 98, 3) := by decide +kernel
theorem dX2_takeBack_16 : decode cX2_takeBack 16 = .ok (.astore_n 2, 1) := by decide +kernel
theorem dX2_takeBack_17 : decode cX2_takeBack 17 = .ok (.aload_n 0, 1) := by decide +kernel
theorem dX2_takeBack_18 : decode cX2_takeBack 18 = .ok (.getfield 23, 3) := by decide +kernel
theorem dX2_takeBack_21 : decode cX2_takeBack 21 = .ok (.aload_n 2, 1) := by decide +kernel
theorem dX2_takeBack_22 : decode cX2_takeBack 22 = .ok (.getfield 118, 3) := by decide +kernel
theorem dX2_takeBack_25 : decode cX2_takeBack 25 = .ok (.dup2, 1) := by decide +kernel
theorem dX2_takeBack_26 : decode cX2_takeBack 26 = .ok (.iaload, 1) := by decide +kernel
theorem dX2_takeBack_27 : decode cX2_takeBack 27 = .ok (.aload_n 2, 1) := by decide +kernel
theorem dX2_takeBack_28 : decode cX2_takeBack 28 = .ok (.getfield 121, 3) := by decide +kernel
theorem dX2_takeBack_31 : decode cX2_takeBack 31 = .ok (.iadd, 1) := by decide +kernel
theorem dX2_takeBack_32 : decode cX2_takeBack 32 = .ok (.iastore, 1) := by decide +kernel
theorem dX2_takeBack_33 : decode cX2_takeBack 33 = .ok (.aload_n 2, 1) := by decide +kernel
theorem dX2_takeBack_34 : decode cX2_takeBack 34 = .ok (.getfield 121, 3) := by decide +kernel
theorem dX2_takeBack_37 : decode cX2_takeBack 37 = .ok (.ireturn, 1) := by decide +kernel
theorem dX2_settle_0 : decode cX2_settle 0 = .ok (.aload_n 0, 1) := by decide +kernel
theorem dX2_settle_1 : decode cX2_settle 1 = .ok (.iload_n 1, 1) := by decide +kernel
theorem dX2_settle_2 : decode cX2_settle 2 = .ok (.invokevirtual 64, 3) := by decide +kernel
theorem dX2_settle_5 : decode cX2_settle 5 = .ok (.aload_n 0, 1) := by decide +kernel
theorem dX2_settle_6 : decode cX2_settle 6 = .ok (.iload_n 1, 1) := by decide +kernel
theorem dX2_settle_7 : decode cX2_settle 7 = .ok (.invokevirtual 124, 3) := by decide +kernel
theorem dX2_settle_10 : decode cX2_settle 10 = .ok (.istore_n 2, 1) := by decide +kernel
theorem dX2_settle_11 : decode cX2_settle 11 = .ok (.iconst 0, 1) := by decide +kernel
theorem dX2_settle_12 : decode cX2_settle 12 = .ok (.istore_n 3, 1) := by decide +kernel
theorem dX2_settle_13 : decode cX2_settle 13 = .ok (.iload_n 3, 1) := by decide +kernel
theorem dX2_settle_14 : decode cX2_settle 14 = .ok (.bipush 6, 2) := by decide +kernel
theorem dX2_settle_16 : decode cX2_settle 16 = .ok (.if_icmp .ge 21, 3) := by decide +kernel
theorem dX2_settle_19 : decode cX2_settle 19 = .ok (.aload_n 0, 1) := by decide +kernel
theorem dX2_settle_20 : decode cX2_settle 20 = .ok (.getfield 23, 3) := by decide +kernel
theorem dX2_settle_23 : decode cX2_settle 23 = .ok (.iload_n 3, 1) := by decide +kernel
theorem dX2_settle_24 : decode cX2_settle 24 = .ok (.aload_n 0, 1) := by decide +kernel
theorem dX2_settle_25 : decode cX2_settle 25 = .ok (.iload_n 3, 1) := by decide +kernel
theorem dX2_settle_26 : decode cX2_settle 26 = .ok (.iload_n 1, 1) := by decide +kernel
theorem dX2_settle_27 : decode cX2_settle 27 = .ok (.invokevirtual 128, 3) := by decide +kernel
theorem dX2_settle_30 : decode cX2_settle 30 = .ok (.iastore, 1) := by decide +kernel
theorem dX2_settle_31 : decode cX2_settle 31 = .ok (.iinc 3 1, 3) := by decide +kernel
theorem dX2_settle_34 : decode cX2_settle 34 = .ok (.goto (-21), 3) := by decide +kernel
theorem dX2_settle_37 : decode cX2_settle 37 = .ok (.aload_n 0, 1) := by decide +kernel
theorem dX2_settle_38 : decode cX2_settle 38 = .ok (.dup, 1) := by decide +kernel
theorem dX2_settle_39 : decode cX2_settle 39 = .ok (.getfield 27, 3) := by decide +kernel
theorem dX2_settle_42 : decode cX2_settle 42 = .ok (.iload_n 2, 1) := by decide +kernel
theorem dX2_settle_43 : decode cX2_settle 43 = .ok (.iadd, 1) := by decide +kernel
theorem dX2_settle_44 : decode cX2_settle 44 = .ok (.putfield 27, 3) := by decide +kernel
theorem dX2_settle_47 : decode cX2_settle 47 = .ok (.aload_n 0, 1) := by decide +kernel
theorem dX2_settle_48 : decode cX2_settle 48 = .ok (.getfield 19, 3) := by decide +kernel
theorem dX2_settle_51 : decode cX2_settle 51 = .ok (.invokevirtual 131, 3) := by decide +kernel
theorem dX2_settle_54 : decode cX2_settle 54 = .ok (.aload_n 0, 1) := by decide +kernel
theorem dX2_settle_55 : decode cX2_settle 55 = .ok (.dup, 1) := by decide +kernel
theorem dX2_settle_56 : decode cX2_settle 56 = .ok (.getfield 134, 3) := by decide +kernel
theorem dX2_settle_59 : decode cX2_settle 59 = .ok (.iconst 1, 1) := by decide +kernel
theorem dX2_settle_60 : decode cX2_settle 60 = .ok (.iadd, 1) := by decide +kernel
theorem dX2_settle_61 : decode cX2_settle 61 = .ok (.putfield 134, 3) := by decide +kernel
theorem dX2_settle_64 : decode cX2_settle 64 = .ok (.iload_n 2, 1) := by decide +kernel
theorem dX2_settle_65 : decode cX2_settle 65 = .ok (.ireturn, 1) := by decide +kernel
theorem dX2_open_0 : decode cX2_open 0 = .ok (.aload_n 0, 1) := by decide +kernel
theorem dX2_open_1 : decode cX2_open 1 = .ok (.getfield 19, 3) := by decide +kernel
theorem dX2_open_4 : decode cX2_open 4 = .ok (.invokevirtual 90, 3) := by decide +kernel
theorem dX2_open_7 : decode cX2_open 7 = .ok (.ireturn, 1) := by decide +kernel
theorem dX2_bank_0 : decode cX2_bank 0 = .ok (.aload_n 0, 1) := by decide +kernel
theorem dX2_bank_1 : decode cX2_bank 1 = .ok (.getfield 27, 3) := by decide +kernel
theorem dX2_bank_4 : decode cX2_bank 4 = .ok (.ireturn, 1) := by decide +kernel
theorem dX2_rounds_0 : decode cX2_rounds 0 = .ok (.aload_n 0, 1) := by decide +kernel
theorem dX2_rounds_1 : decode cX2_rounds 1 = .ok (.getfield 134, 3) := by decide +kernel
theorem dX2_rounds_4 : decode cX2_rounds 4 = .ok (.ireturn, 1) := by decide +kernel
theorem dX2_purseOf_0 : decode cX2_purseOf 0 = .ok (.iload_n 1, 1) := by decide +kernel
theorem dX2_purseOf_1 : decode cX2_purseOf 1 = .ok (.invokestatic 79, 3) := by decide +kernel
theorem dX2_purseOf_4 : decode cX2_purseOf 4 = .ok (.aload_n 0, 1) := by decide +kernel
theorem dX2_purseOf_5 : decode cX2_purseOf 5 = .ok (.getfield 23, 3) := by decide +kernel
theorem dX2_purseOf_8 : decode cX2_purseOf 8 = .ok (.iload_n 1, 1) := by decide +kernel
theorem dX2_purseOf_9 : decode cX2_purseOf 9 = .ok (.iaload, 1) := by decide +kernel
theorem dX2_purseOf_10 : decode cX2_purseOf 10 = .ok (.ireturn, 1) := by decide +kernel
theorem dX2_patronOf_0 : decode cX2_patronOf 0 = .ok (.aload_n 0, 1) := by decide +kernel
theorem dX2_patronOf_1 : decode cX2_patronOf 1 = .ok (.iload_n 1, 1) := by decide +kernel
theorem dX2_patronOf_2 : decode cX2_patronOf 2 = .ok (.invokevirtual 111, 3) := by decide +kernel
theorem dX2_patronOf_5 : decode cX2_patronOf 5 = .ok (.aload_n 0, 1) := by decide +kernel
theorem dX2_patronOf_6 : decode cX2_patronOf 6 = .ok (.getfield 19, 3) := by decide +kernel
theorem dX2_patronOf_9 : decode cX2_patronOf 9 = .ok (.iload_n 1, 1) := by decide +kernel
theorem dX2_patronOf_10 : decode cX2_patronOf 10 = .ok (.invokevirtual 137, 3) := by decide +kernel
theorem dX2_patronOf_13 : decode cX2_patronOf 13 = .ok (.checkcast 98, 3) := by decide +kernel
theorem dX2_patronOf_16 : decode cX2_patronOf 16 = .ok (.getfield 118, 3) := by decide +kernel
theorem dX2_patronOf_19 : decode cX2_patronOf 19 = .ok (.ireturn, 1) := by decide +kernel
theorem dX2_stakeOf_0 : decode cX2_stakeOf 0 = .ok (.aload_n 0, 1) := by decide +kernel
theorem dX2_stakeOf_1 : decode cX2_stakeOf 1 = .ok (.iload_n 1, 1) := by decide +kernel
theorem dX2_stakeOf_2 : decode cX2_stakeOf 2 = .ok (.invokevirtual 111, 3) := by decide +kernel
theorem dX2_stakeOf_5 : decode cX2_stakeOf 5 = .ok (.aload_n 0, 1) := by decide +kernel
theorem dX2_stakeOf_6 : decode cX2_stakeOf 6 = .ok (.getfield 19, 3) := by decide +kernel
theorem dX2_stakeOf_9 : decode cX2_stakeOf 9 = .ok (.iload_n 1, 1) := by decide +kernel
theorem dX2_stakeOf_10 : decode cX2_stakeOf 10 = .ok (.invokevirtual 137, 3) := by decide +kernel
theorem dX2_stakeOf_13 : decode cX2_stakeOf 13 = .ok (.checkcast 98, 3) := by decide +kernel
theorem dX2_stakeOf_16 : decode cX2_stakeOf 16 = .ok (.getfield 121, 3) := by decide +kernel
theorem dX2_stakeOf_19 : decode cX2_stakeOf 19 = .ok (.ireturn, 1) := by decide +kernel
theorem dX2_bringsOf_0 : decode cX2_bringsOf 0 = .ok (.aload_n 0, 1) := by decide +kernel
theorem dX2_bringsOf_1 : decode cX2_bringsOf 1 = .ok (.iload_n 1, 1) := by decide +kernel
theorem dX2_bringsOf_2 : decode cX2_bringsOf 2 = .ok (.invokevirtual 111, 3) := by decide +kernel
theorem dX2_bringsOf_5 : decode cX2_bringsOf 5 = .ok (.aload_n 0, 1) := by decide +kernel
theorem dX2_bringsOf_6 : decode cX2_bringsOf 6 = .ok (.getfield 19, 3) := by decide +kernel
theorem dX2_bringsOf_9 : decode cX2_bringsOf 9 = .ok (.iload_n 1, 1) := by decide +kernel
theorem dX2_bringsOf_10 : decode cX2_bringsOf 10 = .ok (.invokevirtual 137, 3) := by decide +kernel
theorem dX2_bringsOf_13 : decode cX2_bringsOf 13 = .ok (.checkcast 98, 3) := by decide +kernel
theorem dX2_bringsOf_16 : decode cX2_bringsOf 16 = .ok (.getfield 140, 3) := by decide +kernel
theorem dX2_bringsOf_19 : decode cX2_bringsOf 19 = .ok (.ireturn, 1) := by decide +kernel
theorem dX2_staked_0 : decode cX2_staked 0 = .ok (.iconst 0, 1) := by decide +kernel
theorem dX2_staked_1 : decode cX2_staked 1 = .ok (.istore_n 1, 1) := by decide +kernel
theorem dX2_staked_2 : decode cX2_staked 2 = .ok (.iconst 0, 1) := by decide +kernel
theorem dX2_staked_3 : decode cX2_staked 3 = .ok (.istore_n 2, 1) := by decide +kernel
theorem dX2_staked_4 : decode cX2_staked 4 = .ok (.iload_n 2, 1) := by decide +kernel
theorem dX2_staked_5 : decode cX2_staked 5 = .ok (.aload_n 0, 1) := by decide +kernel
theorem dX2_staked_6 : decode cX2_staked 6 = .ok (.getfield 19, 3) := by decide +kernel
theorem dX2_staked_9 : decode cX2_staked 9 = .ok (.invokevirtual 90, 3) := by decide +kernel
theorem dX2_staked_12 : decode cX2_staked 12 = .ok (.if_icmp .ge 26, 3) := by decide +kernel
theorem dX2_staked_15 : decode cX2_staked 15 = .ok (.iload_n 1, 1) := by decide +kernel
theorem dX2_staked_16 : decode cX2_staked 16 = .ok (.aload_n 0, 1) := by decide +kernel
theorem dX2_staked_17 : decode cX2_staked 17 = .ok (.getfield 19, 3) := by decide +kernel
theorem dX2_staked_20 : decode cX2_staked 20 = .ok (.iload_n 2, 1) := by decide +kernel
theorem dX2_staked_21 : decode cX2_staked 21 = .ok (.invokevirtual 137, 3) := by decide +kernel
theorem dX2_staked_24 : decode cX2_staked 24 = .ok (.checkcast 98, 3) := by decide +kernel
theorem dX2_staked_27 : decode cX2_staked 27 = .ok (.getfield 121, 3) := by decide +kernel
theorem dX2_staked_30 : decode cX2_staked 30 = .ok (.iadd, 1) := by decide +kernel
theorem dX2_staked_31 : decode cX2_staked 31 = .ok (.istore_n 1, 1) := by decide +kernel
theorem dX2_staked_32 : decode cX2_staked 32 = .ok (.iinc 2 1, 3) := by decide +kernel
theorem dX2_staked_35 : decode cX2_staked 35 = .ok (.goto (-31), 3) := by decide +kernel
theorem dX2_staked_38 : decode cX2_staked 38 = .ok (.iload_n 1, 1) := by decide +kernel
theorem dX2_staked_39 : decode cX2_staked 39 = .ok (.ireturn, 1) := by decide +kernel
theorem dX2_edgeTop_0 : decode cX2_edgeTop 0 = .ok (.aload_n 0, 1) := by decide +kernel
theorem dX2_edgeTop_1 : decode cX2_edgeTop 1 = .ok (.iload_n 1, 1) := by decide +kernel
theorem dX2_edgeTop_2 : decode cX2_edgeTop 2 = .ok (.invokevirtual 111, 3) := by decide +kernel
theorem dX2_edgeTop_5 : decode cX2_edgeTop 5 = .ok (.aload_n 0, 1) := by decide +kernel
theorem dX2_edgeTop_6 : decode cX2_edgeTop 6 = .ok (.aload_n 0, 1) := by decide +kernel
theorem dX2_edgeTop_7 : decode cX2_edgeTop 7 = .ok (.aload_n 0, 1) := by decide +kernel
theorem dX2_edgeTop_8 : decode cX2_edgeTop 8 = .ok (.getfield 19, 3) := by decide +kernel
theorem dX2_edgeTop_11 : decode cX2_edgeTop 11 = .ok (.iload_n 1, 1) := by decide +kernel
theorem dX2_edgeTop_12 : decode cX2_edgeTop 12 = .ok (.invokevirtual 137, 3) := by decide +kernel
theorem dX2_edgeTop_15 : decode cX2_edgeTop 15 = .ok (.checkcast 98, 3) := by decide +kernel
theorem dX2_edgeTop_18 : decode cX2_edgeTop 18 = .ok (.invokevirtual 143, 3) := by decide +kernel
theorem dX2_edgeTop_21 : decode cX2_edgeTop 21 = .ok (.invokevirtual 147, 3) := by decide +kernel
theorem dX2_edgeTop_24 : decode cX2_edgeTop 24 = .ok (.ireturn, 1) := by decide +kernel
theorem dX2_edgeBottom_0 : decode cX2_edgeBottom 0 = .ok (.aload_n 0, 1) := by decide +kernel
theorem dX2_edgeBottom_1 : decode cX2_edgeBottom 1 = .ok (.iload_n 1, 1) := by decide +kernel
theorem dX2_edgeBottom_2 : decode cX2_edgeBottom 2 = .ok (.invokevirtual 111, 3) := by decide +kernel
theorem dX2_edgeBottom_5 : decode cX2_edgeBottom 5 = .ok (.aload_n 0, 1) := by decide +kernel
theorem dX2_edgeBottom_6 : decode cX2_edgeBottom 6 = .ok (.aload_n 0, 1) := by decide +kernel
theorem dX2_edgeBottom_7 : decode cX2_edgeBottom 7 = .ok (.aload_n 0, 1) := by decide +kernel
theorem dX2_edgeBottom_8 : decode cX2_edgeBottom 8 = .ok (.getfield 19, 3) := by decide +kernel
theorem dX2_edgeBottom_11 : decode cX2_edgeBottom 11 = .ok (.iload_n 1, 1) := by decide +kernel
theorem dX2_edgeBottom_12 : decode cX2_edgeBottom 12 = .ok (.invokevirtual 137, 3) := by decide +kernel
theorem dX2_edgeBottom_15 : decode cX2_edgeBottom 15 = .ok (.checkcast 98, 3) := by decide +kernel
theorem dX2_edgeBottom_18 : decode cX2_edgeBottom 18 = .ok (.invokevirtual 143, 3) := by decide +kernel
theorem dX2_edgeBottom_21 : decode cX2_edgeBottom 21 = .ok (.invokevirtual 150, 3) := by decide +kernel
theorem dX2_edgeBottom_24 : decode cX2_edgeBottom 24 = .ok (.ireturn, 1) := by decide +kernel
theorem dX2_allEdgesTop_0 : decode cX2_allEdgesTop 0 = .ok (.aload_n 0, 1) := by decide +kernel
theorem dX2_allEdgesTop_1 : decode cX2_allEdgesTop 1 = .ok (.aload_n 0, 1) := by decide +kernel
theorem dX2_allEdgesTop_2 : decode cX2_allEdgesTop 2 = .ok (.invokevirtual 153, 3) := by decide +kernel
theorem dX2_allEdgesTop_5 : decode cX2_allEdgesTop 5 = .ok (.invokevirtual 147, 3) := by decide +kernel
theorem dX2_allEdgesTop_8 : decode cX2_allEdgesTop 8 = .ok (.ireturn, 1) := by decide +kernel
theorem dX2_allEdgesBottom_0 : decode cX2_allEdgesBottom 0 = .ok (.aload_n 0, 1) := by decide +kernel
theorem dX2_allEdgesBottom_1 : decode cX2_allEdgesBottom 1 = .ok (.aload_n 0, 1) := by decide +kernel
theorem dX2_allEdgesBottom_2 : decode cX2_allEdgesBottom 2 = .ok (.invokevirtual 153, 3) := by decide +kernel
theorem dX2_allEdgesBottom_5 : decode cX2_allEdgesBottom 5 = .ok (.invokevirtual 150, 3) := by decide +kernel
theorem dX2_allEdgesBottom_8 : decode cX2_allEdgesBottom 8 = .ok (.ireturn, 1) := by decide +kernel
theorem dX2_dearestWager_0 : decode cX2_dearestWager 0 = .ok (.iconst (-1), 1) := by decide +kernel
theorem dX2_dearestWager_1 : decode cX2_dearestWager 1 = .ok (.istore_n 1, 1) := by decide +kernel
theorem dX2_dearestWager_2 : decode cX2_dearestWager 2 = .ok (.lconst 0, 1) := by decide +kernel
theorem dX2_dearestWager_3 : decode cX2_dearestWager 3 = .ok (.lstore_n 2, 1) := by decide +kernel
theorem dX2_dearestWager_4 : decode cX2_dearestWager 4 = .ok (.lconst 1, 1) := by decide +kernel
theorem dX2_dearestWager_5 : decode cX2_dearestWager 5 = .ok (.lstore 4, 2) := by decide +kernel
theorem dX2_dearestWager_7 : decode cX2_dearestWager 7 = .ok (.iconst 0, 1) := by decide +kernel
theorem dX2_dearestWager_8 : decode cX2_dearestWager 8 = .ok (.istore 6, 2) := by decide +kernel
theorem dX2_dearestWager_10 : decode cX2_dearestWager 10 = .ok (.iload 6, 2) := by decide +kernel
theorem dX2_dearestWager_12 : decode cX2_dearestWager 12 = .ok (.aload_n 0, 1) := by decide +kernel
theorem dX2_dearestWager_13 : decode cX2_dearestWager 13 = .ok (.getfield 19, 3) := by decide +kernel
theorem dX2_dearestWager_16 : decode cX2_dearestWager 16 = .ok (.invokevirtual 90, 3) := by decide +kernel
theorem dX2_dearestWager_19 : decode cX2_dearestWager 19 = .ok (.if_icmp .ge 67, 3) := by decide +kernel
theorem dX2_dearestWager_22 : decode cX2_dearestWager 22 = .ok (.aload_n 0, 1) := by decide +kernel
theorem dX2_dearestWager_23 : decode cX2_dearestWager 23 = .ok (.getfield 19, 3) := by decide +kernel
theorem dX2_dearestWager_26 : decode cX2_dearestWager 26 = .ok (.iload 6, 2) := by decide +kernel
theorem dX2_dearestWager_28 : decode cX2_dearestWager 28 = .ok (.invokevirtual 137, 3) := by decide +kernel
theorem dX2_dearestWager_31 : decode cX2_dearestWager 31 = .ok (.checkcast 98, 3) := by decide +kernel
theorem dX2_dearestWager_34 : decode cX2_dearestWager 34 = .ok (.astore 7, 2) := by decide +kernel
theorem dX2_dearestWager_36 : decode cX2_dearestWager 36 = .ok (.aload_n 0, 1) := by decide +kernel
theorem dX2_dearestWager_37 : decode cX2_dearestWager 37 = .ok (.aload 7, 2) := by decide +kernel
theorem dX2_dearestWager_39 : decode cX2_dearestWager 39 = .ok (.invokevirtual 143, 3) := by decide +kernel
theorem dX2_dearestWager_42 : decode cX2_dearestWager 42 = .ok (.i2l, 1) := by decide +kernel
theorem dX2_dearestWager_43 : decode cX2_dearestWager 43 = .ok (.lstore 8, 2) := by decide +kernel
theorem dX2_dearestWager_45 : decode cX2_dearestWager 45 = .ok (.iload_n 1, 1) := by decide +kernel
theorem dX2_dearestWager_46 : decode cX2_dearestWager 46 = .ok (.ifCond .lt 20, 3) := by decide +kernel
theorem dX2_dearestWager_49 : decode cX2_dearestWager 49 = .ok (.lload 8, 2) := by decide +kernel
theorem dX2_dearestWager_51 : decode cX2_dearestWager 51 = .ok (.lload 4, 2) := by decide +kernel
theorem dX2_dearestWager_53 : decode cX2_dearestWager 53 = .ok (.lmul, 1) := by decide +kernel
theorem dX2_dearestWager_54 : decode cX2_dearestWager 54 = .ok (.lload_n 2, 1) := by decide +kernel
theorem dX2_dearestWager_55 : decode cX2_dearestWager 55 = .ok (.aload 7, 2) := by decide +kernel
theorem dX2_dearestWager_57 : decode cX2_dearestWager 57 = .ok (.getfield 121, 3) := by decide +kernel
theorem dX2_dearestWager_60 : decode cX2_dearestWager 60 = .ok (.i2l, 1) := by decide +kernel
theorem dX2_dearestWager_61 : decode cX2_dearestWager 61 = .ok (.lmul, 1) := by decide +kernel
theorem dX2_dearestWager_62 : decode cX2_dearestWager 62 = .ok (.lcmp, 1) := by decide +kernel
theorem dX2_dearestWager_63 : decode cX2_dearestWager 63 = .ok (.ifCond .le 17, 3) := by decide +kernel
theorem dX2_dearestWager_66 : decode cX2_dearestWager 66 = .ok (.iload 6, 2) := by decide +kernel
theorem dX2_dearestWager_68 : decode cX2_dearestWager 68 = .ok (.istore_n 1, 1) := by decide +kernel
theorem dX2_dearestWager_69 : decode cX2_dearestWager 69 = .ok (.lload 8, 2) := by decide +kernel
theorem dX2_dearestWager_71 : decode cX2_dearestWager 71 = .ok (.lstore_n 2, 1) := by decide +kernel
theorem dX2_dearestWager_72 : decode cX2_dearestWager 72 = .ok (.aload 7, 2) := by decide +kernel
theorem dX2_dearestWager_74 : decode cX2_dearestWager 74 = .ok (.getfield 121, 3) := by decide +kernel
theorem dX2_dearestWager_77 : decode cX2_dearestWager 77 = .ok (.i2l, 1) := by decide +kernel
theorem dX2_dearestWager_78 : decode cX2_dearestWager 78 = .ok (.lstore 4, 2) := by decide +kernel
theorem dX2_dearestWager_80 : decode cX2_dearestWager 80 = .ok (.iinc 6 1, 3) := by decide +kernel
theorem dX2_dearestWager_83 : decode cX2_dearestWager 83 = .ok (.goto (-73), 3) := by decide +kernel
theorem dX2_dearestWager_86 : decode cX2_dearestWager 86 = .ok (.iload_n 1, 1) := by decide +kernel
theorem dX2_dearestWager_87 : decode cX2_dearestWager 87 = .ok (.ireturn, 1) := by decide +kernel
theorem dX2_gainAt_0 : decode cX2_gainAt 0 = .ok (.aload_n 0, 1) := by decide +kernel
theorem dX2_gainAt_1 : decode cX2_gainAt 1 = .ok (.iload_n 1, 1) := by decide +kernel
theorem dX2_gainAt_2 : decode cX2_gainAt 2 = .ok (.invokevirtual 64, 3) := by decide +kernel
theorem dX2_gainAt_5 : decode cX2_gainAt 5 = .ok (.aload_n 0, 1) := by decide +kernel
theorem dX2_gainAt_6 : decode cX2_gainAt 6 = .ok (.iload_n 1, 1) := by decide +kernel
theorem dX2_gainAt_7 : decode cX2_gainAt 7 = .ok (.invokevirtual 124, 3) := by decide +kernel
theorem dX2_gainAt_10 : decode cX2_gainAt 10 = .ok (.ireturn, 1) := by decide +kernel
theorem dX2_worstGain_0 : decode cX2_worstGain 0 = .ok (.aload_n 0, 1) := by decide +kernel
theorem dX2_worstGain_1 : decode cX2_worstGain 1 = .ok (.aload_n 0, 1) := by decide +kernel
theorem dX2_worstGain_2 : decode cX2_worstGain 2 = .ok (.invokevirtual 156, 3) := by decide +kernel
theorem dX2_worstGain_5 : decode cX2_worstGain 5 = .ok (.invokevirtual 124, 3) := by decide +kernel
theorem dX2_worstGain_8 : decode cX2_worstGain 8 = .ok (.ireturn, 1) := by decide +kernel
theorem dX2_worstOutcome_0 : decode cX2_worstOutcome 0 = .ok (.iconst 0, 1) := by decide +kernel
theorem dX2_worstOutcome_1 : decode cX2_worstOutcome 1 = .ok (.istore_n 1, 1) := by decide +kernel
theorem dX2_worstOutcome_2 : decode cX2_worstOutcome 2 = .ok (.aload_n 0, 1) := by decide +kernel
theorem dX2_worstOutcome_3 : decode cX2_worstOutcome 3 = .ok (.iconst 0, 1) := by decide +kernel
theorem dX2_worstOutcome_4 : decode cX2_worstOutcome 4 = .ok (.invokevirtual 124, 3) := by decide +kernel
theorem dX2_worstOutcome_7 : decode cX2_worstOutcome 7 = .ok (.istore_n 2, 1) := by decide +kernel
theorem dX2_worstOutcome_8 : decode cX2_worstOutcome 8 = .ok (.iconst 1, 1) := by decide +kernel
theorem dX2_worstOutcome_9 : decode cX2_worstOutcome 9 = .ok (.istore_n 3, 1) := by decide +kernel
theorem dX2_worstOutcome_10 : decode cX2_worstOutcome 10 = .ok (.iload_n 3, 1) := by decide +kernel
theorem dX2_worstOutcome_11 : decode cX2_worstOutcome 11 = .ok (.aload_n 0, 1) := by decide +kernel
theorem dX2_worstOutcome_12 : decode cX2_worstOutcome 12 = .ok (.getfield 12, 3) := by decide +kernel
theorem dX2_worstOutcome_15 : decode cX2_worstOutcome 15 = .ok (.getfield 58, 3) := by decide +kernel
theorem dX2_worstOutcome_18 : decode cX2_worstOutcome 18 = .ok (.if_icmp .ge 27, 3) := by decide +kernel
theorem dX2_worstOutcome_21 : decode cX2_worstOutcome 21 = .ok (.aload_n 0, 1) := by decide +kernel
theorem dX2_worstOutcome_22 : decode cX2_worstOutcome 22 = .ok (.iload_n 3, 1) := by decide +kernel
theorem dX2_worstOutcome_23 : decode cX2_worstOutcome 23 = .ok (.invokevirtual 124, 3) := by decide +kernel
theorem dX2_worstOutcome_26 : decode cX2_worstOutcome 26 = .ok (.istore 4, 2) := by decide +kernel
theorem dX2_worstOutcome_28 : decode cX2_worstOutcome 28 = .ok (.iload 4, 2) := by decide +kernel
theorem dX2_worstOutcome_30 : decode cX2_worstOutcome 30 = .ok (.iload_n 2, 1) := by decide +kernel
theorem dX2_worstOutcome_31 : decode cX2_worstOutcome 31 = .ok (.if_icmp .ge 8, 3) := by decide +kernel
theorem dX2_worstOutcome_34 : decode cX2_worstOutcome 34 = .ok (.iload 4, 2) := by decide +kernel
theorem dX2_worstOutcome_36 : decode cX2_worstOutcome 36 = .ok (.istore_n 2, 1) := by decide +kernel
theorem dX2_worstOutcome_37 : decode cX2_worstOutcome 37 = .ok (.iload_n 3, 1) := by decide +kernel
theorem dX2_worstOutcome_38 : decode cX2_worstOutcome 38 = .ok (.istore_n 1, 1) := by decide +kernel
theorem dX2_worstOutcome_39 : decode cX2_worstOutcome 39 = .ok (.iinc 3 1, 3) := by decide +kernel
theorem dX2_worstOutcome_42 : decode cX2_worstOutcome 42 = .ok (.goto (-32), 3) := by decide +kernel
theorem dX2_worstOutcome_45 : decode cX2_worstOutcome 45 = .ok (.iload_n 1, 1) := by decide +kernel
theorem dX2_worstOutcome_46 : decode cX2_worstOutcome 46 = .ok (.ireturn, 1) := by decide +kernel
theorem dX2_purseAt_0 : decode cX2_purseAt 0 = .ok (.iload_n 1, 1) := by decide +kernel
theorem dX2_purseAt_1 : decode cX2_purseAt 1 = .ok (.invokestatic 79, 3) := by decide +kernel
theorem dX2_purseAt_4 : decode cX2_purseAt 4 = .ok (.aload_n 0, 1) := by decide +kernel
theorem dX2_purseAt_5 : decode cX2_purseAt 5 = .ok (.iload_n 2, 1) := by decide +kernel
theorem dX2_purseAt_6 : decode cX2_purseAt 6 = .ok (.invokevirtual 64, 3) := by decide +kernel
theorem dX2_purseAt_9 : decode cX2_purseAt 9 = .ok (.aload_n 0, 1) := by decide +kernel
theorem dX2_purseAt_10 : decode cX2_purseAt 10 = .ok (.iload_n 1, 1) := by decide +kernel
theorem dX2_purseAt_11 : decode cX2_purseAt 11 = .ok (.iload_n 2, 1) := by decide +kernel
theorem dX2_purseAt_12 : decode cX2_purseAt 12 = .ok (.invokevirtual 128, 3) := by decide +kernel
theorem dX2_purseAt_15 : decode cX2_purseAt 15 = .ok (.ireturn, 1) := by decide +kernel
theorem dX2_leastPurse_0 : decode cX2_leastPurse 0 = .ok (.iload_n 1, 1) := by decide +kernel
theorem dX2_leastPurse_1 : decode cX2_leastPurse 1 = .ok (.invokestatic 79, 3) := by decide +kernel
theorem dX2_leastPurse_4 : decode cX2_leastPurse 4 = .ok (.aload_n 0, 1) := by decide +kernel
theorem dX2_leastPurse_5 : decode cX2_leastPurse 5 = .ok (.iload_n 1, 1) := by decide +kernel
theorem dX2_leastPurse_6 : decode cX2_leastPurse 6 = .ok (.iconst 0, 1) := by decide +kernel
theorem dX2_leastPurse_7 : decode cX2_leastPurse 7 = .ok (.invokevirtual 128, 3) := by decide +kernel
theorem dX2_leastPurse_10 : decode cX2_leastPurse 10 = .ok (.istore_n 2, 1) := by decide +kernel
theorem dX2_leastPurse_11 : decode cX2_leastPurse 11 = .ok (.iconst 1, 1) := by decide +kernel
theorem dX2_leastPurse_12 : decode cX2_leastPurse 12 = .ok (.istore_n 3, 1) := by decide +kernel
theorem dX2_leastPurse_13 : decode cX2_leastPurse 13 = .ok (.iload_n 3, 1) := by decide +kernel
theorem dX2_leastPurse_14 : decode cX2_leastPurse 14 = .ok (.aload_n 0, 1) := by decide +kernel
theorem dX2_leastPurse_15 : decode cX2_leastPurse 15 = .ok (.getfield 12, 3) := by decide +kernel
theorem dX2_leastPurse_18 : decode cX2_leastPurse 18 = .ok (.getfield 58, 3) := by decide +kernel
theorem dX2_leastPurse_21 : decode cX2_leastPurse 21 = .ok (.if_icmp .ge 20, 3) := by decide +kernel
theorem dX2_leastPurse_24 : decode cX2_leastPurse 24 = .ok (.iload_n 2, 1) := by decide +kernel
theorem dX2_leastPurse_25 : decode cX2_leastPurse 25 = .ok (.aload_n 0, 1) := by decide +kernel
theorem dX2_leastPurse_26 : decode cX2_leastPurse 26 = .ok (.iload_n 1, 1) := by decide +kernel
theorem dX2_leastPurse_27 : decode cX2_leastPurse 27 = .ok (.iload_n 3, 1) := by decide +kernel
theorem dX2_leastPurse_28 : decode cX2_leastPurse 28 = .ok (.invokevirtual 128, 3) := by decide +kernel
theorem dX2_leastPurse_31 : decode cX2_leastPurse 31 = .ok (.invokestatic 159, 3) := by decide +kernel
theorem dX2_leastPurse_34 : decode cX2_leastPurse 34 = .ok (.istore_n 2, 1) := by decide +kernel
theorem dX2_leastPurse_35 : decode cX2_leastPurse 35 = .ok (.iinc 3 1, 3) := by decide +kernel
theorem dX2_leastPurse_38 : decode cX2_leastPurse 38 = .ok (.goto (-25), 3) := by decide +kernel
theorem dX2_leastPurse_41 : decode cX2_leastPurse 41 = .ok (.iload_n 2, 1) := by decide +kernel
theorem dX2_leastPurse_42 : decode cX2_leastPurse 42 = .ok (.ireturn, 1) := by decide +kernel
theorem dX2_isHedged_0 : decode cX2_isHedged 0 = .ok (.iload_n 1, 1) := by decide +kernel
theorem dX2_isHedged_1 : decode cX2_isHedged 1 = .ok (.invokestatic 79, 3) := by decide +kernel
theorem dX2_isHedged_4 : decode cX2_isHedged 4 = .ok (.aload_n 0, 1) := by decide +kernel
theorem dX2_isHedged_5 : decode cX2_isHedged 5 = .ok (.iload_n 1, 1) := by decide +kernel
theorem dX2_isHedged_6 : decode cX2_isHedged 6 = .ok (.iconst 0, 1) := by decide +kernel
theorem dX2_isHedged_7 : decode cX2_isHedged 7 = .ok (.invokevirtual 128, 3) := by decide +kernel
theorem dX2_isHedged_10 : decode cX2_isHedged 10 = .ok (.istore_n 2, 1) := by decide +kernel
theorem dX2_isHedged_11 : decode cX2_isHedged 11 = .ok (.iconst 1, 1) := by decide +kernel
theorem dX2_isHedged_12 : decode cX2_isHedged 12 = .ok (.istore_n 3, 1) := by decide +kernel
theorem dX2_isHedged_13 : decode cX2_isHedged 13 = .ok (.iload_n 3, 1) := by decide +kernel
theorem dX2_isHedged_14 : decode cX2_isHedged 14 = .ok (.aload_n 0, 1) := by decide +kernel
theorem dX2_isHedged_15 : decode cX2_isHedged 15 = .ok (.getfield 12, 3) := by decide +kernel
theorem dX2_isHedged_18 : decode cX2_isHedged 18 = .ok (.getfield 58, 3) := by decide +kernel
theorem dX2_isHedged_21 : decode cX2_isHedged 21 = .ok (.if_icmp .ge 21, 3) := by decide +kernel
theorem dX2_isHedged_24 : decode cX2_isHedged 24 = .ok (.aload_n 0, 1) := by decide +kernel
theorem dX2_isHedged_25 : decode cX2_isHedged 25 = .ok (.iload_n 1, 1) := by decide +kernel
theorem dX2_isHedged_26 : decode cX2_isHedged 26 = .ok (.iload_n 3, 1) := by decide +kernel
theorem dX2_isHedged_27 : decode cX2_isHedged 27 = .ok (.invokevirtual 128, 3) := by decide +kernel
theorem dX2_isHedged_30 : decode cX2_isHedged 30 = .ok (.iload_n 2, 1) := by decide +kernel
theorem dX2_isHedged_31 : decode cX2_isHedged 31 = .ok (.if_icmp .eq 5, 3) := by decide +kernel
theorem dX2_isHedged_34 : decode cX2_isHedged 34 = .ok (.iconst 0, 1) := by decide +kernel
theorem dX2_isHedged_35 : decode cX2_isHedged 35 = .ok (.ireturn, 1) := by decide +kernel
theorem dX2_isHedged_36 : decode cX2_isHedged 36 = .ok (.iinc 3 1, 3) := by decide +kernel
theorem dX2_isHedged_39 : decode cX2_isHedged 39 = .ok (.goto (-26), 3) := by decide +kernel
theorem dX2_isHedged_42 : decode cX2_isHedged 42 = .ok (.iconst 1, 1) := by decide +kernel
theorem dX2_isHedged_43 : decode cX2_isHedged 43 = .ok (.ireturn, 1) := by decide +kernel
theorem dX2_hedgeFor_0 : decode cX2_hedgeFor 0 = .ok (.aload_n 0, 1) := by decide +kernel
theorem dX2_hedgeFor_1 : decode cX2_hedgeFor 1 = .ok (.iload_n 1, 1) := by decide +kernel
theorem dX2_hedgeFor_2 : decode cX2_hedgeFor 2 = .ok (.invokevirtual 111, 3) := by decide +kernel
theorem dX2_hedgeFor_5 : decode cX2_hedgeFor 5 = .ok (.iload_n 2, 1) := by decide +kernel
theorem dX2_hedgeFor_6 : decode cX2_hedgeFor 6 = .ok (.invokestatic 84, 3) := by decide +kernel
theorem dX2_hedgeFor_9 : decode cX2_hedgeFor 9 = .ok (.iload_n 3, 1) := by decide +kernel
theorem dX2_hedgeFor_10 : decode cX2_hedgeFor 10 = .ok (.invokestatic 87, 3) := by decide +kernel
theorem dX2_hedgeFor_13 : decode cX2_hedgeFor 13 = .ok (.aload_n 0, 1) := by decide +kernel
theorem dX2_hedgeFor_14 : decode cX2_hedgeFor 14 = .ok (.getfield 19, 3) := by decide +kernel
theorem dX2_hedgeFor_17 : decode cX2_hedgeFor 17 = .ok (.iload_n 1, 1) := by decide +kernel
theorem dX2_hedgeFor_18 : decode cX2_hedgeFor 18 = .ok (.invokevirtual 137, 3) := by decide +kernel
theorem dX2_hedgeFor_21 : decode cX2_hedgeFor 21 = .ok (.checkcast 98, 3) := by decide +kernel
theorem dX2_hedgeFor_24 : decode cX2_hedgeFor 24 = .ok (.astore 4, 2) := by decide +kernel
theorem dX2_hedgeFor_26 : decode cX2_hedgeFor 26 = .ok (.iconst 1, 1) := by decide +kernel
theorem dX2_hedgeFor_27 : decode cX2_hedgeFor 27 = .ok (.istore 5, 2) := by decide +kernel
theorem dX2_hedgeFor_29 : decode cX2_hedgeFor 29 = .ok (.iload 5, 2) := by decide +kernel
theorem dX2_hedgeFor_31 : decode cX2_hedgeFor 31 = .ok (.sipush 999, 3) := by decide +kernel
theorem dX2_hedgeFor_34 : decode cX2_hedgeFor 34 = .ok (.if_icmp .gt 44, 3) := by decide +kernel
theorem dX2_hedgeFor_37 : decode cX2_hedgeFor 37 = .ok (.aload 4, 2) := by decide +kernel
theorem dX2_hedgeFor_39 : decode cX2_hedgeFor 39 = .ok (.getfield 140, 3) := by decide +kernel
theorem dX2_hedgeFor_42 : decode cX2_hedgeFor 42 = .ok (.iload 5, 2) := by decide +kernel
theorem dX2_hedgeFor_44 : decode cX2_hedgeFor 44 = .ok (.isub, 1) := by decide +kernel
theorem dX2_hedgeFor_45 : decode cX2_hedgeFor 45 = .ok (.istore 6, 2) := by decide +kernel
theorem dX2_hedgeFor_47 : decode cX2_hedgeFor 47 = .ok (.iload 5, 2) := by decide +kernel
theorem dX2_hedgeFor_49 : decode cX2_hedgeFor 49 = .ok (.iload_n 2, 1) := by decide +kernel
theorem dX2_hedgeFor_50 : decode cX2_hedgeFor 50 = .ok (.iload_n 3, 1) := by decide +kernel
theorem dX2_hedgeFor_51 : decode cX2_hedgeFor 51 = .ok (.invokestatic 100, 3) := by decide +kernel
theorem dX2_hedgeFor_54 : decode cX2_hedgeFor 54 = .ok (.aload 4, 2) := by decide +kernel
theorem dX2_hedgeFor_56 : decode cX2_hedgeFor 56 = .ok (.getfield 121, 3) := by decide +kernel
theorem dX2_hedgeFor_59 : decode cX2_hedgeFor 59 = .ok (.isub, 1) := by decide +kernel
theorem dX2_hedgeFor_60 : decode cX2_hedgeFor 60 = .ok (.istore 7, 2) := by decide +kernel
theorem dX2_hedgeFor_62 : decode cX2_hedgeFor 62 = .ok (.iload 6, 2) := by decide +kernel
theorem dX2_hedgeFor_64 : decode cX2_hedgeFor 64 = .ok (.iload 7, 2) := by decide +kernel
theorem dX2_hedgeFor_66 : decode cX2_hedgeFor 66 = .ok (.if_icmp .ne 6, 3) := by decide +kernel
theorem dX2_hedgeFor_69 : decode cX2_hedgeFor 69 = .ok (.iload 5, 2) := by decide +kernel
theorem dX2_hedgeFor_71 : decode cX2_hedgeFor 71 = .ok (.ireturn, 1) := by decide +kernel
theorem dX2_hedgeFor_72 : decode cX2_hedgeFor 72 = .ok (.iinc 5 1, 3) := by decide +kernel
theorem dX2_hedgeFor_75 : decode cX2_hedgeFor 75 = .ok (.goto (-46), 3) := by decide +kernel
theorem dX2_hedgeFor_78 : decode cX2_hedgeFor 78 = .ok (.iconst (-1), 1) := by decide +kernel
theorem dX2_hedgeFor_79 : decode cX2_hedgeFor 79 = .ok (.ireturn, 1) := by decide +kernel
theorem dX2_fairWin_0 : decode cX2_fairWin 0 = .ok (.iload_n 1, 1) := by decide +kernel
theorem dX2_fairWin_1 : decode cX2_fairWin 1 = .ok (.iload_n 2, 1) := by decide +kernel
theorem dX2_fairWin_2 : decode cX2_fairWin 2 = .ok (.invokestatic 71, 3) := by decide +kernel
theorem dX2_fairWin_5 : decode cX2_fairWin 5 = .ok (.iload_n 3, 1) := by decide +kernel
theorem dX2_fairWin_6 : decode cX2_fairWin 6 = .ok (.invokestatic 87, 3) := by decide +kernel
theorem dX2_fairWin_9 : decode cX2_fairWin 9 = .ok (.aload_n 0, 1) := by decide +kernel
theorem dX2_fairWin_10 : decode cX2_fairWin 10 = .ok (.getfield 12, 3) := by decide +kernel
theorem dX2_fairWin_13 : decode cX2_fairWin 13 = .ok (.iload_n 1, 1) := by decide +kernel
theorem dX2_fairWin_14 : decode cX2_fairWin 14 = .ok (.iload_n 2, 1) := by decide +kernel
theorem dX2_fairWin_15 : decode cX2_fairWin 15 = .ok (.invokevirtual 75, 3) := by decide +kernel
theorem dX2_fairWin_18 : decode cX2_fairWin 18 = .ok (.istore 4, 2) := by decide +kernel
theorem dX2_fairWin_20 : decode cX2_fairWin 20 = .ok (.bipush 20, 2) := by decide +kernel
theorem dX2_fairWin_22 : decode cX2_fairWin 22 = .ok (.istore 5, 2) := by decide +kernel
theorem dX2_fairWin_24 : decode cX2_fairWin 24 = .ok (.iload 5, 2) := by decide +kernel
theorem dX2_fairWin_26 : decode cX2_fairWin 26 = .ok (.iconst 1, 1) := by decide +kernel
theorem dX2_fairWin_27 : decode cX2_fairWin 27 = .ok (.if_icmp .lt 34, 3) := by decide +kernel
theorem dX2_fairWin_30 : decode cX2_fairWin 30 = .ok (.aload_n 0, 1) := by decide +kernel
theorem dX2_fairWin_31 : decode cX2_fairWin 31 = .ok (.getfield 12, 3) := by decide +kernel
theorem dX2_fairWin_34 : decode cX2_fairWin 34 = .ok (.bipush 100, 2) := by decide +kernel
theorem dX2_fairWin_36 : decode cX2_fairWin 36 = .ok (.bipush 100, 2) := by decide +kernel
theorem dX2_fairWin_38 : decode cX2_fairWin 38 = .ok (.iload 5, 2) := by decide +kernel
theorem dX2_fairWin_40 : decode cX2_fairWin 40 = .ok (.iload_n 3, 1) := by decide +kernel
theorem dX2_fairWin_41 : decode cX2_fairWin 41 = .ok (.invokestatic 100, 3) := by decide +kernel
theorem dX2_fairWin_44 : decode cX2_fairWin 44 = .ok (.iload 4, 2) := by decide +kernel
theorem dX2_fairWin_46 : decode cX2_fairWin 46 = .ok (.invokevirtual 164, 3) := by decide +kernel
theorem dX2_fairWin_49 : decode cX2_fairWin 49 = .ok (.ifCond .lt 6, 3) := by decide +kernel
theorem dX2_fairWin_52 : decode cX2_fairWin 52 = .ok (.iload 5, 2) := by decide +kernel
theorem dX2_fairWin_54 : decode cX2_fairWin 54 = .ok (.ireturn, 1) := by decide +kernel
theorem dX2_fairWin_55 : decode cX2_fairWin 55 = .ok (.iinc 5 (-1), 3) := by decide +kernel
theorem dX2_fairWin_58 : decode cX2_fairWin 58 = .ok (.goto (-34), 3) := by decide +kernel
theorem dX2_fairWin_61 : decode cX2_fairWin 61 = .ok (.iconst 0, 1) := by decide +kernel
theorem dX2_fairWin_62 : decode cX2_fairWin 62 = .ok (.ireturn, 1) := by decide +kernel
theorem dX2_digest_0 : decode cX2_digest 0 = .ok (.ldc2_w 167, 3) := by decide +kernel
theorem dX2_digest_3 : decode cX2_digest 3 = .ok (.aload_n 0, 1) := by decide +kernel
theorem dX2_digest_4 : decode cX2_digest 4 = .ok (.invokevirtual 169, 3) := by decide +kernel
theorem dX2_digest_7 : decode cX2_digest 7 = .ok (.i2l, 1) := by decide +kernel
theorem dX2_digest_8 : decode cX2_digest 8 = .ok (.invokestatic 171, 3) := by decide +kernel
theorem dX2_digest_11 : decode cX2_digest 11 = .ok (.lstore_n 1, 1) := by decide +kernel
theorem dX2_digest_12 : decode cX2_digest 12 = .ok (.lload_n 1, 1) := by decide +kernel
theorem dX2_digest_13 : decode cX2_digest 13 = .ok (.aload_n 0, 1) := by decide +kernel
theorem dX2_digest_14 : decode cX2_digest 14 = .ok (.invokevirtual 175, 3) := by decide +kernel
theorem dX2_digest_17 : decode cX2_digest 17 = .ok (.i2l, 1) := by decide +kernel
theorem dX2_digest_18 : decode cX2_digest 18 = .ok (.invokestatic 171, 3) := by decide +kernel
theorem dX2_digest_21 : decode cX2_digest 21 = .ok (.lstore_n 1, 1) := by decide +kernel
theorem dX2_digest_22 : decode cX2_digest 22 = .ok (.lload_n 1, 1) := by decide +kernel
theorem dX2_digest_23 : decode cX2_digest 23 = .ok (.aload_n 0, 1) := by decide +kernel
theorem dX2_digest_24 : decode cX2_digest 24 = .ok (.invokevirtual 177, 3) := by decide +kernel
theorem dX2_digest_27 : decode cX2_digest 27 = .ok (.i2l, 1) := by decide +kernel
theorem dX2_digest_28 : decode cX2_digest 28 = .ok (.invokestatic 171, 3) := by decide +kernel
theorem dX2_digest_31 : decode cX2_digest 31 = .ok (.lstore_n 1, 1) := by decide +kernel
theorem dX2_digest_32 : decode cX2_digest 32 = .ok (.lload_n 1, 1) := by decide +kernel
theorem dX2_digest_33 : decode cX2_digest 33 = .ok (.aload_n 0, 1) := by decide +kernel
theorem dX2_digest_34 : decode cX2_digest 34 = .ok (.invokevirtual 180, 3) := by decide +kernel
theorem dX2_digest_37 : decode cX2_digest 37 = .ok (.i2l, 1) := by decide +kernel
theorem dX2_digest_38 : decode cX2_digest 38 = .ok (.invokestatic 171, 3) := by decide +kernel
theorem dX2_digest_41 : decode cX2_digest 41 = .ok (.lstore_n 1, 1) := by decide +kernel
theorem dX2_digest_42 : decode cX2_digest 42 = .ok (.lload_n 1, 1) := by decide +kernel
theorem dX2_digest_43 : decode cX2_digest 43 = .ok (.aload_n 0, 1) := by decide +kernel
theorem dX2_digest_44 : decode cX2_digest 44 = .ok (.invokevirtual 182, 3) := by decide +kernel
theorem dX2_digest_47 : decode cX2_digest 47 = .ok (.i2l, 1) := by decide +kernel
theorem dX2_digest_48 : decode cX2_digest 48 = .ok (.invokestatic 171, 3) := by decide +kernel
theorem dX2_digest_51 : decode cX2_digest 51 = .ok (.lstore_n 1, 1) := by decide +kernel
theorem dX2_digest_52 : decode cX2_digest 52 = .ok (.lload_n 1, 1) := by decide +kernel
theorem dX2_digest_53 : decode cX2_digest 53 = .ok (.aload_n 0, 1) := by decide +kernel
theorem dX2_digest_54 : decode cX2_digest 54 = .ok (.invokevirtual 184, 3) := by decide +kernel
theorem dX2_digest_57 : decode cX2_digest 57 = .ok (.i2l, 1) := by decide +kernel
theorem dX2_digest_58 : decode cX2_digest 58 = .ok (.invokestatic 171, 3) := by decide +kernel
theorem dX2_digest_61 : decode cX2_digest 61 = .ok (.lstore_n 1, 1) := by decide +kernel
theorem dX2_digest_62 : decode cX2_digest 62 = .ok (.lload_n 1, 1) := by decide +kernel
theorem dX2_digest_63 : decode cX2_digest 63 = .ok (.aload_n 0, 1) := by decide +kernel
theorem dX2_digest_64 : decode cX2_digest 64 = .ok (.invokevirtual 187, 3) := by decide +kernel
theorem dX2_digest_67 : decode cX2_digest 67 = .ok (.i2l, 1) := by decide +kernel
theorem dX2_digest_68 : decode cX2_digest 68 = .ok (.invokestatic 171, 3) := by decide +kernel
theorem dX2_digest_71 : decode cX2_digest 71 = .ok (.lstore_n 1, 1) := by decide +kernel
theorem dX2_digest_72 : decode cX2_digest 72 = .ok (.lload_n 1, 1) := by decide +kernel
theorem dX2_digest_73 : decode cX2_digest 73 = .ok (.aload_n 0, 1) := by decide +kernel
theorem dX2_digest_74 : decode cX2_digest 74 = .ok (.invokevirtual 190, 3) := by decide +kernel
theorem dX2_digest_77 : decode cX2_digest 77 = .ok (.i2l, 1) := by decide +kernel
theorem dX2_digest_78 : decode cX2_digest 78 = .ok (.invokestatic 171, 3) := by decide +kernel
theorem dX2_digest_81 : decode cX2_digest 81 = .ok (.lstore_n 1, 1) := by decide +kernel
theorem dX2_digest_82 : decode cX2_digest 82 = .ok (.lload_n 1, 1) := by decide +kernel
theorem dX2_digest_83 : decode cX2_digest 83 = .ok (.aload_n 0, 1) := by decide +kernel
theorem dX2_digest_84 : decode cX2_digest 84 = .ok (.invokevirtual 193, 3) := by decide +kernel
theorem dX2_digest_87 : decode cX2_digest 87 = .ok (.i2l, 1) := by decide +kernel
theorem dX2_digest_88 : decode cX2_digest 88 = .ok (.invokestatic 171, 3) := by decide +kernel
theorem dX2_digest_91 : decode cX2_digest 91 = .ok (.lstore_n 1, 1) := by decide +kernel
theorem dX2_digest_92 : decode cX2_digest 92 = .ok (.lload_n 1, 1) := by decide +kernel
theorem dX2_digest_93 : decode cX2_digest 93 = .ok (.aload_n 0, 1) := by decide +kernel
theorem dX2_digest_94 : decode cX2_digest 94 = .ok (.invokevirtual 196, 3) := by decide +kernel
theorem dX2_digest_97 : decode cX2_digest 97 = .ok (.i2l, 1) := by decide +kernel
theorem dX2_digest_98 : decode cX2_digest 98 = .ok (.invokestatic 171, 3) := by decide +kernel
theorem dX2_digest_101 : decode cX2_digest 101 = .ok (.lstore_n 1, 1) := by decide +kernel
theorem dX2_digest_102 : decode cX2_digest 102 = .ok (.lload_n 1, 1) := by decide +kernel
theorem dX2_digest_103 : decode cX2_digest 103 = .ok (.aload_n 0, 1) := by decide +kernel
theorem dX2_digest_104 : decode cX2_digest 104 = .ok (.invokevirtual 156, 3) := by decide +kernel
theorem dX2_digest_107 : decode cX2_digest 107 = .ok (.i2l, 1) := by decide +kernel
theorem dX2_digest_108 : decode cX2_digest 108 = .ok (.invokestatic 171, 3) := by decide +kernel
theorem dX2_digest_111 : decode cX2_digest 111 = .ok (.lstore_n 1, 1) := by decide +kernel
theorem dX2_digest_112 : decode cX2_digest 112 = .ok (.aload_n 0, 1) := by decide +kernel
theorem dX2_digest_113 : decode cX2_digest 113 = .ok (.lload_n 1, 1) := by decide +kernel
theorem dX2_digest_114 : decode cX2_digest 114 = .ok (.invokevirtual 199, 3) := by decide +kernel
theorem dX2_digest_117 : decode cX2_digest 117 = .ok (.lstore_n 1, 1) := by decide +kernel
theorem dX2_digest_118 : decode cX2_digest 118 = .ok (.aload_n 0, 1) := by decide +kernel
theorem dX2_digest_119 : decode cX2_digest 119 = .ok (.lload_n 1, 1) := by decide +kernel
theorem dX2_digest_120 : decode cX2_digest 120 = .ok (.invokevirtual 203, 3) := by decide +kernel
theorem dX2_digest_123 : decode cX2_digest 123 = .ok (.lstore_n 1, 1) := by decide +kernel
theorem dX2_digest_124 : decode cX2_digest 124 = .ok (.iconst 0, 1) := by decide +kernel
theorem dX2_digest_125 : decode cX2_digest 125 = .ok (.istore_n 3, 1) := by decide +kernel
theorem dX2_digest_126 : decode cX2_digest 126 = .ok (.iload_n 3, 1) := by decide +kernel
theorem dX2_digest_127 : decode cX2_digest 127 = .ok (.bipush 10, 2) := by decide +kernel
theorem dX2_digest_129 : decode cX2_digest 129 = .ok (.if_icmp .ge 25, 3) := by decide +kernel
theorem dX2_digest_132 : decode cX2_digest 132 = .ok (.lload_n 1, 1) := by decide +kernel
theorem dX2_digest_133 : decode cX2_digest 133 = .ok (.aload_n 0, 1) := by decide +kernel
theorem dX2_digest_134 : decode cX2_digest 134 = .ok (.getfield 12, 3) := by decide +kernel
theorem dX2_digest_137 : decode cX2_digest 137 = .ok (.iload_n 3, 1) := by decide +kernel
theorem dX2_digest_138 : decode cX2_digest 138 = .ok (.bipush 7, 2) := by decide +kernel
theorem dX2_digest_140 : decode cX2_digest 140 = .ok (.invokevirtual 75, 3) := by decide +kernel
theorem dX2_digest_143 : decode cX2_digest 143 = .ok (.i2l, 1) := by decide +kernel
theorem dX2_digest_144 : decode cX2_digest 144 = .ok (.invokestatic 171, 3) := by decide +kernel
theorem dX2_digest_147 : decode cX2_digest 147 = .ok (.lstore_n 1, 1) := by decide +kernel
theorem dX2_digest_148 : decode cX2_digest 148 = .ok (.iinc 3 1, 3) := by decide +kernel
theorem dX2_digest_151 : decode cX2_digest 151 = .ok (.goto (-25), 3) := by decide +kernel
theorem dX2_digest_154 : decode cX2_digest 154 = .ok (.lload_n 1, 1) := by decide +kernel
theorem dX2_digest_155 : decode cX2_digest 155 = .ok (.lreturn, 1) := by decide +kernel
theorem dX2_digestOfWagers_0 : decode cX2_digestOfWagers 0 = .ok (.lload_n 1, 1) := by decide +kernel
theorem dX2_digestOfWagers_1 : decode cX2_digestOfWagers 1 = .ok (.lstore_n 3, 1) := by decide +kernel
theorem dX2_digestOfWagers_2 : decode cX2_digestOfWagers 2 = .ok (.iconst 0, 1) := by decide +kernel
theorem dX2_digestOfWagers_3 : decode cX2_digestOfWagers 3 = .ok (.istore 5, 2) := by decide +kernel
theorem dX2_digestOfWagers_5 : decode cX2_digestOfWagers 5 = .ok (.iload 5, 2) := by decide +kernel
theorem dX2_digestOfWagers_7 : decode cX2_digestOfWagers 7 = .ok (.aload_n 0, 1) := by decide +kernel
theorem dX2_digestOfWagers_8 : decode cX2_digestOfWagers 8 = .ok (.getfield 19, 3) := by decide +kernel
theorem dX2_digestOfWagers_11 : decode cX2_digestOfWagers 11 = .ok (.invokevirtual 90, 3) := by decide +kernel
theorem dX2_digestOfWagers_14 : decode cX2_digestOfWagers 14 = .ok (.if_icmp .ge 69, 3) := by decide +kernel
theorem dX2_digestOfWagers_17 : decode cX2_digestOfWagers 17 = .ok (.lload_n 3, 1) := by decide +kernel
theorem dX2_digestOfWagers_18 : decode cX2_digestOfWagers 18 = .ok (.aload_n 0, 1) := by decide +kernel
theorem dX2_digestOfWagers_19 : decode cX2_digestOfWagers 19 = .ok (.iload 5, 2) := by decide +kernel
theorem dX2_digestOfWagers_21 : decode cX2_digestOfWagers 21 = .ok (.invokevirtual 206, 3) := by decide +kernel
theorem dX2_digestOfWagers_24 : decode cX2_digestOfWagers 24 = .ok (.i2l, 1) := by decide +kernel
theorem dX2_digestOfWagers_25 : decode cX2_digestOfWagers 25 = .ok (.invokestatic 171, 3) := by decide +kernel
theorem dX2_digestOfWagers_28 : decode cX2_digestOfWagers 28 = .ok (.lstore_n 3, 1) := by decide +kernel
theorem dX2_digestOfWagers_29 : decode cX2_digestOfWagers 29 = .ok (.lload_n 3, 1) := by decide +kernel
theorem dX2_digestOfWagers_30 : decode cX2_digestOfWagers 30 = .ok (.aload_n 0, 1) := by decide +kernel
theorem dX2_digestOfWagers_31 : decode cX2_digestOfWagers 31 = .ok (.iload 5, 2) := by decide +kernel
theorem dX2_digestOfWagers_33 : decode cX2_digestOfWagers 33 = .ok (.invokevirtual 209, 3) := by decide +kernel
theorem dX2_digestOfWagers_36 : decode cX2_digestOfWagers 36 = .ok (.i2l, 1) := by decide +kernel
theorem dX2_digestOfWagers_37 : decode cX2_digestOfWagers 37 = .ok (.invokestatic 171, 3) := by decide +kernel
theorem dX2_digestOfWagers_40 : decode cX2_digestOfWagers 40 = .ok (.lstore_n 3, 1) := by decide +kernel
theorem dX2_digestOfWagers_41 : decode cX2_digestOfWagers 41 = .ok (.lload_n 3, 1) := by decide +kernel
theorem dX2_digestOfWagers_42 : decode cX2_digestOfWagers 42 = .ok (.aload_n 0, 1) := by decide +kernel
theorem dX2_digestOfWagers_43 : decode cX2_digestOfWagers 43 = .ok (.iload 5, 2) := by decide +kernel
theorem dX2_digestOfWagers_45 : decode cX2_digestOfWagers 45 = .ok (.invokevirtual 212, 3) := by decide +kernel
theorem dX2_digestOfWagers_48 : decode cX2_digestOfWagers 48 = .ok (.i2l, 1) := by decide +kernel
theorem dX2_digestOfWagers_49 : decode cX2_digestOfWagers 49 = .ok (.invokestatic 171, 3) := by decide +kernel
theorem dX2_digestOfWagers_52 : decode cX2_digestOfWagers 52 = .ok (.lstore_n 3, 1) := by decide +kernel
theorem dX2_digestOfWagers_53 : decode cX2_digestOfWagers 53 = .ok (.lload_n 3, 1) := by decide +kernel
theorem dX2_digestOfWagers_54 : decode cX2_digestOfWagers 54 = .ok (.aload_n 0, 1) := by decide +kernel
theorem dX2_digestOfWagers_55 : decode cX2_digestOfWagers 55 = .ok (.iload 5, 2) := by decide +kernel
theorem dX2_digestOfWagers_57 : decode cX2_digestOfWagers 57 = .ok (.invokevirtual 215, 3) := by decide +kernel
theorem dX2_digestOfWagers_60 : decode cX2_digestOfWagers 60 = .ok (.i2l, 1) := by decide +kernel
theorem dX2_digestOfWagers_61 : decode cX2_digestOfWagers 61 = .ok (.invokestatic 171, 3) := by decide +kernel
theorem dX2_digestOfWagers_64 : decode cX2_digestOfWagers 64 = .ok (.lstore_n 3, 1) := by decide +kernel
theorem dX2_digestOfWagers_65 : decode cX2_digestOfWagers 65 = .ok (.lload_n 3, 1) := by decide +kernel
theorem dX2_digestOfWagers_66 : decode cX2_digestOfWagers 66 = .ok (.aload_n 0, 1) := by decide +kernel
theorem dX2_digestOfWagers_67 : decode cX2_digestOfWagers 67 = .ok (.iload 5, 2) := by decide +kernel
theorem dX2_digestOfWagers_69 : decode cX2_digestOfWagers 69 = .ok (.invokevirtual 218, 3) := by decide +kernel
theorem dX2_digestOfWagers_72 : decode cX2_digestOfWagers 72 = .ok (.i2l, 1) := by decide +kernel
theorem dX2_digestOfWagers_73 : decode cX2_digestOfWagers 73 = .ok (.invokestatic 171, 3) := by decide +kernel
theorem dX2_digestOfWagers_76 : decode cX2_digestOfWagers 76 = .ok (.lstore_n 3, 1) := by decide +kernel
theorem dX2_digestOfWagers_77 : decode cX2_digestOfWagers 77 = .ok (.iinc 5 1, 3) := by decide +kernel
theorem dX2_digestOfWagers_80 : decode cX2_digestOfWagers 80 = .ok (.goto (-75), 3) := by decide +kernel
theorem dX2_digestOfWagers_83 : decode cX2_digestOfWagers 83 = .ok (.lload_n 3, 1) := by decide +kernel
theorem dX2_digestOfWagers_84 : decode cX2_digestOfWagers 84 = .ok (.lreturn, 1) := by decide +kernel
theorem dX2_digestOfPatrons_0 : decode cX2_digestOfPatrons 0 = .ok (.lload_n 1, 1) := by decide +kernel
theorem dX2_digestOfPatrons_1 : decode cX2_digestOfPatrons 1 = .ok (.lstore_n 3, 1) := by decide +kernel
theorem dX2_digestOfPatrons_2 : decode cX2_digestOfPatrons 2 = .ok (.iconst 0, 1) := by decide +kernel
theorem dX2_digestOfPatrons_3 : decode cX2_digestOfPatrons 3 = .ok (.istore 5, 2) := by decide +kernel
theorem dX2_digestOfPatrons_5 : decode cX2_digestOfPatrons 5 = .ok (.iload 5, 2) := by decide +kernel
theorem dX2_digestOfPatrons_7 : decode cX2_digestOfPatrons 7 = .ok (.bipush 6, 2) := by decide +kernel
theorem dX2_digestOfPatrons_9 : decode cX2_digestOfPatrons 9 = .ok (.if_icmp .ge 52, 3) := by decide +kernel
theorem dX2_digestOfPatrons_12 : decode cX2_digestOfPatrons 12 = .ok (.lload_n 3, 1) := by decide +kernel
theorem dX2_digestOfPatrons_13 : decode cX2_digestOfPatrons 13 = .ok (.aload_n 0, 1) := by decide +kernel
theorem dX2_digestOfPatrons_14 : decode cX2_digestOfPatrons 14 = .ok (.iload 5, 2) := by decide +kernel
theorem dX2_digestOfPatrons_16 : decode cX2_digestOfPatrons 16 = .ok (.invokevirtual 221, 3) := by decide +kernel
theorem dX2_digestOfPatrons_19 : decode cX2_digestOfPatrons 19 = .ok (.i2l, 1) := by decide +kernel
theorem dX2_digestOfPatrons_20 : decode cX2_digestOfPatrons 20 = .ok (.invokestatic 171, 3) := by decide +kernel
theorem dX2_digestOfPatrons_23 : decode cX2_digestOfPatrons 23 = .ok (.lstore_n 3, 1) := by decide +kernel
theorem dX2_digestOfPatrons_24 : decode cX2_digestOfPatrons 24 = .ok (.lload_n 3, 1) := by decide +kernel
theorem dX2_digestOfPatrons_25 : decode cX2_digestOfPatrons 25 = .ok (.aload_n 0, 1) := by decide +kernel
theorem dX2_digestOfPatrons_26 : decode cX2_digestOfPatrons 26 = .ok (.iload 5, 2) := by decide +kernel
theorem dX2_digestOfPatrons_28 : decode cX2_digestOfPatrons 28 = .ok (.invokevirtual 224, 3) := by decide +kernel
theorem dX2_digestOfPatrons_31 : decode cX2_digestOfPatrons 31 = .ok (.i2l, 1) := by decide +kernel
theorem dX2_digestOfPatrons_32 : decode cX2_digestOfPatrons 32 = .ok (.invokestatic 171, 3) := by decide +kernel
theorem dX2_digestOfPatrons_35 : decode cX2_digestOfPatrons 35 = .ok (.lstore_n 3, 1) := by decide +kernel
theorem dX2_digestOfPatrons_36 : decode cX2_digestOfPatrons 36 = .ok (.lload_n 3, 1) := by decide +kernel
theorem dX2_digestOfPatrons_37 : decode cX2_digestOfPatrons 37 = .ok (.aload_n 0, 1) := by decide +kernel
theorem dX2_digestOfPatrons_38 : decode cX2_digestOfPatrons 38 = .ok (.iload 5, 2) := by decide +kernel
theorem dX2_digestOfPatrons_40 : decode cX2_digestOfPatrons 40 = .ok (.invokevirtual 227, 3) := by decide +kernel
theorem dX2_digestOfPatrons_43 : decode cX2_digestOfPatrons 43 = .ok (.ifCond .eq 7, 3) := by decide +kernel
theorem dX2_digestOfPatrons_46 : decode cX2_digestOfPatrons 46 = .ok (.lconst 1, 1) := by decide +kernel
theorem dX2_digestOfPatrons_47 : decode cX2_digestOfPatrons 47 = .ok (.goto 4, 3) := by decide +kernel
theorem dX2_digestOfPatrons_50 : decode cX2_digestOfPatrons 50 = .ok (.lconst 0, 1) := by decide +kernel
theorem dX2_digestOfPatrons_51 : decode cX2_digestOfPatrons 51 = .ok (.invokestatic 171, 3) := by decide +kernel
theorem dX2_digestOfPatrons_54 : decode cX2_digestOfPatrons 54 = .ok (.lstore_n 3, 1) := by decide +kernel
theorem dX2_digestOfPatrons_55 : decode cX2_digestOfPatrons 55 = .ok (.iinc 5 1, 3) := by decide +kernel
theorem dX2_digestOfPatrons_58 : decode cX2_digestOfPatrons 58 = .ok (.goto (-53), 3) := by decide +kernel
theorem dX2_digestOfPatrons_61 : decode cX2_digestOfPatrons 61 = .ok (.lload_n 3, 1) := by decide +kernel
theorem dX2_digestOfPatrons_62 : decode cX2_digestOfPatrons 62 = .ok (.lreturn, 1) := by decide +kernel
theorem dX2_digested_0 : decode cX2_digested 0 = .ok (.lload_n 0, 1) := by decide +kernel
theorem dX2_digested_1 : decode cX2_digested 1 = .ok (.ldc2_w 230, 3) := by decide +kernel
theorem dX2_digested_4 : decode cX2_digested 4 = .ok (.lmul, 1) := by decide +kernel
theorem dX2_digested_5 : decode cX2_digested 5 = .ok (.lload_n 2, 1) := by decide +kernel
theorem dX2_digested_6 : decode cX2_digested 6 = .ok (.ladd, 1) := by decide +kernel
theorem dX2_digested_7 : decode cX2_digested 7 = .ok (.lreturn, 1) := by decide +kernel
theorem dX2_gainOfAll_0 : decode cX2_gainOfAll 0 = .ok (.iconst 0, 1) := by decide +kernel
theorem dX2_gainOfAll_1 : decode cX2_gainOfAll 1 = .ok (.istore_n 2, 1) := by decide +kernel
theorem dX2_gainOfAll_2 : decode cX2_gainOfAll 2 = .ok (.iconst 0, 1) := by decide +kernel
theorem dX2_gainOfAll_3 : decode cX2_gainOfAll 3 = .ok (.istore_n 3, 1) := by decide +kernel
theorem dX2_gainOfAll_4 : decode cX2_gainOfAll 4 = .ok (.iload_n 3, 1) := by decide +kernel
theorem dX2_gainOfAll_5 : decode cX2_gainOfAll 5 = .ok (.aload_n 0, 1) := by decide +kernel
theorem dX2_gainOfAll_6 : decode cX2_gainOfAll 6 = .ok (.getfield 19, 3) := by decide +kernel
theorem dX2_gainOfAll_9 : decode cX2_gainOfAll 9 = .ok (.invokevirtual 90, 3) := by decide +kernel
theorem dX2_gainOfAll_12 : decode cX2_gainOfAll 12 = .ok (.if_icmp .ge 60, 3) := by decide +kernel
theorem dX2_gainOfAll_15 : decode cX2_gainOfAll 15 = .ok (.aload_n 0, 1) := by decide +kernel
theorem dX2_gainOfAll_16 : decode cX2_gainOfAll 16 = .ok (.getfield 19, 3) := by decide +kernel
theorem dX2_gainOfAll_19 : decode cX2_gainOfAll 19 = .ok (.iload_n 3, 1) := by decide +kernel
theorem dX2_gainOfAll_20 : decode cX2_gainOfAll 20 = .ok (.invokevirtual 137, 3) := by decide +kernel
theorem dX2_gainOfAll_23 : decode cX2_gainOfAll 23 = .ok (.checkcast 98, 3) := by decide +kernel
theorem dX2_gainOfAll_26 : decode cX2_gainOfAll 26 = .ok (.astore 4, 2) := by decide +kernel
theorem dX2_gainOfAll_28 : decode cX2_gainOfAll 28 = .ok (.iload_n 2, 1) := by decide +kernel
theorem dX2_gainOfAll_29 : decode cX2_gainOfAll 29 = .ok (.aload_n 0, 1) := by decide +kernel
theorem dX2_gainOfAll_30 : decode cX2_gainOfAll 30 = .ok (.getfield 12, 3) := by decide +kernel
theorem dX2_gainOfAll_33 : decode cX2_gainOfAll 33 = .ok (.aload 4, 2) := by decide +kernel
theorem dX2_gainOfAll_35 : decode cX2_gainOfAll 35 = .ok (.getfield 232, 3) := by decide +kernel
theorem dX2_gainOfAll_38 : decode cX2_gainOfAll 38 = .ok (.aload 4, 2) := by decide +kernel
theorem dX2_gainOfAll_40 : decode cX2_gainOfAll 40 = .ok (.getfield 235, 3) := by decide +kernel
theorem dX2_gainOfAll_43 : decode cX2_gainOfAll 43 = .ok (.iload_n 1, 1) := by decide +kernel
theorem dX2_gainOfAll_44 : decode cX2_gainOfAll 44 = .ok (.invokevirtual 238, 3) := by decide +kernel
theorem dX2_gainOfAll_47 : decode cX2_gainOfAll 47 = .ok (.ifCond .eq 12, 3) := by decide +kernel
theorem dX2_gainOfAll_50 : decode cX2_gainOfAll 50 = .ok (.aload 4, 2) := by decide +kernel
theorem dX2_gainOfAll_52 : decode cX2_gainOfAll 52 = .ok (.getfield 140, 3) := by decide +kernel
theorem dX2_gainOfAll_55 : decode cX2_gainOfAll 55 = .ok (.ineg, 1) := by decide +kernel
theorem dX2_gainOfAll_56 : decode cX2_gainOfAll 56 = .ok (.goto 8, 3) := by decide +kernel
theorem dX2_gainOfAll_59 : decode cX2_gainOfAll 59 = .ok (.aload 4, 2) := by decide +kernel
theorem dX2_gainOfAll_61 : decode cX2_gainOfAll 61 = .ok (.getfield 121, 3) := by decide +kernel
theorem dX2_gainOfAll_64 : decode cX2_gainOfAll 64 = .ok (.iadd, 1) := by decide +kernel
theorem dX2_gainOfAll_65 : decode cX2_gainOfAll 65 = .ok (.istore_n 2, 1) := by decide +kernel
theorem dX2_gainOfAll_66 : decode cX2_gainOfAll 66 = .ok (.iinc 3 1, 3) := by decide +kernel
theorem dX2_gainOfAll_69 : decode cX2_gainOfAll 69 = .ok (.goto (-65), 3) := by decide +kernel
theorem dX2_gainOfAll_72 : decode cX2_gainOfAll 72 = .ok (.iload_n 2, 1) := by decide +kernel
theorem dX2_gainOfAll_73 : decode cX2_gainOfAll 73 = .ok (.ireturn, 1) := by decide +kernel
theorem dX2_purseBehind_0 : decode cX2_purseBehind 0 = .ok (.aload_n 0, 1) := by decide +kernel
theorem dX2_purseBehind_1 : decode cX2_purseBehind 1 = .ok (.getfield 23, 3) := by decide +kernel
theorem dX2_purseBehind_4 : decode cX2_purseBehind 4 = .ok (.iload_n 1, 1) := by decide +kernel
theorem dX2_purseBehind_5 : decode cX2_purseBehind 5 = .ok (.iaload, 1) := by decide +kernel
theorem dX2_purseBehind_6 : decode cX2_purseBehind 6 = .ok (.istore_n 3, 1) := by decide +kernel
theorem dX2_purseBehind_7 : decode cX2_purseBehind 7 = .ok (.iconst 0, 1) := by decide +kernel
theorem dX2_purseBehind_8 : decode cX2_purseBehind 8 = .ok (.istore 4, 2) := by decide +kernel
theorem dX2_purseBehind_10 : decode cX2_purseBehind 10 = .ok (.iload 4, 2) := by decide +kernel
theorem dX2_purseBehind_12 : decode cX2_purseBehind 12 = .ok (.aload_n 0, 1) := by decide +kernel
theorem dX2_purseBehind_13 : decode cX2_purseBehind 13 = .ok (.getfield 19, 3) := by decide +kernel
theorem dX2_purseBehind_16 : decode cX2_purseBehind 16 = .ok (.invokevirtual 90, 3) := by decide +kernel
theorem dX2_purseBehind_19 : decode cX2_purseBehind 19 = .ok (.if_icmp .ge 67, 3) := by decide +kernel
theorem dX2_purseBehind_22 : decode cX2_purseBehind 22 = .ok (.aload_n 0, 1) := by decide +kernel
theorem dX2_purseBehind_23 : decode cX2_purseBehind 23 = .ok (.getfield 19, 3) := by decide +kernel
theorem dX2_purseBehind_26 : decode cX2_purseBehind 26 = .ok (.iload 4, 2) := by decide +kernel
theorem dX2_purseBehind_28 : decode cX2_purseBehind 28 = .ok (.invokevirtual 137, 3) := by decide +kernel
theorem dX2_purseBehind_31 : decode cX2_purseBehind 31 = .ok (.checkcast 98, 3) := by decide +kernel
theorem dX2_purseBehind_34 : decode cX2_purseBehind 34 = .ok (.astore 5, 2) := by decide +kernel
theorem dX2_purseBehind_36 : decode cX2_purseBehind 36 = .ok (.aload 5, 2) := by decide +kernel
theorem dX2_purseBehind_38 : decode cX2_purseBehind 38 = .ok (.getfield 118, 3) := by decide +kernel
theorem dX2_purseBehind_41 : decode cX2_purseBehind 41 = .ok (.iload_n 1, 1) := by decide +kernel
theorem dX2_purseBehind_42 : decode cX2_purseBehind 42 = .ok (.if_icmp .ne 38, 3) := by decide +kernel
theorem dX2_purseBehind_45 : decode cX2_purseBehind 45 = .ok (.aload_n 0, 1) := by decide +kernel
theorem dX2_purseBehind_46 : decode cX2_purseBehind 46 = .ok (.getfield 12, 3) := by decide +kernel
theorem dX2_purseBehind_49 : decode cX2_purseBehind 49 = .ok (.aload 5, 2) := by decide +kernel
theorem dX2_purseBehind_51 : decode cX2_purseBehind 51 = .ok (.getfield 232, 3) := by decide +kernel
theorem dX2_purseBehind_54 : decode cX2_purseBehind 54 = .ok (.aload 5, 2) := by decide +kernel
theorem dX2_purseBehind_56 : decode cX2_purseBehind 56 = .ok (.getfield 235, 3) := by decide +kernel
theorem dX2_purseBehind_59 : decode cX2_purseBehind 59 = .ok (.iload_n 2, 1) := by decide +kernel
theorem dX2_purseBehind_60 : decode cX2_purseBehind 60 = .ok (.invokevirtual 238, 3) := by decide +kernel
theorem dX2_purseBehind_63 : decode cX2_purseBehind 63 = .ok (.ifCond .eq 17, 3) := by decide +kernel
theorem dX2_purseBehind_66 : decode cX2_purseBehind 66 = .ok (.iload_n 3, 1) := by decide +kernel
theorem dX2_purseBehind_67 : decode cX2_purseBehind 67 = .ok (.aload 5, 2) := by decide +kernel
theorem dX2_purseBehind_69 : decode cX2_purseBehind 69 = .ok (.getfield 121, 3) := by decide +kernel
theorem dX2_purseBehind_72 : decode cX2_purseBehind 72 = .ok (.aload 5, 2) := by decide +kernel
theorem dX2_purseBehind_74 : decode cX2_purseBehind 74 = .ok (.getfield 140, 3) := by decide +kernel
theorem dX2_purseBehind_77 : decode cX2_purseBehind 77 = .ok (.iadd, 1) := by decide +kernel
theorem dX2_purseBehind_78 : decode cX2_purseBehind 78 = .ok (.iadd, 1) := by decide +kernel
theorem dX2_purseBehind_79 : decode cX2_purseBehind 79 = .ok (.istore_n 3, 1) := by decide +kernel
theorem dX2_purseBehind_80 : decode cX2_purseBehind 80 = .ok (.iinc 4 1, 3) := by decide +kernel
theorem dX2_purseBehind_83 : decode cX2_purseBehind 83 = .ok (.goto (-73), 3) := by decide +kernel
theorem dX2_purseBehind_86 : decode cX2_purseBehind 86 = .ok (.iload_n 3, 1) := by decide +kernel
theorem dX2_purseBehind_87 : decode cX2_purseBehind 87 = .ok (.ireturn, 1) := by decide +kernel
theorem dX2_gainOverOutcomes_0 : decode cX2_gainOverOutcomes 0 = .ok (.aload_n 0, 1) := by decide +kernel
theorem dX2_gainOverOutcomes_1 : decode cX2_gainOverOutcomes 1 = .ok (.getfield 12, 3) := by decide +kernel
theorem dX2_gainOverOutcomes_4 : decode cX2_gainOverOutcomes 4 = .ok (.aload_n 1, 1) := by decide +kernel
theorem dX2_gainOverOutcomes_5 : decode cX2_gainOverOutcomes 5 = .ok (.getfield 121, 3) := by decide +kernel
theorem dX2_gainOverOutcomes_8 : decode cX2_gainOverOutcomes 8 = .ok (.aload_n 1, 1) := by decide +kernel
theorem dX2_gainOverOutcomes_9 : decode cX2_gainOverOutcomes 9 = .ok (.getfield 140, 3) := by decide +kernel
theorem dX2_gainOverOutcomes_12 : decode cX2_gainOverOutcomes 12 = .ok (.aload_n 1, 1) := by decide +kernel
theorem dX2_gainOverOutcomes_13 : decode cX2_gainOverOutcomes 13 = .ok (.getfield 242, 3) := by decide +kernel
theorem dX2_gainOverOutcomes_16 : decode cX2_gainOverOutcomes 16 = .ok (.invokevirtual 164, 3) := by decide +kernel
theorem dX2_gainOverOutcomes_19 : decode cX2_gainOverOutcomes 19 = .ok (.ireturn, 1) := by decide +kernel
theorem dX2_gainOfAllOverOutcomes_0 : decode cX2_gainOfAllOverOutcomes 0 = .ok (.iconst 0, 1) := by decide +kernel
theorem dX2_gainOfAllOverOutcomes_1 : decode cX2_gainOfAllOverOutcomes 1 = .ok (.istore_n 1, 1) := by decide +kernel
theorem dX2_gainOfAllOverOutcomes_2 : decode cX2_gainOfAllOverOutcomes 2 = .ok (.iconst 0, 1) := by decide +kernel
theorem dX2_gainOfAllOverOutcomes_3 : decode cX2_gainOfAllOverOutcomes 3 = .ok (.istore_n 2, 1) := by decide +kernel
theorem dX2_gainOfAllOverOutcomes_4 : decode cX2_gainOfAllOverOutcomes 4 = .ok (.iload_n 2, 1) := by decide +kernel
theorem dX2_gainOfAllOverOutcomes_5 : decode cX2_gainOfAllOverOutcomes 5 = .ok (.aload_n 0, 1) := by decide +kernel
theorem dX2_gainOfAllOverOutcomes_6 : decode cX2_gainOfAllOverOutcomes 6 = .ok (.getfield 19, 3) := by decide +kernel
theorem dX2_gainOfAllOverOutcomes_9 : decode cX2_gainOfAllOverOutcomes 9 = .ok (.invokevirtual 90, 3) := by decide +kernel
theorem dX2_gainOfAllOverOutcomes_12 : decode cX2_gainOfAllOverOutcomes 12 = .ok (.if_icmp .ge 27, 3) := by decide +kernel
theorem dX2_gainOfAllOverOutcomes_15 : decode cX2_gainOfAllOverOutcomes 15 = .ok (.iload_n 1, 1) := by decide +kernel
theorem dX2_gainOfAllOverOutcomes_16 : decode cX2_gainOfAllOverOutcomes 16 = .ok (.aload_n 0, 1) := by decide +kernel
theorem dX2_gainOfAllOverOutcomes_17 : decode cX2_gainOfAllOverOutcomes 17 = .ok (.aload_n 0, 1) := by decide +kernel
theorem dX2_gainOfAllOverOutcomes_18 : decode cX2_gainOfAllOverOutcomes 18 = .ok (.getfield 19, 3) := by decide +kernel
theorem dX2_gainOfAllOverOutcomes_21 : decode cX2_gainOfAllOverOutcomes 21 = .ok (.iload_n 2, 1) := by decide +kernel
theorem dX2_gainOfAllOverOutcomes_22 : decode cX2_gainOfAllOverOutcomes 22 = .ok (.invokevirtual 137, 3) := by decide +kernel
theorem dX2_gainOfAllOverOutcomes_25 : decode cX2_gainOfAllOverOutcomes 25 = .ok (.checkcast 98, 3) := by decide +kernel
theorem dX2_gainOfAllOverOutcomes_28 : decode cX2_gainOfAllOverOutcomes 28 = .ok (.invokevirtual 143, 3) := by decide +kernel
theorem dX2_gainOfAllOverOutcomes_31 : decode cX2_gainOfAllOverOutcomes 31 = .ok (.iadd, 1) := by decide +kernel
theorem dX2_gainOfAllOverOutcomes_32 : decode cX2_gainOfAllOverOutcomes 32 = .ok (.istore_n 1, 1) := by decide +kernel
theorem dX2_gainOfAllOverOutcomes_33 : decode cX2_gainOfAllOverOutcomes 33 = .ok (.iinc 2 1, 3) := by decide +kernel
theorem dX2_gainOfAllOverOutcomes_36 : decode cX2_gainOfAllOverOutcomes 36 = .ok (.goto (-32), 3) := by decide +kernel
theorem dX2_gainOfAllOverOutcomes_39 : decode cX2_gainOfAllOverOutcomes 39 = .ok (.iload_n 1, 1) := by decide +kernel
theorem dX2_gainOfAllOverOutcomes_40 : decode cX2_gainOfAllOverOutcomes 40 = .ok (.ireturn, 1) := by decide +kernel
theorem dX2_lowestTop_0 : decode cX2_lowestTop 0 = .ok (.iload_n 1, 1) := by decide +kernel
theorem dX2_lowestTop_1 : decode cX2_lowestTop 1 = .ok (.iload_n 1, 1) := by decide +kernel
theorem dX2_lowestTop_2 : decode cX2_lowestTop 2 = .ok (.aload_n 0, 1) := by decide +kernel
theorem dX2_lowestTop_3 : decode cX2_lowestTop 3 = .ok (.getfield 12, 3) := by decide +kernel
theorem dX2_lowestTop_6 : decode cX2_lowestTop 6 = .ok (.getfield 58, 3) := by decide +kernel
theorem dX2_lowestTop_9 : decode cX2_lowestTop 9 = .ok (.invokestatic 245, 3) := by decide +kernel
theorem dX2_lowestTop_12 : decode cX2_lowestTop 12 = .ok (.idiv, 1) := by decide +kernel
theorem dX2_lowestTop_13 : decode cX2_lowestTop 13 = .ok (.ireturn, 1) := by decide +kernel
theorem dX2_lowestBottom_0 : decode cX2_lowestBottom 0 = .ok (.aload_n 0, 1) := by decide +kernel
theorem dX2_lowestBottom_1 : decode cX2_lowestBottom 1 = .ok (.getfield 12, 3) := by decide +kernel
theorem dX2_lowestBottom_4 : decode cX2_lowestBottom 4 = .ok (.getfield 58, 3) := by decide +kernel
theorem dX2_lowestBottom_7 : decode cX2_lowestBottom 7 = .ok (.iload_n 1, 1) := by decide +kernel
theorem dX2_lowestBottom_8 : decode cX2_lowestBottom 8 = .ok (.aload_n 0, 1) := by decide +kernel
theorem dX2_lowestBottom_9 : decode cX2_lowestBottom 9 = .ok (.getfield 12, 3) := by decide +kernel
theorem dX2_lowestBottom_12 : decode cX2_lowestBottom 12 = .ok (.getfield 58, 3) := by decide +kernel
theorem dX2_lowestBottom_15 : decode cX2_lowestBottom 15 = .ok (.invokestatic 245, 3) := by decide +kernel
theorem dX2_lowestBottom_18 : decode cX2_lowestBottom 18 = .ok (.idiv, 1) := by decide +kernel
end
section
theorem dX2_lowestBottom_19 : decode cX2_lowestBottom 19 = .ok (.ireturn, 1) := by decide +kernel
theorem dX2_commonDivisor_0 : decode cX2_commonDivisor 0 = .ok (.iload_n 0, 1) := by decide +kernel
theorem dX2_commonDivisor_1 : decode cX2_commonDivisor 1 = .ok (.invokestatic 248, 3) := by decide +kernel
theorem dX2_commonDivisor_4 : decode cX2_commonDivisor 4 = .ok (.istore_n 2, 1) := by decide +kernel
theorem dX2_commonDivisor_5 : decode cX2_commonDivisor 5 = .ok (.iload_n 1, 1) := by decide +kernel
theorem dX2_commonDivisor_6 : decode cX2_commonDivisor 6 = .ok (.istore_n 3, 1) := by decide +kernel
theorem dX2_commonDivisor_7 : decode cX2_commonDivisor 7 = .ok (.iconst 0, 1) := by decide +kernel
theorem dX2_commonDivisor_8 : decode cX2_commonDivisor 8 = .ok (.istore 4, 2) := by decide +kernel
theorem dX2_commonDivisor_10 : decode cX2_commonDivisor 10 = .ok (.iload_n 3, 1) := by decide +kernel
theorem dX2_commonDivisor_11 : decode cX2_commonDivisor 11 = .ok (.ifCond .eq 26, 3) := by decide +kernel
theorem dX2_commonDivisor_14 : decode cX2_commonDivisor 14 = .ok (.iload 4, 2) := by decide +kernel
theorem dX2_commonDivisor_16 : decode cX2_commonDivisor 16 = .ok (.bipush 64, 2) := by decide +kernel
theorem dX2_commonDivisor_18 : decode cX2_commonDivisor 18 = .ok (.if_icmp .ge 19, 3) := by decide +kernel
theorem dX2_commonDivisor_21 : decode cX2_commonDivisor 21 = .ok (.iload_n 2, 1) := by decide +kernel
theorem dX2_commonDivisor_22 : decode cX2_commonDivisor 22 = .ok (.iload_n 3, 1) := by decide +kernel
theorem dX2_commonDivisor_23 : decode cX2_commonDivisor 23 = .ok (.irem, 1) := by decide +kernel
theorem dX2_commonDivisor_24 : decode cX2_commonDivisor 24 = .ok (.istore 5, 2) := by decide +kernel
theorem dX2_commonDivisor_26 : decode cX2_commonDivisor 26 = .ok (.iload_n 3, 1) := by decide +kernel
theorem dX2_commonDivisor_27 : decode cX2_commonDivisor 27 = .ok (.istore_n 2, 1) := by decide +kernel
theorem dX2_commonDivisor_28 : decode cX2_commonDivisor 28 = .ok (.iload 5, 2) := by decide +kernel
theorem dX2_commonDivisor_30 : decode cX2_commonDivisor 30 = .ok (.istore_n 3, 1) := by decide +kernel
theorem dX2_commonDivisor_31 : decode cX2_commonDivisor 31 = .ok (.iinc 4 1, 3) := by decide +kernel
theorem dX2_commonDivisor_34 : decode cX2_commonDivisor 34 = .ok (.goto (-24), 3) := by decide +kernel
theorem dX2_commonDivisor_37 : decode cX2_commonDivisor 37 = .ok (.iload_n 2, 1) := by decide +kernel
theorem dX2_commonDivisor_38 : decode cX2_commonDivisor 38 = .ok (.iconst 1, 1) := by decide +kernel
theorem dX2_commonDivisor_39 : decode cX2_commonDivisor 39 = .ok (.invokestatic 251, 3) := by decide +kernel
theorem dX2_commonDivisor_42 : decode cX2_commonDivisor 42 = .ok (.ireturn, 1) := by decide +kernel
theorem dX2_broughtBy_0 : decode cX2_broughtBy 0 = .ok (.iload_n 2, 1) := by decide +kernel
theorem dX2_broughtBy_1 : decode cX2_broughtBy 1 = .ok (.iconst 1, 1) := by decide +kernel
theorem dX2_broughtBy_2 : decode cX2_broughtBy 2 = .ok (.if_icmp .ge 7, 3) := by decide +kernel
theorem dX2_broughtBy_5 : decode cX2_broughtBy 5 = .ok (.iconst 0, 1) := by decide +kernel
theorem dX2_broughtBy_6 : decode cX2_broughtBy 6 = .ok (.goto 8, 3) := by decide +kernel
theorem dX2_broughtBy_9 : decode cX2_broughtBy 9 = .ok (.iload_n 0, 1) := by decide +kernel
theorem dX2_broughtBy_10 : decode cX2_broughtBy 10 = .ok (.iload_n 1, 1) := by decide +kernel
theorem dX2_broughtBy_11 : decode cX2_broughtBy 11 = .ok (.imul, 1) := by decide +kernel
theorem dX2_broughtBy_12 : decode cX2_broughtBy 12 = .ok (.iload_n 2, 1) := by decide +kernel
theorem dX2_broughtBy_13 : decode cX2_broughtBy 13 = .ok (.idiv, 1) := by decide +kernel
theorem dX2_broughtBy_14 : decode cX2_broughtBy 14 = .ok (.ireturn, 1) := by decide +kernel
theorem dX2_isDie_0 : decode cX2_isDie 0 = .ok (.iload_n 0, 1) := by decide +kernel
theorem dX2_isDie_1 : decode cX2_isDie 1 = .ok (.iconst 2, 1) := by decide +kernel
theorem dX2_isDie_2 : decode cX2_isDie 2 = .ok (.if_icmp .lt 13, 3) := by decide +kernel
theorem dX2_isDie_5 : decode cX2_isDie 5 = .ok (.iload_n 0, 1) := by decide +kernel
theorem dX2_isDie_6 : decode cX2_isDie 6 = .ok (.bipush 12, 2) := by decide +kernel
theorem dX2_isDie_8 : decode cX2_isDie 8 = .ok (.if_icmp .gt 7, 3) := by decide +kernel
theorem dX2_isDie_11 : decode cX2_isDie 11 = .ok (.iconst 1, 1) := by decide +kernel
theorem dX2_isDie_12 : decode cX2_isDie 12 = .ok (.goto 4, 3) := by decide +kernel
theorem dX2_isDie_15 : decode cX2_isDie 15 = .ok (.iconst 0, 1) := by decide +kernel
theorem dX2_isDie_16 : decode cX2_isDie 16 = .ok (.ireturn, 1) := by decide +kernel
theorem dX2_isDieOrNone_0 : decode cX2_isDieOrNone 0 = .ok (.iload_n 0, 1) := by decide +kernel
theorem dX2_isDieOrNone_1 : decode cX2_isDieOrNone 1 = .ok (.ifCond .eq 10, 3) := by decide +kernel
theorem dX2_isDieOrNone_4 : decode cX2_isDieOrNone 4 = .ok (.iload_n 0, 1) := by decide +kernel
theorem dX2_isDieOrNone_5 : decode cX2_isDieOrNone 5 = .ok (.invokestatic 31, 3) := by decide +kernel
theorem dX2_isDieOrNone_8 : decode cX2_isDieOrNone 8 = .ok (.ifCond .eq 7, 3) := by decide +kernel
theorem dX2_isDieOrNone_11 : decode cX2_isDieOrNone 11 = .ok (.iconst 1, 1) := by decide +kernel
theorem dX2_isDieOrNone_12 : decode cX2_isDieOrNone 12 = .ok (.goto 4, 3) := by decide +kernel
theorem dX2_isDieOrNone_15 : decode cX2_isDieOrNone 15 = .ok (.iconst 0, 1) := by decide +kernel
theorem dX2_isDieOrNone_16 : decode cX2_isDieOrNone 16 = .ok (.ireturn, 1) := by decide +kernel
theorem dX2_checkOutcome_0 : decode cX2_checkOutcome 0 = .ok (.iload_n 1, 1) := by decide +kernel
theorem dX2_checkOutcome_1 : decode cX2_checkOutcome 1 = .ok (.ifCond .lt 14, 3) := by decide +kernel
theorem dX2_checkOutcome_4 : decode cX2_checkOutcome 4 = .ok (.iload_n 1, 1) := by decide +kernel
theorem dX2_checkOutcome_5 : decode cX2_checkOutcome 5 = .ok (.aload_n 0, 1) := by decide +kernel
theorem dX2_checkOutcome_6 : decode cX2_checkOutcome 6 = .ok (.getfield 12, 3) := by decide +kernel
theorem dX2_checkOutcome_9 : decode cX2_checkOutcome 9 = .ok (.getfield 58, 3) := by decide +kernel
theorem dX2_checkOutcome_12 : decode cX2_checkOutcome 12 = .ok (.if_icmp .lt 14, 3) := by decide +kernel
theorem dX2_checkOutcome_15 : decode cX2_checkOutcome 15 = .ok (.new 254, 3) := by decide +kernel
theorem dX2_checkOutcome_18 : decode cX2_checkOutcome 18 = .ok (.dup, 1) := by decide +kernel
theorem dX2_checkOutcome_19 : decode cX2_checkOutcome 19 = .ok (.ldc_w 256, 3) := by decide +kernel
theorem dX2_checkOutcome_22 : decode cX2_checkOutcome 22 = .ok (.invokespecial 258, 3) := by decide +kernel
theorem dX2_checkOutcome_25 : decode cX2_checkOutcome 25 = .ok (.athrow, 1) := by decide +kernel
theorem dX2_checkOutcome_26 : decode cX2_checkOutcome 26 = .ok (.return_, 1) := by decide +kernel
theorem dX2_checkWager_0 : decode cX2_checkWager 0 = .ok (.iload_n 1, 1) := by decide +kernel
theorem dX2_checkWager_1 : decode cX2_checkWager 1 = .ok (.ifCond .lt 14, 3) := by decide +kernel
theorem dX2_checkWager_4 : decode cX2_checkWager 4 = .ok (.iload_n 1, 1) := by decide +kernel
theorem dX2_checkWager_5 : decode cX2_checkWager 5 = .ok (.aload_n 0, 1) := by decide +kernel
theorem dX2_checkWager_6 : decode cX2_checkWager 6 = .ok (.getfield 19, 3) := by decide +kernel
theorem dX2_checkWager_9 : decode cX2_checkWager 9 = .ok (.invokevirtual 90, 3) := by decide +kernel
theorem dX2_checkWager_12 : decode cX2_checkWager 12 = .ok (.if_icmp .lt 14, 3) := by decide +kernel
theorem dX2_checkWager_15 : decode cX2_checkWager 15 = .ok (.new 254, 3) := by decide +kernel
theorem dX2_checkWager_18 : decode cX2_checkWager 18 = .ok (.dup, 1) := by decide +kernel
theorem dX2_checkWager_19 : decode cX2_checkWager 19 = .ok (.ldc_w 259, 3) := by decide +kernel
theorem dX2_checkWager_22 : decode cX2_checkWager 22 = .ok (.invokespecial 258, 3) := by decide +kernel
theorem dX2_checkWager_25 : decode cX2_checkWager 25 = .ok (.athrow, 1) := by decide +kernel
theorem dX2_checkWager_26 : decode cX2_checkWager 26 = .ok (.return_, 1) := by decide +kernel
theorem dX2_checkPatron_0 : decode cX2_checkPatron 0 = .ok (.iload_n 0, 1) := by decide +kernel
theorem dX2_checkPatron_1 : decode cX2_checkPatron 1 = .ok (.ifCond .lt 9, 3) := by decide +kernel
theorem dX2_checkPatron_4 : decode cX2_checkPatron 4 = .ok (.iload_n 0, 1) := by decide +kernel
theorem dX2_checkPatron_5 : decode cX2_checkPatron 5 = .ok (.bipush 6, 2) := by decide +kernel
theorem dX2_checkPatron_7 : decode cX2_checkPatron 7 = .ok (.if_icmp .lt 14, 3) := by decide +kernel
theorem dX2_checkPatron_10 : decode cX2_checkPatron 10 = .ok (.new 254, 3) := by decide +kernel
theorem dX2_checkPatron_13 : decode cX2_checkPatron 13 = .ok (.dup, 1) := by decide +kernel
theorem dX2_checkPatron_14 : decode cX2_checkPatron 14 = .ok (.ldc_w 261, 3) := by decide +kernel
theorem dX2_checkPatron_17 : decode cX2_checkPatron 17 = .ok (.invokespecial 258, 3) := by decide +kernel
theorem dX2_checkPatron_20 : decode cX2_checkPatron 20 = .ok (.athrow, 1) := by decide +kernel
theorem dX2_checkPatron_21 : decode cX2_checkPatron 21 = .ok (.return_, 1) := by decide +kernel
theorem dX2_checkEvent_0 : decode cX2_checkEvent 0 = .ok (.iload_n 0, 1) := by decide +kernel
theorem dX2_checkEvent_1 : decode cX2_checkEvent 1 = .ok (.ifCond .lt 19, 3) := by decide +kernel
theorem dX2_checkEvent_4 : decode cX2_checkEvent 4 = .ok (.iload_n 0, 1) := by decide +kernel
theorem dX2_checkEvent_5 : decode cX2_checkEvent 5 = .ok (.bipush 10, 2) := by decide +kernel
theorem dX2_checkEvent_7 : decode cX2_checkEvent 7 = .ok (.if_icmp .ge 13, 3) := by decide +kernel
theorem dX2_checkEvent_10 : decode cX2_checkEvent 10 = .ok (.iload_n 1, 1) := by decide +kernel
theorem dX2_checkEvent_11 : decode cX2_checkEvent 11 = .ok (.ifCond .lt 9, 3) := by decide +kernel
theorem dX2_checkEvent_14 : decode cX2_checkEvent 14 = .ok (.iload_n 1, 1) := by decide +kernel
theorem dX2_checkEvent_15 : decode cX2_checkEvent 15 = .ok (.bipush 36, 2) := by decide +kernel
theorem dX2_checkEvent_17 : decode cX2_checkEvent 17 = .ok (.if_icmp .le 14, 3) := by decide +kernel
theorem dX2_checkEvent_20 : decode cX2_checkEvent 20 = .ok (.new 38, 3) := by decide +kernel
theorem dX2_checkEvent_23 : decode cX2_checkEvent 23 = .ok (.dup, 1) := by decide +kernel
theorem dX2_checkEvent_24 : decode cX2_checkEvent 24 = .ok (.ldc_w 263, 3) := by decide +kernel
theorem dX2_checkEvent_27 : decode cX2_checkEvent 27 = .ok (.invokespecial 42, 3) := by decide +kernel
theorem dX2_checkEvent_30 : decode cX2_checkEvent 30 = .ok (.athrow, 1) := by decide +kernel
theorem dX2_checkEvent_31 : decode cX2_checkEvent 31 = .ok (.return_, 1) := by decide +kernel
theorem dX2_checkWin_0 : decode cX2_checkWin 0 = .ok (.iload_n 0, 1) := by decide +kernel
theorem dX2_checkWin_1 : decode cX2_checkWin 1 = .ok (.iconst 1, 1) := by decide +kernel
theorem dX2_checkWin_2 : decode cX2_checkWin 2 = .ok (.if_icmp .lt 9, 3) := by decide +kernel
theorem dX2_checkWin_5 : decode cX2_checkWin 5 = .ok (.iload_n 0, 1) := by decide +kernel
theorem dX2_checkWin_6 : decode cX2_checkWin 6 = .ok (.bipush 20, 2) := by decide +kernel
theorem dX2_checkWin_8 : decode cX2_checkWin 8 = .ok (.if_icmp .le 14, 3) := by decide +kernel
theorem dX2_checkWin_11 : decode cX2_checkWin 11 = .ok (.new 38, 3) := by decide +kernel
theorem dX2_checkWin_14 : decode cX2_checkWin 14 = .ok (.dup, 1) := by decide +kernel
theorem dX2_checkWin_15 : decode cX2_checkWin 15 = .ok (.ldc_w 265, 3) := by decide +kernel
theorem dX2_checkWin_18 : decode cX2_checkWin 18 = .ok (.invokespecial 42, 3) := by decide +kernel
theorem dX2_checkWin_21 : decode cX2_checkWin 21 = .ok (.athrow, 1) := by decide +kernel
theorem dX2_checkWin_22 : decode cX2_checkWin 22 = .ok (.return_, 1) := by decide +kernel
theorem dX2_checkBase_0 : decode cX2_checkBase 0 = .ok (.iload_n 0, 1) := by decide +kernel
theorem dX2_checkBase_1 : decode cX2_checkBase 1 = .ok (.iconst 1, 1) := by decide +kernel
theorem dX2_checkBase_2 : decode cX2_checkBase 2 = .ok (.if_icmp .lt 9, 3) := by decide +kernel
theorem dX2_checkBase_5 : decode cX2_checkBase 5 = .ok (.iload_n 0, 1) := by decide +kernel
theorem dX2_checkBase_6 : decode cX2_checkBase 6 = .ok (.bipush 10, 2) := by decide +kernel
theorem dX2_checkBase_8 : decode cX2_checkBase 8 = .ok (.if_icmp .le 14, 3) := by decide +kernel
theorem dX2_checkBase_11 : decode cX2_checkBase 11 = .ok (.new 38, 3) := by decide +kernel
theorem dX2_checkBase_14 : decode cX2_checkBase 14 = .ok (.dup, 1) := by decide +kernel
theorem dX2_checkBase_15 : decode cX2_checkBase 15 = .ok (.ldc_w 267, 3) := by decide +kernel
theorem dX2_checkBase_18 : decode cX2_checkBase 18 = .ok (.invokespecial 42, 3) := by decide +kernel
theorem dX2_checkBase_21 : decode cX2_checkBase 21 = .ok (.athrow, 1) := by decide +kernel
theorem dX2_checkBase_22 : decode cX2_checkBase 22 = .ok (.return_, 1) := by decide +kernel
theorem dX3_init_0 : decode cX3_init 0 = .ok (.aload_n 0, 1) := by decide +kernel
theorem dX3_init_1 : decode cX3_init 1 = .ok (.invokespecial 3, 3) := by decide +kernel
theorem dX3_init_4 : decode cX3_init 4 = .ok (.aload_n 0, 1) := by decide +kernel
theorem dX3_init_5 : decode cX3_init 5 = .ok (.iconst 3, 1) := by decide +kernel
theorem dX3_init_6 : decode cX3_init 6 = .ok (.newarray .int, 2) := by decide +kernel
theorem dX3_init_8 : decode cX3_init 8 = .ok (.dup, 1) := by decide +kernel
theorem dX3_init_9 : decode cX3_init 9 = .ok (.iconst 0, 1) := by decide +kernel
theorem dX3_init_10 : decode cX3_init 10 = .ok (.bipush 6, 2) := by decide +kernel
theorem dX3_init_12 : decode cX3_init 12 = .ok (.iastore, 1) := by decide +kernel
theorem dX3_init_13 : decode cX3_init 13 = .ok (.dup, 1) := by decide +kernel
theorem dX3_init_14 : decode cX3_init 14 = .ok (.iconst 1, 1) := by decide +kernel
theorem dX3_init_15 : decode cX3_init 15 = .ok (.bipush 6, 2) := by decide +kernel
theorem dX3_init_17 : decode cX3_init 17 = .ok (.iastore, 1) := by decide +kernel
theorem dX3_init_18 : decode cX3_init 18 = .ok (.dup, 1) := by decide +kernel
theorem dX3_init_19 : decode cX3_init 19 = .ok (.iconst 2, 1) := by decide +kernel
theorem dX3_init_20 : decode cX3_init 20 = .ok (.iconst 1, 1) := by decide +kernel
theorem dX3_init_21 : decode cX3_init 21 = .ok (.iastore, 1) := by decide +kernel
theorem dX3_init_22 : decode cX3_init 22 = .ok (.putfield 9, 3) := by decide +kernel
theorem dX3_init_25 : decode cX3_init 25 = .ok (.aload_n 0, 1) := by decide +kernel
theorem dX3_init_26 : decode cX3_init 26 = .ok (.iconst 2, 1) := by decide +kernel
theorem dX3_init_27 : decode cX3_init 27 = .ok (.putfield 13, 3) := by decide +kernel
theorem dX3_init_30 : decode cX3_init 30 = .ok (.aload_n 0, 1) := by decide +kernel
theorem dX3_init_31 : decode cX3_init 31 = .ok (.bipush 36, 2) := by decide +kernel
theorem dX3_init_33 : decode cX3_init 33 = .ok (.putfield 17, 3) := by decide +kernel
theorem dX3_init_36 : decode cX3_init 36 = .ok (.aload_n 0, 1) := by decide +kernel
theorem dX3_init_37 : decode cX3_init 37 = .ok (.bipush 6, 2) := by decide +kernel
theorem dX3_init_39 : decode cX3_init 39 = .ok (.newarray .int, 2) := by decide +kernel
theorem dX3_init_41 : decode cX3_init 41 = .ok (.dup, 1) := by decide +kernel
theorem dX3_init_42 : decode cX3_init 42 = .ok (.iconst 0, 1) := by decide +kernel
theorem dX3_init_43 : decode cX3_init 43 = .ok (.bipush 100, 2) := by decide +kernel
theorem dX3_init_45 : decode cX3_init 45 = .ok (.iastore, 1) := by decide +kernel
theorem dX3_init_46 : decode cX3_init 46 = .ok (.dup, 1) := by decide +kernel
theorem dX3_init_47 : decode cX3_init 47 = .ok (.iconst 1, 1) := by decide +kernel
theorem dX3_init_48 : decode cX3_init 48 = .ok (.bipush 100, 2) := by decide +kernel
theorem dX3_init_50 : decode cX3_init 50 = .ok (.iastore, 1) := by decide +kernel
theorem dX3_init_51 : decode cX3_init 51 = .ok (.dup, 1) := by decide +kernel
theorem dX3_init_52 : decode cX3_init 52 = .ok (.iconst 2, 1) := by decide +kernel
theorem dX3_init_53 : decode cX3_init 53 = .ok (.bipush 100, 2) := by decide +kernel
theorem dX3_init_55 : decode cX3_init 55 = .ok (.iastore, 1) := by decide +kernel
theorem dX3_init_56 : decode cX3_init 56 = .ok (.dup, 1) := by decide +kernel
theorem dX3_init_57 : decode cX3_init 57 = .ok (.iconst 3, 1) := by decide +kernel
theorem dX3_init_58 : decode cX3_init 58 = .ok (.bipush 100, 2) := by decide +kernel
theorem dX3_init_60 : decode cX3_init 60 = .ok (.iastore, 1) := by decide +kernel
theorem dX3_init_61 : decode cX3_init 61 = .ok (.dup, 1) := by decide +kernel
theorem dX3_init_62 : decode cX3_init 62 = .ok (.iconst 4, 1) := by decide +kernel
theorem dX3_init_63 : decode cX3_init 63 = .ok (.bipush 100, 2) := by decide +kernel
theorem dX3_init_65 : decode cX3_init 65 = .ok (.iastore, 1) := by decide +kernel
theorem dX3_init_66 : decode cX3_init 66 = .ok (.dup, 1) := by decide +kernel
theorem dX3_init_67 : decode cX3_init 67 = .ok (.iconst 5, 1) := by decide +kernel
theorem dX3_init_68 : decode cX3_init 68 = .ok (.bipush 100, 2) := by decide +kernel
theorem dX3_init_70 : decode cX3_init 70 = .ok (.iastore, 1) := by decide +kernel
theorem dX3_init_71 : decode cX3_init 71 = .ok (.putfield 20, 3) := by decide +kernel
theorem dX3_init_74 : decode cX3_init 74 = .ok (.aload_n 0, 1) := by decide +kernel
theorem dX3_init_75 : decode cX3_init 75 = .ok (.sipush 500, 3) := by decide +kernel
theorem dX3_init_78 : decode cX3_init 78 = .ok (.putfield 23, 3) := by decide +kernel
theorem dX3_init_81 : decode cX3_init 81 = .ok (.aload_n 0, 1) := by decide +kernel
theorem dX3_init_82 : decode cX3_init 82 = .ok (.bipush 12, 2) := by decide +kernel
theorem dX3_init_84 : decode cX3_init 84 = .ok (.newarray .int, 2) := by decide +kernel
theorem dX3_init_86 : decode cX3_init 86 = .ok (.putfield 26, 3) := by decide +kernel
theorem dX3_init_89 : decode cX3_init 89 = .ok (.aload_n 0, 1) := by decide +kernel
theorem dX3_init_90 : decode cX3_init 90 = .ok (.bipush 12, 2) := by decide +kernel
theorem dX3_init_92 : decode cX3_init 92 = .ok (.newarray .int, 2) := by decide +kernel
theorem dX3_init_94 : decode cX3_init 94 = .ok (.putfield 29, 3) := by decide +kernel
theorem dX3_init_97 : decode cX3_init 97 = .ok (.aload_n 0, 1) := by decide +kernel
theorem dX3_init_98 : decode cX3_init 98 = .ok (.bipush 12, 2) := by decide +kernel
theorem dX3_init_100 : decode cX3_init 100 = .ok (.newarray .int, 2) := by decide +kernel
theorem dX3_init_102 : decode cX3_init 102 = .ok (.putfield 32, 3) := by decide +kernel
theorem dX3_init_105 : decode cX3_init 105 = .ok (.aload_n 0, 1) := by decide +kernel
theorem dX3_init_106 : decode cX3_init 106 = .ok (.bipush 12, 2) := by decide +kernel
theorem dX3_init_108 : decode cX3_init 108 = .ok (.newarray .int, 2) := by decide +kernel
theorem dX3_init_110 : decode cX3_init 110 = .ok (.putfield 35, 3) := by decide +kernel
theorem dX3_init_113 : decode cX3_init 113 = .ok (.aload_n 0, 1) := by decide +kernel
theorem dX3_init_114 : decode cX3_init 114 = .ok (.bipush 12, 2) := by decide +kernel
theorem dX3_init_116 : decode cX3_init 116 = .ok (.newarray .int, 2) := by decide +kernel
theorem dX3_init_118 : decode cX3_init 118 = .ok (.putfield 38, 3) := by decide +kernel
theorem dX3_init_121 : decode cX3_init 121 = .ok (.aload_n 0, 1) := by decide +kernel
theorem dX3_init_122 : decode cX3_init 122 = .ok (.sipush 20736, 3) := by decide +kernel
theorem dX3_init_125 : decode cX3_init 125 = .ok (.newarray .boolean, 2) := by decide +kernel
theorem dX3_init_127 : decode cX3_init 127 = .ok (.putfield 41, 3) := by decide +kernel
theorem dX3_init_130 : decode cX3_init 130 = .ok (.aload_n 0, 1) := by decide +kernel
theorem dX3_init_131 : decode cX3_init 131 = .ok (.bipush 37, 2) := by decide +kernel
theorem dX3_init_133 : decode cX3_init 133 = .ok (.newarray .int, 2) := by decide +kernel
theorem dX3_init_135 : decode cX3_init 135 = .ok (.putfield 45, 3) := by decide +kernel
theorem dX3_init_138 : decode cX3_init 138 = .ok (.return_, 1) := by decide +kernel
theorem dX3_thrown_0 : decode cX3_thrown 0 = .ok (.aload_n 0, 1) := by decide +kernel
theorem dX3_thrown_1 : decode cX3_thrown 1 = .ok (.getfield 48, 3) := by decide +kernel
theorem dX3_thrown_4 : decode cX3_thrown 4 = .ok (.ireturn, 1) := by decide +kernel
theorem dX3_no_0 : decode cX3_no 0 = .ok (.aload_n 0, 1) := by decide +kernel
theorem dX3_no_1 : decode cX3_no 1 = .ok (.iload_n 1, 1) := by decide +kernel
theorem dX3_no_2 : decode cX3_no 2 = .ok (.putfield 48, 3) := by decide +kernel
theorem dX3_no_5 : decode cX3_no 5 = .ok (.iconst 0, 1) := by decide +kernel
theorem dX3_no_6 : decode cX3_no 6 = .ok (.ireturn, 1) := by decide +kernel
theorem dX3_ok_0 : decode cX3_ok 0 = .ok (.aload_n 0, 1) := by decide +kernel
theorem dX3_ok_1 : decode cX3_ok 1 = .ok (.iconst 0, 1) := by decide +kernel
theorem dX3_ok_2 : decode cX3_ok 2 = .ok (.putfield 48, 3) := by decide +kernel
theorem dX3_ok_5 : decode cX3_ok 5 = .ok (.iload_n 1, 1) := by decide +kernel
theorem dX3_ok_6 : decode cX3_ok 6 = .ok (.ireturn, 1) := by decide +kernel
theorem dX3_isIn_0 : decode cX3_isIn 0 = .ok (.iload_n 0, 1) := by decide +kernel
theorem dX3_isIn_1 : decode cX3_isIn 1 = .ok (.iload_n 1, 1) := by decide +kernel
theorem dX3_isIn_2 : decode cX3_isIn 2 = .ok (.if_icmp .lt 12, 3) := by decide +kernel
theorem dX3_isIn_5 : decode cX3_isIn 5 = .ok (.iload_n 0, 1) := by decide +kernel
theorem dX3_isIn_6 : decode cX3_isIn 6 = .ok (.iload_n 2, 1) := by decide +kernel
theorem dX3_isIn_7 : decode cX3_isIn 7 = .ok (.if_icmp .gt 7, 3) := by decide +kernel
theorem dX3_isIn_10 : decode cX3_isIn 10 = .ok (.iconst 1, 1) := by decide +kernel
theorem dX3_isIn_11 : decode cX3_isIn 11 = .ok (.goto 4, 3) := by decide +kernel
theorem dX3_isIn_14 : decode cX3_isIn 14 = .ok (.iconst 0, 1) := by decide +kernel
theorem dX3_isIn_15 : decode cX3_isIn 15 = .ok (.ireturn, 1) := by decide +kernel
theorem dX3_isWager_0 : decode cX3_isWager 0 = .ok (.iload_n 1, 1) := by decide +kernel
theorem dX3_isWager_1 : decode cX3_isWager 1 = .ok (.iconst 0, 1) := by decide +kernel
theorem dX3_isWager_2 : decode cX3_isWager 2 = .ok (.aload_n 0, 1) := by decide +kernel
theorem dX3_isWager_3 : decode cX3_isWager 3 = .ok (.getfield 51, 3) := by decide +kernel
theorem dX3_isWager_6 : decode cX3_isWager 6 = .ok (.iconst 1, 1) := by decide +kernel
theorem dX3_isWager_7 : decode cX3_isWager 7 = .ok (.isub, 1) := by decide +kernel
theorem dX3_isWager_8 : decode cX3_isWager 8 = .ok (.invokestatic 54, 3) := by decide +kernel
theorem dX3_isWager_11 : decode cX3_isWager 11 = .ok (.ireturn, 1) := by decide +kernel
theorem dX3_isOutcome_0 : decode cX3_isOutcome 0 = .ok (.iload_n 1, 1) := by decide +kernel
theorem dX3_isOutcome_1 : decode cX3_isOutcome 1 = .ok (.iconst 0, 1) := by decide +kernel
theorem dX3_isOutcome_2 : decode cX3_isOutcome 2 = .ok (.aload_n 0, 1) := by decide +kernel
theorem dX3_isOutcome_3 : decode cX3_isOutcome 3 = .ok (.getfield 17, 3) := by decide +kernel
theorem dX3_isOutcome_6 : decode cX3_isOutcome 6 = .ok (.iconst 1, 1) := by decide +kernel
theorem dX3_isOutcome_7 : decode cX3_isOutcome 7 = .ok (.isub, 1) := by decide +kernel
theorem dX3_isOutcome_8 : decode cX3_isOutcome 8 = .ok (.invokestatic 54, 3) := by decide +kernel
theorem dX3_isOutcome_11 : decode cX3_isOutcome 11 = .ok (.ireturn, 1) := by decide +kernel
theorem dX3_isPatron_0 : decode cX3_isPatron 0 = .ok (.iload_n 0, 1) := by decide +kernel
theorem dX3_isPatron_1 : decode cX3_isPatron 1 = .ok (.iconst 0, 1) := by decide +kernel
theorem dX3_isPatron_2 : decode cX3_isPatron 2 = .ok (.iconst 5, 1) := by decide +kernel
theorem dX3_isPatron_3 : decode cX3_isPatron 3 = .ok (.invokestatic 54, 3) := by decide +kernel
theorem dX3_isPatron_6 : decode cX3_isPatron 6 = .ok (.ireturn, 1) := by decide +kernel
theorem dX3_isEvent_0 : decode cX3_isEvent 0 = .ok (.iload_n 0, 1) := by decide +kernel
theorem dX3_isEvent_1 : decode cX3_isEvent 1 = .ok (.iconst 0, 1) := by decide +kernel
theorem dX3_isEvent_2 : decode cX3_isEvent 2 = .ok (.bipush 9, 2) := by decide +kernel
theorem dX3_isEvent_4 : decode cX3_isEvent 4 = .ok (.invokestatic 54, 3) := by decide +kernel
theorem dX3_isEvent_7 : decode cX3_isEvent 7 = .ok (.ifCond .eq 17, 3) := by decide +kernel
theorem dX3_isEvent_10 : decode cX3_isEvent 10 = .ok (.iload_n 1, 1) := by decide +kernel
theorem dX3_isEvent_11 : decode cX3_isEvent 11 = .ok (.iconst 0, 1) := by decide +kernel
theorem dX3_isEvent_12 : decode cX3_isEvent 12 = .ok (.bipush 36, 2) := by decide +kernel
theorem dX3_isEvent_14 : decode cX3_isEvent 14 = .ok (.invokestatic 54, 3) := by decide +kernel
theorem dX3_isEvent_17 : decode cX3_isEvent 17 = .ok (.ifCond .eq 7, 3) := by decide +kernel
theorem dX3_isEvent_20 : decode cX3_isEvent 20 = .ok (.iconst 1, 1) := by decide +kernel
theorem dX3_isEvent_21 : decode cX3_isEvent 21 = .ok (.goto 4, 3) := by decide +kernel
theorem dX3_isEvent_24 : decode cX3_isEvent 24 = .ok (.iconst 0, 1) := by decide +kernel
theorem dX3_isEvent_25 : decode cX3_isEvent 25 = .ok (.ireturn, 1) := by decide +kernel
theorem dX3_face_0 : decode cX3_face 0 = .ok (.iload_n 1, 1) := by decide +kernel
theorem dX3_face_1 : decode cX3_face 1 = .ok (.istore_n 3, 1) := by decide +kernel
theorem dX3_face_2 : decode cX3_face 2 = .ok (.iconst 2, 1) := by decide +kernel
theorem dX3_face_3 : decode cX3_face 3 = .ok (.istore 4, 2) := by decide +kernel
theorem dX3_face_5 : decode cX3_face 5 = .ok (.iload 4, 2) := by decide +kernel
theorem dX3_face_7 : decode cX3_face 7 = .ok (.iload_n 2, 1) := by decide +kernel
theorem dX3_face_8 : decode cX3_face 8 = .ok (.if_icmp .le 19, 3) := by decide +kernel
theorem dX3_face_11 : decode cX3_face 11 = .ok (.iload_n 3, 1) := by decide +kernel
theorem dX3_face_12 : decode cX3_face 12 = .ok (.aload_n 0, 1) := by decide +kernel
theorem dX3_face_13 : decode cX3_face 13 = .ok (.getfield 9, 3) := by decide +kernel
theorem dX3_face_16 : decode cX3_face 16 = .ok (.iload 4, 2) := by decide +kernel
theorem dX3_face_18 : decode cX3_face 18 = .ok (.iaload, 1) := by decide +kernel
theorem dX3_face_19 : decode cX3_face 19 = .ok (.idiv, 1) := by decide +kernel
theorem dX3_face_20 : decode cX3_face 20 = .ok (.istore_n 3, 1) := by decide +kernel
theorem dX3_face_21 : decode cX3_face 21 = .ok (.iinc 4 (-1), 3) := by decide +kernel
theorem dX3_face_24 : decode cX3_face 24 = .ok (.goto (-19), 3) := by decide +kernel
theorem dX3_face_27 : decode cX3_face 27 = .ok (.iload_n 3, 1) := by decide +kernel
theorem dX3_face_28 : decode cX3_face 28 = .ok (.aload_n 0, 1) := by decide +kernel
theorem dX3_face_29 : decode cX3_face 29 = .ok (.getfield 9, 3) := by decide +kernel
theorem dX3_face_32 : decode cX3_face 32 = .ok (.iload_n 2, 1) := by decide +kernel
theorem dX3_face_33 : decode cX3_face 33 = .ok (.iaload, 1) := by decide +kernel
theorem dX3_face_34 : decode cX3_face 34 = .ok (.irem, 1) := by decide +kernel
theorem dX3_face_35 : decode cX3_face 35 = .ok (.iconst 1, 1) := by decide +kernel
theorem dX3_face_36 : decode cX3_face 36 = .ok (.iadd, 1) := by decide +kernel
theorem dX3_face_37 : decode cX3_face 37 = .ok (.ireturn, 1) := by decide +kernel
theorem dX3_sum_0 : decode cX3_sum 0 = .ok (.iconst 0, 1) := by decide +kernel
theorem dX3_sum_1 : decode cX3_sum 1 = .ok (.istore_n 2, 1) := by decide +kernel
theorem dX3_sum_2 : decode cX3_sum 2 = .ok (.iconst 0, 1) := by decide +kernel
theorem dX3_sum_3 : decode cX3_sum 3 = .ok (.istore_n 3, 1) := by decide +kernel
theorem dX3_sum_4 : decode cX3_sum 4 = .ok (.iload_n 3, 1) := by decide +kernel
theorem dX3_sum_5 : decode cX3_sum 5 = .ok (.aload_n 0, 1) := by decide +kernel
theorem dX3_sum_6 : decode cX3_sum 6 = .ok (.getfield 13, 3) := by decide +kernel
theorem dX3_sum_9 : decode cX3_sum 9 = .ok (.if_icmp .ge 18, 3) := by decide +kernel
theorem dX3_sum_12 : decode cX3_sum 12 = .ok (.iload_n 2, 1) := by decide +kernel
theorem dX3_sum_13 : decode cX3_sum 13 = .ok (.aload_n 0, 1) := by decide +kernel
theorem dX3_sum_14 : decode cX3_sum 14 = .ok (.iload_n 1, 1) := by decide +kernel
theorem dX3_sum_15 : decode cX3_sum 15 = .ok (.iload_n 3, 1) := by decide +kernel
theorem dX3_sum_16 : decode cX3_sum 16 = .ok (.invokevirtual 58, 3) := by decide +kernel
theorem dX3_sum_19 : decode cX3_sum 19 = .ok (.iadd, 1) := by decide +kernel
theorem dX3_sum_20 : decode cX3_sum 20 = .ok (.istore_n 2, 1) := by decide +kernel
theorem dX3_sum_21 : decode cX3_sum 21 = .ok (.iinc 3 1, 3) := by decide +kernel
theorem dX3_sum_24 : decode cX3_sum 24 = .ok (.goto (-20), 3) := by decide +kernel
theorem dX3_sum_27 : decode cX3_sum 27 = .ok (.iload_n 2, 1) := by decide +kernel
theorem dX3_sum_28 : decode cX3_sum 28 = .ok (.ireturn, 1) := by decide +kernel
theorem dX3_comes_0 : decode cX3_comes 0 = .ok (.iload_n 1, 1) := by decide +kernel
theorem dX3_comes_1 : decode cX3_comes 1 = .ok (.iconst 5, 1) := by decide +kernel
theorem dX3_comes_2 : decode cX3_comes 2 = .ok (.if_icmp .lt 21, 3) := by decide +kernel
theorem dX3_comes_5 : decode cX3_comes 5 = .ok (.aload_n 0, 1) := by decide +kernel
theorem dX3_comes_6 : decode cX3_comes 6 = .ok (.iload_n 1, 1) := by decide +kernel
theorem dX3_comes_7 : decode cX3_comes 7 = .ok (.iconst 5, 1) := by decide +kernel
theorem dX3_comes_8 : decode cX3_comes 8 = .ok (.isub, 1) := by decide +kernel
theorem dX3_comes_9 : decode cX3_comes 9 = .ok (.iload_n 2, 1) := by decide +kernel
theorem dX3_comes_10 : decode cX3_comes 10 = .ok (.iload_n 3, 1) := by decide +kernel
theorem dX3_comes_11 : decode cX3_comes 11 = .ok (.invokevirtual 62, 3) := by decide +kernel
theorem dX3_comes_14 : decode cX3_comes 14 = .ok (.ifCond .ne 7, 3) := by decide +kernel
theorem dX3_comes_17 : decode cX3_comes 17 = .ok (.iconst 1, 1) := by decide +kernel
theorem dX3_comes_18 : decode cX3_comes 18 = .ok (.goto 4, 3) := by decide +kernel
theorem dX3_comes_21 : decode cX3_comes 21 = .ok (.iconst 0, 1) := by decide +kernel
theorem dX3_comes_22 : decode cX3_comes 22 = .ok (.ireturn, 1) := by decide +kernel
theorem dX3_comes_23 : decode cX3_comes 23 = .ok (.iload_n 1, 1) := by decide +kernel
theorem dX3_comes_24 : decode cX3_comes 24 = .ok (.ifCond .ne 18, 3) := by decide +kernel
theorem dX3_comes_27 : decode cX3_comes 27 = .ok (.aload_n 0, 1) := by decide +kernel
theorem dX3_comes_28 : decode cX3_comes 28 = .ok (.iload_n 3, 1) := by decide +kernel
theorem dX3_comes_29 : decode cX3_comes 29 = .ok (.invokevirtual 65, 3) := by decide +kernel
theorem dX3_comes_32 : decode cX3_comes 32 = .ok (.iload_n 2, 1) := by decide +kernel
theorem dX3_comes_33 : decode cX3_comes 33 = .ok (.if_icmp .ne 7, 3) := by decide +kernel
theorem dX3_comes_36 : decode cX3_comes 36 = .ok (.iconst 1, 1) := by decide +kernel
theorem dX3_comes_37 : decode cX3_comes 37 = .ok (.goto 4, 3) := by decide +kernel
theorem dX3_comes_40 : decode cX3_comes 40 = .ok (.iconst 0, 1) := by decide +kernel
theorem dX3_comes_41 : decode cX3_comes 41 = .ok (.ireturn, 1) := by decide +kernel
theorem dX3_comes_42 : decode cX3_comes 42 = .ok (.iload_n 1, 1) := by decide +kernel
theorem dX3_comes_43 : decode cX3_comes 43 = .ok (.iconst 1, 1) := by decide +kernel
theorem dX3_comes_44 : decode cX3_comes 44 = .ok (.if_icmp .ne 18, 3) := by decide +kernel
theorem dX3_comes_47 : decode cX3_comes 47 = .ok (.aload_n 0, 1) := by decide +kernel
theorem dX3_comes_48 : decode cX3_comes 48 = .ok (.iload_n 3, 1) := by decide +kernel
theorem dX3_comes_49 : decode cX3_comes 49 = .ok (.invokevirtual 65, 3) := by decide +kernel
theorem dX3_comes_52 : decode cX3_comes 52 = .ok (.iload_n 2, 1) := by decide +kernel
theorem dX3_comes_53 : decode cX3_comes 53 = .ok (.if_icmp .lt 7, 3) := by decide +kernel
theorem dX3_comes_56 : decode cX3_comes 56 = .ok (.iconst 1, 1) := by decide +kernel
theorem dX3_comes_57 : decode cX3_comes 57 = .ok (.goto 4, 3) := by decide +kernel
theorem dX3_comes_60 : decode cX3_comes 60 = .ok (.iconst 0, 1) := by decide +kernel
theorem dX3_comes_61 : decode cX3_comes 61 = .ok (.ireturn, 1) := by decide +kernel
theorem dX3_comes_62 : decode cX3_comes 62 = .ok (.iload_n 1, 1) := by decide +kernel
theorem dX3_comes_63 : decode cX3_comes 63 = .ok (.iconst 2, 1) := by decide +kernel
theorem dX3_comes_64 : decode cX3_comes 64 = .ok (.if_icmp .ne 20, 3) := by decide +kernel
theorem dX3_comes_67 : decode cX3_comes 67 = .ok (.aload_n 0, 1) := by decide +kernel
theorem dX3_comes_68 : decode cX3_comes 68 = .ok (.iload_n 3, 1) := by decide +kernel
theorem dX3_comes_69 : decode cX3_comes 69 = .ok (.invokevirtual 65, 3) := by decide +kernel
theorem dX3_comes_72 : decode cX3_comes 72 = .ok (.iconst 2, 1) := by decide +kernel
theorem dX3_comes_73 : decode cX3_comes 73 = .ok (.irem, 1) := by decide +kernel
theorem dX3_comes_74 : decode cX3_comes 74 = .ok (.iconst 1, 1) := by decide +kernel
theorem dX3_comes_75 : decode cX3_comes 75 = .ok (.if_icmp .ne 7, 3) := by decide +kernel
theorem dX3_comes_78 : decode cX3_comes 78 = .ok (.iconst 1, 1) := by decide +kernel
theorem dX3_comes_79 : decode cX3_comes 79 = .ok (.goto 4, 3) := by decide +kernel
theorem dX3_comes_82 : decode cX3_comes 82 = .ok (.iconst 0, 1) := by decide +kernel
theorem dX3_comes_83 : decode cX3_comes 83 = .ok (.ireturn, 1) := by decide +kernel
theorem dX3_comes_84 : decode cX3_comes 84 = .ok (.iload_n 1, 1) := by decide +kernel
theorem dX3_comes_85 : decode cX3_comes 85 = .ok (.iconst 3, 1) := by decide +kernel
theorem dX3_comes_86 : decode cX3_comes 86 = .ok (.if_icmp .ne 7, 3) := by decide +kernel
theorem dX3_comes_89 : decode cX3_comes 89 = .ok (.iconst 1, 1) := by decide +kernel
theorem dX3_comes_90 : decode cX3_comes 90 = .ok (.goto 4, 3) := by decide +kernel
theorem dX3_comes_93 : decode cX3_comes 93 = .ok (.iconst 0, 1) := by decide +kernel
theorem dX3_comes_94 : decode cX3_comes 94 = .ok (.istore 4, 2) := by decide +kernel
theorem dX3_comes_96 : decode cX3_comes 96 = .ok (.iconst 0, 1) := by decide +kernel
theorem dX3_comes_97 : decode cX3_comes 97 = .ok (.istore 5, 2) := by decide +kernel
theorem dX3_comes_99 : decode cX3_comes 99 = .ok (.iload 5, 2) := by decide +kernel
theorem dX3_comes_101 : decode cX3_comes 101 = .ok (.aload_n 0, 1) := by decide +kernel
theorem dX3_comes_102 : decode cX3_comes 102 = .ok (.getfield 13, 3) := by decide +kernel
theorem dX3_comes_105 : decode cX3_comes 105 = .ok (.if_icmp .ge 66, 3) := by decide +kernel
theorem dX3_comes_108 : decode cX3_comes 108 = .ok (.iload_n 1, 1) := by decide +kernel
theorem dX3_comes_109 : decode cX3_comes 109 = .ok (.iconst 3, 1) := by decide +kernel
theorem dX3_comes_110 : decode cX3_comes 110 = .ok (.if_icmp .ne 32, 3) := by decide +kernel
theorem dX3_comes_113 : decode cX3_comes 113 = .ok (.iload 4, 2) := by decide +kernel
theorem dX3_comes_115 : decode cX3_comes 115 = .ok (.ifCond .eq 23, 3) := by decide +kernel
theorem dX3_comes_118 : decode cX3_comes 118 = .ok (.aload_n 0, 1) := by decide +kernel
theorem dX3_comes_119 : decode cX3_comes 119 = .ok (.iload_n 3, 1) := by decide +kernel
theorem dX3_comes_120 : decode cX3_comes 120 = .ok (.iload 5, 2) := by decide +kernel
theorem dX3_comes_122 : decode cX3_comes 122 = .ok (.invokevirtual 58, 3) := by decide +kernel
theorem dX3_comes_125 : decode cX3_comes 125 = .ok (.aload_n 0, 1) := by decide +kernel
theorem dX3_comes_126 : decode cX3_comes 126 = .ok (.iload_n 3, 1) := by decide +kernel
theorem dX3_comes_127 : decode cX3_comes 127 = .ok (.iconst 0, 1) := by decide +kernel
theorem dX3_comes_128 : decode cX3_comes 128 = .ok (.invokevirtual 58, 3) := by decide +kernel
theorem dX3_comes_131 : decode cX3_comes 131 = .ok (.if_icmp .ne 7, 3) := by decide +kernel
theorem dX3_comes_134 : decode cX3_comes 134 = .ok (.iconst 1, 1) := by decide +kernel
theorem dX3_comes_135 : decode cX3_comes 135 = .ok (.goto 28, 3) := by decide +kernel
theorem dX3_comes_138 : decode cX3_comes 138 = .ok (.iconst 0, 1) := by decide +kernel
theorem dX3_comes_139 : decode cX3_comes 139 = .ok (.goto 24, 3) := by decide +kernel
theorem dX3_comes_142 : decode cX3_comes 142 = .ok (.iload 4, 2) := by decide +kernel
theorem dX3_comes_144 : decode cX3_comes 144 = .ok (.ifCond .ne 14, 3) := by decide +kernel
theorem dX3_comes_147 : decode cX3_comes 147 = .ok (.aload_n 0, 1) := by decide +kernel
theorem dX3_comes_148 : decode cX3_comes 148 = .ok (.iload_n 3, 1) := by decide +kernel
theorem dX3_comes_149 : decode cX3_comes 149 = .ok (.iload 5, 2) := by decide +kernel
theorem dX3_comes_151 : decode cX3_comes 151 = .ok (.invokevirtual 58, 3) := by decide +kernel
theorem dX3_comes_154 : decode cX3_comes 154 = .ok (.iload_n 2, 1) := by decide +kernel
theorem dX3_comes_155 : decode cX3_comes 155 = .ok (.if_icmp .ne 7, 3) := by decide +kernel
theorem dX3_comes_158 : decode cX3_comes 158 = .ok (.iconst 1, 1) := by decide +kernel
theorem dX3_comes_159 : decode cX3_comes 159 = .ok (.goto 4, 3) := by decide +kernel
theorem dX3_comes_162 : decode cX3_comes 162 = .ok (.iconst 0, 1) := by decide +kernel
theorem dX3_comes_163 : decode cX3_comes 163 = .ok (.istore 4, 2) := by decide +kernel
theorem dX3_comes_165 : decode cX3_comes 165 = .ok (.iinc 5 1, 3) := by decide +kernel
theorem dX3_comes_168 : decode cX3_comes 168 = .ok (.goto (-69), 3) := by decide +kernel
theorem dX3_comes_171 : decode cX3_comes 171 = .ok (.iload 4, 2) := by decide +kernel
theorem dX3_comes_173 : decode cX3_comes 173 = .ok (.ireturn, 1) := by decide +kernel
theorem dX3_add_0 : decode cX3_add 0 = .ok (.iconst 0, 1) := by decide +kernel
theorem dX3_add_1 : decode cX3_add 1 = .ok (.istore_n 1, 1) := by decide +kernel
theorem dX3_add_2 : decode cX3_add 2 = .ok (.iload_n 1, 1) := by decide +kernel
theorem dX3_add_3 : decode cX3_add 3 = .ok (.bipush 36, 2) := by decide +kernel
theorem dX3_add_5 : decode cX3_add 5 = .ok (.if_icmp .gt 24, 3) := by decide +kernel
theorem dX3_add_8 : decode cX3_add 8 = .ok (.aload_n 0, 1) := by decide +kernel
theorem dX3_add_9 : decode cX3_add 9 = .ok (.getfield 45, 3) := by decide +kernel
theorem dX3_add_12 : decode cX3_add 12 = .ok (.iload_n 1, 1) := by decide +kernel
theorem dX3_add_13 : decode cX3_add 13 = .ok (.iload_n 1, 1) := by decide +kernel
theorem dX3_add_14 : decode cX3_add 14 = .ok (.ifCond .ne 7, 3) := by decide +kernel
theorem dX3_add_17 : decode cX3_add 17 = .ok (.iconst 1, 1) := by decide +kernel
theorem dX3_add_18 : decode cX3_add 18 = .ok (.goto 4, 3) := by decide +kernel
theorem dX3_add_21 : decode cX3_add 21 = .ok (.iconst 0, 1) := by decide +kernel
theorem dX3_add_22 : decode cX3_add 22 = .ok (.iastore, 1) := by decide +kernel
theorem dX3_add_23 : decode cX3_add 23 = .ok (.iinc 1 1, 3) := by decide +kernel
theorem dX3_add_26 : decode cX3_add 26 = .ok (.goto (-24), 3) := by decide +kernel
theorem dX3_add_29 : decode cX3_add 29 = .ok (.iconst 0, 1) := by decide +kernel
theorem dX3_add_30 : decode cX3_add 30 = .ok (.istore_n 1, 1) := by decide +kernel
theorem dX3_add_31 : decode cX3_add 31 = .ok (.iload_n 1, 1) := by decide +kernel
theorem dX3_add_32 : decode cX3_add 32 = .ok (.aload_n 0, 1) := by decide +kernel
theorem dX3_add_33 : decode cX3_add 33 = .ok (.getfield 13, 3) := by decide +kernel
theorem dX3_add_36 : decode cX3_add 36 = .ok (.if_icmp .ge 67, 3) := by decide +kernel
theorem dX3_add_39 : decode cX3_add 39 = .ok (.bipush 36, 2) := by decide +kernel
theorem dX3_add_41 : decode cX3_add 41 = .ok (.istore_n 2, 1) := by decide +kernel
theorem dX3_add_42 : decode cX3_add 42 = .ok (.iload_n 2, 1) := by decide +kernel
theorem dX3_add_43 : decode cX3_add 43 = .ok (.ifCond .lt 54, 3) := by decide +kernel
theorem dX3_add_46 : decode cX3_add 46 = .ok (.iconst 0, 1) := by decide +kernel
theorem dX3_add_47 : decode cX3_add 47 = .ok (.istore_n 3, 1) := by decide +kernel
theorem dX3_add_48 : decode cX3_add 48 = .ok (.iconst 1, 1) := by decide +kernel
theorem dX3_add_49 : decode cX3_add 49 = .ok (.istore 4, 2) := by decide +kernel
theorem dX3_add_51 : decode cX3_add 51 = .ok (.iload 4, 2) := by decide +kernel
theorem dX3_add_53 : decode cX3_add 53 = .ok (.iload_n 2, 1) := by decide +kernel
theorem dX3_add_54 : decode cX3_add 54 = .ok (.aload_n 0, 1) := by decide +kernel
theorem dX3_add_55 : decode cX3_add 55 = .ok (.getfield 9, 3) := by decide +kernel
theorem dX3_add_58 : decode cX3_add 58 = .ok (.iload_n 1, 1) := by decide +kernel
theorem dX3_add_59 : decode cX3_add 59 = .ok (.iaload, 1) := by decide +kernel
theorem dX3_add_60 : decode cX3_add 60 = .ok (.invokestatic 69, 3) := by decide +kernel
theorem dX3_add_63 : decode cX3_add 63 = .ok (.if_icmp .gt 21, 3) := by decide +kernel
theorem dX3_add_66 : decode cX3_add 66 = .ok (.iload_n 3, 1) := by decide +kernel
theorem dX3_add_67 : decode cX3_add 67 = .ok (.aload_n 0, 1) := by decide +kernel
theorem dX3_add_68 : decode cX3_add 68 = .ok (.getfield 45, 3) := by decide +kernel
theorem dX3_add_71 : decode cX3_add 71 = .ok (.iload_n 2, 1) := by decide +kernel
theorem dX3_add_72 : decode cX3_add 72 = .ok (.iload 4, 2) := by decide +kernel
theorem dX3_add_74 : decode cX3_add 74 = .ok (.isub, 1) := by decide +kernel
theorem dX3_add_75 : decode cX3_add 75 = .ok (.iaload, 1) := by decide +kernel
theorem dX3_add_76 : decode cX3_add 76 = .ok (.iadd, 1) := by decide +kernel
theorem dX3_add_77 : decode cX3_add 77 = .ok (.istore_n 3, 1) := by decide +kernel
theorem dX3_add_78 : decode cX3_add 78 = .ok (.iinc 4 1, 3) := by decide +kernel
theorem dX3_add_81 : decode cX3_add 81 = .ok (.goto (-30), 3) := by decide +kernel
theorem dX3_add_84 : decode cX3_add 84 = .ok (.aload_n 0, 1) := by decide +kernel
theorem dX3_add_85 : decode cX3_add 85 = .ok (.getfield 45, 3) := by decide +kernel
theorem dX3_add_88 : decode cX3_add 88 = .ok (.iload_n 2, 1) := by decide +kernel
theorem dX3_add_89 : decode cX3_add 89 = .ok (.iload_n 3, 1) := by decide +kernel
theorem dX3_add_90 : decode cX3_add 90 = .ok (.iastore, 1) := by decide +kernel
theorem dX3_add_91 : decode cX3_add 91 = .ok (.iinc 2 (-1), 3) := by decide +kernel
theorem dX3_add_94 : decode cX3_add 94 = .ok (.goto (-52), 3) := by decide +kernel
theorem dX3_add_97 : decode cX3_add 97 = .ok (.iinc 1 1, 3) := by decide +kernel
theorem dX3_add_100 : decode cX3_add 100 = .ok (.goto (-69), 3) := by decide +kernel
theorem dX3_add_103 : decode cX3_add 103 = .ok (.return_, 1) := by decide +kernel
theorem dX3_without_0 : decode cX3_without 0 = .ok (.iconst 1, 1) := by decide +kernel
theorem dX3_without_1 : decode cX3_without 1 = .ok (.istore_n 2, 1) := by decide +kernel
theorem dX3_without_2 : decode cX3_without 2 = .ok (.iconst 0, 1) := by decide +kernel
theorem dX3_without_3 : decode cX3_without 3 = .ok (.istore_n 3, 1) := by decide +kernel
theorem dX3_without_4 : decode cX3_without 4 = .ok (.iload_n 3, 1) := by decide +kernel
theorem dX3_without_5 : decode cX3_without 5 = .ok (.aload_n 0, 1) := by decide +kernel
theorem dX3_without_6 : decode cX3_without 6 = .ok (.getfield 13, 3) := by decide +kernel
theorem dX3_without_9 : decode cX3_without 9 = .ok (.if_icmp .ge 43, 3) := by decide +kernel
theorem dX3_without_12 : decode cX3_without 12 = .ok (.iload_n 2, 1) := by decide +kernel
theorem dX3_without_13 : decode cX3_without 13 = .ok (.iload_n 1, 1) := by decide +kernel
theorem dX3_without_14 : decode cX3_without 14 = .ok (.iconst 1, 1) := by decide +kernel
theorem dX3_without_15 : decode cX3_without 15 = .ok (.aload_n 0, 1) := by decide +kernel
theorem dX3_without_16 : decode cX3_without 16 = .ok (.getfield 9, 3) := by decide +kernel
theorem dX3_without_19 : decode cX3_without 19 = .ok (.iload_n 3, 1) := by decide +kernel
theorem dX3_without_20 : decode cX3_without 20 = .ok (.iaload, 1) := by decide +kernel
theorem dX3_without_21 : decode cX3_without 21 = .ok (.invokestatic 54, 3) := by decide +kernel
theorem dX3_without_24 : decode cX3_without 24 = .ok (.ifCond .eq 14, 3) := by decide +kernel
theorem dX3_without_27 : decode cX3_without 27 = .ok (.aload_n 0, 1) := by decide +kernel
theorem dX3_without_28 : decode cX3_without 28 = .ok (.getfield 9, 3) := by decide +kernel
theorem dX3_without_31 : decode cX3_without 31 = .ok (.iload_n 3, 1) := by decide +kernel
theorem dX3_without_32 : decode cX3_without 32 = .ok (.iaload, 1) := by decide +kernel
theorem dX3_without_33 : decode cX3_without 33 = .ok (.iconst 1, 1) := by decide +kernel
theorem dX3_without_34 : decode cX3_without 34 = .ok (.isub, 1) := by decide +kernel
theorem dX3_without_35 : decode cX3_without 35 = .ok (.goto 9, 3) := by decide +kernel
theorem dX3_without_38 : decode cX3_without 38 = .ok (.aload_n 0, 1) := by decide +kernel
theorem dX3_without_39 : decode cX3_without 39 = .ok (.getfield 9, 3) := by decide +kernel
theorem dX3_without_42 : decode cX3_without 42 = .ok (.iload_n 3, 1) := by decide +kernel
theorem dX3_without_43 : decode cX3_without 43 = .ok (.iaload, 1) := by decide +kernel
theorem dX3_without_44 : decode cX3_without 44 = .ok (.imul, 1) := by decide +kernel
theorem dX3_without_45 : decode cX3_without 45 = .ok (.istore_n 2, 1) := by decide +kernel
theorem dX3_without_46 : decode cX3_without 46 = .ok (.iinc 3 1, 3) := by decide +kernel
theorem dX3_without_49 : decode cX3_without 49 = .ok (.goto (-45), 3) := by decide +kernel
theorem dX3_without_52 : decode cX3_without 52 = .ok (.iload_n 2, 1) := by decide +kernel
theorem dX3_without_53 : decode cX3_without 53 = .ok (.ireturn, 1) := by decide +kernel
theorem dX3_many_0 : decode cX3_many 0 = .ok (.iload_n 1, 1) := by decide +kernel
theorem dX3_many_1 : decode cX3_many 1 = .ok (.iconst 5, 1) := by decide +kernel
theorem dX3_many_2 : decode cX3_many 2 = .ok (.if_icmp .lt 17, 3) := by decide +kernel
theorem dX3_many_5 : decode cX3_many 5 = .ok (.aload_n 0, 1) := by decide +kernel
theorem dX3_many_6 : decode cX3_many 6 = .ok (.getfield 17, 3) := by decide +kernel
theorem dX3_many_9 : decode cX3_many 9 = .ok (.aload_n 0, 1) := by decide +kernel
theorem dX3_many_10 : decode cX3_many 10 = .ok (.iload_n 1, 1) := by decide +kernel
theorem dX3_many_11 : decode cX3_many 11 = .ok (.iconst 5, 1) := by decide +kernel
theorem dX3_many_12 : decode cX3_many 12 = .ok (.isub, 1) := by decide +kernel
theorem dX3_many_13 : decode cX3_many 13 = .ok (.iload_n 2, 1) := by decide +kernel
theorem dX3_many_14 : decode cX3_many 14 = .ok (.invokevirtual 74, 3) := by decide +kernel
theorem dX3_many_17 : decode cX3_many 17 = .ok (.isub, 1) := by decide +kernel
theorem dX3_many_18 : decode cX3_many 18 = .ok (.ireturn, 1) := by decide +kernel
theorem dX3_many_19 : decode cX3_many 19 = .ok (.iload_n 1, 1) := by decide +kernel
theorem dX3_many_20 : decode cX3_many 20 = .ok (.iconst 4, 1) := by decide +kernel
theorem dX3_many_21 : decode cX3_many 21 = .ok (.if_icmp .ne 14, 3) := by decide +kernel
theorem dX3_many_24 : decode cX3_many 24 = .ok (.aload_n 0, 1) := by decide +kernel
theorem dX3_many_25 : decode cX3_many 25 = .ok (.getfield 17, 3) := by decide +kernel
theorem dX3_many_28 : decode cX3_many 28 = .ok (.aload_n 0, 1) := by decide +kernel
theorem dX3_many_29 : decode cX3_many 29 = .ok (.iload_n 2, 1) := by decide +kernel
theorem dX3_many_30 : decode cX3_many 30 = .ok (.invokevirtual 77, 3) := by decide +kernel
theorem dX3_many_33 : decode cX3_many 33 = .ok (.isub, 1) := by decide +kernel
theorem dX3_many_34 : decode cX3_many 34 = .ok (.ireturn, 1) := by decide +kernel
theorem dX3_many_35 : decode cX3_many 35 = .ok (.iload_n 1, 1) := by decide +kernel
theorem dX3_many_36 : decode cX3_many 36 = .ok (.iconst 3, 1) := by decide +kernel
theorem dX3_many_37 : decode cX3_many 37 = .ok (.if_icmp .ne 38, 3) := by decide +kernel
theorem dX3_many_40 : decode cX3_many 40 = .ok (.bipush 12, 2) := by decide +kernel
theorem dX3_many_42 : decode cX3_many 42 = .ok (.istore_n 3, 1) := by decide +kernel
theorem dX3_many_43 : decode cX3_many 43 = .ok (.iconst 0, 1) := by decide +kernel
theorem dX3_many_44 : decode cX3_many 44 = .ok (.istore 4, 2) := by decide +kernel
theorem dX3_many_46 : decode cX3_many 46 = .ok (.iload 4, 2) := by decide +kernel
theorem dX3_many_48 : decode cX3_many 48 = .ok (.aload_n 0, 1) := by decide +kernel
theorem dX3_many_49 : decode cX3_many 49 = .ok (.getfield 13, 3) := by decide +kernel
theorem dX3_many_52 : decode cX3_many 52 = .ok (.if_icmp .ge 21, 3) := by decide +kernel
theorem dX3_many_55 : decode cX3_many 55 = .ok (.iload_n 3, 1) := by decide +kernel
theorem dX3_many_56 : decode cX3_many 56 = .ok (.aload_n 0, 1) := by decide +kernel
theorem dX3_many_57 : decode cX3_many 57 = .ok (.getfield 9, 3) := by decide +kernel
theorem dX3_many_60 : decode cX3_many 60 = .ok (.iload 4, 2) := by decide +kernel
theorem dX3_many_62 : decode cX3_many 62 = .ok (.iaload, 1) := by decide +kernel
theorem dX3_many_63 : decode cX3_many 63 = .ok (.invokestatic 69, 3) := by decide +kernel
theorem dX3_many_66 : decode cX3_many 66 = .ok (.istore_n 3, 1) := by decide +kernel
theorem dX3_many_67 : decode cX3_many 67 = .ok (.iinc 4 1, 3) := by decide +kernel
theorem dX3_many_70 : decode cX3_many 70 = .ok (.goto (-24), 3) := by decide +kernel
theorem dX3_many_73 : decode cX3_many 73 = .ok (.iload_n 3, 1) := by decide +kernel
theorem dX3_many_74 : decode cX3_many 74 = .ok (.ireturn, 1) := by decide +kernel
theorem dX3_many_75 : decode cX3_many 75 = .ok (.aload_n 0, 1) := by decide +kernel
theorem dX3_many_76 : decode cX3_many 76 = .ok (.invokevirtual 80, 3) := by decide +kernel
theorem dX3_many_79 : decode cX3_many 79 = .ok (.iconst 0, 1) := by decide +kernel
theorem dX3_many_80 : decode cX3_many 80 = .ok (.istore_n 3, 1) := by decide +kernel
theorem dX3_many_81 : decode cX3_many 81 = .ok (.iconst 0, 1) := by decide +kernel
theorem dX3_many_82 : decode cX3_many 82 = .ok (.istore 4, 2) := by decide +kernel
theorem dX3_many_84 : decode cX3_many 84 = .ok (.iload 4, 2) := by decide +kernel
theorem dX3_many_86 : decode cX3_many 86 = .ok (.bipush 36, 2) := by decide +kernel
theorem dX3_many_88 : decode cX3_many 88 = .ok (.if_icmp .gt 58, 3) := by decide +kernel
theorem dX3_many_91 : decode cX3_many 91 = .ok (.iload_n 3, 1) := by decide +kernel
theorem dX3_many_92 : decode cX3_many 92 = .ok (.iload_n 1, 1) := by decide +kernel
theorem dX3_many_93 : decode cX3_many 93 = .ok (.ifCond .ne 12, 3) := by decide +kernel
theorem dX3_many_96 : decode cX3_many 96 = .ok (.iload 4, 2) := by decide +kernel
theorem dX3_many_98 : decode cX3_many 98 = .ok (.iload_n 2, 1) := by decide +kernel
theorem dX3_many_99 : decode cX3_many 99 = .ok (.if_icmp .ne 38, 3) := by decide +kernel
theorem dX3_many_102 : decode cX3_many 102 = .ok (.goto 25, 3) := by decide +kernel
theorem dX3_many_105 : decode cX3_many 105 = .ok (.iload_n 1, 1) := by decide +kernel
theorem dX3_many_106 : decode cX3_many 106 = .ok (.iconst 1, 1) := by decide +kernel
theorem dX3_many_107 : decode cX3_many 107 = .ok (.if_icmp .ne 12, 3) := by decide +kernel
theorem dX3_many_110 : decode cX3_many 110 = .ok (.iload 4, 2) := by decide +kernel
theorem dX3_many_112 : decode cX3_many 112 = .ok (.iload_n 2, 1) := by decide +kernel
theorem dX3_many_113 : decode cX3_many 113 = .ok (.if_icmp .lt 24, 3) := by decide +kernel
theorem dX3_many_116 : decode cX3_many 116 = .ok (.goto 11, 3) := by decide +kernel
theorem dX3_many_119 : decode cX3_many 119 = .ok (.iload 4, 2) := by decide +kernel
theorem dX3_many_121 : decode cX3_many 121 = .ok (.iconst 2, 1) := by decide +kernel
theorem dX3_many_122 : decode cX3_many 122 = .ok (.irem, 1) := by decide +kernel
theorem dX3_many_123 : decode cX3_many 123 = .ok (.iconst 1, 1) := by decide +kernel
theorem dX3_many_124 : decode cX3_many 124 = .ok (.if_icmp .ne 13, 3) := by decide +kernel
theorem dX3_many_127 : decode cX3_many 127 = .ok (.aload_n 0, 1) := by decide +kernel
theorem dX3_many_128 : decode cX3_many 128 = .ok (.getfield 45, 3) := by decide +kernel
theorem dX3_many_131 : decode cX3_many 131 = .ok (.iload 4, 2) := by decide +kernel
theorem dX3_many_133 : decode cX3_many 133 = .ok (.iaload, 1) := by decide +kernel
theorem dX3_many_134 : decode cX3_many 134 = .ok (.goto 4, 3) := by decide +kernel
theorem dX3_many_137 : decode cX3_many 137 = .ok (.iconst 0, 1) := by decide +kernel
theorem dX3_many_138 : decode cX3_many 138 = .ok (.iadd, 1) := by decide +kernel
theorem dX3_many_139 : decode cX3_many 139 = .ok (.istore_n 3, 1) := by decide +kernel
theorem dX3_many_140 : decode cX3_many 140 = .ok (.iinc 4 1, 3) := by decide +kernel
theorem dX3_many_143 : decode cX3_many 143 = .ok (.goto (-59), 3) := by decide +kernel
theorem dX3_many_146 : decode cX3_many 146 = .ok (.iload_n 3, 1) := by decide +kernel
theorem dX3_many_147 : decode cX3_many 147 = .ok (.ireturn, 1) := by decide +kernel
theorem dX3_edge_0 : decode cX3_edge 0 = .ok (.aload_n 0, 1) := by decide +kernel
theorem dX3_edge_1 : decode cX3_edge 1 = .ok (.aload_n 0, 1) := by decide +kernel
theorem dX3_edge_2 : decode cX3_edge 2 = .ok (.getfield 29, 3) := by decide +kernel
theorem dX3_edge_5 : decode cX3_edge 5 = .ok (.iload_n 1, 1) := by decide +kernel
theorem dX3_edge_6 : decode cX3_edge 6 = .ok (.iaload, 1) := by decide +kernel
theorem dX3_edge_7 : decode cX3_edge 7 = .ok (.aload_n 0, 1) := by decide +kernel
theorem dX3_edge_8 : decode cX3_edge 8 = .ok (.getfield 32, 3) := by decide +kernel
theorem dX3_edge_11 : decode cX3_edge 11 = .ok (.iload_n 1, 1) := by decide +kernel
theorem dX3_edge_12 : decode cX3_edge 12 = .ok (.iaload, 1) := by decide +kernel
theorem dX3_edge_13 : decode cX3_edge 13 = .ok (.invokevirtual 74, 3) := by decide +kernel
theorem dX3_edge_16 : decode cX3_edge 16 = .ok (.istore_n 2, 1) := by decide +kernel
theorem dX3_edge_17 : decode cX3_edge 17 = .ok (.aload_n 0, 1) := by decide +kernel
theorem dX3_edge_18 : decode cX3_edge 18 = .ok (.getfield 35, 3) := by decide +kernel
theorem dX3_edge_21 : decode cX3_edge 21 = .ok (.iload_n 1, 1) := by decide +kernel
theorem dX3_edge_22 : decode cX3_edge 22 = .ok (.iaload, 1) := by decide +kernel
theorem dX3_edge_23 : decode cX3_edge 23 = .ok (.aload_n 0, 1) := by decide +kernel
theorem dX3_edge_24 : decode cX3_edge 24 = .ok (.getfield 17, 3) := by decide +kernel
theorem dX3_edge_27 : decode cX3_edge 27 = .ok (.iload_n 2, 1) := by decide +kernel
theorem dX3_edge_28 : decode cX3_edge 28 = .ok (.isub, 1) := by decide +kernel
theorem dX3_edge_29 : decode cX3_edge 29 = .ok (.imul, 1) := by decide +kernel
theorem dX3_edge_30 : decode cX3_edge 30 = .ok (.aload_n 0, 1) := by decide +kernel
theorem dX3_edge_31 : decode cX3_edge 31 = .ok (.getfield 38, 3) := by decide +kernel
theorem dX3_edge_34 : decode cX3_edge 34 = .ok (.iload_n 1, 1) := by decide +kernel
theorem dX3_edge_35 : decode cX3_edge 35 = .ok (.iaload, 1) := by decide +kernel
theorem dX3_edge_36 : decode cX3_edge 36 = .ok (.iload_n 2, 1) := by decide +kernel
theorem dX3_edge_37 : decode cX3_edge 37 = .ok (.imul, 1) := by decide +kernel
theorem dX3_edge_38 : decode cX3_edge 38 = .ok (.isub, 1) := by decide +kernel
theorem dX3_edge_39 : decode cX3_edge 39 = .ok (.ireturn, 1) := by decide +kernel
theorem dX3_edges_0 : decode cX3_edges 0 = .ok (.iconst 0, 1) := by decide +kernel
theorem dX3_edges_1 : decode cX3_edges 1 = .ok (.istore_n 1, 1) := by decide +kernel
theorem dX3_edges_2 : decode cX3_edges 2 = .ok (.iconst 0, 1) := by decide +kernel
theorem dX3_edges_3 : decode cX3_edges 3 = .ok (.istore_n 2, 1) := by decide +kernel
theorem dX3_edges_4 : decode cX3_edges 4 = .ok (.iload_n 2, 1) := by decide +kernel
theorem dX3_edges_5 : decode cX3_edges 5 = .ok (.aload_n 0, 1) := by decide +kernel
theorem dX3_edges_6 : decode cX3_edges 6 = .ok (.getfield 51, 3) := by decide +kernel
theorem dX3_edges_9 : decode cX3_edges 9 = .ok (.if_icmp .ge 17, 3) := by decide +kernel
theorem dX3_edges_12 : decode cX3_edges 12 = .ok (.iload_n 1, 1) := by decide +kernel
theorem dX3_edges_13 : decode cX3_edges 13 = .ok (.aload_n 0, 1) := by decide +kernel
theorem dX3_edges_14 : decode cX3_edges 14 = .ok (.iload_n 2, 1) := by decide +kernel
theorem dX3_edges_15 : decode cX3_edges 15 = .ok (.invokevirtual 83, 3) := by decide +kernel
theorem dX3_edges_18 : decode cX3_edges 18 = .ok (.iadd, 1) := by decide +kernel
theorem dX3_edges_19 : decode cX3_edges 19 = .ok (.istore_n 1, 1) := by decide +kernel
theorem dX3_edges_20 : decode cX3_edges 20 = .ok (.iinc 2 1, 3) := by decide +kernel
theorem dX3_edges_23 : decode cX3_edges 23 = .ok (.goto (-19), 3) := by decide +kernel
theorem dX3_edges_26 : decode cX3_edges 26 = .ok (.iload_n 1, 1) := by decide +kernel
theorem dX3_edges_27 : decode cX3_edges 27 = .ok (.ireturn, 1) := by decide +kernel
theorem dX3_divisor_0 : decode cX3_divisor 0 = .ok (.iload_n 0, 1) := by decide +kernel
theorem dX3_divisor_1 : decode cX3_divisor 1 = .ok (.invokestatic 86, 3) := by decide +kernel
theorem dX3_divisor_4 : decode cX3_divisor 4 = .ok (.istore_n 2, 1) := by decide +kernel
theorem dX3_divisor_5 : decode cX3_divisor 5 = .ok (.iload_n 1, 1) := by decide +kernel
theorem dX3_divisor_6 : decode cX3_divisor 6 = .ok (.istore_n 3, 1) := by decide +kernel
theorem dX3_divisor_7 : decode cX3_divisor 7 = .ok (.iload_n 2, 1) := by decide +kernel
theorem dX3_divisor_8 : decode cX3_divisor 8 = .ok (.ifCond .eq 16, 3) := by decide +kernel
theorem dX3_divisor_11 : decode cX3_divisor 11 = .ok (.iload_n 3, 1) := by decide +kernel
theorem dX3_divisor_12 : decode cX3_divisor 12 = .ok (.iload_n 2, 1) := by decide +kernel
theorem dX3_divisor_13 : decode cX3_divisor 13 = .ok (.irem, 1) := by decide +kernel
theorem dX3_divisor_14 : decode cX3_divisor 14 = .ok (.istore 4, 2) := by decide +kernel
theorem dX3_divisor_16 : decode cX3_divisor 16 = .ok (.iload_n 2, 1) := by decide +kernel
theorem dX3_divisor_17 : decode cX3_divisor 17 = .ok (.istore_n 3, 1) := by decide +kernel
theorem dX3_divisor_18 : decode cX3_divisor 18 = .ok (.iload 4, 2) := by decide +kernel
theorem dX3_divisor_20 : decode cX3_divisor 20 = .ok (.istore_n 2, 1) := by decide +kernel
theorem dX3_divisor_21 : decode cX3_divisor 21 = .ok (.goto (-14), 3) := by decide +kernel
theorem dX3_divisor_24 : decode cX3_divisor 24 = .ok (.iload_n 3, 1) := by decide +kernel
theorem dX3_divisor_25 : decode cX3_divisor 25 = .ok (.ireturn, 1) := by decide +kernel
theorem dX3_top_0 : decode cX3_top 0 = .ok (.iload_n 1, 1) := by decide +kernel
theorem dX3_top_1 : decode cX3_top 1 = .ok (.iload_n 1, 1) := by decide +kernel
theorem dX3_top_2 : decode cX3_top 2 = .ok (.aload_n 0, 1) := by decide +kernel
theorem dX3_top_3 : decode cX3_top 3 = .ok (.getfield 17, 3) := by decide +kernel
theorem dX3_top_6 : decode cX3_top 6 = .ok (.invokestatic 89, 3) := by decide +kernel
theorem dX3_top_9 : decode cX3_top 9 = .ok (.idiv, 1) := by decide +kernel
theorem dX3_top_10 : decode cX3_top 10 = .ok (.ireturn, 1) := by decide +kernel
theorem dX3_bottom_0 : decode cX3_bottom 0 = .ok (.aload_n 0, 1) := by decide +kernel
theorem dX3_bottom_1 : decode cX3_bottom 1 = .ok (.getfield 17, 3) := by decide +kernel
theorem dX3_bottom_4 : decode cX3_bottom 4 = .ok (.iload_n 1, 1) := by decide +kernel
theorem dX3_bottom_5 : decode cX3_bottom 5 = .ok (.aload_n 0, 1) := by decide +kernel
theorem dX3_bottom_6 : decode cX3_bottom 6 = .ok (.getfield 17, 3) := by decide +kernel
theorem dX3_bottom_9 : decode cX3_bottom 9 = .ok (.invokestatic 89, 3) := by decide +kernel
theorem dX3_bottom_12 : decode cX3_bottom 12 = .ok (.idiv, 1) := by decide +kernel
theorem dX3_bottom_13 : decode cX3_bottom 13 = .ok (.ireturn, 1) := by decide +kernel
theorem dX3_dear_0 : decode cX3_dear 0 = .ok (.iconst (-1), 1) := by decide +kernel
theorem dX3_dear_1 : decode cX3_dear 1 = .ok (.istore_n 1, 1) := by decide +kernel
theorem dX3_dear_2 : decode cX3_dear 2 = .ok (.iconst 0, 1) := by decide +kernel
theorem dX3_dear_3 : decode cX3_dear 3 = .ok (.istore_n 2, 1) := by decide +kernel
theorem dX3_dear_4 : decode cX3_dear 4 = .ok (.iload_n 2, 1) := by decide +kernel
theorem dX3_dear_5 : decode cX3_dear 5 = .ok (.aload_n 0, 1) := by decide +kernel
theorem dX3_dear_6 : decode cX3_dear 6 = .ok (.getfield 51, 3) := by decide +kernel
theorem dX3_dear_9 : decode cX3_dear 9 = .ok (.if_icmp .ge 48, 3) := by decide +kernel
theorem dX3_dear_12 : decode cX3_dear 12 = .ok (.iload_n 1, 1) := by decide +kernel
theorem dX3_dear_13 : decode cX3_dear 13 = .ok (.iconst (-1), 1) := by decide +kernel
theorem dX3_dear_14 : decode cX3_dear 14 = .ok (.if_icmp .eq 35, 3) := by decide +kernel
theorem dX3_dear_17 : decode cX3_dear 17 = .ok (.aload_n 0, 1) := by decide +kernel
theorem dX3_dear_18 : decode cX3_dear 18 = .ok (.iload_n 2, 1) := by decide +kernel
theorem dX3_dear_19 : decode cX3_dear 19 = .ok (.invokevirtual 83, 3) := by decide +kernel
theorem dX3_dear_22 : decode cX3_dear 22 = .ok (.i2l, 1) := by decide +kernel
theorem dX3_dear_23 : decode cX3_dear 23 = .ok (.aload_n 0, 1) := by decide +kernel
theorem dX3_dear_24 : decode cX3_dear 24 = .ok (.getfield 35, 3) := by decide +kernel
theorem dX3_dear_27 : decode cX3_dear 27 = .ok (.iload_n 1, 1) := by decide +kernel
theorem dX3_dear_28 : decode cX3_dear 28 = .ok (.iaload, 1) := by decide +kernel
theorem dX3_dear_29 : decode cX3_dear 29 = .ok (.i2l, 1) := by decide +kernel
theorem dX3_dear_30 : decode cX3_dear 30 = .ok (.lmul, 1) := by decide +kernel
theorem dX3_dear_31 : decode cX3_dear 31 = .ok (.aload_n 0, 1) := by decide +kernel
theorem dX3_dear_32 : decode cX3_dear 32 = .ok (.iload_n 1, 1) := by decide +kernel
theorem dX3_dear_33 : decode cX3_dear 33 = .ok (.invokevirtual 83, 3) := by decide +kernel
theorem dX3_dear_36 : decode cX3_dear 36 = .ok (.i2l, 1) := by decide +kernel
theorem dX3_dear_37 : decode cX3_dear 37 = .ok (.aload_n 0, 1) := by decide +kernel
theorem dX3_dear_38 : decode cX3_dear 38 = .ok (.getfield 35, 3) := by decide +kernel
theorem dX3_dear_41 : decode cX3_dear 41 = .ok (.iload_n 2, 1) := by decide +kernel
theorem dX3_dear_42 : decode cX3_dear 42 = .ok (.iaload, 1) := by decide +kernel
theorem dX3_dear_43 : decode cX3_dear 43 = .ok (.i2l, 1) := by decide +kernel
theorem dX3_dear_44 : decode cX3_dear 44 = .ok (.lmul, 1) := by decide +kernel
theorem dX3_dear_45 : decode cX3_dear 45 = .ok (.lcmp, 1) := by decide +kernel
theorem dX3_dear_46 : decode cX3_dear 46 = .ok (.ifCond .le 5, 3) := by decide +kernel
theorem dX3_dear_49 : decode cX3_dear 49 = .ok (.iload_n 2, 1) := by decide +kernel
theorem dX3_dear_50 : decode cX3_dear 50 = .ok (.istore_n 1, 1) := by decide +kernel
theorem dX3_dear_51 : decode cX3_dear 51 = .ok (.iinc 2 1, 3) := by decide +kernel
theorem dX3_dear_54 : decode cX3_dear 54 = .ok (.goto (-50), 3) := by decide +kernel
theorem dX3_dear_57 : decode cX3_dear 57 = .ok (.iload_n 1, 1) := by decide +kernel
theorem dX3_dear_58 : decode cX3_dear 58 = .ok (.ireturn, 1) := by decide +kernel
theorem dX3_gain_0 : decode cX3_gain 0 = .ok (.iconst 0, 1) := by decide +kernel
theorem dX3_gain_1 : decode cX3_gain 1 = .ok (.istore_n 2, 1) := by decide +kernel
theorem dX3_gain_2 : decode cX3_gain 2 = .ok (.iconst 0, 1) := by decide +kernel
theorem dX3_gain_3 : decode cX3_gain 3 = .ok (.istore_n 3, 1) := by decide +kernel
theorem dX3_gain_4 : decode cX3_gain 4 = .ok (.iload_n 3, 1) := by decide +kernel
theorem dX3_gain_5 : decode cX3_gain 5 = .ok (.aload_n 0, 1) := by decide +kernel
theorem dX3_gain_6 : decode cX3_gain 6 = .ok (.getfield 51, 3) := by decide +kernel
theorem dX3_gain_9 : decode cX3_gain 9 = .ok (.if_icmp .ge 43, 3) := by decide +kernel
theorem dX3_gain_12 : decode cX3_gain 12 = .ok (.iload_n 2, 1) := by decide +kernel
theorem dX3_gain_13 : decode cX3_gain 13 = .ok (.aload_n 0, 1) := by decide +kernel
theorem dX3_gain_14 : decode cX3_gain 14 = .ok (.getfield 41, 3) := by decide +kernel
theorem dX3_gain_17 : decode cX3_gain 17 = .ok (.sipush 1728, 3) := by decide +kernel
theorem dX3_gain_20 : decode cX3_gain 20 = .ok (.iload_n 3, 1) := by decide +kernel
theorem dX3_gain_21 : decode cX3_gain 21 = .ok (.imul, 1) := by decide +kernel
theorem dX3_gain_22 : decode cX3_gain 22 = .ok (.iload_n 1, 1) := by decide +kernel
theorem dX3_gain_23 : decode cX3_gain 23 = .ok (.iadd, 1) := by decide +kernel
theorem dX3_gain_24 : decode cX3_gain 24 = .ok (.baload, 1) := by decide +kernel
theorem dX3_gain_25 : decode cX3_gain 25 = .ok (.ifCond .eq 13, 3) := by decide +kernel
theorem dX3_gain_28 : decode cX3_gain 28 = .ok (.aload_n 0, 1) := by decide +kernel
theorem dX3_gain_29 : decode cX3_gain 29 = .ok (.getfield 38, 3) := by decide +kernel
theorem dX3_gain_32 : decode cX3_gain 32 = .ok (.iload_n 3, 1) := by decide +kernel
theorem dX3_gain_33 : decode cX3_gain 33 = .ok (.iaload, 1) := by decide +kernel
theorem dX3_gain_34 : decode cX3_gain 34 = .ok (.ineg, 1) := by decide +kernel
theorem dX3_gain_35 : decode cX3_gain 35 = .ok (.goto 9, 3) := by decide +kernel
theorem dX3_gain_38 : decode cX3_gain 38 = .ok (.aload_n 0, 1) := by decide +kernel
theorem dX3_gain_39 : decode cX3_gain 39 = .ok (.getfield 35, 3) := by decide +kernel
theorem dX3_gain_42 : decode cX3_gain 42 = .ok (.iload_n 3, 1) := by decide +kernel
theorem dX3_gain_43 : decode cX3_gain 43 = .ok (.iaload, 1) := by decide +kernel
theorem dX3_gain_44 : decode cX3_gain 44 = .ok (.iadd, 1) := by decide +kernel
theorem dX3_gain_45 : decode cX3_gain 45 = .ok (.istore_n 2, 1) := by decide +kernel
theorem dX3_gain_46 : decode cX3_gain 46 = .ok (.iinc 3 1, 3) := by decide +kernel
theorem dX3_gain_49 : decode cX3_gain 49 = .ok (.goto (-45), 3) := by decide +kernel
theorem dX3_gain_52 : decode cX3_gain 52 = .ok (.iload_n 2, 1) := by decide +kernel
theorem dX3_gain_53 : decode cX3_gain 53 = .ok (.ireturn, 1) := by decide +kernel
theorem dX3_worst_0 : decode cX3_worst 0 = .ok (.iconst 0, 1) := by decide +kernel
theorem dX3_worst_1 : decode cX3_worst 1 = .ok (.istore_n 1, 1) := by decide +kernel
theorem dX3_worst_2 : decode cX3_worst 2 = .ok (.iconst 1, 1) := by decide +kernel
theorem dX3_worst_3 : decode cX3_worst 3 = .ok (.istore_n 2, 1) := by decide +kernel
theorem dX3_worst_4 : decode cX3_worst 4 = .ok (.iload_n 2, 1) := by decide +kernel
theorem dX3_worst_5 : decode cX3_worst 5 = .ok (.aload_n 0, 1) := by decide +kernel
theorem dX3_worst_6 : decode cX3_worst 6 = .ok (.getfield 17, 3) := by decide +kernel
theorem dX3_worst_9 : decode cX3_worst 9 = .ok (.if_icmp .ge 24, 3) := by decide +kernel
theorem dX3_worst_12 : decode cX3_worst 12 = .ok (.aload_n 0, 1) := by decide +kernel
theorem dX3_worst_13 : decode cX3_worst 13 = .ok (.iload_n 2, 1) := by decide +kernel
theorem dX3_worst_14 : decode cX3_worst 14 = .ok (.invokevirtual 92, 3) := by decide +kernel
theorem dX3_worst_17 : decode cX3_worst 17 = .ok (.aload_n 0, 1) := by decide +kernel
theorem dX3_worst_18 : decode cX3_worst 18 = .ok (.iload_n 1, 1) := by decide +kernel
theorem dX3_worst_19 : decode cX3_worst 19 = .ok (.invokevirtual 92, 3) := by decide +kernel
theorem dX3_worst_22 : decode cX3_worst 22 = .ok (.if_icmp .ge 5, 3) := by decide +kernel
theorem dX3_worst_25 : decode cX3_worst 25 = .ok (.iload_n 2, 1) := by decide +kernel
theorem dX3_worst_26 : decode cX3_worst 26 = .ok (.istore_n 1, 1) := by decide +kernel
theorem dX3_worst_27 : decode cX3_worst 27 = .ok (.iinc 2 1, 3) := by decide +kernel
theorem dX3_worst_30 : decode cX3_worst 30 = .ok (.goto (-26), 3) := by decide +kernel
theorem dX3_worst_33 : decode cX3_worst 33 = .ok (.iload_n 1, 1) := by decide +kernel
theorem dX3_worst_34 : decode cX3_worst 34 = .ok (.ireturn, 1) := by decide +kernel
theorem dX3_behind_0 : decode cX3_behind 0 = .ok (.aload_n 0, 1) := by decide +kernel
theorem dX3_behind_1 : decode cX3_behind 1 = .ok (.getfield 20, 3) := by decide +kernel
theorem dX3_behind_4 : decode cX3_behind 4 = .ok (.iload_n 1, 1) := by decide +kernel
theorem dX3_behind_5 : decode cX3_behind 5 = .ok (.iaload, 1) := by decide +kernel
theorem dX3_behind_6 : decode cX3_behind 6 = .ok (.istore_n 3, 1) := by decide +kernel
theorem dX3_behind_7 : decode cX3_behind 7 = .ok (.iconst 0, 1) := by decide +kernel
theorem dX3_behind_8 : decode cX3_behind 8 = .ok (.istore 4, 2) := by decide +kernel
theorem dX3_behind_10 : decode cX3_behind 10 = .ok (.iload 4, 2) := by decide +kernel
theorem dX3_behind_12 : decode cX3_behind 12 = .ok (.aload_n 0, 1) := by decide +kernel
theorem dX3_behind_13 : decode cX3_behind 13 = .ok (.getfield 51, 3) := by decide +kernel
theorem dX3_behind_16 : decode cX3_behind 16 = .ok (.if_icmp .ge 54, 3) := by decide +kernel
theorem dX3_behind_19 : decode cX3_behind 19 = .ok (.aload_n 0, 1) := by decide +kernel
theorem dX3_behind_20 : decode cX3_behind 20 = .ok (.getfield 26, 3) := by decide +kernel
theorem dX3_behind_23 : decode cX3_behind 23 = .ok (.iload 4, 2) := by decide +kernel
theorem dX3_behind_25 : decode cX3_behind 25 = .ok (.iaload, 1) := by decide +kernel
theorem dX3_behind_26 : decode cX3_behind 26 = .ok (.iload_n 1, 1) := by decide +kernel
theorem dX3_behind_27 : decode cX3_behind 27 = .ok (.if_icmp .ne 37, 3) := by decide +kernel
theorem dX3_behind_30 : decode cX3_behind 30 = .ok (.aload_n 0, 1) := by decide +kernel
theorem dX3_behind_31 : decode cX3_behind 31 = .ok (.getfield 41, 3) := by decide +kernel
theorem dX3_behind_34 : decode cX3_behind 34 = .ok (.sipush 1728, 3) := by decide +kernel
theorem dX3_behind_37 : decode cX3_behind 37 = .ok (.iload 4, 2) := by decide +kernel
theorem dX3_behind_39 : decode cX3_behind 39 = .ok (.imul, 1) := by decide +kernel
theorem dX3_behind_40 : decode cX3_behind 40 = .ok (.iload_n 2, 1) := by decide +kernel
theorem dX3_behind_41 : decode cX3_behind 41 = .ok (.iadd, 1) := by decide +kernel
theorem dX3_behind_42 : decode cX3_behind 42 = .ok (.baload, 1) := by decide +kernel
theorem dX3_behind_43 : decode cX3_behind 43 = .ok (.ifCond .eq 21, 3) := by decide +kernel
theorem dX3_behind_46 : decode cX3_behind 46 = .ok (.iload_n 3, 1) := by decide +kernel
theorem dX3_behind_47 : decode cX3_behind 47 = .ok (.aload_n 0, 1) := by decide +kernel
theorem dX3_behind_48 : decode cX3_behind 48 = .ok (.getfield 35, 3) := by decide +kernel
theorem dX3_behind_51 : decode cX3_behind 51 = .ok (.iload 4, 2) := by decide +kernel
theorem dX3_behind_53 : decode cX3_behind 53 = .ok (.iaload, 1) := by decide +kernel
theorem dX3_behind_54 : decode cX3_behind 54 = .ok (.aload_n 0, 1) := by decide +kernel
theorem dX3_behind_55 : decode cX3_behind 55 = .ok (.getfield 38, 3) := by decide +kernel
theorem dX3_behind_58 : decode cX3_behind 58 = .ok (.iload 4, 2) := by decide +kernel
theorem dX3_behind_60 : decode cX3_behind 60 = .ok (.iaload, 1) := by decide +kernel
theorem dX3_behind_61 : decode cX3_behind 61 = .ok (.iadd, 1) := by decide +kernel
theorem dX3_behind_62 : decode cX3_behind 62 = .ok (.iadd, 1) := by decide +kernel
theorem dX3_behind_63 : decode cX3_behind 63 = .ok (.istore_n 3, 1) := by decide +kernel
theorem dX3_behind_64 : decode cX3_behind 64 = .ok (.iinc 4 1, 3) := by decide +kernel
theorem dX3_behind_67 : decode cX3_behind 67 = .ok (.goto (-57), 3) := by decide +kernel
theorem dX3_behind_70 : decode cX3_behind 70 = .ok (.iload_n 3, 1) := by decide +kernel
theorem dX3_behind_71 : decode cX3_behind 71 = .ok (.ireturn, 1) := by decide +kernel
theorem dX3_least_0 : decode cX3_least 0 = .ok (.aload_n 0, 1) := by decide +kernel
theorem dX3_least_1 : decode cX3_least 1 = .ok (.iload_n 1, 1) := by decide +kernel
theorem dX3_least_2 : decode cX3_least 2 = .ok (.iconst 0, 1) := by decide +kernel
theorem dX3_least_3 : decode cX3_least 3 = .ok (.invokevirtual 95, 3) := by decide +kernel
theorem dX3_least_6 : decode cX3_least 6 = .ok (.istore_n 2, 1) := by decide +kernel
theorem dX3_least_7 : decode cX3_least 7 = .ok (.iconst 1, 1) := by decide +kernel
theorem dX3_least_8 : decode cX3_least 8 = .ok (.istore_n 3, 1) := by decide +kernel
theorem dX3_least_9 : decode cX3_least 9 = .ok (.iload_n 3, 1) := by decide +kernel
theorem dX3_least_10 : decode cX3_least 10 = .ok (.aload_n 0, 1) := by decide +kernel
theorem dX3_least_11 : decode cX3_least 11 = .ok (.getfield 17, 3) := by decide +kernel
theorem dX3_least_14 : decode cX3_least 14 = .ok (.if_icmp .ge 20, 3) := by decide +kernel
theorem dX3_least_17 : decode cX3_least 17 = .ok (.iload_n 2, 1) := by decide +kernel
theorem dX3_least_18 : decode cX3_least 18 = .ok (.aload_n 0, 1) := by decide +kernel
theorem dX3_least_19 : decode cX3_least 19 = .ok (.iload_n 1, 1) := by decide +kernel
theorem dX3_least_20 : decode cX3_least 20 = .ok (.iload_n 3, 1) := by decide +kernel
theorem dX3_least_21 : decode cX3_least 21 = .ok (.invokevirtual 95, 3) := by decide +kernel
theorem dX3_least_24 : decode cX3_least 24 = .ok (.invokestatic 69, 3) := by decide +kernel
theorem dX3_least_27 : decode cX3_least 27 = .ok (.istore_n 2, 1) := by decide +kernel
theorem dX3_least_28 : decode cX3_least 28 = .ok (.iinc 3 1, 3) := by decide +kernel
theorem dX3_least_31 : decode cX3_least 31 = .ok (.goto (-22), 3) := by decide +kernel
theorem dX3_least_34 : decode cX3_least 34 = .ok (.iload_n 2, 1) := by decide +kernel
theorem dX3_least_35 : decode cX3_least 35 = .ok (.ireturn, 1) := by decide +kernel
theorem dX3_hedged_0 : decode cX3_hedged 0 = .ok (.iconst 1, 1) := by decide +kernel
theorem dX3_hedged_1 : decode cX3_hedged 1 = .ok (.istore_n 2, 1) := by decide +kernel
theorem dX3_hedged_2 : decode cX3_hedged 2 = .ok (.iload_n 2, 1) := by decide +kernel
theorem dX3_hedged_3 : decode cX3_hedged 3 = .ok (.aload_n 0, 1) := by decide +kernel
theorem dX3_hedged_4 : decode cX3_hedged 4 = .ok (.getfield 17, 3) := by decide +kernel
theorem dX3_hedged_7 : decode cX3_hedged 7 = .ok (.if_icmp .ge 26, 3) := by decide +kernel
theorem dX3_hedged_10 : decode cX3_hedged 10 = .ok (.aload_n 0, 1) := by decide +kernel
theorem dX3_hedged_11 : decode cX3_hedged 11 = .ok (.iload_n 1, 1) := by decide +kernel
theorem dX3_hedged_12 : decode cX3_hedged 12 = .ok (.iload_n 2, 1) := by decide +kernel
theorem dX3_hedged_13 : decode cX3_hedged 13 = .ok (.invokevirtual 95, 3) := by decide +kernel
theorem dX3_hedged_16 : decode cX3_hedged 16 = .ok (.aload_n 0, 1) := by decide +kernel
theorem dX3_hedged_17 : decode cX3_hedged 17 = .ok (.iload_n 1, 1) := by decide +kernel
theorem dX3_hedged_18 : decode cX3_hedged 18 = .ok (.iconst 0, 1) := by decide +kernel
theorem dX3_hedged_19 : decode cX3_hedged 19 = .ok (.invokevirtual 95, 3) := by decide +kernel
theorem dX3_hedged_22 : decode cX3_hedged 22 = .ok (.if_icmp .eq 5, 3) := by decide +kernel
theorem dX3_hedged_25 : decode cX3_hedged 25 = .ok (.iconst 0, 1) := by decide +kernel
theorem dX3_hedged_26 : decode cX3_hedged 26 = .ok (.ireturn, 1) := by decide +kernel
theorem dX3_hedged_27 : decode cX3_hedged 27 = .ok (.iinc 2 1, 3) := by decide +kernel
theorem dX3_hedged_30 : decode cX3_hedged 30 = .ok (.goto (-28), 3) := by decide +kernel
theorem dX3_hedged_33 : decode cX3_hedged 33 = .ok (.iconst 1, 1) := by decide +kernel
theorem dX3_hedged_34 : decode cX3_hedged 34 = .ok (.ireturn, 1) := by decide +kernel
theorem dX3_hedge_0 : decode cX3_hedge 0 = .ok (.iconst 1, 1) := by decide +kernel
theorem dX3_hedge_1 : decode cX3_hedge 1 = .ok (.istore 4, 2) := by decide +kernel
theorem dX3_hedge_3 : decode cX3_hedge 3 = .ok (.iload 4, 2) := by decide +kernel
theorem dX3_hedge_5 : decode cX3_hedge 5 = .ok (.sipush 999, 3) := by decide +kernel
theorem dX3_hedge_8 : decode cX3_hedge 8 = .ok (.if_icmp .gt 25, 3) := by decide +kernel
theorem dX3_hedge_11 : decode cX3_hedge 11 = .ok (.iload 4, 2) := by decide +kernel
theorem dX3_hedge_13 : decode cX3_hedge 13 = .ok (.iload 4, 2) := by decide +kernel
theorem dX3_hedge_15 : decode cX3_hedge 15 = .ok (.iload_n 2, 1) := by decide +kernel
theorem dX3_hedge_16 : decode cX3_hedge 16 = .ok (.imul, 1) := by decide +kernel
theorem dX3_hedge_17 : decode cX3_hedge 17 = .ok (.iload_n 3, 1) := by decide +kernel
theorem dX3_hedge_18 : decode cX3_hedge 18 = .ok (.idiv, 1) := by decide +kernel
theorem dX3_hedge_19 : decode cX3_hedge 19 = .ok (.iadd, 1) := by decide +kernel
theorem dX3_hedge_20 : decode cX3_hedge 20 = .ok (.iload_n 1, 1) := by decide +kernel
theorem dX3_hedge_21 : decode cX3_hedge 21 = .ok (.if_icmp .ne 6, 3) := by decide +kernel
theorem dX3_hedge_24 : decode cX3_hedge 24 = .ok (.iload 4, 2) := by decide +kernel
theorem dX3_hedge_26 : decode cX3_hedge 26 = .ok (.ireturn, 1) := by decide +kernel
theorem dX3_hedge_27 : decode cX3_hedge 27 = .ok (.iinc 4 1, 3) := by decide +kernel
theorem dX3_hedge_30 : decode cX3_hedge 30 = .ok (.goto (-27), 3) := by decide +kernel
theorem dX3_hedge_33 : decode cX3_hedge 33 = .ok (.iconst (-1), 1) := by decide +kernel
theorem dX3_hedge_34 : decode cX3_hedge 34 = .ok (.ireturn, 1) := by decide +kernel
theorem dX3_isDie_0 : decode cX3_isDie 0 = .ok (.iload_n 0, 1) := by decide +kernel
theorem dX3_isDie_1 : decode cX3_isDie 1 = .ok (.iconst 2, 1) := by decide +kernel
theorem dX3_isDie_2 : decode cX3_isDie 2 = .ok (.bipush 12, 2) := by decide +kernel
theorem dX3_isDie_4 : decode cX3_isDie 4 = .ok (.invokestatic 54, 3) := by decide +kernel
theorem dX3_isDie_7 : decode cX3_isDie 7 = .ok (.ireturn, 1) := by decide +kernel
theorem dX3_setDice_0 : decode cX3_setDice 0 = .ok (.aload_n 0, 1) := by decide +kernel
theorem dX3_setDice_1 : decode cX3_setDice 1 = .ok (.iconst 0, 1) := by decide +kernel
theorem dX3_setDice_2 : decode cX3_setDice 2 = .ok (.putfield 48, 3) := by decide +kernel
theorem dX3_setDice_5 : decode cX3_setDice 5 = .ok (.iload_n 1, 1) := by decide +kernel
theorem dX3_setDice_6 : decode cX3_setDice 6 = .ok (.invokestatic 98, 3) := by decide +kernel
theorem dX3_setDice_9 : decode cX3_setDice 9 = .ok (.ifCond .eq 33, 3) := by decide +kernel
theorem dX3_setDice_12 : decode cX3_setDice 12 = .ok (.iload_n 2, 1) := by decide +kernel
theorem dX3_setDice_13 : decode cX3_setDice 13 = .ok (.ifCond .eq 10, 3) := by decide +kernel
theorem dX3_setDice_16 : decode cX3_setDice 16 = .ok (.iload_n 2, 1) := by decide +kernel
theorem dX3_setDice_17 : decode cX3_setDice 17 = .ok (.invokestatic 98, 3) := by decide +kernel
theorem dX3_setDice_20 : decode cX3_setDice 20 = .ok (.ifCond .eq 22, 3) := by decide +kernel
theorem dX3_setDice_23 : decode cX3_setDice 23 = .ok (.iload_n 3, 1) := by decide +kernel
theorem dX3_setDice_24 : decode cX3_setDice 24 = .ok (.ifCond .eq 10, 3) := by decide +kernel
theorem dX3_setDice_27 : decode cX3_setDice 27 = .ok (.iload_n 3, 1) := by decide +kernel
theorem dX3_setDice_28 : decode cX3_setDice 28 = .ok (.invokestatic 98, 3) := by decide +kernel
theorem dX3_setDice_31 : decode cX3_setDice 31 = .ok (.ifCond .eq 11, 3) := by decide +kernel
theorem dX3_setDice_34 : decode cX3_setDice 34 = .ok (.iload_n 2, 1) := by decide +kernel
theorem dX3_setDice_35 : decode cX3_setDice 35 = .ok (.ifCond .ne 13, 3) := by decide +kernel
theorem dX3_setDice_38 : decode cX3_setDice 38 = .ok (.iload_n 3, 1) := by decide +kernel
theorem dX3_setDice_39 : decode cX3_setDice 39 = .ok (.ifCond .eq 9, 3) := by decide +kernel
theorem dX3_setDice_42 : decode cX3_setDice 42 = .ok (.aload_n 0, 1) := by decide +kernel
theorem dX3_setDice_43 : decode cX3_setDice 43 = .ok (.iconst 1, 1) := by decide +kernel
theorem dX3_setDice_44 : decode cX3_setDice 44 = .ok (.invokevirtual 102, 3) := by decide +kernel
theorem dX3_setDice_47 : decode cX3_setDice 47 = .ok (.ireturn, 1) := by decide +kernel
theorem dX3_setDice_48 : decode cX3_setDice 48 = .ok (.aload_n 0, 1) := by decide +kernel
theorem dX3_setDice_49 : decode cX3_setDice 49 = .ok (.getfield 51, 3) := by decide +kernel
theorem dX3_setDice_52 : decode cX3_setDice 52 = .ok (.ifCond .le 9, 3) := by decide +kernel
theorem dX3_setDice_55 : decode cX3_setDice 55 = .ok (.aload_n 0, 1) := by decide +kernel
theorem dX3_setDice_56 : decode cX3_setDice 56 = .ok (.iconst 2, 1) := by decide +kernel
theorem dX3_setDice_57 : decode cX3_setDice 57 = .ok (.invokevirtual 102, 3) := by decide +kernel
theorem dX3_setDice_60 : decode cX3_setDice 60 = .ok (.ireturn, 1) := by decide +kernel
theorem dX3_setDice_61 : decode cX3_setDice 61 = .ok (.aload_n 0, 1) := by decide +kernel
theorem dX3_setDice_62 : decode cX3_setDice 62 = .ok (.getfield 9, 3) := by decide +kernel
theorem dX3_setDice_65 : decode cX3_setDice 65 = .ok (.iconst 0, 1) := by decide +kernel
theorem dX3_setDice_66 : decode cX3_setDice 66 = .ok (.iload_n 1, 1) := by decide +kernel
theorem dX3_setDice_67 : decode cX3_setDice 67 = .ok (.iastore, 1) := by decide +kernel
theorem dX3_setDice_68 : decode cX3_setDice 68 = .ok (.aload_n 0, 1) := by decide +kernel
theorem dX3_setDice_69 : decode cX3_setDice 69 = .ok (.getfield 9, 3) := by decide +kernel
theorem dX3_setDice_72 : decode cX3_setDice 72 = .ok (.iconst 1, 1) := by decide +kernel
theorem dX3_setDice_73 : decode cX3_setDice 73 = .ok (.iconst 1, 1) := by decide +kernel
theorem dX3_setDice_74 : decode cX3_setDice 74 = .ok (.iload_n 2, 1) := by decide +kernel
theorem dX3_setDice_75 : decode cX3_setDice 75 = .ok (.invokestatic 105, 3) := by decide +kernel
theorem dX3_setDice_78 : decode cX3_setDice 78 = .ok (.iastore, 1) := by decide +kernel
theorem dX3_setDice_79 : decode cX3_setDice 79 = .ok (.aload_n 0, 1) := by decide +kernel
theorem dX3_setDice_80 : decode cX3_setDice 80 = .ok (.getfield 9, 3) := by decide +kernel
theorem dX3_setDice_83 : decode cX3_setDice 83 = .ok (.iconst 2, 1) := by decide +kernel
theorem dX3_setDice_84 : decode cX3_setDice 84 = .ok (.iconst 1, 1) := by decide +kernel
theorem dX3_setDice_85 : decode cX3_setDice 85 = .ok (.iload_n 3, 1) := by decide +kernel
theorem dX3_setDice_86 : decode cX3_setDice 86 = .ok (.invokestatic 105, 3) := by decide +kernel
theorem dX3_setDice_89 : decode cX3_setDice 89 = .ok (.iastore, 1) := by decide +kernel
theorem dX3_setDice_90 : decode cX3_setDice 90 = .ok (.aload_n 0, 1) := by decide +kernel
theorem dX3_setDice_91 : decode cX3_setDice 91 = .ok (.iload_n 2, 1) := by decide +kernel
theorem dX3_setDice_92 : decode cX3_setDice 92 = .ok (.ifCond .ne 7, 3) := by decide +kernel
theorem dX3_setDice_95 : decode cX3_setDice 95 = .ok (.iconst 1, 1) := by decide +kernel
theorem dX3_setDice_96 : decode cX3_setDice 96 = .ok (.goto 12, 3) := by decide +kernel
theorem dX3_setDice_99 : decode cX3_setDice 99 = .ok (.iload_n 3, 1) := by decide +kernel
theorem dX3_setDice_100 : decode cX3_setDice 100 = .ok (.ifCond .ne 7, 3) := by decide +kernel
theorem dX3_setDice_103 : decode cX3_setDice 103 = .ok (.iconst 2, 1) := by decide +kernel
theorem dX3_setDice_104 : decode cX3_setDice 104 = .ok (.goto 4, 3) := by decide +kernel
theorem dX3_setDice_107 : decode cX3_setDice 107 = .ok (.iconst 3, 1) := by decide +kernel
theorem dX3_setDice_108 : decode cX3_setDice 108 = .ok (.putfield 13, 3) := by decide +kernel
theorem dX3_setDice_111 : decode cX3_setDice 111 = .ok (.aload_n 0, 1) := by decide +kernel
theorem dX3_setDice_112 : decode cX3_setDice 112 = .ok (.aload_n 0, 1) := by decide +kernel
theorem dX3_setDice_113 : decode cX3_setDice 113 = .ok (.getfield 9, 3) := by decide +kernel
theorem dX3_setDice_116 : decode cX3_setDice 116 = .ok (.iconst 0, 1) := by decide +kernel
theorem dX3_setDice_117 : decode cX3_setDice 117 = .ok (.iaload, 1) := by decide +kernel
theorem dX3_setDice_118 : decode cX3_setDice 118 = .ok (.aload_n 0, 1) := by decide +kernel
theorem dX3_setDice_119 : decode cX3_setDice 119 = .ok (.getfield 9, 3) := by decide +kernel
theorem dX3_setDice_122 : decode cX3_setDice 122 = .ok (.iconst 1, 1) := by decide +kernel
theorem dX3_setDice_123 : decode cX3_setDice 123 = .ok (.iaload, 1) := by decide +kernel
theorem dX3_setDice_124 : decode cX3_setDice 124 = .ok (.imul, 1) := by decide +kernel
theorem dX3_setDice_125 : decode cX3_setDice 125 = .ok (.aload_n 0, 1) := by decide +kernel
theorem dX3_setDice_126 : decode cX3_setDice 126 = .ok (.getfield 9, 3) := by decide +kernel
theorem dX3_setDice_129 : decode cX3_setDice 129 = .ok (.iconst 2, 1) := by decide +kernel
theorem dX3_setDice_130 : decode cX3_setDice 130 = .ok (.iaload, 1) := by decide +kernel
theorem dX3_setDice_131 : decode cX3_setDice 131 = .ok (.imul, 1) := by decide +kernel
theorem dX3_setDice_132 : decode cX3_setDice 132 = .ok (.putfield 17, 3) := by decide +kernel
theorem dX3_setDice_135 : decode cX3_setDice 135 = .ok (.aload_n 0, 1) := by decide +kernel
theorem dX3_setDice_136 : decode cX3_setDice 136 = .ok (.getfield 17, 3) := by decide +kernel
theorem dX3_setDice_139 : decode cX3_setDice 139 = .ok (.ireturn, 1) := by decide +kernel
theorem dX3_dice_0 : decode cX3_dice 0 = .ok (.aload_n 0, 1) := by decide +kernel
theorem dX3_dice_1 : decode cX3_dice 1 = .ok (.aload_n 0, 1) := by decide +kernel
theorem dX3_dice_2 : decode cX3_dice 2 = .ok (.getfield 13, 3) := by decide +kernel
theorem dX3_dice_5 : decode cX3_dice 5 = .ok (.invokevirtual 108, 3) := by decide +kernel
theorem dX3_dice_8 : decode cX3_dice 8 = .ok (.ireturn, 1) := by decide +kernel
theorem dX3_outcomes_0 : decode cX3_outcomes 0 = .ok (.aload_n 0, 1) := by decide +kernel
theorem dX3_outcomes_1 : decode cX3_outcomes 1 = .ok (.aload_n 0, 1) := by decide +kernel
theorem dX3_outcomes_2 : decode cX3_outcomes 2 = .ok (.getfield 17, 3) := by decide +kernel
theorem dX3_outcomes_5 : decode cX3_outcomes 5 = .ok (.invokevirtual 108, 3) := by decide +kernel
theorem dX3_outcomes_8 : decode cX3_outcomes 8 = .ok (.ireturn, 1) := by decide +kernel
theorem dX3_sumOf_0 : decode cX3_sumOf 0 = .ok (.aload_n 0, 1) := by decide +kernel
theorem dX3_sumOf_1 : decode cX3_sumOf 1 = .ok (.iconst 0, 1) := by decide +kernel
theorem dX3_sumOf_2 : decode cX3_sumOf 2 = .ok (.putfield 48, 3) := by decide +kernel
theorem dX3_sumOf_5 : decode cX3_sumOf 5 = .ok (.aload_n 0, 1) := by decide +kernel
theorem dX3_sumOf_6 : decode cX3_sumOf 6 = .ok (.iload_n 1, 1) := by decide +kernel
theorem dX3_sumOf_7 : decode cX3_sumOf 7 = .ok (.invokevirtual 111, 3) := by decide +kernel
theorem dX3_sumOf_10 : decode cX3_sumOf 10 = .ok (.ifCond .eq 11, 3) := by decide +kernel
theorem dX3_sumOf_13 : decode cX3_sumOf 13 = .ok (.aload_n 0, 1) := by decide +kernel
theorem dX3_sumOf_14 : decode cX3_sumOf 14 = .ok (.iload_n 1, 1) := by decide +kernel
theorem dX3_sumOf_15 : decode cX3_sumOf 15 = .ok (.invokevirtual 65, 3) := by decide +kernel
theorem dX3_sumOf_18 : decode cX3_sumOf 18 = .ok (.goto 8, 3) := by decide +kernel
theorem dX3_sumOf_21 : decode cX3_sumOf 21 = .ok (.aload_n 0, 1) := by decide +kernel
theorem dX3_sumOf_22 : decode cX3_sumOf 22 = .ok (.iconst 1, 1) := by decide +kernel
theorem dX3_sumOf_23 : decode cX3_sumOf 23 = .ok (.invokevirtual 102, 3) := by decide +kernel
theorem dX3_sumOf_26 : decode cX3_sumOf 26 = .ok (.ireturn, 1) := by decide +kernel
theorem dX3_ways_0 : decode cX3_ways 0 = .ok (.aload_n 0, 1) := by decide +kernel
theorem dX3_ways_1 : decode cX3_ways 1 = .ok (.iconst 0, 1) := by decide +kernel
theorem dX3_ways_2 : decode cX3_ways 2 = .ok (.putfield 48, 3) := by decide +kernel
theorem dX3_ways_5 : decode cX3_ways 5 = .ok (.iload_n 1, 1) := by decide +kernel
theorem dX3_ways_6 : decode cX3_ways 6 = .ok (.iload_n 2, 1) := by decide +kernel
theorem dX3_ways_7 : decode cX3_ways 7 = .ok (.invokestatic 114, 3) := by decide +kernel
theorem dX3_ways_10 : decode cX3_ways 10 = .ok (.ifCond .eq 12, 3) := by decide +kernel
theorem dX3_ways_13 : decode cX3_ways 13 = .ok (.aload_n 0, 1) := by decide +kernel
theorem dX3_ways_14 : decode cX3_ways 14 = .ok (.iload_n 1, 1) := by decide +kernel
theorem dX3_ways_15 : decode cX3_ways 15 = .ok (.iload_n 2, 1) := by decide +kernel
theorem dX3_ways_16 : decode cX3_ways 16 = .ok (.invokevirtual 74, 3) := by decide +kernel
theorem dX3_ways_19 : decode cX3_ways 19 = .ok (.goto 8, 3) := by decide +kernel
theorem dX3_ways_22 : decode cX3_ways 22 = .ok (.aload_n 0, 1) := by decide +kernel
theorem dX3_ways_23 : decode cX3_ways 23 = .ok (.iconst 1, 1) := by decide +kernel
theorem dX3_ways_24 : decode cX3_ways 24 = .ok (.invokevirtual 102, 3) := by decide +kernel
theorem dX3_ways_27 : decode cX3_ways 27 = .ok (.ireturn, 1) := by decide +kernel
theorem dX3_chance_0 : decode cX3_chance 0 = .ok (.aload_n 0, 1) := by decide +kernel
theorem dX3_chance_1 : decode cX3_chance 1 = .ok (.iconst 0, 1) := by decide +kernel
theorem dX3_chance_2 : decode cX3_chance 2 = .ok (.putfield 48, 3) := by decide +kernel
theorem dX3_chance_5 : decode cX3_chance 5 = .ok (.iload_n 1, 1) := by decide +kernel
theorem dX3_chance_6 : decode cX3_chance 6 = .ok (.iload_n 2, 1) := by decide +kernel
theorem dX3_chance_7 : decode cX3_chance 7 = .ok (.invokestatic 114, 3) := by decide +kernel
theorem dX3_chance_10 : decode cX3_chance 10 = .ok (.ifCond .eq 19, 3) := by decide +kernel
theorem dX3_chance_13 : decode cX3_chance 13 = .ok (.aload_n 0, 1) := by decide +kernel
theorem dX3_chance_14 : decode cX3_chance 14 = .ok (.iload_n 1, 1) := by decide +kernel
theorem dX3_chance_15 : decode cX3_chance 15 = .ok (.iload_n 2, 1) := by decide +kernel
theorem dX3_chance_16 : decode cX3_chance 16 = .ok (.invokevirtual 74, 3) := by decide +kernel
theorem dX3_chance_19 : decode cX3_chance 19 = .ok (.i2d, 1) := by decide +kernel
theorem dX3_chance_20 : decode cX3_chance 20 = .ok (.aload_n 0, 1) := by decide +kernel
theorem dX3_chance_21 : decode cX3_chance 21 = .ok (.getfield 17, 3) := by decide +kernel
theorem dX3_chance_24 : decode cX3_chance 24 = .ok (.i2d, 1) := by decide +kernel
theorem dX3_chance_25 : decode cX3_chance 25 = .ok (.ddiv, 1) := by decide +kernel
theorem dX3_chance_26 : decode cX3_chance 26 = .ok (.goto 9, 3) := by decide +kernel
theorem dX3_chance_29 : decode cX3_chance 29 = .ok (.aload_n 0, 1) := by decide +kernel
theorem dX3_chance_30 : decode cX3_chance 30 = .ok (.iconst 1, 1) := by decide +kernel
theorem dX3_chance_31 : decode cX3_chance 31 = .ok (.invokevirtual 102, 3) := by decide +kernel
theorem dX3_chance_34 : decode cX3_chance 34 = .ok (.i2d, 1) := by decide +kernel
theorem dX3_chance_35 : decode cX3_chance 35 = .ok (.dreturn, 1) := by decide +kernel
theorem dX3_lay_0 : decode cX3_lay 0 = .ok (.aload_n 0, 1) := by decide +kernel
theorem dX3_lay_1 : decode cX3_lay 1 = .ok (.iconst 0, 1) := by decide +kernel
theorem dX3_lay_2 : decode cX3_lay 2 = .ok (.putfield 48, 3) := by decide +kernel
theorem dX3_lay_5 : decode cX3_lay 5 = .ok (.iload_n 1, 1) := by decide +kernel
theorem dX3_lay_6 : decode cX3_lay 6 = .ok (.invokestatic 118, 3) := by decide +kernel
theorem dX3_lay_9 : decode cX3_lay 9 = .ok (.ifCond .ne 9, 3) := by decide +kernel
theorem dX3_lay_12 : decode cX3_lay 12 = .ok (.aload_n 0, 1) := by decide +kernel
theorem dX3_lay_13 : decode cX3_lay 13 = .ok (.iconst 1, 1) := by decide +kernel
theorem dX3_lay_14 : decode cX3_lay 14 = .ok (.invokevirtual 102, 3) := by decide +kernel
theorem dX3_lay_17 : decode cX3_lay 17 = .ok (.ireturn, 1) := by decide +kernel
theorem dX3_lay_18 : decode cX3_lay 18 = .ok (.iload_n 2, 1) := by decide +kernel
theorem dX3_lay_19 : decode cX3_lay 19 = .ok (.iload_n 3, 1) := by decide +kernel
theorem dX3_lay_20 : decode cX3_lay 20 = .ok (.invokestatic 114, 3) := by decide +kernel
theorem dX3_lay_23 : decode cX3_lay 23 = .ok (.ifCond .eq 36, 3) := by decide +kernel
theorem dX3_lay_26 : decode cX3_lay 26 = .ok (.iload 4, 2) := by decide +kernel
theorem dX3_lay_28 : decode cX3_lay 28 = .ok (.iconst 1, 1) := by decide +kernel
theorem dX3_lay_29 : decode cX3_lay 29 = .ok (.bipush 100, 2) := by decide +kernel
theorem dX3_lay_31 : decode cX3_lay 31 = .ok (.invokestatic 54, 3) := by decide +kernel
theorem dX3_lay_34 : decode cX3_lay 34 = .ok (.ifCond .eq 25, 3) := by decide +kernel
theorem dX3_lay_37 : decode cX3_lay 37 = .ok (.iload 5, 2) := by decide +kernel
theorem dX3_lay_39 : decode cX3_lay 39 = .ok (.iconst 1, 1) := by decide +kernel
theorem dX3_lay_40 : decode cX3_lay 40 = .ok (.bipush 20, 2) := by decide +kernel
theorem dX3_lay_42 : decode cX3_lay 42 = .ok (.invokestatic 54, 3) := by decide +kernel
theorem dX3_lay_45 : decode cX3_lay 45 = .ok (.ifCond .eq 14, 3) := by decide +kernel
theorem dX3_lay_48 : decode cX3_lay 48 = .ok (.iload 6, 2) := by decide +kernel
theorem dX3_lay_50 : decode cX3_lay 50 = .ok (.iconst 1, 1) := by decide +kernel
theorem dX3_lay_51 : decode cX3_lay 51 = .ok (.bipush 10, 2) := by decide +kernel
theorem dX3_lay_53 : decode cX3_lay 53 = .ok (.invokestatic 54, 3) := by decide +kernel
theorem dX3_lay_56 : decode cX3_lay 56 = .ok (.ifCond .ne 9, 3) := by decide +kernel
theorem dX3_lay_59 : decode cX3_lay 59 = .ok (.aload_n 0, 1) := by decide +kernel
theorem dX3_lay_60 : decode cX3_lay 60 = .ok (.iconst 2, 1) := by decide +kernel
theorem dX3_lay_61 : decode cX3_lay 61 = .ok (.invokevirtual 102, 3) := by decide +kernel
theorem dX3_lay_64 : decode cX3_lay 64 = .ok (.ireturn, 1) := by decide +kernel
theorem dX3_lay_65 : decode cX3_lay 65 = .ok (.aload_n 0, 1) := by decide +kernel
theorem dX3_lay_66 : decode cX3_lay 66 = .ok (.getfield 51, 3) := by decide +kernel
theorem dX3_lay_69 : decode cX3_lay 69 = .ok (.bipush 12, 2) := by decide +kernel
theorem dX3_lay_71 : decode cX3_lay 71 = .ok (.if_icmp .eq 14, 3) := by decide +kernel
theorem dX3_lay_74 : decode cX3_lay 74 = .ok (.aload_n 0, 1) := by decide +kernel
theorem dX3_lay_75 : decode cX3_lay 75 = .ok (.getfield 20, 3) := by decide +kernel
theorem dX3_lay_78 : decode cX3_lay 78 = .ok (.iload_n 1, 1) := by decide +kernel
theorem dX3_lay_79 : decode cX3_lay 79 = .ok (.iaload, 1) := by decide +kernel
theorem dX3_lay_80 : decode cX3_lay 80 = .ok (.iload 4, 2) := by decide +kernel
theorem dX3_lay_82 : decode cX3_lay 82 = .ok (.if_icmp .ge 9, 3) := by decide +kernel
theorem dX3_lay_85 : decode cX3_lay 85 = .ok (.aload_n 0, 1) := by decide +kernel
theorem dX3_lay_86 : decode cX3_lay 86 = .ok (.iconst 3, 1) := by decide +kernel
theorem dX3_lay_87 : decode cX3_lay 87 = .ok (.invokevirtual 102, 3) := by decide +kernel
theorem dX3_lay_90 : decode cX3_lay 90 = .ok (.ireturn, 1) := by decide +kernel
theorem dX3_lay_91 : decode cX3_lay 91 = .ok (.aload_n 0, 1) := by decide +kernel
theorem dX3_lay_92 : decode cX3_lay 92 = .ok (.getfield 20, 3) := by decide +kernel
theorem dX3_lay_95 : decode cX3_lay 95 = .ok (.iload_n 1, 1) := by decide +kernel
theorem dX3_lay_96 : decode cX3_lay 96 = .ok (.dup2, 1) := by decide +kernel
theorem dX3_lay_97 : decode cX3_lay 97 = .ok (.iaload, 1) := by decide +kernel
theorem dX3_lay_98 : decode cX3_lay 98 = .ok (.iload 4, 2) := by decide +kernel
theorem dX3_lay_100 : decode cX3_lay 100 = .ok (.isub, 1) := by decide +kernel
theorem dX3_lay_101 : decode cX3_lay 101 = .ok (.iastore, 1) := by decide +kernel
theorem dX3_lay_102 : decode cX3_lay 102 = .ok (.aload_n 0, 1) := by decide +kernel
theorem dX3_lay_103 : decode cX3_lay 103 = .ok (.getfield 26, 3) := by decide +kernel
theorem dX3_lay_106 : decode cX3_lay 106 = .ok (.aload_n 0, 1) := by decide +kernel
theorem dX3_lay_107 : decode cX3_lay 107 = .ok (.getfield 51, 3) := by decide +kernel
theorem dX3_lay_110 : decode cX3_lay 110 = .ok (.iload_n 1, 1) := by decide +kernel
theorem dX3_lay_111 : decode cX3_lay 111 = .ok (.iastore, 1) := by decide +kernel
theorem dX3_lay_112 : decode cX3_lay 112 = .ok (.aload_n 0, 1) := by decide +kernel
theorem dX3_lay_113 : decode cX3_lay 113 = .ok (.getfield 29, 3) := by decide +kernel
theorem dX3_lay_116 : decode cX3_lay 116 = .ok (.aload_n 0, 1) := by decide +kernel
theorem dX3_lay_117 : decode cX3_lay 117 = .ok (.getfield 51, 3) := by decide +kernel
theorem dX3_lay_120 : decode cX3_lay 120 = .ok (.iload_n 2, 1) := by decide +kernel
theorem dX3_lay_121 : decode cX3_lay 121 = .ok (.iastore, 1) := by decide +kernel
theorem dX3_lay_122 : decode cX3_lay 122 = .ok (.aload_n 0, 1) := by decide +kernel
theorem dX3_lay_123 : decode cX3_lay 123 = .ok (.getfield 32, 3) := by decide +kernel
theorem dX3_lay_126 : decode cX3_lay 126 = .ok (.aload_n 0, 1) := by decide +kernel
theorem dX3_lay_127 : decode cX3_lay 127 = .ok (.getfield 51, 3) := by decide +kernel
theorem dX3_lay_130 : decode cX3_lay 130 = .ok (.iload_n 3, 1) := by decide +kernel
theorem dX3_lay_131 : decode cX3_lay 131 = .ok (.iastore, 1) := by decide +kernel
theorem dX3_lay_132 : decode cX3_lay 132 = .ok (.aload_n 0, 1) := by decide +kernel
theorem dX3_lay_133 : decode cX3_lay 133 = .ok (.getfield 35, 3) := by decide +kernel
theorem dX3_lay_136 : decode cX3_lay 136 = .ok (.aload_n 0, 1) := by decide +kernel
theorem dX3_lay_137 : decode cX3_lay 137 = .ok (.getfield 51, 3) := by decide +kernel
theorem dX3_lay_140 : decode cX3_lay 140 = .ok (.iload 4, 2) := by decide +kernel
theorem dX3_lay_142 : decode cX3_lay 142 = .ok (.iastore, 1) := by decide +kernel
theorem dX3_lay_143 : decode cX3_lay 143 = .ok (.aload_n 0, 1) := by decide +kernel
theorem dX3_lay_144 : decode cX3_lay 144 = .ok (.getfield 38, 3) := by decide +kernel
theorem dX3_lay_147 : decode cX3_lay 147 = .ok (.aload_n 0, 1) := by decide +kernel
theorem dX3_lay_148 : decode cX3_lay 148 = .ok (.getfield 51, 3) := by decide +kernel
theorem dX3_lay_151 : decode cX3_lay 151 = .ok (.iload 4, 2) := by decide +kernel
theorem dX3_lay_153 : decode cX3_lay 153 = .ok (.iload 5, 2) := by decide +kernel
theorem dX3_lay_155 : decode cX3_lay 155 = .ok (.imul, 1) := by decide +kernel
theorem dX3_lay_156 : decode cX3_lay 156 = .ok (.iload 6, 2) := by decide +kernel
theorem dX3_lay_158 : decode cX3_lay 158 = .ok (.idiv, 1) := by decide +kernel
theorem dX3_lay_159 : decode cX3_lay 159 = .ok (.iastore, 1) := by decide +kernel
theorem dX3_lay_160 : decode cX3_lay 160 = .ok (.iconst 0, 1) := by decide +kernel
theorem dX3_lay_161 : decode cX3_lay 161 = .ok (.istore 7, 2) := by decide +kernel
theorem dX3_lay_163 : decode cX3_lay 163 = .ok (.iload 7, 2) := by decide +kernel
theorem dX3_lay_165 : decode cX3_lay 165 = .ok (.aload_n 0, 1) := by decide +kernel
theorem dX3_lay_166 : decode cX3_lay 166 = .ok (.getfield 17, 3) := by decide +kernel
theorem dX3_lay_169 : decode cX3_lay 169 = .ok (.if_icmp .ge 33, 3) := by decide +kernel
theorem dX3_lay_172 : decode cX3_lay 172 = .ok (.aload_n 0, 1) := by decide +kernel
theorem dX3_lay_173 : decode cX3_lay 173 = .ok (.getfield 41, 3) := by decide +kernel
theorem dX3_lay_176 : decode cX3_lay 176 = .ok (.sipush 1728, 3) := by decide +kernel
theorem dX3_lay_179 : decode cX3_lay 179 = .ok (.aload_n 0, 1) := by decide +kernel
theorem dX3_lay_180 : decode cX3_lay 180 = .ok (.getfield 51, 3) := by decide +kernel
theorem dX3_lay_183 : decode cX3_lay 183 = .ok (.imul, 1) := by decide +kernel
theorem dX3_lay_184 : decode cX3_lay 184 = .ok (.iload 7, 2) := by decide +kernel
theorem dX3_lay_186 : decode cX3_lay 186 = .ok (.iadd, 1) := by decide +kernel
theorem dX3_lay_187 : decode cX3_lay 187 = .ok (.aload_n 0, 1) := by decide +kernel
end
section
theorem dX3_lay_188 : decode cX3_lay 188 = .ok (.iload_n 2, 1) := by decide +kernel
theorem dX3_lay_189 : decode cX3_lay 189 = .ok (.iload_n 3, 1) := by decide +kernel
theorem dX3_lay_190 : decode cX3_lay 190 = .ok (.iload 7, 2) := by decide +kernel
theorem dX3_lay_192 : decode cX3_lay 192 = .ok (.invokevirtual 62, 3) := by decide +kernel
theorem dX3_lay_195 : decode cX3_lay 195 = .ok (.bastore, 1) := by decide +kernel
theorem dX3_lay_196 : decode cX3_lay 196 = .ok (.iinc 7 1, 3) := by decide +kernel
theorem dX3_lay_199 : decode cX3_lay 199 = .ok (.goto (-36), 3) := by decide +kernel
theorem dX3_lay_202 : decode cX3_lay 202 = .ok (.aload_n 0, 1) := by decide +kernel
theorem dX3_lay_203 : decode cX3_lay 203 = .ok (.dup, 1) := by decide +kernel
theorem dX3_lay_204 : decode cX3_lay 204 = .ok (.getfield 51, 3) := by decide +kernel
theorem dX3_lay_207 : decode cX3_lay 207 = .ok (.iconst 1, 1) := by decide +kernel
theorem dX3_lay_208 : decode cX3_lay 208 = .ok (.iadd, 1) := by decide +kernel
theorem dX3_lay_209 : decode cX3_lay 209 = .ok (.putfield 51, 3) := by decide +kernel
theorem dX3_lay_212 : decode cX3_lay 212 = .ok (.aload_n 0, 1) := by decide +kernel
theorem dX3_lay_213 : decode cX3_lay 213 = .ok (.getfield 51, 3) := by decide +kernel
theorem dX3_lay_216 : decode cX3_lay 216 = .ok (.iconst 1, 1) := by decide +kernel
theorem dX3_lay_217 : decode cX3_lay 217 = .ok (.isub, 1) := by decide +kernel
theorem dX3_lay_218 : decode cX3_lay 218 = .ok (.ireturn, 1) := by decide +kernel
theorem dX3_takeBack_0 : decode cX3_takeBack 0 = .ok (.aload_n 0, 1) := by decide +kernel
theorem dX3_takeBack_1 : decode cX3_takeBack 1 = .ok (.iconst 0, 1) := by decide +kernel
theorem dX3_takeBack_2 : decode cX3_takeBack 2 = .ok (.putfield 48, 3) := by decide +kernel
theorem dX3_takeBack_5 : decode cX3_takeBack 5 = .ok (.aload_n 0, 1) := by decide +kernel
theorem dX3_takeBack_6 : decode cX3_takeBack 6 = .ok (.iload_n 1, 1) := by decide +kernel
theorem dX3_takeBack_7 : decode cX3_takeBack 7 = .ok (.invokevirtual 121, 3) := by decide +kernel
theorem dX3_takeBack_10 : decode cX3_takeBack 10 = .ok (.ifCond .ne 9, 3) := by decide +kernel
theorem dX3_takeBack_13 : decode cX3_takeBack 13 = .ok (.aload_n 0, 1) := by decide +kernel
theorem dX3_takeBack_14 : decode cX3_takeBack 14 = .ok (.iconst 1, 1) := by decide +kernel
theorem dX3_takeBack_15 : decode cX3_takeBack 15 = .ok (.invokevirtual 102, 3) := by decide +kernel
theorem dX3_takeBack_18 : decode cX3_takeBack 18 = .ok (.ireturn, 1) := by decide +kernel
theorem dX3_takeBack_19 : decode cX3_takeBack 19 = .ok (.aload_n 0, 1) := by decide +kernel
theorem dX3_takeBack_20 : decode cX3_takeBack 20 = .ok (.getfield 35, 3) := by decide +kernel
theorem dX3_takeBack_23 : decode cX3_takeBack 23 = .ok (.iload_n 1, 1) := by decide +kernel
theorem dX3_takeBack_24 : decode cX3_takeBack 24 = .ok (.iaload, 1) := by decide +kernel
theorem dX3_takeBack_25 : decode cX3_takeBack 25 = .ok (.istore_n 2, 1) := by decide +kernel
theorem dX3_takeBack_26 : decode cX3_takeBack 26 = .ok (.aload_n 0, 1) := by decide +kernel
theorem dX3_takeBack_27 : decode cX3_takeBack 27 = .ok (.getfield 20, 3) := by decide +kernel
theorem dX3_takeBack_30 : decode cX3_takeBack 30 = .ok (.aload_n 0, 1) := by decide +kernel
theorem dX3_takeBack_31 : decode cX3_takeBack 31 = .ok (.getfield 26, 3) := by decide +kernel
theorem dX3_takeBack_34 : decode cX3_takeBack 34 = .ok (.iload_n 1, 1) := by decide +kernel
theorem dX3_takeBack_35 : decode cX3_takeBack 35 = .ok (.iaload, 1) := by decide +kernel
theorem dX3_takeBack_36 : decode cX3_takeBack 36 = .ok (.dup2, 1) := by decide +kernel
theorem dX3_takeBack_37 : decode cX3_takeBack 37 = .ok (.iaload, 1) := by decide +kernel
theorem dX3_takeBack_38 : decode cX3_takeBack 38 = .ok (.iload_n 2, 1) := by decide +kernel
theorem dX3_takeBack_39 : decode cX3_takeBack 39 = .ok (.iadd, 1) := by decide +kernel
theorem dX3_takeBack_40 : decode cX3_takeBack 40 = .ok (.iastore, 1) := by decide +kernel
theorem dX3_takeBack_41 : decode cX3_takeBack 41 = .ok (.aload_n 0, 1) := by decide +kernel
theorem dX3_takeBack_42 : decode cX3_takeBack 42 = .ok (.dup, 1) := by decide +kernel
theorem dX3_takeBack_43 : decode cX3_takeBack 43 = .ok (.getfield 51, 3) := by decide +kernel
theorem dX3_takeBack_46 : decode cX3_takeBack 46 = .ok (.iconst 1, 1) := by decide +kernel
theorem dX3_takeBack_47 : decode cX3_takeBack 47 = .ok (.isub, 1) := by decide +kernel
theorem dX3_takeBack_48 : decode cX3_takeBack 48 = .ok (.putfield 51, 3) := by decide +kernel
theorem dX3_takeBack_51 : decode cX3_takeBack 51 = .ok (.iload_n 1, 1) := by decide +kernel
theorem dX3_takeBack_52 : decode cX3_takeBack 52 = .ok (.istore_n 3, 1) := by decide +kernel
theorem dX3_takeBack_53 : decode cX3_takeBack 53 = .ok (.iload_n 3, 1) := by decide +kernel
theorem dX3_takeBack_54 : decode cX3_takeBack 54 = .ok (.aload_n 0, 1) := by decide +kernel
theorem dX3_takeBack_55 : decode cX3_takeBack 55 = .ok (.getfield 51, 3) := by decide +kernel
theorem dX3_takeBack_58 : decode cX3_takeBack 58 = .ok (.if_icmp .ge 106, 3) := by decide +kernel
theorem dX3_takeBack_61 : decode cX3_takeBack 61 = .ok (.aload_n 0, 1) := by decide +kernel
theorem dX3_takeBack_62 : decode cX3_takeBack 62 = .ok (.getfield 26, 3) := by decide +kernel
theorem dX3_takeBack_65 : decode cX3_takeBack 65 = .ok (.iload_n 3, 1) := by decide +kernel
theorem dX3_takeBack_66 : decode cX3_takeBack 66 = .ok (.aload_n 0, 1) := by decide +kernel
theorem dX3_takeBack_67 : decode cX3_takeBack 67 = .ok (.getfield 26, 3) := by decide +kernel
theorem dX3_takeBack_70 : decode cX3_takeBack 70 = .ok (.iload_n 3, 1) := by decide +kernel
theorem dX3_takeBack_71 : decode cX3_takeBack 71 = .ok (.iconst 1, 1) := by decide +kernel
theorem dX3_takeBack_72 : decode cX3_takeBack 72 = .ok (.iadd, 1) := by decide +kernel
theorem dX3_takeBack_73 : decode cX3_takeBack 73 = .ok (.iaload, 1) := by decide +kernel
theorem dX3_takeBack_74 : decode cX3_takeBack 74 = .ok (.iastore, 1) := by decide +kernel
theorem dX3_takeBack_75 : decode cX3_takeBack 75 = .ok (.aload_n 0, 1) := by decide +kernel
theorem dX3_takeBack_76 : decode cX3_takeBack 76 = .ok (.getfield 29, 3) := by decide +kernel
theorem dX3_takeBack_79 : decode cX3_takeBack 79 = .ok (.iload_n 3, 1) := by decide +kernel
theorem dX3_takeBack_80 : decode cX3_takeBack 80 = .ok (.aload_n 0, 1) := by decide +kernel
theorem dX3_takeBack_81 : decode cX3_takeBack 81 = .ok (.getfield 29, 3) := by decide +kernel
theorem dX3_takeBack_84 : decode cX3_takeBack 84 = .ok (.iload_n 3, 1) := by decide +kernel
theorem dX3_takeBack_85 : decode cX3_takeBack 85 = .ok (.iconst 1, 1) := by decide +kernel
theorem dX3_takeBack_86 : decode cX3_takeBack 86 = .ok (.iadd, 1) := by decide +kernel
theorem dX3_takeBack_87 : decode cX3_takeBack 87 = .ok (.iaload, 1) := by decide +kernel
theorem dX3_takeBack_88 : decode cX3_takeBack 88 = .ok (.iastore, 1) := by decide +kernel
theorem dX3_takeBack_89 : decode cX3_takeBack 89 = .ok (.aload_n 0, 1) := by decide +kernel
theorem dX3_takeBack_90 : decode cX3_takeBack 90 = .ok (.getfield 32, 3) := by decide +kernel
theorem dX3_takeBack_93 : decode cX3_takeBack 93 = .ok (.iload_n 3, 1) := by decide +kernel
theorem dX3_takeBack_94 : decode cX3_takeBack 94 = .ok (.aload_n 0, 1) := by decide +kernel
theorem dX3_takeBack_95 : decode cX3_takeBack 95 = .ok (.getfield 32, 3) := by decide +kernel
theorem dX3_takeBack_98 : decode cX3_takeBack 98 = .ok (.iload_n 3, 1) := by decide +kernel
theorem dX3_takeBack_99 : decode cX3_takeBack 99 = .ok (.iconst 1, 1) := by decide +kernel
theorem dX3_takeBack_100 : decode cX3_takeBack 100 = .ok (.iadd, 1) := by decide +kernel
theorem dX3_takeBack_101 : decode cX3_takeBack 101 = .ok (.iaload, 1) := by decide +kernel
theorem dX3_takeBack_102 : decode cX3_takeBack 102 = .ok (.iastore, 1) := by decide +kernel
theorem dX3_takeBack_103 : decode cX3_takeBack 103 = .ok (.aload_n 0, 1) := by decide +kernel
theorem dX3_takeBack_104 : decode cX3_takeBack 104 = .ok (.getfield 35, 3) := by decide +kernel
theorem dX3_takeBack_107 : decode cX3_takeBack 107 = .ok (.iload_n 3, 1) := by decide +kernel
theorem dX3_takeBack_108 : decode cX3_takeBack 108 = .ok (.aload_n 0, 1) := by decide +kernel
theorem dX3_takeBack_109 : decode cX3_takeBack 109 = .ok (.getfield 35, 3) := by decide +kernel
theorem dX3_takeBack_112 : decode cX3_takeBack 112 = .ok (.iload_n 3, 1) := by decide +kernel
theorem dX3_takeBack_113 : decode cX3_takeBack 113 = .ok (.iconst 1, 1) := by decide +kernel
theorem dX3_takeBack_114 : decode cX3_takeBack 114 = .ok (.iadd, 1) := by decide +kernel
theorem dX3_takeBack_115 : decode cX3_takeBack 115 = .ok (.iaload, 1) := by decide +kernel
theorem dX3_takeBack_116 : decode cX3_takeBack 116 = .ok (.iastore, 1) := by decide +kernel
theorem dX3_takeBack_117 : decode cX3_takeBack 117 = .ok (.aload_n 0, 1) := by decide +kernel
theorem dX3_takeBack_118 : decode cX3_takeBack 118 = .ok (.getfield 38, 3) := by decide +kernel
theorem dX3_takeBack_121 : decode cX3_takeBack 121 = .ok (.iload_n 3, 1) := by decide +kernel
theorem dX3_takeBack_122 : decode cX3_takeBack 122 = .ok (.aload_n 0, 1) := by decide +kernel
theorem dX3_takeBack_123 : decode cX3_takeBack 123 = .ok (.getfield 38, 3) := by decide +kernel
theorem dX3_takeBack_126 : decode cX3_takeBack 126 = .ok (.iload_n 3, 1) := by decide +kernel
theorem dX3_takeBack_127 : decode cX3_takeBack 127 = .ok (.iconst 1, 1) := by decide +kernel
theorem dX3_takeBack_128 : decode cX3_takeBack 128 = .ok (.iadd, 1) := by decide +kernel
theorem dX3_takeBack_129 : decode cX3_takeBack 129 = .ok (.iaload, 1) := by decide +kernel
theorem dX3_takeBack_130 : decode cX3_takeBack 130 = .ok (.iastore, 1) := by decide +kernel
theorem dX3_takeBack_131 : decode cX3_takeBack 131 = .ok (.aload_n 0, 1) := by decide +kernel
theorem dX3_takeBack_132 : decode cX3_takeBack 132 = .ok (.getfield 41, 3) := by decide +kernel
theorem dX3_takeBack_135 : decode cX3_takeBack 135 = .ok (.sipush 1728, 3) := by decide +kernel
theorem dX3_takeBack_138 : decode cX3_takeBack 138 = .ok (.iload_n 3, 1) := by decide +kernel
theorem dX3_takeBack_139 : decode cX3_takeBack 139 = .ok (.iconst 1, 1) := by decide +kernel
theorem dX3_takeBack_140 : decode cX3_takeBack 140 = .ok (.iadd, 1) := by decide +kernel
theorem dX3_takeBack_141 : decode cX3_takeBack 141 = .ok (.imul, 1) := by decide +kernel
theorem dX3_takeBack_142 : decode cX3_takeBack 142 = .ok (.aload_n 0, 1) := by decide +kernel
theorem dX3_takeBack_143 : decode cX3_takeBack 143 = .ok (.getfield 41, 3) := by decide +kernel
theorem dX3_takeBack_146 : decode cX3_takeBack 146 = .ok (.sipush 1728, 3) := by decide +kernel
theorem dX3_takeBack_149 : decode cX3_takeBack 149 = .ok (.iload_n 3, 1) := by decide +kernel
theorem dX3_takeBack_150 : decode cX3_takeBack 150 = .ok (.imul, 1) := by decide +kernel
theorem dX3_takeBack_151 : decode cX3_takeBack 151 = .ok (.aload_n 0, 1) := by decide +kernel
theorem dX3_takeBack_152 : decode cX3_takeBack 152 = .ok (.getfield 17, 3) := by decide +kernel
theorem dX3_takeBack_155 : decode cX3_takeBack 155 = .ok (.invokestatic 124, 3) := by decide +kernel
theorem dX3_takeBack_158 : decode cX3_takeBack 158 = .ok (.iinc 3 1, 3) := by decide +kernel
theorem dX3_takeBack_161 : decode cX3_takeBack 161 = .ok (.goto (-108), 3) := by decide +kernel
theorem dX3_takeBack_164 : decode cX3_takeBack 164 = .ok (.iload_n 2, 1) := by decide +kernel
theorem dX3_takeBack_165 : decode cX3_takeBack 165 = .ok (.ireturn, 1) := by decide +kernel
theorem dX3_settle_0 : decode cX3_settle 0 = .ok (.aload_n 0, 1) := by decide +kernel
theorem dX3_settle_1 : decode cX3_settle 1 = .ok (.iconst 0, 1) := by decide +kernel
theorem dX3_settle_2 : decode cX3_settle 2 = .ok (.putfield 48, 3) := by decide +kernel
theorem dX3_settle_5 : decode cX3_settle 5 = .ok (.aload_n 0, 1) := by decide +kernel
theorem dX3_settle_6 : decode cX3_settle 6 = .ok (.iload_n 1, 1) := by decide +kernel
theorem dX3_settle_7 : decode cX3_settle 7 = .ok (.invokevirtual 111, 3) := by decide +kernel
theorem dX3_settle_10 : decode cX3_settle 10 = .ok (.ifCond .ne 9, 3) := by decide +kernel
theorem dX3_settle_13 : decode cX3_settle 13 = .ok (.aload_n 0, 1) := by decide +kernel
theorem dX3_settle_14 : decode cX3_settle 14 = .ok (.iconst 1, 1) := by decide +kernel
theorem dX3_settle_15 : decode cX3_settle 15 = .ok (.invokevirtual 102, 3) := by decide +kernel
theorem dX3_settle_18 : decode cX3_settle 18 = .ok (.ireturn, 1) := by decide +kernel
theorem dX3_settle_19 : decode cX3_settle 19 = .ok (.aload_n 0, 1) := by decide +kernel
theorem dX3_settle_20 : decode cX3_settle 20 = .ok (.iload_n 1, 1) := by decide +kernel
theorem dX3_settle_21 : decode cX3_settle 21 = .ok (.invokevirtual 92, 3) := by decide +kernel
theorem dX3_settle_24 : decode cX3_settle 24 = .ok (.istore_n 2, 1) := by decide +kernel
theorem dX3_settle_25 : decode cX3_settle 25 = .ok (.iconst 0, 1) := by decide +kernel
theorem dX3_settle_26 : decode cX3_settle 26 = .ok (.istore_n 3, 1) := by decide +kernel
theorem dX3_settle_27 : decode cX3_settle 27 = .ok (.iload_n 3, 1) := by decide +kernel
theorem dX3_settle_28 : decode cX3_settle 28 = .ok (.aload_n 0, 1) := by decide +kernel
theorem dX3_settle_29 : decode cX3_settle 29 = .ok (.getfield 51, 3) := by decide +kernel
theorem dX3_settle_32 : decode cX3_settle 32 = .ok (.if_icmp .ge 51, 3) := by decide +kernel
theorem dX3_settle_35 : decode cX3_settle 35 = .ok (.aload_n 0, 1) := by decide +kernel
theorem dX3_settle_36 : decode cX3_settle 36 = .ok (.getfield 41, 3) := by decide +kernel
theorem dX3_settle_39 : decode cX3_settle 39 = .ok (.sipush 1728, 3) := by decide +kernel
theorem dX3_settle_42 : decode cX3_settle 42 = .ok (.iload_n 3, 1) := by decide +kernel
theorem dX3_settle_43 : decode cX3_settle 43 = .ok (.imul, 1) := by decide +kernel
theorem dX3_settle_44 : decode cX3_settle 44 = .ok (.iload_n 1, 1) := by decide +kernel
theorem dX3_settle_45 : decode cX3_settle 45 = .ok (.iadd, 1) := by decide +kernel
theorem dX3_settle_46 : decode cX3_settle 46 = .ok (.baload, 1) := by decide +kernel
theorem dX3_settle_47 : decode cX3_settle 47 = .ok (.ifCond .eq 30, 3) := by decide +kernel
theorem dX3_settle_50 : decode cX3_settle 50 = .ok (.aload_n 0, 1) := by decide +kernel
theorem dX3_settle_51 : decode cX3_settle 51 = .ok (.getfield 20, 3) := by decide +kernel
theorem dX3_settle_54 : decode cX3_settle 54 = .ok (.aload_n 0, 1) := by decide +kernel
theorem dX3_settle_55 : decode cX3_settle 55 = .ok (.getfield 26, 3) := by decide +kernel
theorem dX3_settle_58 : decode cX3_settle 58 = .ok (.iload_n 3, 1) := by decide +kernel
theorem dX3_settle_59 : decode cX3_settle 59 = .ok (.iaload, 1) := by decide +kernel
theorem dX3_settle_60 : decode cX3_settle 60 = .ok (.dup2, 1) := by decide +kernel
theorem dX3_settle_61 : decode cX3_settle 61 = .ok (.iaload, 1) := by decide +kernel
theorem dX3_settle_62 : decode cX3_settle 62 = .ok (.aload_n 0, 1) := by decide +kernel
theorem dX3_settle_63 : decode cX3_settle 63 = .ok (.getfield 35, 3) := by decide +kernel
theorem dX3_settle_66 : decode cX3_settle 66 = .ok (.iload_n 3, 1) := by decide +kernel
theorem dX3_settle_67 : decode cX3_settle 67 = .ok (.iaload, 1) := by decide +kernel
theorem dX3_settle_68 : decode cX3_settle 68 = .ok (.aload_n 0, 1) := by decide +kernel
theorem dX3_settle_69 : decode cX3_settle 69 = .ok (.getfield 38, 3) := by decide +kernel
theorem dX3_settle_72 : decode cX3_settle 72 = .ok (.iload_n 3, 1) := by decide +kernel
theorem dX3_settle_73 : decode cX3_settle 73 = .ok (.iaload, 1) := by decide +kernel
theorem dX3_settle_74 : decode cX3_settle 74 = .ok (.iadd, 1) := by decide +kernel
theorem dX3_settle_75 : decode cX3_settle 75 = .ok (.iadd, 1) := by decide +kernel
theorem dX3_settle_76 : decode cX3_settle 76 = .ok (.iastore, 1) := by decide +kernel
theorem dX3_settle_77 : decode cX3_settle 77 = .ok (.iinc 3 1, 3) := by decide +kernel
theorem dX3_settle_80 : decode cX3_settle 80 = .ok (.goto (-53), 3) := by decide +kernel
theorem dX3_settle_83 : decode cX3_settle 83 = .ok (.aload_n 0, 1) := by decide +kernel
theorem dX3_settle_84 : decode cX3_settle 84 = .ok (.dup, 1) := by decide +kernel
theorem dX3_settle_85 : decode cX3_settle 85 = .ok (.getfield 23, 3) := by decide +kernel
theorem dX3_settle_88 : decode cX3_settle 88 = .ok (.iload_n 2, 1) := by decide +kernel
theorem dX3_settle_89 : decode cX3_settle 89 = .ok (.iadd, 1) := by decide +kernel
theorem dX3_settle_90 : decode cX3_settle 90 = .ok (.putfield 23, 3) := by decide +kernel
theorem dX3_settle_93 : decode cX3_settle 93 = .ok (.aload_n 0, 1) := by decide +kernel
theorem dX3_settle_94 : decode cX3_settle 94 = .ok (.dup, 1) := by decide +kernel
theorem dX3_settle_95 : decode cX3_settle 95 = .ok (.getfield 130, 3) := by decide +kernel
theorem dX3_settle_98 : decode cX3_settle 98 = .ok (.iconst 1, 1) := by decide +kernel
theorem dX3_settle_99 : decode cX3_settle 99 = .ok (.iadd, 1) := by decide +kernel
theorem dX3_settle_100 : decode cX3_settle 100 = .ok (.putfield 130, 3) := by decide +kernel
theorem dX3_settle_103 : decode cX3_settle 103 = .ok (.aload_n 0, 1) := by decide +kernel
theorem dX3_settle_104 : decode cX3_settle 104 = .ok (.iconst 0, 1) := by decide +kernel
theorem dX3_settle_105 : decode cX3_settle 105 = .ok (.putfield 51, 3) := by decide +kernel
theorem dX3_settle_108 : decode cX3_settle 108 = .ok (.iload_n 2, 1) := by decide +kernel
theorem dX3_settle_109 : decode cX3_settle 109 = .ok (.ireturn, 1) := by decide +kernel
theorem dX3_open_0 : decode cX3_open 0 = .ok (.aload_n 0, 1) := by decide +kernel
theorem dX3_open_1 : decode cX3_open 1 = .ok (.aload_n 0, 1) := by decide +kernel
theorem dX3_open_2 : decode cX3_open 2 = .ok (.getfield 51, 3) := by decide +kernel
theorem dX3_open_5 : decode cX3_open 5 = .ok (.invokevirtual 108, 3) := by decide +kernel
theorem dX3_open_8 : decode cX3_open 8 = .ok (.ireturn, 1) := by decide +kernel
theorem dX3_bank_0 : decode cX3_bank 0 = .ok (.aload_n 0, 1) := by decide +kernel
theorem dX3_bank_1 : decode cX3_bank 1 = .ok (.aload_n 0, 1) := by decide +kernel
theorem dX3_bank_2 : decode cX3_bank 2 = .ok (.getfield 23, 3) := by decide +kernel
theorem dX3_bank_5 : decode cX3_bank 5 = .ok (.invokevirtual 108, 3) := by decide +kernel
theorem dX3_bank_8 : decode cX3_bank 8 = .ok (.ireturn, 1) := by decide +kernel
theorem dX3_rounds_0 : decode cX3_rounds 0 = .ok (.aload_n 0, 1) := by decide +kernel
theorem dX3_rounds_1 : decode cX3_rounds 1 = .ok (.aload_n 0, 1) := by decide +kernel
theorem dX3_rounds_2 : decode cX3_rounds 2 = .ok (.getfield 130, 3) := by decide +kernel
theorem dX3_rounds_5 : decode cX3_rounds 5 = .ok (.invokevirtual 108, 3) := by decide +kernel
theorem dX3_rounds_8 : decode cX3_rounds 8 = .ok (.ireturn, 1) := by decide +kernel
theorem dX3_purseOf_0 : decode cX3_purseOf 0 = .ok (.aload_n 0, 1) := by decide +kernel
theorem dX3_purseOf_1 : decode cX3_purseOf 1 = .ok (.iconst 0, 1) := by decide +kernel
theorem dX3_purseOf_2 : decode cX3_purseOf 2 = .ok (.putfield 48, 3) := by decide +kernel
theorem dX3_purseOf_5 : decode cX3_purseOf 5 = .ok (.iload_n 1, 1) := by decide +kernel
theorem dX3_purseOf_6 : decode cX3_purseOf 6 = .ok (.invokestatic 118, 3) := by decide +kernel
theorem dX3_purseOf_9 : decode cX3_purseOf 9 = .ok (.ifCond .eq 12, 3) := by decide +kernel
theorem dX3_purseOf_12 : decode cX3_purseOf 12 = .ok (.aload_n 0, 1) := by decide +kernel
theorem dX3_purseOf_13 : decode cX3_purseOf 13 = .ok (.getfield 20, 3) := by decide +kernel
theorem dX3_purseOf_16 : decode cX3_purseOf 16 = .ok (.iload_n 1, 1) := by decide +kernel
theorem dX3_purseOf_17 : decode cX3_purseOf 17 = .ok (.iaload, 1) := by decide +kernel
theorem dX3_purseOf_18 : decode cX3_purseOf 18 = .ok (.goto 8, 3) := by decide +kernel
theorem dX3_purseOf_21 : decode cX3_purseOf 21 = .ok (.aload_n 0, 1) := by decide +kernel
theorem dX3_purseOf_22 : decode cX3_purseOf 22 = .ok (.iconst 1, 1) := by decide +kernel
theorem dX3_purseOf_23 : decode cX3_purseOf 23 = .ok (.invokevirtual 102, 3) := by decide +kernel
theorem dX3_purseOf_26 : decode cX3_purseOf 26 = .ok (.ireturn, 1) := by decide +kernel
theorem dX3_of_0 : decode cX3_of 0 = .ok (.aload_n 0, 1) := by decide +kernel
theorem dX3_of_1 : decode cX3_of 1 = .ok (.iconst 0, 1) := by decide +kernel
theorem dX3_of_2 : decode cX3_of 2 = .ok (.putfield 48, 3) := by decide +kernel
theorem dX3_of_5 : decode cX3_of 5 = .ok (.aload_n 0, 1) := by decide +kernel
theorem dX3_of_6 : decode cX3_of 6 = .ok (.iload_n 1, 1) := by decide +kernel
theorem dX3_of_7 : decode cX3_of 7 = .ok (.invokevirtual 121, 3) := by decide +kernel
theorem dX3_of_10 : decode cX3_of 10 = .ok (.ifCond .eq 9, 3) := by decide +kernel
theorem dX3_of_13 : decode cX3_of 13 = .ok (.aload_n 2, 1) := by decide +kernel
theorem dX3_of_14 : decode cX3_of 14 = .ok (.iload_n 1, 1) := by decide +kernel
theorem dX3_of_15 : decode cX3_of 15 = .ok (.iaload, 1) := by decide +kernel
theorem dX3_of_16 : decode cX3_of 16 = .ok (.goto 8, 3) := by decide +kernel
theorem dX3_of_19 : decode cX3_of 19 = .ok (.aload_n 0, 1) := by decide +kernel
theorem dX3_of_20 : decode cX3_of 20 = .ok (.iconst 1, 1) := by decide +kernel
theorem dX3_of_21 : decode cX3_of 21 = .ok (.invokevirtual 102, 3) := by decide +kernel
theorem dX3_of_24 : decode cX3_of 24 = .ok (.ireturn, 1) := by decide +kernel
theorem dX3_patronOf_0 : decode cX3_patronOf 0 = .ok (.aload_n 0, 1) := by decide +kernel
theorem dX3_patronOf_1 : decode cX3_patronOf 1 = .ok (.iload_n 1, 1) := by decide +kernel
theorem dX3_patronOf_2 : decode cX3_patronOf 2 = .ok (.aload_n 0, 1) := by decide +kernel
theorem dX3_patronOf_3 : decode cX3_patronOf 3 = .ok (.getfield 26, 3) := by decide +kernel
theorem dX3_patronOf_6 : decode cX3_patronOf 6 = .ok (.invokevirtual 133, 3) := by decide +kernel
theorem dX3_patronOf_9 : decode cX3_patronOf 9 = .ok (.ireturn, 1) := by decide +kernel
theorem dX3_stakeOf_0 : decode cX3_stakeOf 0 = .ok (.aload_n 0, 1) := by decide +kernel
theorem dX3_stakeOf_1 : decode cX3_stakeOf 1 = .ok (.iload_n 1, 1) := by decide +kernel
theorem dX3_stakeOf_2 : decode cX3_stakeOf 2 = .ok (.aload_n 0, 1) := by decide +kernel
theorem dX3_stakeOf_3 : decode cX3_stakeOf 3 = .ok (.getfield 35, 3) := by decide +kernel
theorem dX3_stakeOf_6 : decode cX3_stakeOf 6 = .ok (.invokevirtual 133, 3) := by decide +kernel
theorem dX3_stakeOf_9 : decode cX3_stakeOf 9 = .ok (.ireturn, 1) := by decide +kernel
theorem dX3_bringsOf_0 : decode cX3_bringsOf 0 = .ok (.aload_n 0, 1) := by decide +kernel
theorem dX3_bringsOf_1 : decode cX3_bringsOf 1 = .ok (.iload_n 1, 1) := by decide +kernel
theorem dX3_bringsOf_2 : decode cX3_bringsOf 2 = .ok (.aload_n 0, 1) := by decide +kernel
theorem dX3_bringsOf_3 : decode cX3_bringsOf 3 = .ok (.getfield 38, 3) := by decide +kernel
theorem dX3_bringsOf_6 : decode cX3_bringsOf 6 = .ok (.invokevirtual 133, 3) := by decide +kernel
theorem dX3_bringsOf_9 : decode cX3_bringsOf 9 = .ok (.ireturn, 1) := by decide +kernel
theorem dX3_allStakes_0 : decode cX3_allStakes 0 = .ok (.iconst 0, 1) := by decide +kernel
theorem dX3_allStakes_1 : decode cX3_allStakes 1 = .ok (.istore_n 1, 1) := by decide +kernel
theorem dX3_allStakes_2 : decode cX3_allStakes 2 = .ok (.iconst 0, 1) := by decide +kernel
theorem dX3_allStakes_3 : decode cX3_allStakes 3 = .ok (.istore_n 2, 1) := by decide +kernel
theorem dX3_allStakes_4 : decode cX3_allStakes 4 = .ok (.iload_n 2, 1) := by decide +kernel
theorem dX3_allStakes_5 : decode cX3_allStakes 5 = .ok (.aload_n 0, 1) := by decide +kernel
theorem dX3_allStakes_6 : decode cX3_allStakes 6 = .ok (.getfield 51, 3) := by decide +kernel
theorem dX3_allStakes_9 : decode cX3_allStakes 9 = .ok (.if_icmp .ge 18, 3) := by decide +kernel
theorem dX3_allStakes_12 : decode cX3_allStakes 12 = .ok (.iload_n 1, 1) := by decide +kernel
theorem dX3_allStakes_13 : decode cX3_allStakes 13 = .ok (.aload_n 0, 1) := by decide +kernel
theorem dX3_allStakes_14 : decode cX3_allStakes 14 = .ok (.getfield 35, 3) := by decide +kernel
theorem dX3_allStakes_17 : decode cX3_allStakes 17 = .ok (.iload_n 2, 1) := by decide +kernel
theorem dX3_allStakes_18 : decode cX3_allStakes 18 = .ok (.iaload, 1) := by decide +kernel
theorem dX3_allStakes_19 : decode cX3_allStakes 19 = .ok (.iadd, 1) := by decide +kernel
theorem dX3_allStakes_20 : decode cX3_allStakes 20 = .ok (.istore_n 1, 1) := by decide +kernel
theorem dX3_allStakes_21 : decode cX3_allStakes 21 = .ok (.iinc 2 1, 3) := by decide +kernel
theorem dX3_allStakes_24 : decode cX3_allStakes 24 = .ok (.goto (-20), 3) := by decide +kernel
theorem dX3_allStakes_27 : decode cX3_allStakes 27 = .ok (.iload_n 1, 1) := by decide +kernel
theorem dX3_allStakes_28 : decode cX3_allStakes 28 = .ok (.ireturn, 1) := by decide +kernel
theorem dX3_staked_0 : decode cX3_staked 0 = .ok (.aload_n 0, 1) := by decide +kernel
theorem dX3_staked_1 : decode cX3_staked 1 = .ok (.aload_n 0, 1) := by decide +kernel
theorem dX3_staked_2 : decode cX3_staked 2 = .ok (.invokevirtual 137, 3) := by decide +kernel
theorem dX3_staked_5 : decode cX3_staked 5 = .ok (.invokevirtual 108, 3) := by decide +kernel
theorem dX3_staked_8 : decode cX3_staked 8 = .ok (.ireturn, 1) := by decide +kernel
theorem dX3_edgeTop_0 : decode cX3_edgeTop 0 = .ok (.aload_n 0, 1) := by decide +kernel
theorem dX3_edgeTop_1 : decode cX3_edgeTop 1 = .ok (.iconst 0, 1) := by decide +kernel
theorem dX3_edgeTop_2 : decode cX3_edgeTop 2 = .ok (.putfield 48, 3) := by decide +kernel
theorem dX3_edgeTop_5 : decode cX3_edgeTop 5 = .ok (.aload_n 0, 1) := by decide +kernel
theorem dX3_edgeTop_6 : decode cX3_edgeTop 6 = .ok (.iload_n 1, 1) := by decide +kernel
theorem dX3_edgeTop_7 : decode cX3_edgeTop 7 = .ok (.invokevirtual 121, 3) := by decide +kernel
theorem dX3_edgeTop_10 : decode cX3_edgeTop 10 = .ok (.ifCond .eq 15, 3) := by decide +kernel
theorem dX3_edgeTop_13 : decode cX3_edgeTop 13 = .ok (.aload_n 0, 1) := by decide +kernel
theorem dX3_edgeTop_14 : decode cX3_edgeTop 14 = .ok (.aload_n 0, 1) := by decide +kernel
theorem dX3_edgeTop_15 : decode cX3_edgeTop 15 = .ok (.iload_n 1, 1) := by decide +kernel
theorem dX3_edgeTop_16 : decode cX3_edgeTop 16 = .ok (.invokevirtual 83, 3) := by decide +kernel
theorem dX3_edgeTop_19 : decode cX3_edgeTop 19 = .ok (.invokevirtual 141, 3) := by decide +kernel
theorem dX3_edgeTop_22 : decode cX3_edgeTop 22 = .ok (.goto 8, 3) := by decide +kernel
theorem dX3_edgeTop_25 : decode cX3_edgeTop 25 = .ok (.aload_n 0, 1) := by decide +kernel
theorem dX3_edgeTop_26 : decode cX3_edgeTop 26 = .ok (.iconst 1, 1) := by decide +kernel
theorem dX3_edgeTop_27 : decode cX3_edgeTop 27 = .ok (.invokevirtual 102, 3) := by decide +kernel
theorem dX3_edgeTop_30 : decode cX3_edgeTop 30 = .ok (.ireturn, 1) := by decide +kernel
theorem dX3_edgeBottom_0 : decode cX3_edgeBottom 0 = .ok (.aload_n 0, 1) := by decide +kernel
theorem dX3_edgeBottom_1 : decode cX3_edgeBottom 1 = .ok (.iconst 0, 1) := by decide +kernel
theorem dX3_edgeBottom_2 : decode cX3_edgeBottom 2 = .ok (.putfield 48, 3) := by decide +kernel
theorem dX3_edgeBottom_5 : decode cX3_edgeBottom 5 = .ok (.aload_n 0, 1) := by decide +kernel
theorem dX3_edgeBottom_6 : decode cX3_edgeBottom 6 = .ok (.iload_n 1, 1) := by decide +kernel
theorem dX3_edgeBottom_7 : decode cX3_edgeBottom 7 = .ok (.invokevirtual 121, 3) := by decide +kernel
theorem dX3_edgeBottom_10 : decode cX3_edgeBottom 10 = .ok (.ifCond .eq 15, 3) := by decide +kernel
theorem dX3_edgeBottom_13 : decode cX3_edgeBottom 13 = .ok (.aload_n 0, 1) := by decide +kernel
theorem dX3_edgeBottom_14 : decode cX3_edgeBottom 14 = .ok (.aload_n 0, 1) := by decide +kernel
theorem dX3_edgeBottom_15 : decode cX3_edgeBottom 15 = .ok (.iload_n 1, 1) := by decide +kernel
theorem dX3_edgeBottom_16 : decode cX3_edgeBottom 16 = .ok (.invokevirtual 83, 3) := by decide +kernel
theorem dX3_edgeBottom_19 : decode cX3_edgeBottom 19 = .ok (.invokevirtual 144, 3) := by decide +kernel
theorem dX3_edgeBottom_22 : decode cX3_edgeBottom 22 = .ok (.goto 8, 3) := by decide +kernel
theorem dX3_edgeBottom_25 : decode cX3_edgeBottom 25 = .ok (.aload_n 0, 1) := by decide +kernel
theorem dX3_edgeBottom_26 : decode cX3_edgeBottom 26 = .ok (.iconst 1, 1) := by decide +kernel
theorem dX3_edgeBottom_27 : decode cX3_edgeBottom 27 = .ok (.invokevirtual 102, 3) := by decide +kernel
theorem dX3_edgeBottom_30 : decode cX3_edgeBottom 30 = .ok (.ireturn, 1) := by decide +kernel
theorem dX3_allEdgesTop_0 : decode cX3_allEdgesTop 0 = .ok (.aload_n 0, 1) := by decide +kernel
theorem dX3_allEdgesTop_1 : decode cX3_allEdgesTop 1 = .ok (.aload_n 0, 1) := by decide +kernel
theorem dX3_allEdgesTop_2 : decode cX3_allEdgesTop 2 = .ok (.aload_n 0, 1) := by decide +kernel
theorem dX3_allEdgesTop_3 : decode cX3_allEdgesTop 3 = .ok (.invokevirtual 147, 3) := by decide +kernel
theorem dX3_allEdgesTop_6 : decode cX3_allEdgesTop 6 = .ok (.invokevirtual 141, 3) := by decide +kernel
theorem dX3_allEdgesTop_9 : decode cX3_allEdgesTop 9 = .ok (.invokevirtual 108, 3) := by decide +kernel
theorem dX3_allEdgesTop_12 : decode cX3_allEdgesTop 12 = .ok (.ireturn, 1) := by decide +kernel
theorem dX3_allEdgesBottom_0 : decode cX3_allEdgesBottom 0 = .ok (.aload_n 0, 1) := by decide +kernel
theorem dX3_allEdgesBottom_1 : decode cX3_allEdgesBottom 1 = .ok (.aload_n 0, 1) := by decide +kernel
theorem dX3_allEdgesBottom_2 : decode cX3_allEdgesBottom 2 = .ok (.aload_n 0, 1) := by decide +kernel
theorem dX3_allEdgesBottom_3 : decode cX3_allEdgesBottom 3 = .ok (.invokevirtual 147, 3) := by decide +kernel
theorem dX3_allEdgesBottom_6 : decode cX3_allEdgesBottom 6 = .ok (.invokevirtual 144, 3) := by decide +kernel
theorem dX3_allEdgesBottom_9 : decode cX3_allEdgesBottom 9 = .ok (.invokevirtual 108, 3) := by decide +kernel
theorem dX3_allEdgesBottom_12 : decode cX3_allEdgesBottom 12 = .ok (.ireturn, 1) := by decide +kernel
theorem dX3_dearestWager_0 : decode cX3_dearestWager 0 = .ok (.aload_n 0, 1) := by decide +kernel
theorem dX3_dearestWager_1 : decode cX3_dearestWager 1 = .ok (.aload_n 0, 1) := by decide +kernel
theorem dX3_dearestWager_2 : decode cX3_dearestWager 2 = .ok (.invokevirtual 150, 3) := by decide +kernel
theorem dX3_dearestWager_5 : decode cX3_dearestWager 5 = .ok (.invokevirtual 108, 3) := by decide +kernel
theorem dX3_dearestWager_8 : decode cX3_dearestWager 8 = .ok (.ireturn, 1) := by decide +kernel
theorem dX3_gainAt_0 : decode cX3_gainAt 0 = .ok (.aload_n 0, 1) := by decide +kernel
theorem dX3_gainAt_1 : decode cX3_gainAt 1 = .ok (.iconst 0, 1) := by decide +kernel
theorem dX3_gainAt_2 : decode cX3_gainAt 2 = .ok (.putfield 48, 3) := by decide +kernel
theorem dX3_gainAt_5 : decode cX3_gainAt 5 = .ok (.aload_n 0, 1) := by decide +kernel
theorem dX3_gainAt_6 : decode cX3_gainAt 6 = .ok (.iload_n 1, 1) := by decide +kernel
theorem dX3_gainAt_7 : decode cX3_gainAt 7 = .ok (.invokevirtual 111, 3) := by decide +kernel
theorem dX3_gainAt_10 : decode cX3_gainAt 10 = .ok (.ifCond .eq 11, 3) := by decide +kernel
theorem dX3_gainAt_13 : decode cX3_gainAt 13 = .ok (.aload_n 0, 1) := by decide +kernel
theorem dX3_gainAt_14 : decode cX3_gainAt 14 = .ok (.iload_n 1, 1) := by decide +kernel
theorem dX3_gainAt_15 : decode cX3_gainAt 15 = .ok (.invokevirtual 92, 3) := by decide +kernel
theorem dX3_gainAt_18 : decode cX3_gainAt 18 = .ok (.goto 8, 3) := by decide +kernel
theorem dX3_gainAt_21 : decode cX3_gainAt 21 = .ok (.aload_n 0, 1) := by decide +kernel
theorem dX3_gainAt_22 : decode cX3_gainAt 22 = .ok (.iconst 1, 1) := by decide +kernel
theorem dX3_gainAt_23 : decode cX3_gainAt 23 = .ok (.invokevirtual 102, 3) := by decide +kernel
theorem dX3_gainAt_26 : decode cX3_gainAt 26 = .ok (.ireturn, 1) := by decide +kernel
theorem dX3_worstGain_0 : decode cX3_worstGain 0 = .ok (.aload_n 0, 1) := by decide +kernel
theorem dX3_worstGain_1 : decode cX3_worstGain 1 = .ok (.aload_n 0, 1) := by decide +kernel
theorem dX3_worstGain_2 : decode cX3_worstGain 2 = .ok (.aload_n 0, 1) := by decide +kernel
theorem dX3_worstGain_3 : decode cX3_worstGain 3 = .ok (.invokevirtual 153, 3) := by decide +kernel
theorem dX3_worstGain_6 : decode cX3_worstGain 6 = .ok (.invokevirtual 92, 3) := by decide +kernel
theorem dX3_worstGain_9 : decode cX3_worstGain 9 = .ok (.invokevirtual 108, 3) := by decide +kernel
theorem dX3_worstGain_12 : decode cX3_worstGain 12 = .ok (.ireturn, 1) := by decide +kernel
theorem dX3_worstOutcome_0 : decode cX3_worstOutcome 0 = .ok (.aload_n 0, 1) := by decide +kernel
theorem dX3_worstOutcome_1 : decode cX3_worstOutcome 1 = .ok (.aload_n 0, 1) := by decide +kernel
theorem dX3_worstOutcome_2 : decode cX3_worstOutcome 2 = .ok (.invokevirtual 153, 3) := by decide +kernel
theorem dX3_worstOutcome_5 : decode cX3_worstOutcome 5 = .ok (.invokevirtual 108, 3) := by decide +kernel
theorem dX3_worstOutcome_8 : decode cX3_worstOutcome 8 = .ok (.ireturn, 1) := by decide +kernel
theorem dX3_purseAt_0 : decode cX3_purseAt 0 = .ok (.aload_n 0, 1) := by decide +kernel
theorem dX3_purseAt_1 : decode cX3_purseAt 1 = .ok (.iconst 0, 1) := by decide +kernel
theorem dX3_purseAt_2 : decode cX3_purseAt 2 = .ok (.putfield 48, 3) := by decide +kernel
theorem dX3_purseAt_5 : decode cX3_purseAt 5 = .ok (.iload_n 1, 1) := by decide +kernel
theorem dX3_purseAt_6 : decode cX3_purseAt 6 = .ok (.invokestatic 118, 3) := by decide +kernel
theorem dX3_purseAt_9 : decode cX3_purseAt 9 = .ok (.ifCond .eq 20, 3) := by decide +kernel
theorem dX3_purseAt_12 : decode cX3_purseAt 12 = .ok (.aload_n 0, 1) := by decide +kernel
theorem dX3_purseAt_13 : decode cX3_purseAt 13 = .ok (.iload_n 2, 1) := by decide +kernel
theorem dX3_purseAt_14 : decode cX3_purseAt 14 = .ok (.invokevirtual 111, 3) := by decide +kernel
theorem dX3_purseAt_17 : decode cX3_purseAt 17 = .ok (.ifCond .eq 12, 3) := by decide +kernel
theorem dX3_purseAt_20 : decode cX3_purseAt 20 = .ok (.aload_n 0, 1) := by decide +kernel
theorem dX3_purseAt_21 : decode cX3_purseAt 21 = .ok (.iload_n 1, 1) := by decide +kernel
theorem dX3_purseAt_22 : decode cX3_purseAt 22 = .ok (.iload_n 2, 1) := by decide +kernel
theorem dX3_purseAt_23 : decode cX3_purseAt 23 = .ok (.invokevirtual 95, 3) := by decide +kernel
theorem dX3_purseAt_26 : decode cX3_purseAt 26 = .ok (.goto 8, 3) := by decide +kernel
theorem dX3_purseAt_29 : decode cX3_purseAt 29 = .ok (.aload_n 0, 1) := by decide +kernel
theorem dX3_purseAt_30 : decode cX3_purseAt 30 = .ok (.iconst 1, 1) := by decide +kernel
theorem dX3_purseAt_31 : decode cX3_purseAt 31 = .ok (.invokevirtual 102, 3) := by decide +kernel
theorem dX3_purseAt_34 : decode cX3_purseAt 34 = .ok (.ireturn, 1) := by decide +kernel
theorem dX3_leastPurse_0 : decode cX3_leastPurse 0 = .ok (.aload_n 0, 1) := by decide +kernel
theorem dX3_leastPurse_1 : decode cX3_leastPurse 1 = .ok (.iconst 0, 1) := by decide +kernel
theorem dX3_leastPurse_2 : decode cX3_leastPurse 2 = .ok (.putfield 48, 3) := by decide +kernel
theorem dX3_leastPurse_5 : decode cX3_leastPurse 5 = .ok (.iload_n 1, 1) := by decide +kernel
theorem dX3_leastPurse_6 : decode cX3_leastPurse 6 = .ok (.invokestatic 118, 3) := by decide +kernel
theorem dX3_leastPurse_9 : decode cX3_leastPurse 9 = .ok (.ifCond .eq 11, 3) := by decide +kernel
theorem dX3_leastPurse_12 : decode cX3_leastPurse 12 = .ok (.aload_n 0, 1) := by decide +kernel
theorem dX3_leastPurse_13 : decode cX3_leastPurse 13 = .ok (.iload_n 1, 1) := by decide +kernel
theorem dX3_leastPurse_14 : decode cX3_leastPurse 14 = .ok (.invokevirtual 156, 3) := by decide +kernel
theorem dX3_leastPurse_17 : decode cX3_leastPurse 17 = .ok (.goto 8, 3) := by decide +kernel
theorem dX3_leastPurse_20 : decode cX3_leastPurse 20 = .ok (.aload_n 0, 1) := by decide +kernel
theorem dX3_leastPurse_21 : decode cX3_leastPurse 21 = .ok (.iconst 1, 1) := by decide +kernel
theorem dX3_leastPurse_22 : decode cX3_leastPurse 22 = .ok (.invokevirtual 102, 3) := by decide +kernel
theorem dX3_leastPurse_25 : decode cX3_leastPurse 25 = .ok (.ireturn, 1) := by decide +kernel
theorem dX3_isHedged_0 : decode cX3_isHedged 0 = .ok (.aload_n 0, 1) := by decide +kernel
theorem dX3_isHedged_1 : decode cX3_isHedged 1 = .ok (.iload_n 1, 1) := by decide +kernel
theorem dX3_isHedged_2 : decode cX3_isHedged 2 = .ok (.invokestatic 118, 3) := by decide +kernel
theorem dX3_isHedged_5 : decode cX3_isHedged 5 = .ok (.ifCond .eq 7, 3) := by decide +kernel
theorem dX3_isHedged_8 : decode cX3_isHedged 8 = .ok (.iconst 0, 1) := by decide +kernel
theorem dX3_isHedged_9 : decode cX3_isHedged 9 = .ok (.goto 4, 3) := by decide +kernel
theorem dX3_isHedged_12 : decode cX3_isHedged 12 = .ok (.iconst 1, 1) := by decide +kernel
theorem dX3_isHedged_13 : decode cX3_isHedged 13 = .ok (.putfield 48, 3) := by decide +kernel
theorem dX3_isHedged_16 : decode cX3_isHedged 16 = .ok (.aload_n 0, 1) := by decide +kernel
theorem dX3_isHedged_17 : decode cX3_isHedged 17 = .ok (.getfield 48, 3) := by decide +kernel
theorem dX3_isHedged_20 : decode cX3_isHedged 20 = .ok (.ifCond .ne 15, 3) := by decide +kernel
theorem dX3_isHedged_23 : decode cX3_isHedged 23 = .ok (.aload_n 0, 1) := by decide +kernel
theorem dX3_isHedged_24 : decode cX3_isHedged 24 = .ok (.iload_n 1, 1) := by decide +kernel
theorem dX3_isHedged_25 : decode cX3_isHedged 25 = .ok (.invokevirtual 159, 3) := by decide +kernel
theorem dX3_isHedged_28 : decode cX3_isHedged 28 = .ok (.ifCond .eq 7, 3) := by decide +kernel
theorem dX3_isHedged_31 : decode cX3_isHedged 31 = .ok (.iconst 1, 1) := by decide +kernel
theorem dX3_isHedged_32 : decode cX3_isHedged 32 = .ok (.goto 4, 3) := by decide +kernel
theorem dX3_isHedged_35 : decode cX3_isHedged 35 = .ok (.iconst 0, 1) := by decide +kernel
theorem dX3_isHedged_36 : decode cX3_isHedged 36 = .ok (.ireturn, 1) := by decide +kernel
theorem dX3_hedgeFor_0 : decode cX3_hedgeFor 0 = .ok (.aload_n 0, 1) := by decide +kernel
theorem dX3_hedgeFor_1 : decode cX3_hedgeFor 1 = .ok (.iconst 0, 1) := by decide +kernel
theorem dX3_hedgeFor_2 : decode cX3_hedgeFor 2 = .ok (.putfield 48, 3) := by decide +kernel
theorem dX3_hedgeFor_5 : decode cX3_hedgeFor 5 = .ok (.aload_n 0, 1) := by decide +kernel
theorem dX3_hedgeFor_6 : decode cX3_hedgeFor 6 = .ok (.iload_n 1, 1) := by decide +kernel
theorem dX3_hedgeFor_7 : decode cX3_hedgeFor 7 = .ok (.invokevirtual 121, 3) := by decide +kernel
theorem dX3_hedgeFor_10 : decode cX3_hedgeFor 10 = .ok (.ifCond .ne 9, 3) := by decide +kernel
theorem dX3_hedgeFor_13 : decode cX3_hedgeFor 13 = .ok (.aload_n 0, 1) := by decide +kernel
theorem dX3_hedgeFor_14 : decode cX3_hedgeFor 14 = .ok (.iconst 1, 1) := by decide +kernel
theorem dX3_hedgeFor_15 : decode cX3_hedgeFor 15 = .ok (.invokevirtual 102, 3) := by decide +kernel
theorem dX3_hedgeFor_18 : decode cX3_hedgeFor 18 = .ok (.ireturn, 1) := by decide +kernel
theorem dX3_hedgeFor_19 : decode cX3_hedgeFor 19 = .ok (.iload_n 2, 1) := by decide +kernel
theorem dX3_hedgeFor_20 : decode cX3_hedgeFor 20 = .ok (.iconst 1, 1) := by decide +kernel
theorem dX3_hedgeFor_21 : decode cX3_hedgeFor 21 = .ok (.bipush 20, 2) := by decide +kernel
theorem dX3_hedgeFor_23 : decode cX3_hedgeFor 23 = .ok (.invokestatic 54, 3) := by decide +kernel
theorem dX3_hedgeFor_26 : decode cX3_hedgeFor 26 = .ok (.ifCond .eq 35, 3) := by decide +kernel
theorem dX3_hedgeFor_29 : decode cX3_hedgeFor 29 = .ok (.iload_n 3, 1) := by decide +kernel
theorem dX3_hedgeFor_30 : decode cX3_hedgeFor 30 = .ok (.iconst 1, 1) := by decide +kernel
theorem dX3_hedgeFor_31 : decode cX3_hedgeFor 31 = .ok (.bipush 10, 2) := by decide +kernel
theorem dX3_hedgeFor_33 : decode cX3_hedgeFor 33 = .ok (.invokestatic 54, 3) := by decide +kernel
theorem dX3_hedgeFor_36 : decode cX3_hedgeFor 36 = .ok (.ifCond .eq 25, 3) := by decide +kernel
theorem dX3_hedgeFor_39 : decode cX3_hedgeFor 39 = .ok (.aload_n 0, 1) := by decide +kernel
theorem dX3_hedgeFor_40 : decode cX3_hedgeFor 40 = .ok (.aload_n 0, 1) := by decide +kernel
theorem dX3_hedgeFor_41 : decode cX3_hedgeFor 41 = .ok (.getfield 35, 3) := by decide +kernel
theorem dX3_hedgeFor_44 : decode cX3_hedgeFor 44 = .ok (.iload_n 1, 1) := by decide +kernel
theorem dX3_hedgeFor_45 : decode cX3_hedgeFor 45 = .ok (.iaload, 1) := by decide +kernel
theorem dX3_hedgeFor_46 : decode cX3_hedgeFor 46 = .ok (.aload_n 0, 1) := by decide +kernel
theorem dX3_hedgeFor_47 : decode cX3_hedgeFor 47 = .ok (.getfield 38, 3) := by decide +kernel
theorem dX3_hedgeFor_50 : decode cX3_hedgeFor 50 = .ok (.iload_n 1, 1) := by decide +kernel
theorem dX3_hedgeFor_51 : decode cX3_hedgeFor 51 = .ok (.iaload, 1) := by decide +kernel
theorem dX3_hedgeFor_52 : decode cX3_hedgeFor 52 = .ok (.iadd, 1) := by decide +kernel
theorem dX3_hedgeFor_53 : decode cX3_hedgeFor 53 = .ok (.iload_n 2, 1) := by decide +kernel
theorem dX3_hedgeFor_54 : decode cX3_hedgeFor 54 = .ok (.iload_n 3, 1) := by decide +kernel
theorem dX3_hedgeFor_55 : decode cX3_hedgeFor 55 = .ok (.invokevirtual 162, 3) := by decide +kernel
theorem dX3_hedgeFor_58 : decode cX3_hedgeFor 58 = .ok (.goto 8, 3) := by decide +kernel
theorem dX3_hedgeFor_61 : decode cX3_hedgeFor 61 = .ok (.aload_n 0, 1) := by decide +kernel
theorem dX3_hedgeFor_62 : decode cX3_hedgeFor 62 = .ok (.iconst 2, 1) := by decide +kernel
theorem dX3_hedgeFor_63 : decode cX3_hedgeFor 63 = .ok (.invokevirtual 102, 3) := by decide +kernel
theorem dX3_hedgeFor_66 : decode cX3_hedgeFor 66 = .ok (.ireturn, 1) := by decide +kernel
theorem dX3_fairWin_0 : decode cX3_fairWin 0 = .ok (.aload_n 0, 1) := by decide +kernel
theorem dX3_fairWin_1 : decode cX3_fairWin 1 = .ok (.iconst 0, 1) := by decide +kernel
theorem dX3_fairWin_2 : decode cX3_fairWin 2 = .ok (.putfield 48, 3) := by decide +kernel
theorem dX3_fairWin_5 : decode cX3_fairWin 5 = .ok (.iload_n 1, 1) := by decide +kernel
theorem dX3_fairWin_6 : decode cX3_fairWin 6 = .ok (.iload_n 2, 1) := by decide +kernel
theorem dX3_fairWin_7 : decode cX3_fairWin 7 = .ok (.invokestatic 114, 3) := by decide +kernel
theorem dX3_fairWin_10 : decode cX3_fairWin 10 = .ok (.ifCond .eq 13, 3) := by decide +kernel
theorem dX3_fairWin_13 : decode cX3_fairWin 13 = .ok (.iload_n 3, 1) := by decide +kernel
theorem dX3_fairWin_14 : decode cX3_fairWin 14 = .ok (.iconst 1, 1) := by decide +kernel
theorem dX3_fairWin_15 : decode cX3_fairWin 15 = .ok (.bipush 10, 2) := by decide +kernel
theorem dX3_fairWin_17 : decode cX3_fairWin 17 = .ok (.invokestatic 54, 3) := by decide +kernel
theorem dX3_fairWin_20 : decode cX3_fairWin 20 = .ok (.ifCond .ne 9, 3) := by decide +kernel
theorem dX3_fairWin_23 : decode cX3_fairWin 23 = .ok (.aload_n 0, 1) := by decide +kernel
theorem dX3_fairWin_24 : decode cX3_fairWin 24 = .ok (.iconst 1, 1) := by decide +kernel
theorem dX3_fairWin_25 : decode cX3_fairWin 25 = .ok (.invokevirtual 102, 3) := by decide +kernel
theorem dX3_fairWin_28 : decode cX3_fairWin 28 = .ok (.ireturn, 1) := by decide +kernel
theorem dX3_fairWin_29 : decode cX3_fairWin 29 = .ok (.aload_n 0, 1) := by decide +kernel
theorem dX3_fairWin_30 : decode cX3_fairWin 30 = .ok (.iload_n 1, 1) := by decide +kernel
theorem dX3_fairWin_31 : decode cX3_fairWin 31 = .ok (.iload_n 2, 1) := by decide +kernel
theorem dX3_fairWin_32 : decode cX3_fairWin 32 = .ok (.invokevirtual 74, 3) := by decide +kernel
theorem dX3_fairWin_35 : decode cX3_fairWin 35 = .ok (.istore 4, 2) := by decide +kernel
theorem dX3_fairWin_37 : decode cX3_fairWin 37 = .ok (.bipush 20, 2) := by decide +kernel
theorem dX3_fairWin_39 : decode cX3_fairWin 39 = .ok (.istore 5, 2) := by decide +kernel
theorem dX3_fairWin_41 : decode cX3_fairWin 41 = .ok (.iload 5, 2) := by decide +kernel
theorem dX3_fairWin_43 : decode cX3_fairWin 43 = .ok (.ifCond .le 32, 3) := by decide +kernel
theorem dX3_fairWin_46 : decode cX3_fairWin 46 = .ok (.bipush 100, 2) := by decide +kernel
theorem dX3_fairWin_48 : decode cX3_fairWin 48 = .ok (.aload_n 0, 1) := by decide +kernel
theorem dX3_fairWin_49 : decode cX3_fairWin 49 = .ok (.getfield 17, 3) := by decide +kernel
theorem dX3_fairWin_52 : decode cX3_fairWin 52 = .ok (.iload 4, 2) := by decide +kernel
theorem dX3_fairWin_54 : decode cX3_fairWin 54 = .ok (.isub, 1) := by decide +kernel
theorem dX3_fairWin_55 : decode cX3_fairWin 55 = .ok (.imul, 1) := by decide +kernel
theorem dX3_fairWin_56 : decode cX3_fairWin 56 = .ok (.bipush 100, 2) := by decide +kernel
theorem dX3_fairWin_58 : decode cX3_fairWin 58 = .ok (.iload 5, 2) := by decide +kernel
theorem dX3_fairWin_60 : decode cX3_fairWin 60 = .ok (.imul, 1) := by decide +kernel
theorem dX3_fairWin_61 : decode cX3_fairWin 61 = .ok (.iload_n 3, 1) := by decide +kernel
theorem dX3_fairWin_62 : decode cX3_fairWin 62 = .ok (.idiv, 1) := by decide +kernel
theorem dX3_fairWin_63 : decode cX3_fairWin 63 = .ok (.iload 4, 2) := by decide +kernel
theorem dX3_fairWin_65 : decode cX3_fairWin 65 = .ok (.imul, 1) := by decide +kernel
theorem dX3_fairWin_66 : decode cX3_fairWin 66 = .ok (.if_icmp .ge 9, 3) := by decide +kernel
theorem dX3_fairWin_69 : decode cX3_fairWin 69 = .ok (.iinc 5 (-1), 3) := by decide +kernel
theorem dX3_fairWin_72 : decode cX3_fairWin 72 = .ok (.goto (-31), 3) := by decide +kernel
theorem dX3_fairWin_75 : decode cX3_fairWin 75 = .ok (.iload 5, 2) := by decide +kernel
theorem dX3_fairWin_77 : decode cX3_fairWin 77 = .ok (.ireturn, 1) := by decide +kernel
theorem dX3_digest_0 : decode cX3_digest 0 = .ok (.aload_n 0, 1) := by decide +kernel
theorem dX3_digest_1 : decode cX3_digest 1 = .ok (.iconst 0, 1) := by decide +kernel
theorem dX3_digest_2 : decode cX3_digest 2 = .ok (.putfield 48, 3) := by decide +kernel
theorem dX3_digest_5 : decode cX3_digest 5 = .ok (.aload_n 0, 1) := by decide +kernel
theorem dX3_digest_6 : decode cX3_digest 6 = .ok (.invokevirtual 153, 3) := by decide +kernel
theorem dX3_digest_9 : decode cX3_digest 9 = .ok (.istore_n 1, 1) := by decide +kernel
theorem dX3_digest_10 : decode cX3_digest 10 = .ok (.bipush 11, 2) := by decide +kernel
theorem dX3_digest_12 : decode cX3_digest 12 = .ok (.newarray .int, 2) := by decide +kernel
theorem dX3_digest_14 : decode cX3_digest 14 = .ok (.dup, 1) := by decide +kernel
theorem dX3_digest_15 : decode cX3_digest 15 = .ok (.iconst 0, 1) := by decide +kernel
theorem dX3_digest_16 : decode cX3_digest 16 = .ok (.aload_n 0, 1) := by decide +kernel
theorem dX3_digest_17 : decode cX3_digest 17 = .ok (.getfield 13, 3) := by decide +kernel
theorem dX3_digest_20 : decode cX3_digest 20 = .ok (.iastore, 1) := by decide +kernel
theorem dX3_digest_21 : decode cX3_digest 21 = .ok (.dup, 1) := by decide +kernel
theorem dX3_digest_22 : decode cX3_digest 22 = .ok (.iconst 1, 1) := by decide +kernel
theorem dX3_digest_23 : decode cX3_digest 23 = .ok (.aload_n 0, 1) := by decide +kernel
theorem dX3_digest_24 : decode cX3_digest 24 = .ok (.getfield 17, 3) := by decide +kernel
theorem dX3_digest_27 : decode cX3_digest 27 = .ok (.iastore, 1) := by decide +kernel
theorem dX3_digest_28 : decode cX3_digest 28 = .ok (.dup, 1) := by decide +kernel
theorem dX3_digest_29 : decode cX3_digest 29 = .ok (.iconst 2, 1) := by decide +kernel
theorem dX3_digest_30 : decode cX3_digest 30 = .ok (.aload_n 0, 1) := by decide +kernel
theorem dX3_digest_31 : decode cX3_digest 31 = .ok (.getfield 51, 3) := by decide +kernel
theorem dX3_digest_34 : decode cX3_digest 34 = .ok (.iastore, 1) := by decide +kernel
theorem dX3_digest_35 : decode cX3_digest 35 = .ok (.dup, 1) := by decide +kernel
theorem dX3_digest_36 : decode cX3_digest 36 = .ok (.iconst 3, 1) := by decide +kernel
theorem dX3_digest_37 : decode cX3_digest 37 = .ok (.aload_n 0, 1) := by decide +kernel
theorem dX3_digest_38 : decode cX3_digest 38 = .ok (.getfield 23, 3) := by decide +kernel
theorem dX3_digest_41 : decode cX3_digest 41 = .ok (.iastore, 1) := by decide +kernel
theorem dX3_digest_42 : decode cX3_digest 42 = .ok (.dup, 1) := by decide +kernel
theorem dX3_digest_43 : decode cX3_digest 43 = .ok (.iconst 4, 1) := by decide +kernel
theorem dX3_digest_44 : decode cX3_digest 44 = .ok (.aload_n 0, 1) := by decide +kernel
theorem dX3_digest_45 : decode cX3_digest 45 = .ok (.getfield 130, 3) := by decide +kernel
theorem dX3_digest_48 : decode cX3_digest 48 = .ok (.iastore, 1) := by decide +kernel
theorem dX3_digest_49 : decode cX3_digest 49 = .ok (.dup, 1) := by decide +kernel
theorem dX3_digest_50 : decode cX3_digest 50 = .ok (.iconst 5, 1) := by decide +kernel
theorem dX3_digest_51 : decode cX3_digest 51 = .ok (.aload_n 0, 1) := by decide +kernel
theorem dX3_digest_52 : decode cX3_digest 52 = .ok (.invokevirtual 137, 3) := by decide +kernel
theorem dX3_digest_55 : decode cX3_digest 55 = .ok (.iastore, 1) := by decide +kernel
theorem dX3_digest_56 : decode cX3_digest 56 = .ok (.dup, 1) := by decide +kernel
theorem dX3_digest_57 : decode cX3_digest 57 = .ok (.bipush 6, 2) := by decide +kernel
theorem dX3_digest_59 : decode cX3_digest 59 = .ok (.aload_n 0, 1) := by decide +kernel
theorem dX3_digest_60 : decode cX3_digest 60 = .ok (.aload_n 0, 1) := by decide +kernel
theorem dX3_digest_61 : decode cX3_digest 61 = .ok (.invokevirtual 147, 3) := by decide +kernel
theorem dX3_digest_64 : decode cX3_digest 64 = .ok (.invokevirtual 141, 3) := by decide +kernel
theorem dX3_digest_67 : decode cX3_digest 67 = .ok (.iastore, 1) := by decide +kernel
theorem dX3_digest_68 : decode cX3_digest 68 = .ok (.dup, 1) := by decide +kernel
theorem dX3_digest_69 : decode cX3_digest 69 = .ok (.bipush 7, 2) := by decide +kernel
theorem dX3_digest_71 : decode cX3_digest 71 = .ok (.aload_n 0, 1) := by decide +kernel
theorem dX3_digest_72 : decode cX3_digest 72 = .ok (.aload_n 0, 1) := by decide +kernel
theorem dX3_digest_73 : decode cX3_digest 73 = .ok (.invokevirtual 147, 3) := by decide +kernel
theorem dX3_digest_76 : decode cX3_digest 76 = .ok (.invokevirtual 144, 3) := by decide +kernel
theorem dX3_digest_79 : decode cX3_digest 79 = .ok (.iastore, 1) := by decide +kernel
theorem dX3_digest_80 : decode cX3_digest 80 = .ok (.dup, 1) := by decide +kernel
theorem dX3_digest_81 : decode cX3_digest 81 = .ok (.bipush 8, 2) := by decide +kernel
theorem dX3_digest_83 : decode cX3_digest 83 = .ok (.aload_n 0, 1) := by decide +kernel
theorem dX3_digest_84 : decode cX3_digest 84 = .ok (.invokevirtual 150, 3) := by decide +kernel
theorem dX3_digest_87 : decode cX3_digest 87 = .ok (.iastore, 1) := by decide +kernel
theorem dX3_digest_88 : decode cX3_digest 88 = .ok (.dup, 1) := by decide +kernel
theorem dX3_digest_89 : decode cX3_digest 89 = .ok (.bipush 9, 2) := by decide +kernel
theorem dX3_digest_91 : decode cX3_digest 91 = .ok (.aload_n 0, 1) := by decide +kernel
theorem dX3_digest_92 : decode cX3_digest 92 = .ok (.iload_n 1, 1) := by decide +kernel
theorem dX3_digest_93 : decode cX3_digest 93 = .ok (.invokevirtual 92, 3) := by decide +kernel
theorem dX3_digest_96 : decode cX3_digest 96 = .ok (.iastore, 1) := by decide +kernel
theorem dX3_digest_97 : decode cX3_digest 97 = .ok (.dup, 1) := by decide +kernel
theorem dX3_digest_98 : decode cX3_digest 98 = .ok (.bipush 10, 2) := by decide +kernel
theorem dX3_digest_100 : decode cX3_digest 100 = .ok (.iload_n 1, 1) := by decide +kernel
theorem dX3_digest_101 : decode cX3_digest 101 = .ok (.iastore, 1) := by decide +kernel
theorem dX3_digest_102 : decode cX3_digest 102 = .ok (.astore_n 2, 1) := by decide +kernel
theorem dX3_digest_103 : decode cX3_digest 103 = .ok (.ldc2_w 166, 3) := by decide +kernel
theorem dX3_digest_106 : decode cX3_digest 106 = .ok (.lstore_n 3, 1) := by decide +kernel
theorem dX3_digest_107 : decode cX3_digest 107 = .ok (.aload_n 2, 1) := by decide +kernel
theorem dX3_digest_108 : decode cX3_digest 108 = .ok (.astore 5, 2) := by decide +kernel
theorem dX3_digest_110 : decode cX3_digest 110 = .ok (.aload 5, 2) := by decide +kernel
theorem dX3_digest_112 : decode cX3_digest 112 = .ok (.arraylength, 1) := by decide +kernel
theorem dX3_digest_113 : decode cX3_digest 113 = .ok (.istore 6, 2) := by decide +kernel
theorem dX3_digest_115 : decode cX3_digest 115 = .ok (.iconst 0, 1) := by decide +kernel
theorem dX3_digest_116 : decode cX3_digest 116 = .ok (.istore 7, 2) := by decide +kernel
theorem dX3_digest_118 : decode cX3_digest 118 = .ok (.iload 7, 2) := by decide +kernel
theorem dX3_digest_120 : decode cX3_digest 120 = .ok (.iload 6, 2) := by decide +kernel
theorem dX3_digest_122 : decode cX3_digest 122 = .ok (.if_icmp .ge 26, 3) := by decide +kernel
theorem dX3_digest_125 : decode cX3_digest 125 = .ok (.aload 5, 2) := by decide +kernel
theorem dX3_digest_127 : decode cX3_digest 127 = .ok (.iload 7, 2) := by decide +kernel
theorem dX3_digest_129 : decode cX3_digest 129 = .ok (.iaload, 1) := by decide +kernel
theorem dX3_digest_130 : decode cX3_digest 130 = .ok (.istore 8, 2) := by decide +kernel
theorem dX3_digest_132 : decode cX3_digest 132 = .ok (.lload_n 3, 1) := by decide +kernel
theorem dX3_digest_133 : decode cX3_digest 133 = .ok (.ldc2_w 168, 3) := by decide +kernel
theorem dX3_digest_136 : decode cX3_digest 136 = .ok (.lmul, 1) := by decide +kernel
theorem dX3_digest_137 : decode cX3_digest 137 = .ok (.iload 8, 2) := by decide +kernel
theorem dX3_digest_139 : decode cX3_digest 139 = .ok (.i2l, 1) := by decide +kernel
theorem dX3_digest_140 : decode cX3_digest 140 = .ok (.ladd, 1) := by decide +kernel
theorem dX3_digest_141 : decode cX3_digest 141 = .ok (.lstore_n 3, 1) := by decide +kernel
theorem dX3_digest_142 : decode cX3_digest 142 = .ok (.iinc 7 1, 3) := by decide +kernel
theorem dX3_digest_145 : decode cX3_digest 145 = .ok (.goto (-27), 3) := by decide +kernel
theorem dX3_digest_148 : decode cX3_digest 148 = .ok (.iconst 0, 1) := by decide +kernel
theorem dX3_digest_149 : decode cX3_digest 149 = .ok (.istore 5, 2) := by decide +kernel
theorem dX3_digest_151 : decode cX3_digest 151 = .ok (.iload 5, 2) := by decide +kernel
theorem dX3_digest_153 : decode cX3_digest 153 = .ok (.aload_n 0, 1) := by decide +kernel
theorem dX3_digest_154 : decode cX3_digest 154 = .ok (.getfield 51, 3) := by decide +kernel
theorem dX3_digest_157 : decode cX3_digest 157 = .ok (.if_icmp .ge 84, 3) := by decide +kernel
theorem dX3_digest_160 : decode cX3_digest 160 = .ok (.aload_n 0, 1) := by decide +kernel
theorem dX3_digest_161 : decode cX3_digest 161 = .ok (.iload 5, 2) := by decide +kernel
theorem dX3_digest_163 : decode cX3_digest 163 = .ok (.invokevirtual 83, 3) := by decide +kernel
theorem dX3_digest_166 : decode cX3_digest 166 = .ok (.istore 6, 2) := by decide +kernel
theorem dX3_digest_168 : decode cX3_digest 168 = .ok (.lload_n 3, 1) := by decide +kernel
theorem dX3_digest_169 : decode cX3_digest 169 = .ok (.ldc2_w 168, 3) := by decide +kernel
theorem dX3_digest_172 : decode cX3_digest 172 = .ok (.lmul, 1) := by decide +kernel
theorem dX3_digest_173 : decode cX3_digest 173 = .ok (.aload_n 0, 1) := by decide +kernel
theorem dX3_digest_174 : decode cX3_digest 174 = .ok (.getfield 26, 3) := by decide +kernel
theorem dX3_digest_177 : decode cX3_digest 177 = .ok (.iload 5, 2) := by decide +kernel
theorem dX3_digest_179 : decode cX3_digest 179 = .ok (.iaload, 1) := by decide +kernel
theorem dX3_digest_180 : decode cX3_digest 180 = .ok (.i2l, 1) := by decide +kernel
theorem dX3_digest_181 : decode cX3_digest 181 = .ok (.ladd, 1) := by decide +kernel
theorem dX3_digest_182 : decode cX3_digest 182 = .ok (.ldc2_w 168, 3) := by decide +kernel
theorem dX3_digest_185 : decode cX3_digest 185 = .ok (.lmul, 1) := by decide +kernel
theorem dX3_digest_186 : decode cX3_digest 186 = .ok (.aload_n 0, 1) := by decide +kernel
theorem dX3_digest_187 : decode cX3_digest 187 = .ok (.getfield 35, 3) := by decide +kernel
theorem dX3_digest_190 : decode cX3_digest 190 = .ok (.iload 5, 2) := by decide +kernel
theorem dX3_digest_192 : decode cX3_digest 192 = .ok (.iaload, 1) := by decide +kernel
theorem dX3_digest_193 : decode cX3_digest 193 = .ok (.i2l, 1) := by decide +kernel
theorem dX3_digest_194 : decode cX3_digest 194 = .ok (.ladd, 1) := by decide +kernel
theorem dX3_digest_195 : decode cX3_digest 195 = .ok (.ldc2_w 168, 3) := by decide +kernel
theorem dX3_digest_198 : decode cX3_digest 198 = .ok (.lmul, 1) := by decide +kernel
theorem dX3_digest_199 : decode cX3_digest 199 = .ok (.aload_n 0, 1) := by decide +kernel
theorem dX3_digest_200 : decode cX3_digest 200 = .ok (.getfield 38, 3) := by decide +kernel
theorem dX3_digest_203 : decode cX3_digest 203 = .ok (.iload 5, 2) := by decide +kernel
theorem dX3_digest_205 : decode cX3_digest 205 = .ok (.iaload, 1) := by decide +kernel
theorem dX3_digest_206 : decode cX3_digest 206 = .ok (.i2l, 1) := by decide +kernel
theorem dX3_digest_207 : decode cX3_digest 207 = .ok (.ladd, 1) := by decide +kernel
theorem dX3_digest_208 : decode cX3_digest 208 = .ok (.lstore_n 3, 1) := by decide +kernel
theorem dX3_digest_209 : decode cX3_digest 209 = .ok (.lload_n 3, 1) := by decide +kernel
theorem dX3_digest_210 : decode cX3_digest 210 = .ok (.ldc2_w 168, 3) := by decide +kernel
theorem dX3_digest_213 : decode cX3_digest 213 = .ok (.lmul, 1) := by decide +kernel
theorem dX3_digest_214 : decode cX3_digest 214 = .ok (.aload_n 0, 1) := by decide +kernel
theorem dX3_digest_215 : decode cX3_digest 215 = .ok (.iload 6, 2) := by decide +kernel
theorem dX3_digest_217 : decode cX3_digest 217 = .ok (.invokevirtual 141, 3) := by decide +kernel
theorem dX3_digest_220 : decode cX3_digest 220 = .ok (.i2l, 1) := by decide +kernel
theorem dX3_digest_221 : decode cX3_digest 221 = .ok (.ladd, 1) := by decide +kernel
theorem dX3_digest_222 : decode cX3_digest 222 = .ok (.ldc2_w 168, 3) := by decide +kernel
theorem dX3_digest_225 : decode cX3_digest 225 = .ok (.lmul, 1) := by decide +kernel
theorem dX3_digest_226 : decode cX3_digest 226 = .ok (.aload_n 0, 1) := by decide +kernel
theorem dX3_digest_227 : decode cX3_digest 227 = .ok (.iload 6, 2) := by decide +kernel
theorem dX3_digest_229 : decode cX3_digest 229 = .ok (.invokevirtual 144, 3) := by decide +kernel
theorem dX3_digest_232 : decode cX3_digest 232 = .ok (.i2l, 1) := by decide +kernel
theorem dX3_digest_233 : decode cX3_digest 233 = .ok (.ladd, 1) := by decide +kernel
theorem dX3_digest_234 : decode cX3_digest 234 = .ok (.lstore_n 3, 1) := by decide +kernel
theorem dX3_digest_235 : decode cX3_digest 235 = .ok (.iinc 5 1, 3) := by decide +kernel
theorem dX3_digest_238 : decode cX3_digest 238 = .ok (.goto (-87), 3) := by decide +kernel
theorem dX3_digest_241 : decode cX3_digest 241 = .ok (.iconst 0, 1) := by decide +kernel
theorem dX3_digest_242 : decode cX3_digest 242 = .ok (.istore 5, 2) := by decide +kernel
theorem dX3_digest_244 : decode cX3_digest 244 = .ok (.iload 5, 2) := by decide +kernel
theorem dX3_digest_246 : decode cX3_digest 246 = .ok (.bipush 6, 2) := by decide +kernel
theorem dX3_digest_248 : decode cX3_digest 248 = .ok (.if_icmp .ge 56, 3) := by decide +kernel
theorem dX3_digest_251 : decode cX3_digest 251 = .ok (.lload_n 3, 1) := by decide +kernel
theorem dX3_digest_252 : decode cX3_digest 252 = .ok (.ldc2_w 168, 3) := by decide +kernel
theorem dX3_digest_255 : decode cX3_digest 255 = .ok (.lmul, 1) := by decide +kernel
theorem dX3_digest_256 : decode cX3_digest 256 = .ok (.aload_n 0, 1) := by decide +kernel
theorem dX3_digest_257 : decode cX3_digest 257 = .ok (.getfield 20, 3) := by decide +kernel
theorem dX3_digest_260 : decode cX3_digest 260 = .ok (.iload 5, 2) := by decide +kernel
theorem dX3_digest_262 : decode cX3_digest 262 = .ok (.iaload, 1) := by decide +kernel
theorem dX3_digest_263 : decode cX3_digest 263 = .ok (.i2l, 1) := by decide +kernel
theorem dX3_digest_264 : decode cX3_digest 264 = .ok (.ladd, 1) := by decide +kernel
theorem dX3_digest_265 : decode cX3_digest 265 = .ok (.ldc2_w 168, 3) := by decide +kernel
theorem dX3_digest_268 : decode cX3_digest 268 = .ok (.lmul, 1) := by decide +kernel
theorem dX3_digest_269 : decode cX3_digest 269 = .ok (.aload_n 0, 1) := by decide +kernel
theorem dX3_digest_270 : decode cX3_digest 270 = .ok (.iload 5, 2) := by decide +kernel
theorem dX3_digest_272 : decode cX3_digest 272 = .ok (.invokevirtual 156, 3) := by decide +kernel
theorem dX3_digest_275 : decode cX3_digest 275 = .ok (.i2l, 1) := by decide +kernel
theorem dX3_digest_276 : decode cX3_digest 276 = .ok (.ladd, 1) := by decide +kernel
theorem dX3_digest_277 : decode cX3_digest 277 = .ok (.ldc2_w 168, 3) := by decide +kernel
theorem dX3_digest_280 : decode cX3_digest 280 = .ok (.lmul, 1) := by decide +kernel
theorem dX3_digest_281 : decode cX3_digest 281 = .ok (.aload_n 0, 1) := by decide +kernel
theorem dX3_digest_282 : decode cX3_digest 282 = .ok (.iload 5, 2) := by decide +kernel
theorem dX3_digest_284 : decode cX3_digest 284 = .ok (.invokevirtual 159, 3) := by decide +kernel
theorem dX3_digest_287 : decode cX3_digest 287 = .ok (.ifCond .eq 7, 3) := by decide +kernel
theorem dX3_digest_290 : decode cX3_digest 290 = .ok (.iconst 1, 1) := by decide +kernel
theorem dX3_digest_291 : decode cX3_digest 291 = .ok (.goto 4, 3) := by decide +kernel
theorem dX3_digest_294 : decode cX3_digest 294 = .ok (.iconst 0, 1) := by decide +kernel
theorem dX3_digest_295 : decode cX3_digest 295 = .ok (.i2l, 1) := by decide +kernel
theorem dX3_digest_296 : decode cX3_digest 296 = .ok (.ladd, 1) := by decide +kernel
theorem dX3_digest_297 : decode cX3_digest 297 = .ok (.lstore_n 3, 1) := by decide +kernel
theorem dX3_digest_298 : decode cX3_digest 298 = .ok (.iinc 5 1, 3) := by decide +kernel
theorem dX3_digest_301 : decode cX3_digest 301 = .ok (.goto (-57), 3) := by decide +kernel
theorem dX3_digest_304 : decode cX3_digest 304 = .ok (.iconst 0, 1) := by decide +kernel
theorem dX3_digest_305 : decode cX3_digest 305 = .ok (.istore 5, 2) := by decide +kernel
theorem dX3_digest_307 : decode cX3_digest 307 = .ok (.iload 5, 2) := by decide +kernel
theorem dX3_digest_309 : decode cX3_digest 309 = .ok (.bipush 10, 2) := by decide +kernel
theorem dX3_digest_311 : decode cX3_digest 311 = .ok (.if_icmp .ge 25, 3) := by decide +kernel
theorem dX3_digest_314 : decode cX3_digest 314 = .ok (.lload_n 3, 1) := by decide +kernel
theorem dX3_digest_315 : decode cX3_digest 315 = .ok (.ldc2_w 168, 3) := by decide +kernel
theorem dX3_digest_318 : decode cX3_digest 318 = .ok (.lmul, 1) := by decide +kernel
theorem dX3_digest_319 : decode cX3_digest 319 = .ok (.aload_n 0, 1) := by decide +kernel
theorem dX3_digest_320 : decode cX3_digest 320 = .ok (.iload 5, 2) := by decide +kernel
theorem dX3_digest_322 : decode cX3_digest 322 = .ok (.bipush 7, 2) := by decide +kernel
theorem dX3_digest_324 : decode cX3_digest 324 = .ok (.invokevirtual 74, 3) := by decide +kernel
theorem dX3_digest_327 : decode cX3_digest 327 = .ok (.i2l, 1) := by decide +kernel
theorem dX3_digest_328 : decode cX3_digest 328 = .ok (.ladd, 1) := by decide +kernel
theorem dX3_digest_329 : decode cX3_digest 329 = .ok (.lstore_n 3, 1) := by decide +kernel
theorem dX3_digest_330 : decode cX3_digest 330 = .ok (.iinc 5 1, 3) := by decide +kernel
theorem dX3_digest_333 : decode cX3_digest 333 = .ok (.goto (-26), 3) := by decide +kernel
theorem dX3_digest_336 : decode cX3_digest 336 = .ok (.lload_n 3, 1) := by decide +kernel
theorem dX3_digest_337 : decode cX3_digest 337 = .ok (.lreturn, 1) := by decide +kernel
theorem dJ6_bitCount_0f7a4_0 : decode cJ6_bitCount_0f7a4 0 = .ok (.iload_n 0, 1) := by decide +kernel
theorem dJ6_bitCount_0f7a4_1 : decode cJ6_bitCount_0f7a4 1 = .ok (.iload_n 0, 1) := by decide +kernel
theorem dJ6_bitCount_0f7a4_2 : decode cJ6_bitCount_0f7a4 2 = .ok (.iconst 1, 1) := by decide +kernel
theorem dJ6_bitCount_0f7a4_3 : decode cJ6_bitCount_0f7a4 3 = .ok (.iushr, 1) := by decide +kernel
theorem dJ6_bitCount_0f7a4_4 : decode cJ6_bitCount_0f7a4 4 = .ok (.ldc_w 265, 3) := by decide +kernel
theorem dJ6_bitCount_0f7a4_7 : decode cJ6_bitCount_0f7a4 7 = .ok (.iand, 1) := by decide +kernel
theorem dJ6_bitCount_0f7a4_8 : decode cJ6_bitCount_0f7a4 8 = .ok (.isub, 1) := by decide +kernel
theorem dJ6_bitCount_0f7a4_9 : decode cJ6_bitCount_0f7a4 9 = .ok (.istore_n 0, 1) := by decide +kernel
theorem dJ6_bitCount_0f7a4_10 : decode cJ6_bitCount_0f7a4 10 = .ok (.iload_n 0, 1) := by decide +kernel
theorem dJ6_bitCount_0f7a4_11 : decode cJ6_bitCount_0f7a4 11 = .ok (.ldc_w 266, 3) := by decide +kernel
theorem dJ6_bitCount_0f7a4_14 : decode cJ6_bitCount_0f7a4 14 = .ok (.iand, 1) := by decide +kernel
theorem dJ6_bitCount_0f7a4_15 : decode cJ6_bitCount_0f7a4 15 = .ok (.iload_n 0, 1) := by decide +kernel
theorem dJ6_bitCount_0f7a4_16 : decode cJ6_bitCount_0f7a4 16 = .ok (.iconst 2, 1) := by decide +kernel
theorem dJ6_bitCount_0f7a4_17 : decode cJ6_bitCount_0f7a4 17 = .ok (.iushr, 1) := by decide +kernel
theorem dJ6_bitCount_0f7a4_18 : decode cJ6_bitCount_0f7a4 18 = .ok (.ldc_w 266, 3) := by decide +kernel
theorem dJ6_bitCount_0f7a4_21 : decode cJ6_bitCount_0f7a4 21 = .ok (.iand, 1) := by decide +kernel
theorem dJ6_bitCount_0f7a4_22 : decode cJ6_bitCount_0f7a4 22 = .ok (.iadd, 1) := by decide +kernel
theorem dJ6_bitCount_0f7a4_23 : decode cJ6_bitCount_0f7a4 23 = .ok (.istore_n 0, 1) := by decide +kernel
theorem dJ6_bitCount_0f7a4_24 : decode cJ6_bitCount_0f7a4 24 = .ok (.iload_n 0, 1) := by decide +kernel
theorem dJ6_bitCount_0f7a4_25 : decode cJ6_bitCount_0f7a4 25 = .ok (.iload_n 0, 1) := by decide +kernel
theorem dJ6_bitCount_0f7a4_26 : decode cJ6_bitCount_0f7a4 26 = .ok (.iconst 4, 1) := by decide +kernel
theorem dJ6_bitCount_0f7a4_27 : decode cJ6_bitCount_0f7a4 27 = .ok (.iushr, 1) := by decide +kernel
theorem dJ6_bitCount_0f7a4_28 : decode cJ6_bitCount_0f7a4 28 = .ok (.iadd, 1) := by decide +kernel
theorem dJ6_bitCount_0f7a4_29 : decode cJ6_bitCount_0f7a4 29 = .ok (.ldc_w 267, 3) := by decide +kernel
theorem dJ6_bitCount_0f7a4_32 : decode cJ6_bitCount_0f7a4 32 = .ok (.iand, 1) := by decide +kernel
theorem dJ6_bitCount_0f7a4_33 : decode cJ6_bitCount_0f7a4 33 = .ok (.istore_n 0, 1) := by decide +kernel
theorem dJ6_bitCount_0f7a4_34 : decode cJ6_bitCount_0f7a4 34 = .ok (.iload_n 0, 1) := by decide +kernel
theorem dJ6_bitCount_0f7a4_35 : decode cJ6_bitCount_0f7a4 35 = .ok (.iload_n 0, 1) := by decide +kernel
theorem dJ6_bitCount_0f7a4_36 : decode cJ6_bitCount_0f7a4 36 = .ok (.bipush 8, 2) := by decide +kernel
theorem dJ6_bitCount_0f7a4_38 : decode cJ6_bitCount_0f7a4 38 = .ok (.iushr, 1) := by decide +kernel
theorem dJ6_bitCount_0f7a4_39 : decode cJ6_bitCount_0f7a4 39 = .ok (.iadd, 1) := by decide +kernel
theorem dJ6_bitCount_0f7a4_40 : decode cJ6_bitCount_0f7a4 40 = .ok (.istore_n 0, 1) := by decide +kernel
theorem dJ6_bitCount_0f7a4_41 : decode cJ6_bitCount_0f7a4 41 = .ok (.iload_n 0, 1) := by decide +kernel
theorem dJ6_bitCount_0f7a4_42 : decode cJ6_bitCount_0f7a4 42 = .ok (.iload_n 0, 1) := by decide +kernel
theorem dJ6_bitCount_0f7a4_43 : decode cJ6_bitCount_0f7a4 43 = .ok (.bipush 16, 2) := by decide +kernel
theorem dJ6_bitCount_0f7a4_45 : decode cJ6_bitCount_0f7a4 45 = .ok (.iushr, 1) := by decide +kernel
theorem dJ6_bitCount_0f7a4_46 : decode cJ6_bitCount_0f7a4 46 = .ok (.iadd, 1) := by decide +kernel
theorem dJ6_bitCount_0f7a4_47 : decode cJ6_bitCount_0f7a4 47 = .ok (.istore_n 0, 1) := by decide +kernel
theorem dJ6_bitCount_0f7a4_48 : decode cJ6_bitCount_0f7a4 48 = .ok (.iload_n 0, 1) := by decide +kernel
theorem dJ6_bitCount_0f7a4_49 : decode cJ6_bitCount_0f7a4 49 = .ok (.bipush 63, 2) := by decide +kernel
theorem dJ6_bitCount_0f7a4_51 : decode cJ6_bitCount_0f7a4 51 = .ok (.iand, 1) := by decide +kernel
theorem dJ6_bitCount_0f7a4_52 : decode cJ6_bitCount_0f7a4 52 = .ok (.ireturn, 1) := by decide +kernel
theorem dJ9_abs_0f7a4_0 : decode cJ9_abs_0f7a4 0 = .ok (.iload_n 0, 1) := by decide +kernel
theorem dJ9_abs_0f7a4_1 : decode cJ9_abs_0f7a4 1 = .ok (.ifCond .ge 8, 3) := by decide +kernel
theorem dJ9_abs_0f7a4_4 : decode cJ9_abs_0f7a4 4 = .ok (.iload_n 0, 1) := by decide +kernel
theorem dJ9_abs_0f7a4_5 : decode cJ9_abs_0f7a4 5 = .ok (.ineg, 1) := by decide +kernel
theorem dJ9_abs_0f7a4_6 : decode cJ9_abs_0f7a4 6 = .ok (.goto 4, 3) := by decide +kernel
theorem dJ9_abs_0f7a4_9 : decode cJ9_abs_0f7a4 9 = .ok (.iload_n 0, 1) := by decide +kernel
theorem dJ9_abs_0f7a4_10 : decode cJ9_abs_0f7a4 10 = .ok (.ireturn, 1) := by decide +kernel
theorem dJ9_max_7cf53_0 : decode cJ9_max_7cf53 0 = .ok (.iload_n 0, 1) := by decide +kernel
theorem dJ9_max_7cf53_1 : decode cJ9_max_7cf53 1 = .ok (.iload_n 1, 1) := by decide +kernel
theorem dJ9_max_7cf53_2 : decode cJ9_max_7cf53 2 = .ok (.if_icmp .lt 7, 3) := by decide +kernel
theorem dJ9_max_7cf53_5 : decode cJ9_max_7cf53 5 = .ok (.iload_n 0, 1) := by decide +kernel
theorem dJ9_max_7cf53_6 : decode cJ9_max_7cf53 6 = .ok (.goto 4, 3) := by decide +kernel
theorem dJ9_max_7cf53_9 : decode cJ9_max_7cf53 9 = .ok (.iload_n 1, 1) := by decide +kernel
theorem dJ9_max_7cf53_10 : decode cJ9_max_7cf53 10 = .ok (.ireturn, 1) := by decide +kernel
theorem dJ9_min_7cf53_0 : decode cJ9_min_7cf53 0 = .ok (.iload_n 0, 1) := by decide +kernel
theorem dJ9_min_7cf53_1 : decode cJ9_min_7cf53 1 = .ok (.iload_n 1, 1) := by decide +kernel
theorem dJ9_min_7cf53_2 : decode cJ9_min_7cf53 2 = .ok (.if_icmp .gt 7, 3) := by decide +kernel
theorem dJ9_min_7cf53_5 : decode cJ9_min_7cf53 5 = .ok (.iload_n 0, 1) := by decide +kernel
theorem dJ9_min_7cf53_6 : decode cJ9_min_7cf53 6 = .ok (.goto 4, 3) := by decide +kernel
theorem dJ9_min_7cf53_9 : decode cJ9_min_7cf53 9 = .ok (.iload_n 1, 1) := by decide +kernel
theorem dJ9_min_7cf53_10 : decode cJ9_min_7cf53 10 = .ok (.ireturn, 1) := by decide +kernel
theorem dJxa1e45_init_da8c8_0 : decode cJxa1e45_init_da8c8 0 = .ok (.aload_n 0, 1) := by decide +kernel
theorem dJxa1e45_init_da8c8_1 : decode cJxa1e45_init_da8c8 1 = .ok (.invokespecial 1, 3) := by decide +kernel
theorem dJxa1e45_init_da8c8_4 : decode cJxa1e45_init_da8c8 4 = .ok (.return_, 1) := by decide +kernel
theorem dJxc12de_init_da8c8_0 : decode cJxc12de_init_da8c8 0 = .ok (.aload_n 0, 1) := by decide +kernel
theorem dJxc12de_init_da8c8_1 : decode cJxc12de_init_da8c8 1 = .ok (.invokespecial 1, 3) := by decide +kernel
theorem dJxc12de_init_da8c8_4 : decode cJxc12de_init_da8c8 4 = .ok (.aload_n 0, 1) := by decide +kernel
theorem dJxc12de_init_da8c8_5 : decode cJxc12de_init_da8c8 5 = .ok (.iconst 0, 1) := by decide +kernel
theorem dJxc12de_init_da8c8_6 : decode cJxc12de_init_da8c8 6 = .ok (.putfield 7, 3) := by decide +kernel
theorem dJxc12de_init_da8c8_9 : decode cJxc12de_init_da8c8 9 = .ok (.return_, 1) := by decide +kernel
theorem dJx4a65c_init_da8c8_0 : decode cJx4a65c_init_da8c8 0 = .ok (.aload_n 0, 1) := by decide +kernel
theorem dJx4a65c_init_da8c8_1 : decode cJx4a65c_init_da8c8 1 = .ok (.invokespecial 1, 3) := by decide +kernel
theorem dJx4a65c_init_da8c8_4 : decode cJx4a65c_init_da8c8 4 = .ok (.aload_n 0, 1) := by decide +kernel
theorem dJx4a65c_init_da8c8_5 : decode cJx4a65c_init_da8c8 5 = .ok (.getstatic 39, 3) := by decide +kernel
theorem dJx4a65c_init_da8c8_8 : decode cJx4a65c_init_da8c8 8 = .ok (.putfield 9, 3) := by decide +kernel
theorem dJx4a65c_init_da8c8_11 : decode cJx4a65c_init_da8c8 11 = .ok (.return_, 1) := by decide +kernel
theorem dJx4a65c_grow_92f84_0 : decode cJx4a65c_grow_92f84 0 = .ok (.aload_n 0, 1) := by decide +kernel
theorem dJx4a65c_grow_92f84_1 : decode cJx4a65c_grow_92f84 1 = .ok (.getfield 9, 3) := by decide +kernel
theorem dJx4a65c_grow_92f84_4 : decode cJx4a65c_grow_92f84 4 = .ok (.arraylength, 1) := by decide +kernel
theorem dJx4a65c_grow_92f84_5 : decode cJx4a65c_grow_92f84 5 = .ok (.istore_n 2, 1) := by decide +kernel
theorem dJx4a65c_grow_92f84_6 : decode cJx4a65c_grow_92f84 6 = .ok (.iload_n 2, 1) := by decide +kernel
theorem dJx4a65c_grow_92f84_7 : decode cJx4a65c_grow_92f84 7 = .ok (.ifCond .gt 13, 3) := by decide +kernel
theorem dJx4a65c_grow_92f84_10 : decode cJx4a65c_grow_92f84 10 = .ok (.aload_n 0, 1) := by decide +kernel
theorem dJx4a65c_grow_92f84_11 : decode cJx4a65c_grow_92f84 11 = .ok (.getfield 9, 3) := by decide +kernel
theorem dJx4a65c_grow_92f84_14 : decode cJx4a65c_grow_92f84 14 = .ok (.getstatic 39, 3) := by decide +kernel
theorem dJx4a65c_grow_92f84_17 : decode cJx4a65c_grow_92f84 17 = .ok (.if_acmp .eq 28, 3) := by decide +kernel
theorem dJx4a65c_grow_92f84_20 : decode cJx4a65c_grow_92f84 20 = .ok (.iload_n 2, 1) := by decide +kernel
theorem dJx4a65c_grow_92f84_21 : decode cJx4a65c_grow_92f84 21 = .ok (.iload_n 1, 1) := by decide +kernel
theorem dJx4a65c_grow_92f84_22 : decode cJx4a65c_grow_92f84 22 = .ok (.iload_n 2, 1) := by decide +kernel
theorem dJx4a65c_grow_92f84_23 : decode cJx4a65c_grow_92f84 23 = .ok (.isub, 1) := by decide +kernel
theorem dJx4a65c_grow_92f84_24 : decode cJx4a65c_grow_92f84 24 = .ok (.iload_n 2, 1) := by decide +kernel
theorem dJx4a65c_grow_92f84_25 : decode cJx4a65c_grow_92f84 25 = .ok (.iconst 1, 1) := by decide +kernel
theorem dJx4a65c_grow_92f84_26 : decode cJx4a65c_grow_92f84 26 = .ok (.ishr, 1) := by decide +kernel
theorem dJx4a65c_grow_92f84_27 : decode cJx4a65c_grow_92f84 27 = .ok (.invokestatic 73, 3) := by decide +kernel
theorem dJx4a65c_grow_92f84_30 : decode cJx4a65c_grow_92f84 30 = .ok (.istore_n 3, 1) := by decide +kernel
theorem dJx4a65c_grow_92f84_31 : decode cJx4a65c_grow_92f84 31 = .ok (.aload_n 0, 1) := by decide +kernel
theorem dJx4a65c_grow_92f84_32 : decode cJx4a65c_grow_92f84 32 = .ok (.aload_n 0, 1) := by decide +kernel
theorem dJx4a65c_grow_92f84_33 : decode cJx4a65c_grow_92f84 33 = .ok (.getfield 9, 3) := by decide +kernel
theorem dJx4a65c_grow_92f84_36 : decode cJx4a65c_grow_92f84 36 = .ok (.iload_n 3, 1) := by decide +kernel
theorem dJx4a65c_grow_92f84_37 : decode cJx4a65c_grow_92f84 37 = .ok (.invokestatic 66, 3) := by decide +kernel
theorem dJx4a65c_grow_92f84_40 : decode cJx4a65c_grow_92f84 40 = .ok (.dup_x1, 1) := by decide +kernel
theorem dJx4a65c_grow_92f84_41 : decode cJx4a65c_grow_92f84 41 = .ok (.putfield 9, 3) := by decide +kernel
theorem dJx4a65c_grow_92f84_44 : decode cJx4a65c_grow_92f84 44 = .ok (.areturn, 1) := by decide +kernel
theorem dJx4a65c_grow_92f84_45 : decode cJx4a65c_grow_92f84 45 = .ok (.aload_n 0, 1) := by decide +kernel
theorem dJx4a65c_grow_92f84_46 : decode cJx4a65c_grow_92f84 46 = .ok (.bipush 10, 2) := by decide +kernel
theorem dJx4a65c_grow_92f84_48 : decode cJx4a65c_grow_92f84 48 = .ok (.iload_n 1, 1) := by decide +kernel
theorem dJx4a65c_grow_92f84_49 : decode cJx4a65c_grow_92f84 49 = .ok (.invokestatic 79, 3) := by decide +kernel
theorem dJx4a65c_grow_92f84_52 : decode cJx4a65c_grow_92f84 52 = .ok (.anewarray 7, 3) := by decide +kernel
theorem dJx4a65c_grow_92f84_55 : decode cJx4a65c_grow_92f84 55 = .ok (.dup_x1, 1) := by decide +kernel
theorem dJx4a65c_grow_92f84_56 : decode cJx4a65c_grow_92f84 56 = .ok (.putfield 9, 3) := by decide +kernel
theorem dJx4a65c_grow_92f84_59 : decode cJx4a65c_grow_92f84 59 = .ok (.areturn, 1) := by decide +kernel
theorem dJx4a65c_grow_d5877_0 : decode cJx4a65c_grow_d5877 0 = .ok (.aload_n 0, 1) := by decide +kernel
theorem dJx4a65c_grow_d5877_1 : decode cJx4a65c_grow_d5877 1 = .ok (.aload_n 0, 1) := by decide +kernel
theorem dJx4a65c_grow_d5877_2 : decode cJx4a65c_grow_d5877 2 = .ok (.getfield 48, 3) := by decide +kernel
theorem dJx4a65c_grow_d5877_5 : decode cJx4a65c_grow_d5877 5 = .ok (.iconst 1, 1) := by decide +kernel
theorem dJx4a65c_grow_d5877_6 : decode cJx4a65c_grow_d5877 6 = .ok (.iadd, 1) := by decide +kernel
theorem dJx4a65c_grow_d5877_7 : decode cJx4a65c_grow_d5877 7 = .ok (.invokevirtual 69, 3) := by decide +kernel
theorem dJx4a65c_grow_d5877_10 : decode cJx4a65c_grow_d5877 10 = .ok (.areturn, 1) := by decide +kernel
theorem dJx4a65c_size_8abf5_0 : decode cJx4a65c_size_8abf5 0 = .ok (.aload_n 0, 1) := by decide +kernel
theorem dJx4a65c_size_8abf5_1 : decode cJx4a65c_size_8abf5 1 = .ok (.getfield 48, 3) := by decide +kernel
theorem dJx4a65c_size_8abf5_4 : decode cJx4a65c_size_8abf5 4 = .ok (.ireturn, 1) := by decide +kernel
theorem dJx4a65c_isEmpty_aae02_0 : decode cJx4a65c_isEmpty_aae02 0 = .ok (.aload_n 0, 1) := by decide +kernel
theorem dJx4a65c_isEmpty_aae02_1 : decode cJx4a65c_isEmpty_aae02 1 = .ok (.getfield 48, 3) := by decide +kernel
theorem dJx4a65c_isEmpty_aae02_4 : decode cJx4a65c_isEmpty_aae02 4 = .ok (.ifCond .ne 7, 3) := by decide +kernel
theorem dJx4a65c_isEmpty_aae02_7 : decode cJx4a65c_isEmpty_aae02 7 = .ok (.iconst 1, 1) := by decide +kernel
theorem dJx4a65c_isEmpty_aae02_8 : decode cJx4a65c_isEmpty_aae02 8 = .ok (.goto 4, 3) := by decide +kernel
theorem dJx4a65c_isEmpty_aae02_11 : decode cJx4a65c_isEmpty_aae02 11 = .ok (.iconst 0, 1) := by decide +kernel
theorem dJx4a65c_isEmpty_aae02_12 : decode cJx4a65c_isEmpty_aae02 12 = .ok (.ireturn, 1) := by decide +kernel
theorem dJx4a65c_elementData_915e3_0 : decode cJx4a65c_elementData_915e3 0 = .ok (.aload_n 0, 1) := by decide +kernel
theorem dJx4a65c_elementData_915e3_1 : decode cJx4a65c_elementData_915e3 1 = .ok (.getfield 9, 3) := by decide +kernel
theorem dJx4a65c_elementData_915e3_4 : decode cJx4a65c_elementData_915e3 4 = .ok (.iload_n 1, 1) := by decide +kernel
theorem dJx4a65c_elementData_915e3_5 : decode cJx4a65c_elementData_915e3 5 = .ok (.aaload, 1) := by decide +kernel
theorem dJx4a65c_elementData_915e3_6 : decode cJx4a65c_elementData_915e3 6 = .ok (.areturn, 1) := by decide +kernel
theorem dJx4a65c_get_915e3_0 : decode cJx4a65c_get_915e3 0 = .ok (.iload_n 1, 1) := by decide +kernel
theorem dJx4a65c_get_915e3_1 : decode cJx4a65c_get_915e3 1 = .ok (.aload_n 0, 1) := by decide +kernel
theorem dJx4a65c_get_915e3_2 : decode cJx4a65c_get_915e3 2 = .ok (.getfield 48, 3) := by decide +kernel
theorem dJx4a65c_get_915e3_5 : decode cJx4a65c_get_915e3 5 = .ok (.invokestatic 118, 3) := by decide +kernel
theorem dJx4a65c_get_915e3_8 : decode cJx4a65c_get_915e3 8 = .ok (.pop, 1) := by decide +kernel
theorem dJx4a65c_get_915e3_9 : decode cJx4a65c_get_915e3 9 = .ok (.aload_n 0, 1) := by decide +kernel
theorem dJx4a65c_get_915e3_10 : decode cJx4a65c_get_915e3 10 = .ok (.iload_n 1, 1) := by decide +kernel
theorem dJx4a65c_get_915e3_11 : decode cJx4a65c_get_915e3 11 = .ok (.invokevirtual 123, 3) := by decide +kernel
theorem dJx4a65c_get_915e3_14 : decode cJx4a65c_get_915e3 14 = .ok (.areturn, 1) := by decide +kernel
theorem dJx4a65c_add_72be8_0 : decode cJx4a65c_add_72be8 0 = .ok (.iload_n 3, 1) := by decide +kernel
theorem dJx4a65c_add_72be8_1 : decode cJx4a65c_add_72be8 1 = .ok (.aload_n 2, 1) := by decide +kernel
theorem dJx4a65c_add_72be8_2 : decode cJx4a65c_add_72be8 2 = .ok (.arraylength, 1) := by decide +kernel
theorem dJx4a65c_add_72be8_3 : decode cJx4a65c_add_72be8 3 = .ok (.if_icmp .ne 8, 3) := by decide +kernel
theorem dJx4a65c_add_72be8_6 : decode cJx4a65c_add_72be8 6 = .ok (.aload_n 0, 1) := by decide +kernel
theorem dJx4a65c_add_72be8_7 : decode cJx4a65c_add_72be8 7 = .ok (.invokevirtual 129, 3) := by decide +kernel
theorem dJx4a65c_add_72be8_10 : decode cJx4a65c_add_72be8 10 = .ok (.astore_n 2, 1) := by decide +kernel
theorem dJx4a65c_add_72be8_11 : decode cJx4a65c_add_72be8 11 = .ok (.aload_n 2, 1) := by decide +kernel
theorem dJx4a65c_add_72be8_12 : decode cJx4a65c_add_72be8 12 = .ok (.iload_n 3, 1) := by decide +kernel
theorem dJx4a65c_add_72be8_13 : decode cJx4a65c_add_72be8 13 = .ok (.aload_n 1, 1) := by decide +kernel
theorem dJx4a65c_add_72be8_14 : decode cJx4a65c_add_72be8 14 = .ok (.aastore, 1) := by decide +kernel
theorem dJx4a65c_add_72be8_15 : decode cJx4a65c_add_72be8 15 = .ok (.aload_n 0, 1) := by decide +kernel
theorem dJx4a65c_add_72be8_16 : decode cJx4a65c_add_72be8 16 = .ok (.iload_n 3, 1) := by decide +kernel
theorem dJx4a65c_add_72be8_17 : decode cJx4a65c_add_72be8 17 = .ok (.iconst 1, 1) := by decide +kernel
theorem dJx4a65c_add_72be8_18 : decode cJx4a65c_add_72be8 18 = .ok (.iadd, 1) := by decide +kernel
theorem dJx4a65c_add_72be8_19 : decode cJx4a65c_add_72be8 19 = .ok (.putfield 48, 3) := by decide +kernel
theorem dJx4a65c_add_72be8_22 : decode cJx4a65c_add_72be8 22 = .ok (.return_, 1) := by decide +kernel
theorem dJx4a65c_add_9ea2d_0 : decode cJx4a65c_add_9ea2d 0 = .ok (.aload_n 0, 1) := by decide +kernel
theorem dJx4a65c_add_9ea2d_1 : decode cJx4a65c_add_9ea2d 1 = .ok (.dup, 1) := by decide +kernel
theorem dJx4a65c_add_9ea2d_2 : decode cJx4a65c_add_9ea2d 2 = .ok (.getfield 63, 3) := by decide +kernel
theorem dJx4a65c_add_9ea2d_5 : decode cJx4a65c_add_9ea2d 5 = .ok (.iconst 1, 1) := by decide +kernel
theorem dJx4a65c_add_9ea2d_6 : decode cJx4a65c_add_9ea2d 6 = .ok (.iadd, 1) := by decide +kernel
theorem dJx4a65c_add_9ea2d_7 : decode cJx4a65c_add_9ea2d 7 = .ok (.putfield 63, 3) := by decide +kernel
theorem dJx4a65c_add_9ea2d_10 : decode cJx4a65c_add_9ea2d 10 = .ok (.aload_n 0, 1) := by decide +kernel
theorem dJx4a65c_add_9ea2d_11 : decode cJx4a65c_add_9ea2d 11 = .ok (.aload_n 1, 1) := by decide +kernel
theorem dJx4a65c_add_9ea2d_12 : decode cJx4a65c_add_9ea2d 12 = .ok (.aload_n 0, 1) := by decide +kernel
theorem dJx4a65c_add_9ea2d_13 : decode cJx4a65c_add_9ea2d 13 = .ok (.getfield 9, 3) := by decide +kernel
theorem dJx4a65c_add_9ea2d_16 : decode cJx4a65c_add_9ea2d 16 = .ok (.aload_n 0, 1) := by decide +kernel
theorem dJx4a65c_add_9ea2d_17 : decode cJx4a65c_add_9ea2d 17 = .ok (.getfield 48, 3) := by decide +kernel
theorem dJx4a65c_add_9ea2d_20 : decode cJx4a65c_add_9ea2d 20 = .ok (.invokevirtual 131, 3) := by decide +kernel
theorem dJx4a65c_add_9ea2d_23 : decode cJx4a65c_add_9ea2d 23 = .ok (.iconst 1, 1) := by decide +kernel
theorem dJx4a65c_add_9ea2d_24 : decode cJx4a65c_add_9ea2d 24 = .ok (.ireturn, 1) := by decide +kernel
theorem dJx4a65c_remove_915e3_0 : decode cJx4a65c_remove_915e3 0 = .ok (.iload_n 1, 1) := by decide +kernel
theorem dJx4a65c_remove_915e3_1 : decode cJx4a65c_remove_915e3 1 = .ok (.aload_n 0, 1) := by decide +kernel
theorem dJx4a65c_remove_915e3_2 : decode cJx4a65c_remove_915e3 2 = .ok (.getfield 48, 3) := by decide +kernel
theorem dJx4a65c_remove_915e3_5 : decode cJx4a65c_remove_915e3 5 = .ok (.invokestatic 118, 3) := by decide +kernel
theorem dJx4a65c_remove_915e3_8 : decode cJx4a65c_remove_915e3 8 = .ok (.pop, 1) := by decide +kernel
theorem dJx4a65c_remove_915e3_9 : decode cJx4a65c_remove_915e3 9 = .ok (.aload_n 0, 1) := by decide +kernel
theorem dJx4a65c_remove_915e3_10 : decode cJx4a65c_remove_915e3 10 = .ok (.getfield 9, 3) := by decide +kernel
theorem dJx4a65c_remove_915e3_13 : decode cJx4a65c_remove_915e3 13 = .ok (.astore_n 2, 1) := by decide +kernel
theorem dJx4a65c_remove_915e3_14 : decode cJx4a65c_remove_915e3 14 = .ok (.aload_n 2, 1) := by decide +kernel
theorem dJx4a65c_remove_915e3_15 : decode cJx4a65c_remove_915e3 15 = .ok (.iload_n 1, 1) := by decide +kernel
theorem dJx4a65c_remove_915e3_16 : decode cJx4a65c_remove_915e3 16 = .ok (.aaload, 1) := by decide +kernel
theorem dJx4a65c_remove_915e3_17 : decode cJx4a65c_remove_915e3 17 = .ok (.astore_n 3, 1) := by decide +kernel
theorem dJx4a65c_remove_915e3_18 : decode cJx4a65c_remove_915e3 18 = .ok (.aload_n 0, 1) := by decide +kernel
theorem dJx4a65c_remove_915e3_19 : decode cJx4a65c_remove_915e3 19 = .ok (.aload_n 2, 1) := by decide +kernel
theorem dJx4a65c_remove_915e3_20 : decode cJx4a65c_remove_915e3 20 = .ok (.iload_n 1, 1) := by decide +kernel
theorem dJx4a65c_remove_915e3_21 : decode cJx4a65c_remove_915e3 21 = .ok (.invokevirtual 144, 3) := by decide +kernel
theorem dJx4a65c_remove_915e3_24 : decode cJx4a65c_remove_915e3 24 = .ok (.aload_n 3, 1) := by decide +kernel
theorem dJx4a65c_remove_915e3_25 : decode cJx4a65c_remove_915e3 25 = .ok (.areturn, 1) := by decide +kernel
theorem dJx4a65c_fastRemove_b59b0_0 : decode cJx4a65c_fastRemove_b59b0 0 = .ok (.aload_n 0, 1) := by decide +kernel
theorem dJx4a65c_fastRemove_b59b0_1 : decode cJx4a65c_fastRemove_b59b0 1 = .ok (.dup, 1) := by decide +kernel
theorem dJx4a65c_fastRemove_b59b0_2 : decode cJx4a65c_fastRemove_b59b0 2 = .ok (.getfield 63, 3) := by decide +kernel
theorem dJx4a65c_fastRemove_b59b0_5 : decode cJx4a65c_fastRemove_b59b0 5 = .ok (.iconst 1, 1) := by decide +kernel
theorem dJx4a65c_fastRemove_b59b0_6 : decode cJx4a65c_fastRemove_b59b0 6 = .ok (.iadd, 1) := by decide +kernel
theorem dJx4a65c_fastRemove_b59b0_7 : decode cJx4a65c_fastRemove_b59b0 7 = .ok (.putfield 63, 3) := by decide +kernel
theorem dJx4a65c_fastRemove_b59b0_10 : decode cJx4a65c_fastRemove_b59b0 10 = .ok (.aload_n 0, 1) := by decide +kernel
theorem dJx4a65c_fastRemove_b59b0_11 : decode cJx4a65c_fastRemove_b59b0 11 = .ok (.getfield 48, 3) := by decide +kernel
theorem dJx4a65c_fastRemove_b59b0_14 : decode cJx4a65c_fastRemove_b59b0 14 = .ok (.iconst 1, 1) := by decide +kernel
theorem dJx4a65c_fastRemove_b59b0_15 : decode cJx4a65c_fastRemove_b59b0 15 = .ok (.isub, 1) := by decide +kernel
theorem dJx4a65c_fastRemove_b59b0_16 : decode cJx4a65c_fastRemove_b59b0 16 = .ok (.dup, 1) := by decide +kernel
theorem dJx4a65c_fastRemove_b59b0_17 : decode cJx4a65c_fastRemove_b59b0 17 = .ok (.istore_n 3, 1) := by decide +kernel
theorem dJx4a65c_fastRemove_b59b0_18 : decode cJx4a65c_fastRemove_b59b0 18 = .ok (.iload_n 2, 1) := by decide +kernel
theorem dJx4a65c_fastRemove_b59b0_19 : decode cJx4a65c_fastRemove_b59b0 19 = .ok (.if_icmp .le 15, 3) := by decide +kernel
theorem dJx4a65c_fastRemove_b59b0_22 : decode cJx4a65c_fastRemove_b59b0 22 = .ok (.aload_n 1, 1) := by decide +kernel
theorem dJx4a65c_fastRemove_b59b0_23 : decode cJx4a65c_fastRemove_b59b0 23 = .ok (.iload_n 2, 1) := by decide +kernel
theorem dJx4a65c_fastRemove_b59b0_24 : decode cJx4a65c_fastRemove_b59b0 24 = .ok (.iconst 1, 1) := by decide +kernel
theorem dJx4a65c_fastRemove_b59b0_25 : decode cJx4a65c_fastRemove_b59b0 25 = .ok (.iadd, 1) := by decide +kernel
theorem dJx4a65c_fastRemove_b59b0_26 : decode cJx4a65c_fastRemove_b59b0 26 = .ok (.aload_n 1, 1) := by decide +kernel
theorem dJx4a65c_fastRemove_b59b0_27 : decode cJx4a65c_fastRemove_b59b0 27 = .ok (.iload_n 2, 1) := by decide +kernel
theorem dJx4a65c_fastRemove_b59b0_28 : decode cJx4a65c_fastRemove_b59b0 28 = .ok (.iload_n 3, 1) := by decide +kernel
theorem dJx4a65c_fastRemove_b59b0_29 : decode cJx4a65c_fastRemove_b59b0 29 = .ok (.iload_n 2, 1) := by decide +kernel
theorem dJx4a65c_fastRemove_b59b0_30 : decode cJx4a65c_fastRemove_b59b0 30 = .ok (.isub, 1) := by decide +kernel
theorem dJx4a65c_fastRemove_b59b0_31 : decode cJx4a65c_fastRemove_b59b0 31 = .ok (.invokestatic 112, 3) := by decide +kernel
theorem dJx4a65c_fastRemove_b59b0_34 : decode cJx4a65c_fastRemove_b59b0 34 = .ok (.aload_n 1, 1) := by decide +kernel
theorem dJx4a65c_fastRemove_b59b0_35 : decode cJx4a65c_fastRemove_b59b0 35 = .ok (.aload_n 0, 1) := by decide +kernel
theorem dJx4a65c_fastRemove_b59b0_36 : decode cJx4a65c_fastRemove_b59b0 36 = .ok (.iload_n 3, 1) := by decide +kernel
theorem dJx4a65c_fastRemove_b59b0_37 : decode cJx4a65c_fastRemove_b59b0 37 = .ok (.dup_x1, 1) := by decide +kernel
theorem dJx4a65c_fastRemove_b59b0_38 : decode cJx4a65c_fastRemove_b59b0 38 = .ok (.putfield 48, 3) := by decide +kernel
theorem dJx4a65c_fastRemove_b59b0_41 : decode cJx4a65c_fastRemove_b59b0 41 = .ok (.aconst_null, 1) := by decide +kernel
theorem dJx4a65c_fastRemove_b59b0_42 : decode cJx4a65c_fastRemove_b59b0 42 = .ok (.aastore, 1) := by decide +kernel
theorem dJx4a65c_fastRemove_b59b0_43 : decode cJx4a65c_fastRemove_b59b0 43 = .ok (.return_, 1) := by decide +kernel
theorem dJx4a65c_clear_da8c8_0 : decode cJx4a65c_clear_da8c8 0 = .ok (.aload_n 0, 1) := by decide +kernel
theorem dJx4a65c_clear_da8c8_1 : decode cJx4a65c_clear_da8c8 1 = .ok (.dup, 1) := by decide +kernel
theorem dJx4a65c_clear_da8c8_2 : decode cJx4a65c_clear_da8c8 2 = .ok (.getfield 63, 3) := by decide +kernel
theorem dJx4a65c_clear_da8c8_5 : decode cJx4a65c_clear_da8c8 5 = .ok (.iconst 1, 1) := by decide +kernel
theorem dJx4a65c_clear_da8c8_6 : decode cJx4a65c_clear_da8c8 6 = .ok (.iadd, 1) := by decide +kernel
theorem dJx4a65c_clear_da8c8_7 : decode cJx4a65c_clear_da8c8 7 = .ok (.putfield 63, 3) := by decide +kernel
theorem dJx4a65c_clear_da8c8_10 : decode cJx4a65c_clear_da8c8 10 = .ok (.aload_n 0, 1) := by decide +kernel
theorem dJx4a65c_clear_da8c8_11 : decode cJx4a65c_clear_da8c8 11 = .ok (.getfield 9, 3) := by decide +kernel
theorem dJx4a65c_clear_da8c8_14 : decode cJx4a65c_clear_da8c8 14 = .ok (.astore_n 1, 1) := by decide +kernel
theorem dJx4a65c_clear_da8c8_15 : decode cJx4a65c_clear_da8c8 15 = .ok (.aload_n 0, 1) := by decide +kernel
theorem dJx4a65c_clear_da8c8_16 : decode cJx4a65c_clear_da8c8 16 = .ok (.getfield 48, 3) := by decide +kernel
theorem dJx4a65c_clear_da8c8_19 : decode cJx4a65c_clear_da8c8 19 = .ok (.istore_n 2, 1) := by decide +kernel
theorem dJx4a65c_clear_da8c8_20 : decode cJx4a65c_clear_da8c8 20 = .ok (.aload_n 0, 1) := by decide +kernel
theorem dJx4a65c_clear_da8c8_21 : decode cJx4a65c_clear_da8c8 21 = .ok (.iconst 0, 1) := by decide +kernel
theorem dJx4a65c_clear_da8c8_22 : decode cJx4a65c_clear_da8c8 22 = .ok (.dup_x1, 1) := by decide +kernel
theorem dJx4a65c_clear_da8c8_23 : decode cJx4a65c_clear_da8c8 23 = .ok (.putfield 48, 3) := by decide +kernel
theorem dJx4a65c_clear_da8c8_26 : decode cJx4a65c_clear_da8c8 26 = .ok (.istore_n 3, 1) := by decide +kernel
theorem dJx4a65c_clear_da8c8_27 : decode cJx4a65c_clear_da8c8 27 = .ok (.iload_n 3, 1) := by decide +kernel
theorem dJx4a65c_clear_da8c8_28 : decode cJx4a65c_clear_da8c8 28 = .ok (.iload_n 2, 1) := by decide +kernel
theorem dJx4a65c_clear_da8c8_29 : decode cJx4a65c_clear_da8c8 29 = .ok (.if_icmp .ge 13, 3) := by decide +kernel
theorem dJx4a65c_clear_da8c8_32 : decode cJx4a65c_clear_da8c8 32 = .ok (.aload_n 1, 1) := by decide +kernel
theorem dJx4a65c_clear_da8c8_33 : decode cJx4a65c_clear_da8c8 33 = .ok (.iload_n 3, 1) := by decide +kernel
theorem dJx4a65c_clear_da8c8_34 : decode cJx4a65c_clear_da8c8 34 = .ok (.aconst_null, 1) := by decide +kernel
theorem dJx4a65c_clear_da8c8_35 : decode cJx4a65c_clear_da8c8 35 = .ok (.aastore, 1) := by decide +kernel
theorem dJx4a65c_clear_da8c8_36 : decode cJx4a65c_clear_da8c8 36 = .ok (.iinc 3 1, 3) := by decide +kernel
theorem dJx4a65c_clear_da8c8_39 : decode cJx4a65c_clear_da8c8 39 = .ok (.goto (-12), 3) := by decide +kernel
theorem dJx4a65c_clear_da8c8_42 : decode cJx4a65c_clear_da8c8 42 = .ok (.return_, 1) := by decide +kernel
theorem dJ7_copyOf_1904c_0 : decode cJ7_copyOf_1904c 0 = .ok (.aload_n 0, 1) := by decide +kernel
theorem dJ7_copyOf_1904c_1 : decode cJ7_copyOf_1904c 1 = .ok (.iload_n 1, 1) := by decide +kernel
theorem dJ7_copyOf_1904c_2 : decode cJ7_copyOf_1904c 2 = .ok (.aload_n 0, 1) := by decide +kernel
theorem dJ7_copyOf_1904c_3 : decode cJ7_copyOf_1904c 3 = .ok (.invokevirtual 86, 3) := by decide +kernel
theorem dJ7_copyOf_1904c_6 : decode cJ7_copyOf_1904c 6 = .ok (.invokestatic 300, 3) := by decide +kernel
theorem dJ7_copyOf_1904c_9 : decode cJ7_copyOf_1904c 9 = .ok (.areturn, 1) := by decide +kernel
theorem dJ7_copyOf_6403c_0 : decode cJ7_copyOf_6403c 0 = .ok (.aload_n 2, 1) := by decide +kernel
theorem dJ7_copyOf_6403c_1 : decode cJ7_copyOf_6403c 1 = .ok (.ldc 110, 2) := by decide +kernel
theorem dJ7_copyOf_6403c_3 : decode cJ7_copyOf_6403c 3 = .ok (.if_acmp .ne 10, 3) := by decide +kernel
theorem dJ7_copyOf_6403c_6 : decode cJ7_copyOf_6403c 6 = .ok (.iload_n 1, 1) := by decide +kernel
theorem dJ7_copyOf_6403c_7 : decode cJ7_copyOf_6403c 7 = .ok (.anewarray 2, 3) := by decide +kernel
theorem dJ7_copyOf_6403c_10 : decode cJ7_copyOf_6403c 10 = .ok (.goto 14, 3) := by decide +kernel
theorem dJ7_copyOf_6403c_13 : decode cJ7_copyOf_6403c 13 = .ok (.aload_n 2, 1) := by decide +kernel
theorem dJ7_copyOf_6403c_14 : decode cJ7_copyOf_6403c 14 = .ok (.invokevirtual 90, 3) := by decide +kernel
theorem dJ7_copyOf_6403c_17 : decode cJ7_copyOf_6403c 17 = .ok (.iload_n 1, 1) := by decide +kernel
theorem dJ7_copyOf_6403c_18 : decode cJ7_copyOf_6403c 18 = .ok (.invokestatic 95, 3) := by decide +kernel
theorem dJ7_copyOf_6403c_21 : decode cJ7_copyOf_6403c 21 = .ok (.checkcast 110, 3) := by decide +kernel
theorem dJ7_copyOf_6403c_24 : decode cJ7_copyOf_6403c 24 = .ok (.astore_n 3, 1) := by decide +kernel
theorem dJ7_copyOf_6403c_25 : decode cJ7_copyOf_6403c 25 = .ok (.aload_n 0, 1) := by decide +kernel
theorem dJ7_copyOf_6403c_26 : decode cJ7_copyOf_6403c 26 = .ok (.iconst 0, 1) := by decide +kernel
theorem dJ7_copyOf_6403c_27 : decode cJ7_copyOf_6403c 27 = .ok (.aload_n 3, 1) := by decide +kernel
theorem dJ7_copyOf_6403c_28 : decode cJ7_copyOf_6403c 28 = .ok (.iconst 0, 1) := by decide +kernel
theorem dJ7_copyOf_6403c_29 : decode cJ7_copyOf_6403c 29 = .ok (.aload_n 0, 1) := by decide +kernel
theorem dJ7_copyOf_6403c_30 : decode cJ7_copyOf_6403c 30 = .ok (.arraylength, 1) := by decide +kernel
theorem dJ7_copyOf_6403c_31 : decode cJ7_copyOf_6403c 31 = .ok (.iload_n 1, 1) := by decide +kernel
theorem dJ7_copyOf_6403c_32 : decode cJ7_copyOf_6403c 32 = .ok (.invokestatic 304, 3) := by decide +kernel
theorem dJ7_copyOf_6403c_35 : decode cJ7_copyOf_6403c 35 = .ok (.invokestatic 150, 3) := by decide +kernel
theorem dJ7_copyOf_6403c_38 : decode cJ7_copyOf_6403c 38 = .ok (.aload_n 3, 1) := by decide +kernel
theorem dJ7_copyOf_6403c_39 : decode cJ7_copyOf_6403c 39 = .ok (.areturn, 1) := by decide +kernel
theorem dJ15_checkIndex_7cf53_0 : decode cJ15_checkIndex_7cf53 0 = .ok (.iload_n 0, 1) := by decide +kernel
theorem dJ15_checkIndex_7cf53_1 : decode cJ15_checkIndex_7cf53 1 = .ok (.iload_n 1, 1) := by decide +kernel
theorem dJ15_checkIndex_7cf53_2 : decode cJ15_checkIndex_7cf53 2 = .ok (.aconst_null, 1) := by decide +kernel
theorem dJ15_checkIndex_7cf53_3 : decode cJ15_checkIndex_7cf53 3 = .ok (.invokestatic 105, 3) := by decide +kernel
theorem dJ15_checkIndex_7cf53_6 : decode cJ15_checkIndex_7cf53 6 = .ok (.ireturn, 1) := by decide +kernel
theorem dJ8_newLength_cabcc_0 : decode cJ8_newLength_cabcc 0 = .ok (.iload_n 0, 1) := by decide +kernel
theorem dJ8_newLength_cabcc_1 : decode cJ8_newLength_cabcc 1 = .ok (.iload_n 1, 1) := by decide +kernel
theorem dJ8_newLength_cabcc_2 : decode cJ8_newLength_cabcc 2 = .ok (.iload_n 2, 1) := by decide +kernel
theorem dJ8_newLength_cabcc_3 : decode cJ8_newLength_cabcc 3 = .ok (.invokestatic 194, 3) := by decide +kernel
theorem dJ8_newLength_cabcc_6 : decode cJ8_newLength_cabcc 6 = .ok (.iadd, 1) := by decide +kernel
theorem dJ8_newLength_cabcc_7 : decode cJ8_newLength_cabcc 7 = .ok (.istore_n 3, 1) := by decide +kernel
theorem dJ8_newLength_cabcc_8 : decode cJ8_newLength_cabcc 8 = .ok (.iconst 0, 1) := by decide +kernel
theorem dJ8_newLength_cabcc_9 : decode cJ8_newLength_cabcc 9 = .ok (.iload_n 3, 1) := by decide +kernel
theorem dJ8_newLength_cabcc_10 : decode cJ8_newLength_cabcc 10 = .ok (.if_icmp .ge 11, 3) := by decide +kernel
theorem dJ8_newLength_cabcc_13 : decode cJ8_newLength_cabcc 13 = .ok (.iload_n 3, 1) := by decide +kernel
theorem dJ8_newLength_cabcc_14 : decode cJ8_newLength_cabcc 14 = .ok (.ldc 200, 2) := by decide +kernel
theorem dJ8_newLength_cabcc_16 : decode cJ8_newLength_cabcc 16 = .ok (.if_icmp .gt 5, 3) := by decide +kernel
theorem dJ8_newLength_cabcc_19 : decode cJ8_newLength_cabcc 19 = .ok (.iload_n 3, 1) := by decide +kernel
theorem dJ8_newLength_cabcc_20 : decode cJ8_newLength_cabcc 20 = .ok (.ireturn, 1) := by decide +kernel
theorem dJ8_newLength_cabcc_21 : decode cJ8_newLength_cabcc 21 = .ok (.iload_n 0, 1) := by decide +kernel
theorem dJ8_newLength_cabcc_22 : decode cJ8_newLength_cabcc 22 = .ok (.iload_n 1, 1) := by decide +kernel
theorem dJ8_newLength_cabcc_23 : decode cJ8_newLength_cabcc 23 = .ok (.invokestatic 201, 3) := by decide +kernel
theorem dJ8_newLength_cabcc_26 : decode cJ8_newLength_cabcc 26 = .ok (.ireturn, 1) := by decide +kernel
theorem dJ8_hugeLength_7cf53_0 : decode cJ8_hugeLength_7cf53 0 = .ok (.iload_n 0, 1) := by decide +kernel
theorem dJ8_hugeLength_7cf53_1 : decode cJ8_hugeLength_7cf53 1 = .ok (.iload_n 1, 1) := by decide +kernel
theorem dJ8_hugeLength_7cf53_2 : decode cJ8_hugeLength_7cf53 2 = .ok (.iadd, 1) := by decide +kernel
theorem dJ8_hugeLength_7cf53_3 : decode cJ8_hugeLength_7cf53 3 = .ok (.istore_n 2, 1) := by decide +kernel
theorem dJ8_hugeLength_7cf53_4 : decode cJ8_hugeLength_7cf53 4 = .ok (.iload_n 2, 1) := by decide +kernel
theorem dJ8_hugeLength_7cf53_5 : decode cJ8_hugeLength_7cf53 5 = .ok (.ifCond .ge 44, 3) := by decide +kernel
theorem dJ8_hugeLength_7cf53_8 : decode cJ8_hugeLength_7cf53 8 = .ok (.new 204, 3) := by decide +kernel
theorem dJ8_hugeLength_7cf53_11 : decode cJ8_hugeLength_7cf53 11 = .ok (.dup, 1) := by decide +kernel
theorem dJ8_hugeLength_7cf53_12 : decode cJ8_hugeLength_7cf53 12 = .ok (.new 89, 3) := by decide +kernel
theorem dJ8_hugeLength_7cf53_15 : decode cJ8_hugeLength_7cf53 15 = .ok (.dup, 1) := by decide +kernel
theorem dJ8_hugeLength_7cf53_16 : decode cJ8_hugeLength_7cf53 16 = .ok (.invokespecial 91, 3) := by decide +kernel
theorem dJ8_hugeLength_7cf53_19 : decode cJ8_hugeLength_7cf53 19 = .ok (.ldc 206, 2) := by decide +kernel
theorem dJ8_hugeLength_7cf53_21 : decode cJ8_hugeLength_7cf53 21 = .ok (.invokevirtual 94, 3) := by decide +kernel
theorem dJ8_hugeLength_7cf53_24 : decode cJ8_hugeLength_7cf53 24 = .ok (.iload_n 0, 1) := by decide +kernel
theorem dJ8_hugeLength_7cf53_25 : decode cJ8_hugeLength_7cf53 25 = .ok (.invokevirtual 98, 3) := by decide +kernel
theorem dJ8_hugeLength_7cf53_28 : decode cJ8_hugeLength_7cf53 28 = .ok (.ldc 208, 2) := by decide +kernel
theorem dJ8_hugeLength_7cf53_30 : decode cJ8_hugeLength_7cf53 30 = .ok (.invokevirtual 94, 3) := by decide +kernel
theorem dJ8_hugeLength_7cf53_33 : decode cJ8_hugeLength_7cf53 33 = .ok (.iload_n 1, 1) := by decide +kernel
theorem dJ8_hugeLength_7cf53_34 : decode cJ8_hugeLength_7cf53 34 = .ok (.invokevirtual 98, 3) := by decide +kernel
theorem dJ8_hugeLength_7cf53_37 : decode cJ8_hugeLength_7cf53 37 = .ok (.ldc 210, 2) := by decide +kernel
theorem dJ8_hugeLength_7cf53_39 : decode cJ8_hugeLength_7cf53 39 = .ok (.invokevirtual 94, 3) := by decide +kernel
theorem dJ8_hugeLength_7cf53_42 : decode cJ8_hugeLength_7cf53 42 = .ok (.invokevirtual 101, 3) := by decide +kernel
theorem dJ8_hugeLength_7cf53_45 : decode cJ8_hugeLength_7cf53 45 = .ok (.invokespecial 212, 3) := by decide +kernel
theorem dJ8_hugeLength_7cf53_48 : decode cJ8_hugeLength_7cf53 48 = .ok (.athrow, 1) := by decide +kernel
theorem dJ8_hugeLength_7cf53_49 : decode cJ8_hugeLength_7cf53 49 = .ok (.iload_n 2, 1) := by decide +kernel
theorem dJ8_hugeLength_7cf53_50 : decode cJ8_hugeLength_7cf53 50 = .ok (.ldc 200, 2) := by decide +kernel
theorem dJ8_hugeLength_7cf53_52 : decode cJ8_hugeLength_7cf53 52 = .ok (.if_icmp .gt 6, 3) := by decide +kernel
theorem dJ8_hugeLength_7cf53_55 : decode cJ8_hugeLength_7cf53 55 = .ok (.ldc 200, 2) := by decide +kernel
theorem dJ8_hugeLength_7cf53_57 : decode cJ8_hugeLength_7cf53 57 = .ok (.ireturn, 1) := by decide +kernel
theorem dJ8_hugeLength_7cf53_58 : decode cJ8_hugeLength_7cf53 58 = .ok (.iload_n 2, 1) := by decide +kernel
theorem dJ8_hugeLength_7cf53_59 : decode cJ8_hugeLength_7cf53 59 = .ok (.ireturn, 1) := by decide +kernel
theorem dJ3_checkIndex_8e157_0 : decode cJ3_checkIndex_8e157 0 = .ok (.iload_n 0, 1) := by decide +kernel
theorem dJ3_checkIndex_8e157_1 : decode cJ3_checkIndex_8e157 1 = .ok (.ifCond .lt 8, 3) := by decide +kernel
theorem dJ3_checkIndex_8e157_4 : decode cJ3_checkIndex_8e157 4 = .ok (.iload_n 0, 1) := by decide +kernel
theorem dJ3_checkIndex_8e157_5 : decode cJ3_checkIndex_8e157 5 = .ok (.iload_n 1, 1) := by decide +kernel
theorem dJ3_checkIndex_8e157_6 : decode cJ3_checkIndex_8e157 6 = .ok (.if_icmp .lt 10, 3) := by decide +kernel
theorem dJ3_checkIndex_8e157_9 : decode cJ3_checkIndex_8e157 9 = .ok (.aload_n 2, 1) := by decide +kernel
theorem dJ3_checkIndex_8e157_10 : decode cJ3_checkIndex_8e157 10 = .ok (.iload_n 0, 1) := by decide +kernel
theorem dJ3_checkIndex_8e157_11 : decode cJ3_checkIndex_8e157 11 = .ok (.iload_n 1, 1) := by decide +kernel
theorem dJ3_checkIndex_8e157_12 : decode cJ3_checkIndex_8e157 12 = .ok (.invokestatic 95, 3) := by decide +kernel
theorem dJ3_checkIndex_8e157_15 : decode cJ3_checkIndex_8e157 15 = .ok (.athrow, 1) := by decide +kernel
theorem dJ3_checkIndex_8e157_16 : decode cJ3_checkIndex_8e157 16 = .ok (.iload_n 0, 1) := by decide +kernel
theorem dJ3_checkIndex_8e157_17 : decode cJ3_checkIndex_8e157 17 = .ok (.ireturn, 1) := by decide +kernel
theorem dL_setDice_0 : decode cL_setDice 0 = .ok (.aload 4, 2) := by decide +kernel
theorem dL_setDice_2 : decode cL_setDice 2 = .ok (.iconst 0, 1) := by decide +kernel
theorem dL_setDice_3 : decode cL_setDice 3 = .ok (.aload_n 0, 1) := by decide +kernel
theorem dL_setDice_4 : decode cL_setDice 4 = .ok (.iload_n 1, 1) := by decide +kernel
theorem dL_setDice_5 : decode cL_setDice 5 = .ok (.iload_n 2, 1) := by decide +kernel
theorem dL_setDice_6 : decode cL_setDice 6 = .ok (.iload_n 3, 1) := by decide +kernel
theorem dL_setDice_7 : decode cL_setDice 7 = .ok (.invokevirtual 7, 3) := by decide +kernel
theorem dL_setDice_10 : decode cL_setDice 10 = .ok (.i2l, 1) := by decide +kernel
theorem dL_setDice_11 : decode cL_setDice 11 = .ok (.lastore, 1) := by decide +kernel
theorem dL_setDice_12 : decode cL_setDice 12 = .ok (.goto 11, 3) := by decide +kernel
theorem dL_setDice_15 : decode cL_setDice 15 = .ok (.astore 5, 2) := by decide +kernel
theorem dL_setDice_17 : decode cL_setDice 17 = .ok (.iconst 1, 1) := by decide +kernel
theorem dL_setDice_18 : decode cL_setDice 18 = .ok (.ireturn, 1) := by decide +kernel
theorem dL_setDice_19 : decode cL_setDice 19 = .ok (.astore 5, 2) := by decide +kernel
theorem dL_setDice_21 : decode cL_setDice 21 = .ok (.iconst 2, 1) := by decide +kernel
theorem dL_setDice_22 : decode cL_setDice 22 = .ok (.ireturn, 1) := by decide +kernel
theorem dL_setDice_23 : decode cL_setDice 23 = .ok (.iconst 0, 1) := by decide +kernel
theorem dL_setDice_24 : decode cL_setDice 24 = .ok (.ireturn, 1) := by decide +kernel
theorem dL_sumOf_0 : decode cL_sumOf 0 = .ok (.aload_n 2, 1) := by decide +kernel
theorem dL_sumOf_1 : decode cL_sumOf 1 = .ok (.iconst 0, 1) := by decide +kernel
theorem dL_sumOf_2 : decode cL_sumOf 2 = .ok (.aload_n 0, 1) := by decide +kernel
theorem dL_sumOf_3 : decode cL_sumOf 3 = .ok (.iload_n 1, 1) := by decide +kernel
theorem dL_sumOf_4 : decode cL_sumOf 4 = .ok (.invokevirtual 17, 3) := by decide +kernel
theorem dL_sumOf_7 : decode cL_sumOf 7 = .ok (.i2l, 1) := by decide +kernel
theorem dL_sumOf_8 : decode cL_sumOf 8 = .ok (.lastore, 1) := by decide +kernel
theorem dL_sumOf_9 : decode cL_sumOf 9 = .ok (.goto 6, 3) := by decide +kernel
theorem dL_sumOf_12 : decode cL_sumOf 12 = .ok (.astore_n 3, 1) := by decide +kernel
theorem dL_sumOf_13 : decode cL_sumOf 13 = .ok (.iconst 1, 1) := by decide +kernel
theorem dL_sumOf_14 : decode cL_sumOf 14 = .ok (.ireturn, 1) := by decide +kernel
theorem dL_sumOf_15 : decode cL_sumOf 15 = .ok (.iconst 0, 1) := by decide +kernel
theorem dL_sumOf_16 : decode cL_sumOf 16 = .ok (.ireturn, 1) := by decide +kernel
theorem dL_ways_0 : decode cL_ways 0 = .ok (.aload_n 3, 1) := by decide +kernel
theorem dL_ways_1 : decode cL_ways 1 = .ok (.iconst 0, 1) := by decide +kernel
theorem dL_ways_2 : decode cL_ways 2 = .ok (.aload_n 0, 1) := by decide +kernel
theorem dL_ways_3 : decode cL_ways 3 = .ok (.iload_n 1, 1) := by decide +kernel
theorem dL_ways_4 : decode cL_ways 4 = .ok (.iload_n 2, 1) := by decide +kernel
theorem dL_ways_5 : decode cL_ways 5 = .ok (.invokevirtual 23, 3) := by decide +kernel
theorem dL_ways_8 : decode cL_ways 8 = .ok (.i2l, 1) := by decide +kernel
theorem dL_ways_9 : decode cL_ways 9 = .ok (.lastore, 1) := by decide +kernel
theorem dL_ways_10 : decode cL_ways 10 = .ok (.goto 7, 3) := by decide +kernel
theorem dL_ways_13 : decode cL_ways 13 = .ok (.astore 4, 2) := by decide +kernel
theorem dL_ways_15 : decode cL_ways 15 = .ok (.iconst 1, 1) := by decide +kernel
theorem dL_ways_16 : decode cL_ways 16 = .ok (.ireturn, 1) := by decide +kernel
theorem dL_ways_17 : decode cL_ways 17 = .ok (.iconst 0, 1) := by decide +kernel
theorem dL_ways_18 : decode cL_ways 18 = .ok (.ireturn, 1) := by decide +kernel
theorem dL_chance_0 : decode cL_chance 0 = .ok (.aload_n 3, 1) := by decide +kernel
theorem dL_chance_1 : decode cL_chance 1 = .ok (.iconst 0, 1) := by decide +kernel
theorem dL_chance_2 : decode cL_chance 2 = .ok (.aload_n 0, 1) := by decide +kernel
theorem dL_chance_3 : decode cL_chance 3 = .ok (.iload_n 1, 1) := by decide +kernel
theorem dL_chance_4 : decode cL_chance 4 = .ok (.iload_n 2, 1) := by decide +kernel
theorem dL_chance_5 : decode cL_chance 5 = .ok (.invokevirtual 27, 3) := by decide +kernel
theorem dL_chance_8 : decode cL_chance 8 = .ok (.dastore, 1) := by decide +kernel
theorem dL_chance_9 : decode cL_chance 9 = .ok (.goto 7, 3) := by decide +kernel
theorem dL_chance_12 : decode cL_chance 12 = .ok (.astore 4, 2) := by decide +kernel
theorem dL_chance_14 : decode cL_chance 14 = .ok (.iconst 1, 1) := by decide +kernel
theorem dL_chance_15 : decode cL_chance 15 = .ok (.ireturn, 1) := by decide +kernel
theorem dL_chance_16 : decode cL_chance 16 = .ok (.iconst 0, 1) := by decide +kernel
theorem dL_chance_17 : decode cL_chance 17 = .ok (.ireturn, 1) := by decide +kernel
theorem dL_lay_0 : decode cL_lay 0 = .ok (.aload 7, 2) := by decide +kernel
theorem dL_lay_2 : decode cL_lay 2 = .ok (.iconst 0, 1) := by decide +kernel
theorem dL_lay_3 : decode cL_lay 3 = .ok (.aload_n 0, 1) := by decide +kernel
theorem dL_lay_4 : decode cL_lay 4 = .ok (.iload_n 1, 1) := by decide +kernel
theorem dL_lay_5 : decode cL_lay 5 = .ok (.iload_n 2, 1) := by decide +kernel
theorem dL_lay_6 : decode cL_lay 6 = .ok (.iload_n 3, 1) := by decide +kernel
theorem dL_lay_7 : decode cL_lay 7 = .ok (.iload 4, 2) := by decide +kernel
theorem dL_lay_9 : decode cL_lay 9 = .ok (.iload 5, 2) := by decide +kernel
theorem dL_lay_11 : decode cL_lay 11 = .ok (.iload 6, 2) := by decide +kernel
theorem dL_lay_13 : decode cL_lay 13 = .ok (.invokevirtual 31, 3) := by decide +kernel
theorem dL_lay_16 : decode cL_lay 16 = .ok (.i2l, 1) := by decide +kernel
theorem dL_lay_17 : decode cL_lay 17 = .ok (.lastore, 1) := by decide +kernel
theorem dL_lay_18 : decode cL_lay 18 = .ok (.goto 15, 3) := by decide +kernel
theorem dL_lay_21 : decode cL_lay 21 = .ok (.astore 8, 2) := by decide +kernel
theorem dL_lay_23 : decode cL_lay 23 = .ok (.iconst 1, 1) := by decide +kernel
theorem dL_lay_24 : decode cL_lay 24 = .ok (.ireturn, 1) := by decide +kernel
theorem dL_lay_25 : decode cL_lay 25 = .ok (.astore 8, 2) := by decide +kernel
theorem dL_lay_27 : decode cL_lay 27 = .ok (.iconst 2, 1) := by decide +kernel
theorem dL_lay_28 : decode cL_lay 28 = .ok (.ireturn, 1) := by decide +kernel
theorem dL_lay_29 : decode cL_lay 29 = .ok (.astore 8, 2) := by decide +kernel
theorem dL_lay_31 : decode cL_lay 31 = .ok (.iconst 3, 1) := by decide +kernel
theorem dL_lay_32 : decode cL_lay 32 = .ok (.ireturn, 1) := by decide +kernel
theorem dL_lay_33 : decode cL_lay 33 = .ok (.iconst 0, 1) := by decide +kernel
theorem dL_lay_34 : decode cL_lay 34 = .ok (.ireturn, 1) := by decide +kernel
theorem dL_takeBack_0 : decode cL_takeBack 0 = .ok (.aload_n 2, 1) := by decide +kernel
end
section
theorem dL_takeBack_1 : decode cL_takeBack 1 = .ok (.iconst 0, 1) := by decide +kernel
theorem dL_takeBack_2 : decode cL_takeBack 2 = .ok (.aload_n 0, 1) := by decide +kernel
theorem dL_takeBack_3 : decode cL_takeBack 3 = .ok (.iload_n 1, 1) := by decide +kernel
theorem dL_takeBack_4 : decode cL_takeBack 4 = .ok (.invokevirtual 35, 3) := by decide +kernel
theorem dL_takeBack_7 : decode cL_takeBack 7 = .ok (.i2l, 1) := by decide +kernel
theorem dL_takeBack_8 : decode cL_takeBack 8 = .ok (.lastore, 1) := by decide +kernel
theorem dL_takeBack_9 : decode cL_takeBack 9 = .ok (.goto 6, 3) := by decide +kernel
theorem dL_takeBack_12 : decode cL_takeBack 12 = .ok (.astore_n 3, 1) := by decide +kernel
theorem dL_takeBack_13 : decode cL_takeBack 13 = .ok (.iconst 1, 1) := by decide +kernel
theorem dL_takeBack_14 : decode cL_takeBack 14 = .ok (.ireturn, 1) := by decide +kernel
theorem dL_takeBack_15 : decode cL_takeBack 15 = .ok (.iconst 0, 1) := by decide +kernel
theorem dL_takeBack_16 : decode cL_takeBack 16 = .ok (.ireturn, 1) := by decide +kernel
theorem dL_settle_0 : decode cL_settle 0 = .ok (.aload_n 2, 1) := by decide +kernel
theorem dL_settle_1 : decode cL_settle 1 = .ok (.iconst 0, 1) := by decide +kernel
theorem dL_settle_2 : decode cL_settle 2 = .ok (.aload_n 0, 1) := by decide +kernel
theorem dL_settle_3 : decode cL_settle 3 = .ok (.iload_n 1, 1) := by decide +kernel
theorem dL_settle_4 : decode cL_settle 4 = .ok (.invokevirtual 38, 3) := by decide +kernel
theorem dL_settle_7 : decode cL_settle 7 = .ok (.i2l, 1) := by decide +kernel
theorem dL_settle_8 : decode cL_settle 8 = .ok (.lastore, 1) := by decide +kernel
theorem dL_settle_9 : decode cL_settle 9 = .ok (.goto 6, 3) := by decide +kernel
theorem dL_settle_12 : decode cL_settle 12 = .ok (.astore_n 3, 1) := by decide +kernel
theorem dL_settle_13 : decode cL_settle 13 = .ok (.iconst 1, 1) := by decide +kernel
theorem dL_settle_14 : decode cL_settle 14 = .ok (.ireturn, 1) := by decide +kernel
theorem dL_settle_15 : decode cL_settle 15 = .ok (.iconst 0, 1) := by decide +kernel
theorem dL_settle_16 : decode cL_settle 16 = .ok (.ireturn, 1) := by decide +kernel
theorem dL_purseOf_0 : decode cL_purseOf 0 = .ok (.aload_n 2, 1) := by decide +kernel
theorem dL_purseOf_1 : decode cL_purseOf 1 = .ok (.iconst 0, 1) := by decide +kernel
theorem dL_purseOf_2 : decode cL_purseOf 2 = .ok (.aload_n 0, 1) := by decide +kernel
theorem dL_purseOf_3 : decode cL_purseOf 3 = .ok (.iload_n 1, 1) := by decide +kernel
theorem dL_purseOf_4 : decode cL_purseOf 4 = .ok (.invokevirtual 41, 3) := by decide +kernel
theorem dL_purseOf_7 : decode cL_purseOf 7 = .ok (.i2l, 1) := by decide +kernel
theorem dL_purseOf_8 : decode cL_purseOf 8 = .ok (.lastore, 1) := by decide +kernel
theorem dL_purseOf_9 : decode cL_purseOf 9 = .ok (.goto 6, 3) := by decide +kernel
theorem dL_purseOf_12 : decode cL_purseOf 12 = .ok (.astore_n 3, 1) := by decide +kernel
theorem dL_purseOf_13 : decode cL_purseOf 13 = .ok (.iconst 1, 1) := by decide +kernel
theorem dL_purseOf_14 : decode cL_purseOf 14 = .ok (.ireturn, 1) := by decide +kernel
theorem dL_purseOf_15 : decode cL_purseOf 15 = .ok (.iconst 0, 1) := by decide +kernel
theorem dL_purseOf_16 : decode cL_purseOf 16 = .ok (.ireturn, 1) := by decide +kernel
theorem dL_patronOf_0 : decode cL_patronOf 0 = .ok (.aload_n 2, 1) := by decide +kernel
theorem dL_patronOf_1 : decode cL_patronOf 1 = .ok (.iconst 0, 1) := by decide +kernel
theorem dL_patronOf_2 : decode cL_patronOf 2 = .ok (.aload_n 0, 1) := by decide +kernel
theorem dL_patronOf_3 : decode cL_patronOf 3 = .ok (.iload_n 1, 1) := by decide +kernel
theorem dL_patronOf_4 : decode cL_patronOf 4 = .ok (.invokevirtual 44, 3) := by decide +kernel
theorem dL_patronOf_7 : decode cL_patronOf 7 = .ok (.i2l, 1) := by decide +kernel
theorem dL_patronOf_8 : decode cL_patronOf 8 = .ok (.lastore, 1) := by decide +kernel
theorem dL_patronOf_9 : decode cL_patronOf 9 = .ok (.goto 6, 3) := by decide +kernel
theorem dL_patronOf_12 : decode cL_patronOf 12 = .ok (.astore_n 3, 1) := by decide +kernel
theorem dL_patronOf_13 : decode cL_patronOf 13 = .ok (.iconst 1, 1) := by decide +kernel
theorem dL_patronOf_14 : decode cL_patronOf 14 = .ok (.ireturn, 1) := by decide +kernel
theorem dL_patronOf_15 : decode cL_patronOf 15 = .ok (.iconst 0, 1) := by decide +kernel
theorem dL_patronOf_16 : decode cL_patronOf 16 = .ok (.ireturn, 1) := by decide +kernel
theorem dL_stakeOf_0 : decode cL_stakeOf 0 = .ok (.aload_n 2, 1) := by decide +kernel
theorem dL_stakeOf_1 : decode cL_stakeOf 1 = .ok (.iconst 0, 1) := by decide +kernel
theorem dL_stakeOf_2 : decode cL_stakeOf 2 = .ok (.aload_n 0, 1) := by decide +kernel
theorem dL_stakeOf_3 : decode cL_stakeOf 3 = .ok (.iload_n 1, 1) := by decide +kernel
theorem dL_stakeOf_4 : decode cL_stakeOf 4 = .ok (.invokevirtual 47, 3) := by decide +kernel
theorem dL_stakeOf_7 : decode cL_stakeOf 7 = .ok (.i2l, 1) := by decide +kernel
theorem dL_stakeOf_8 : decode cL_stakeOf 8 = .ok (.lastore, 1) := by decide +kernel
theorem dL_stakeOf_9 : decode cL_stakeOf 9 = .ok (.goto 6, 3) := by decide +kernel
theorem dL_stakeOf_12 : decode cL_stakeOf 12 = .ok (.astore_n 3, 1) := by decide +kernel
theorem dL_stakeOf_13 : decode cL_stakeOf 13 = .ok (.iconst 1, 1) := by decide +kernel
theorem dL_stakeOf_14 : decode cL_stakeOf 14 = .ok (.ireturn, 1) := by decide +kernel
theorem dL_stakeOf_15 : decode cL_stakeOf 15 = .ok (.iconst 0, 1) := by decide +kernel
theorem dL_stakeOf_16 : decode cL_stakeOf 16 = .ok (.ireturn, 1) := by decide +kernel
theorem dL_bringsOf_0 : decode cL_bringsOf 0 = .ok (.aload_n 2, 1) := by decide +kernel
theorem dL_bringsOf_1 : decode cL_bringsOf 1 = .ok (.iconst 0, 1) := by decide +kernel
theorem dL_bringsOf_2 : decode cL_bringsOf 2 = .ok (.aload_n 0, 1) := by decide +kernel
theorem dL_bringsOf_3 : decode cL_bringsOf 3 = .ok (.iload_n 1, 1) := by decide +kernel
theorem dL_bringsOf_4 : decode cL_bringsOf 4 = .ok (.invokevirtual 50, 3) := by decide +kernel
theorem dL_bringsOf_7 : decode cL_bringsOf 7 = .ok (.i2l, 1) := by decide +kernel
theorem dL_bringsOf_8 : decode cL_bringsOf 8 = .ok (.lastore, 1) := by decide +kernel
theorem dL_bringsOf_9 : decode cL_bringsOf 9 = .ok (.goto 6, 3) := by decide +kernel
theorem dL_bringsOf_12 : decode cL_bringsOf 12 = .ok (.astore_n 3, 1) := by decide +kernel
theorem dL_bringsOf_13 : decode cL_bringsOf 13 = .ok (.iconst 1, 1) := by decide +kernel
theorem dL_bringsOf_14 : decode cL_bringsOf 14 = .ok (.ireturn, 1) := by decide +kernel
theorem dL_bringsOf_15 : decode cL_bringsOf 15 = .ok (.iconst 0, 1) := by decide +kernel
theorem dL_bringsOf_16 : decode cL_bringsOf 16 = .ok (.ireturn, 1) := by decide +kernel
theorem dL_edgeTop_0 : decode cL_edgeTop 0 = .ok (.aload_n 2, 1) := by decide +kernel
theorem dL_edgeTop_1 : decode cL_edgeTop 1 = .ok (.iconst 0, 1) := by decide +kernel
theorem dL_edgeTop_2 : decode cL_edgeTop 2 = .ok (.aload_n 0, 1) := by decide +kernel
theorem dL_edgeTop_3 : decode cL_edgeTop 3 = .ok (.iload_n 1, 1) := by decide +kernel
theorem dL_edgeTop_4 : decode cL_edgeTop 4 = .ok (.invokevirtual 53, 3) := by decide +kernel
theorem dL_edgeTop_7 : decode cL_edgeTop 7 = .ok (.i2l, 1) := by decide +kernel
theorem dL_edgeTop_8 : decode cL_edgeTop 8 = .ok (.lastore, 1) := by decide +kernel
theorem dL_edgeTop_9 : decode cL_edgeTop 9 = .ok (.goto 6, 3) := by decide +kernel
theorem dL_edgeTop_12 : decode cL_edgeTop 12 = .ok (.astore_n 3, 1) := by decide +kernel
theorem dL_edgeTop_13 : decode cL_edgeTop 13 = .ok (.iconst 1, 1) := by decide +kernel
theorem dL_edgeTop_14 : decode cL_edgeTop 14 = .ok (.ireturn, 1) := by decide +kernel
theorem dL_edgeTop_15 : decode cL_edgeTop 15 = .ok (.iconst 0, 1) := by decide +kernel
theorem dL_edgeTop_16 : decode cL_edgeTop 16 = .ok (.ireturn, 1) := by decide +kernel
theorem dL_edgeBottom_0 : decode cL_edgeBottom 0 = .ok (.aload_n 2, 1) := by decide +kernel
theorem dL_edgeBottom_1 : decode cL_edgeBottom 1 = .ok (.iconst 0, 1) := by decide +kernel
theorem dL_edgeBottom_2 : decode cL_edgeBottom 2 = .ok (.aload_n 0, 1) := by decide +kernel
theorem dL_edgeBottom_3 : decode cL_edgeBottom 3 = .ok (.iload_n 1, 1) := by decide +kernel
theorem dL_edgeBottom_4 : decode cL_edgeBottom 4 = .ok (.invokevirtual 56, 3) := by decide +kernel
theorem dL_edgeBottom_7 : decode cL_edgeBottom 7 = .ok (.i2l, 1) := by decide +kernel
theorem dL_edgeBottom_8 : decode cL_edgeBottom 8 = .ok (.lastore, 1) := by decide +kernel
theorem dL_edgeBottom_9 : decode cL_edgeBottom 9 = .ok (.goto 6, 3) := by decide +kernel
theorem dL_edgeBottom_12 : decode cL_edgeBottom 12 = .ok (.astore_n 3, 1) := by decide +kernel
theorem dL_edgeBottom_13 : decode cL_edgeBottom 13 = .ok (.iconst 1, 1) := by decide +kernel
theorem dL_edgeBottom_14 : decode cL_edgeBottom 14 = .ok (.ireturn, 1) := by decide +kernel
theorem dL_edgeBottom_15 : decode cL_edgeBottom 15 = .ok (.iconst 0, 1) := by decide +kernel
theorem dL_edgeBottom_16 : decode cL_edgeBottom 16 = .ok (.ireturn, 1) := by decide +kernel
theorem dL_gainAt_0 : decode cL_gainAt 0 = .ok (.aload_n 2, 1) := by decide +kernel
theorem dL_gainAt_1 : decode cL_gainAt 1 = .ok (.iconst 0, 1) := by decide +kernel
theorem dL_gainAt_2 : decode cL_gainAt 2 = .ok (.aload_n 0, 1) := by decide +kernel
theorem dL_gainAt_3 : decode cL_gainAt 3 = .ok (.iload_n 1, 1) := by decide +kernel
theorem dL_gainAt_4 : decode cL_gainAt 4 = .ok (.invokevirtual 59, 3) := by decide +kernel
theorem dL_gainAt_7 : decode cL_gainAt 7 = .ok (.i2l, 1) := by decide +kernel
theorem dL_gainAt_8 : decode cL_gainAt 8 = .ok (.lastore, 1) := by decide +kernel
theorem dL_gainAt_9 : decode cL_gainAt 9 = .ok (.goto 6, 3) := by decide +kernel
theorem dL_gainAt_12 : decode cL_gainAt 12 = .ok (.astore_n 3, 1) := by decide +kernel
theorem dL_gainAt_13 : decode cL_gainAt 13 = .ok (.iconst 1, 1) := by decide +kernel
theorem dL_gainAt_14 : decode cL_gainAt 14 = .ok (.ireturn, 1) := by decide +kernel
theorem dL_gainAt_15 : decode cL_gainAt 15 = .ok (.iconst 0, 1) := by decide +kernel
theorem dL_gainAt_16 : decode cL_gainAt 16 = .ok (.ireturn, 1) := by decide +kernel
theorem dL_purseAt_0 : decode cL_purseAt 0 = .ok (.aload_n 3, 1) := by decide +kernel
theorem dL_purseAt_1 : decode cL_purseAt 1 = .ok (.iconst 0, 1) := by decide +kernel
theorem dL_purseAt_2 : decode cL_purseAt 2 = .ok (.aload_n 0, 1) := by decide +kernel
theorem dL_purseAt_3 : decode cL_purseAt 3 = .ok (.iload_n 1, 1) := by decide +kernel
theorem dL_purseAt_4 : decode cL_purseAt 4 = .ok (.iload_n 2, 1) := by decide +kernel
theorem dL_purseAt_5 : decode cL_purseAt 5 = .ok (.invokevirtual 62, 3) := by decide +kernel
theorem dL_purseAt_8 : decode cL_purseAt 8 = .ok (.i2l, 1) := by decide +kernel
theorem dL_purseAt_9 : decode cL_purseAt 9 = .ok (.lastore, 1) := by decide +kernel
theorem dL_purseAt_10 : decode cL_purseAt 10 = .ok (.goto 7, 3) := by decide +kernel
theorem dL_purseAt_13 : decode cL_purseAt 13 = .ok (.astore 4, 2) := by decide +kernel
theorem dL_purseAt_15 : decode cL_purseAt 15 = .ok (.iconst 1, 1) := by decide +kernel
theorem dL_purseAt_16 : decode cL_purseAt 16 = .ok (.ireturn, 1) := by decide +kernel
theorem dL_purseAt_17 : decode cL_purseAt 17 = .ok (.iconst 0, 1) := by decide +kernel
theorem dL_purseAt_18 : decode cL_purseAt 18 = .ok (.ireturn, 1) := by decide +kernel
theorem dL_leastPurse_0 : decode cL_leastPurse 0 = .ok (.aload_n 2, 1) := by decide +kernel
theorem dL_leastPurse_1 : decode cL_leastPurse 1 = .ok (.iconst 0, 1) := by decide +kernel
theorem dL_leastPurse_2 : decode cL_leastPurse 2 = .ok (.aload_n 0, 1) := by decide +kernel
theorem dL_leastPurse_3 : decode cL_leastPurse 3 = .ok (.iload_n 1, 1) := by decide +kernel
theorem dL_leastPurse_4 : decode cL_leastPurse 4 = .ok (.invokevirtual 65, 3) := by decide +kernel
theorem dL_leastPurse_7 : decode cL_leastPurse 7 = .ok (.i2l, 1) := by decide +kernel
theorem dL_leastPurse_8 : decode cL_leastPurse 8 = .ok (.lastore, 1) := by decide +kernel
theorem dL_leastPurse_9 : decode cL_leastPurse 9 = .ok (.goto 6, 3) := by decide +kernel
theorem dL_leastPurse_12 : decode cL_leastPurse 12 = .ok (.astore_n 3, 1) := by decide +kernel
theorem dL_leastPurse_13 : decode cL_leastPurse 13 = .ok (.iconst 1, 1) := by decide +kernel
theorem dL_leastPurse_14 : decode cL_leastPurse 14 = .ok (.ireturn, 1) := by decide +kernel
theorem dL_leastPurse_15 : decode cL_leastPurse 15 = .ok (.iconst 0, 1) := by decide +kernel
theorem dL_leastPurse_16 : decode cL_leastPurse 16 = .ok (.ireturn, 1) := by decide +kernel
theorem dL_isHedged_0 : decode cL_isHedged 0 = .ok (.aload_n 2, 1) := by decide +kernel
theorem dL_isHedged_1 : decode cL_isHedged 1 = .ok (.iconst 0, 1) := by decide +kernel
theorem dL_isHedged_2 : decode cL_isHedged 2 = .ok (.aload_n 0, 1) := by decide +kernel
theorem dL_isHedged_3 : decode cL_isHedged 3 = .ok (.iload_n 1, 1) := by decide +kernel
theorem dL_isHedged_4 : decode cL_isHedged 4 = .ok (.invokevirtual 68, 3) := by decide +kernel
theorem dL_isHedged_7 : decode cL_isHedged 7 = .ok (.ifCond .eq 7, 3) := by decide +kernel
theorem dL_isHedged_10 : decode cL_isHedged 10 = .ok (.lconst 1, 1) := by decide +kernel
theorem dL_isHedged_11 : decode cL_isHedged 11 = .ok (.goto 4, 3) := by decide +kernel
theorem dL_isHedged_14 : decode cL_isHedged 14 = .ok (.lconst 0, 1) := by decide +kernel
theorem dL_isHedged_15 : decode cL_isHedged 15 = .ok (.lastore, 1) := by decide +kernel
theorem dL_isHedged_16 : decode cL_isHedged 16 = .ok (.goto 6, 3) := by decide +kernel
theorem dL_isHedged_19 : decode cL_isHedged 19 = .ok (.astore_n 3, 1) := by decide +kernel
theorem dL_isHedged_20 : decode cL_isHedged 20 = .ok (.iconst 1, 1) := by decide +kernel
theorem dL_isHedged_21 : decode cL_isHedged 21 = .ok (.ireturn, 1) := by decide +kernel
theorem dL_isHedged_22 : decode cL_isHedged 22 = .ok (.iconst 0, 1) := by decide +kernel
theorem dL_isHedged_23 : decode cL_isHedged 23 = .ok (.ireturn, 1) := by decide +kernel
theorem dL_hedgeFor_0 : decode cL_hedgeFor 0 = .ok (.aload 4, 2) := by decide +kernel
theorem dL_hedgeFor_2 : decode cL_hedgeFor 2 = .ok (.iconst 0, 1) := by decide +kernel
theorem dL_hedgeFor_3 : decode cL_hedgeFor 3 = .ok (.aload_n 0, 1) := by decide +kernel
theorem dL_hedgeFor_4 : decode cL_hedgeFor 4 = .ok (.iload_n 1, 1) := by decide +kernel
theorem dL_hedgeFor_5 : decode cL_hedgeFor 5 = .ok (.iload_n 2, 1) := by decide +kernel
theorem dL_hedgeFor_6 : decode cL_hedgeFor 6 = .ok (.iload_n 3, 1) := by decide +kernel
theorem dL_hedgeFor_7 : decode cL_hedgeFor 7 = .ok (.invokevirtual 72, 3) := by decide +kernel
theorem dL_hedgeFor_10 : decode cL_hedgeFor 10 = .ok (.i2l, 1) := by decide +kernel
theorem dL_hedgeFor_11 : decode cL_hedgeFor 11 = .ok (.lastore, 1) := by decide +kernel
theorem dL_hedgeFor_12 : decode cL_hedgeFor 12 = .ok (.goto 11, 3) := by decide +kernel
theorem dL_hedgeFor_15 : decode cL_hedgeFor 15 = .ok (.astore 5, 2) := by decide +kernel
theorem dL_hedgeFor_17 : decode cL_hedgeFor 17 = .ok (.iconst 1, 1) := by decide +kernel
theorem dL_hedgeFor_18 : decode cL_hedgeFor 18 = .ok (.ireturn, 1) := by decide +kernel
theorem dL_hedgeFor_19 : decode cL_hedgeFor 19 = .ok (.astore 5, 2) := by decide +kernel
theorem dL_hedgeFor_21 : decode cL_hedgeFor 21 = .ok (.iconst 2, 1) := by decide +kernel
theorem dL_hedgeFor_22 : decode cL_hedgeFor 22 = .ok (.ireturn, 1) := by decide +kernel
theorem dL_hedgeFor_23 : decode cL_hedgeFor 23 = .ok (.iconst 0, 1) := by decide +kernel
theorem dL_hedgeFor_24 : decode cL_hedgeFor 24 = .ok (.ireturn, 1) := by decide +kernel
theorem dL_fairWin_0 : decode cL_fairWin 0 = .ok (.aload 4, 2) := by decide +kernel
theorem dL_fairWin_2 : decode cL_fairWin 2 = .ok (.iconst 0, 1) := by decide +kernel
theorem dL_fairWin_3 : decode cL_fairWin 3 = .ok (.aload_n 0, 1) := by decide +kernel
theorem dL_fairWin_4 : decode cL_fairWin 4 = .ok (.iload_n 1, 1) := by decide +kernel
theorem dL_fairWin_5 : decode cL_fairWin 5 = .ok (.iload_n 2, 1) := by decide +kernel
theorem dL_fairWin_6 : decode cL_fairWin 6 = .ok (.iload_n 3, 1) := by decide +kernel
theorem dL_fairWin_7 : decode cL_fairWin 7 = .ok (.invokevirtual 75, 3) := by decide +kernel
theorem dL_fairWin_10 : decode cL_fairWin 10 = .ok (.i2l, 1) := by decide +kernel
theorem dL_fairWin_11 : decode cL_fairWin 11 = .ok (.lastore, 1) := by decide +kernel
theorem dL_fairWin_12 : decode cL_fairWin 12 = .ok (.goto 7, 3) := by decide +kernel
theorem dL_fairWin_15 : decode cL_fairWin 15 = .ok (.astore 5, 2) := by decide +kernel
theorem dL_fairWin_17 : decode cL_fairWin 17 = .ok (.iconst 1, 1) := by decide +kernel
theorem dL_fairWin_18 : decode cL_fairWin 18 = .ok (.ireturn, 1) := by decide +kernel
theorem dL_fairWin_19 : decode cL_fairWin 19 = .ok (.iconst 0, 1) := by decide +kernel
theorem dL_fairWin_20 : decode cL_fairWin 20 = .ok (.ireturn, 1) := by decide +kernel
theorem dL_law_0 : decode cL_law 0 = .ok (.new 8, 3) := by decide +kernel
theorem dL_law_3 : decode cL_law 3 = .ok (.dup, 1) := by decide +kernel
theorem dL_law_4 : decode cL_law 4 = .ok (.invokespecial 78, 3) := by decide +kernel
theorem dL_law_7 : decode cL_law 7 = .ok (.astore_n 1, 1) := by decide +kernel
theorem dL_law_8 : decode cL_law 8 = .ok (.new 79, 3) := by decide +kernel
theorem dL_law_11 : decode cL_law 11 = .ok (.dup, 1) := by decide +kernel
theorem dL_law_12 : decode cL_law 12 = .ok (.invokespecial 81, 3) := by decide +kernel
theorem dL_law_15 : decode cL_law 15 = .ok (.astore_n 2, 1) := by decide +kernel
theorem dL_law_16 : decode cL_law 16 = .ok (.iconst 1, 1) := by decide +kernel
theorem dL_law_17 : decode cL_law 17 = .ok (.newarray .long, 2) := by decide +kernel
theorem dL_law_19 : decode cL_law 19 = .ok (.astore_n 3, 1) := by decide +kernel
theorem dL_law_20 : decode cL_law 20 = .ok (.iconst 1, 1) := by decide +kernel
theorem dL_law_21 : decode cL_law 21 = .ok (.newarray .double, 2) := by decide +kernel
theorem dL_law_23 : decode cL_law 23 = .ok (.astore 4, 2) := by decide +kernel
theorem dL_law_25 : decode cL_law 25 = .ok (.iconst 0, 1) := by decide +kernel
theorem dL_law_26 : decode cL_law 26 = .ok (.istore 5, 2) := by decide +kernel
theorem dL_law_28 : decode cL_law 28 = .ok (.iload 5, 2) := by decide +kernel
theorem dL_law_30 : decode cL_law 30 = .ok (.aload_n 0, 1) := by decide +kernel
theorem dL_law_31 : decode cL_law 31 = .ok (.arraylength, 1) := by decide +kernel
theorem dL_law_32 : decode cL_law 32 = .ok (.bipush 7, 2) := by decide +kernel
theorem dL_law_34 : decode cL_law 34 = .ok (.isub, 1) := by decide +kernel
theorem dL_law_35 : decode cL_law 35 = .ok (.if_icmp .gt 1574, 3) := by decide +kernel
theorem dL_law_38 : decode cL_law 38 = .ok (.aload_n 0, 1) := by decide +kernel
theorem dL_law_39 : decode cL_law 39 = .ok (.iload 5, 2) := by decide +kernel
theorem dL_law_41 : decode cL_law 41 = .ok (.iaload, 1) := by decide +kernel
theorem dL_law_42 : decode cL_law 42 = .ok (.bipush 31, 2) := by decide +kernel
theorem dL_law_44 : decode cL_law 44 = .ok (.iand, 1) := by decide +kernel
theorem dL_law_45 : decode cL_law 45 = .ok (.tableswitch 1558 0 30 #[139, 219, 232, 245, 301, 369, 458, 576, 632, 688, 701, 714, 727, 783, 839, 895, 951, 964, 1020, 1076, 1089, 1102, 1115, 1171, 1184, 1197, 1265, 1321, 1384, 1464, 1544], 139) := by decide +kernel
theorem dL_law_184 : decode cL_law 184 = .ok (.aload_n 1, 1) := by decide +kernel
theorem dL_law_185 : decode cL_law 185 = .ok (.aload_n 0, 1) := by decide +kernel
theorem dL_law_186 : decode cL_law 186 = .ok (.iload 5, 2) := by decide +kernel
theorem dL_law_188 : decode cL_law 188 = .ok (.iconst 1, 1) := by decide +kernel
theorem dL_law_189 : decode cL_law 189 = .ok (.iadd, 1) := by decide +kernel
theorem dL_law_190 : decode cL_law 190 = .ok (.iaload, 1) := by decide +kernel
theorem dL_law_191 : decode cL_law 191 = .ok (.aload_n 0, 1) := by decide +kernel
theorem dL_law_192 : decode cL_law 192 = .ok (.iload 5, 2) := by decide +kernel
theorem dL_law_194 : decode cL_law 194 = .ok (.iconst 2, 1) := by decide +kernel
theorem dL_law_195 : decode cL_law 195 = .ok (.iadd, 1) := by decide +kernel
theorem dL_law_196 : decode cL_law 196 = .ok (.iaload, 1) := by decide +kernel
theorem dL_law_197 : decode cL_law 197 = .ok (.aload_n 0, 1) := by decide +kernel
theorem dL_law_198 : decode cL_law 198 = .ok (.iload 5, 2) := by decide +kernel
theorem dL_law_200 : decode cL_law 200 = .ok (.iconst 3, 1) := by decide +kernel
theorem dL_law_201 : decode cL_law 201 = .ok (.iadd, 1) := by decide +kernel
theorem dL_law_202 : decode cL_law 202 = .ok (.iaload, 1) := by decide +kernel
theorem dL_law_203 : decode cL_law 203 = .ok (.aload_n 3, 1) := by decide +kernel
theorem dL_law_204 : decode cL_law 204 = .ok (.invokestatic 82, 3) := by decide +kernel
theorem dL_law_207 : decode cL_law 207 = .ok (.istore 6, 2) := by decide +kernel
theorem dL_law_209 : decode cL_law 209 = .ok (.aload_n 2, 1) := by decide +kernel
theorem dL_law_210 : decode cL_law 210 = .ok (.aload_n 0, 1) := by decide +kernel
theorem dL_law_211 : decode cL_law 211 = .ok (.iload 5, 2) := by decide +kernel
theorem dL_law_213 : decode cL_law 213 = .ok (.iconst 1, 1) := by decide +kernel
theorem dL_law_214 : decode cL_law 214 = .ok (.iadd, 1) := by decide +kernel
theorem dL_law_215 : decode cL_law 215 = .ok (.iaload, 1) := by decide +kernel
theorem dL_law_216 : decode cL_law 216 = .ok (.aload_n 0, 1) := by decide +kernel
theorem dL_law_217 : decode cL_law 217 = .ok (.iload 5, 2) := by decide +kernel
theorem dL_law_219 : decode cL_law 219 = .ok (.iconst 2, 1) := by decide +kernel
theorem dL_law_220 : decode cL_law 220 = .ok (.iadd, 1) := by decide +kernel
theorem dL_law_221 : decode cL_law 221 = .ok (.iaload, 1) := by decide +kernel
theorem dL_law_222 : decode cL_law 222 = .ok (.aload_n 0, 1) := by decide +kernel
theorem dL_law_223 : decode cL_law 223 = .ok (.iload 5, 2) := by decide +kernel
theorem dL_law_225 : decode cL_law 225 = .ok (.iconst 3, 1) := by decide +kernel
theorem dL_law_226 : decode cL_law 226 = .ok (.iadd, 1) := by decide +kernel
theorem dL_law_227 : decode cL_law 227 = .ok (.iaload, 1) := by decide +kernel
theorem dL_law_228 : decode cL_law 228 = .ok (.invokevirtual 87, 3) := by decide +kernel
theorem dL_law_231 : decode cL_law 231 = .ok (.istore 7, 2) := by decide +kernel
theorem dL_law_233 : decode cL_law 233 = .ok (.aload_n 2, 1) := by decide +kernel
theorem dL_law_234 : decode cL_law 234 = .ok (.invokevirtual 88, 3) := by decide +kernel
theorem dL_law_237 : decode cL_law 237 = .ok (.iload 6, 2) := by decide +kernel
theorem dL_law_239 : decode cL_law 239 = .ok (.if_icmp .eq 5, 3) := by decide +kernel
theorem dL_law_242 : decode cL_law 242 = .ok (.iconst 0, 1) := by decide +kernel
theorem dL_law_243 : decode cL_law 243 = .ok (.ireturn, 1) := by decide +kernel
theorem dL_law_244 : decode cL_law 244 = .ok (.iload 6, 2) := by decide +kernel
theorem dL_law_246 : decode cL_law 246 = .ok (.ifCond .ne 15, 3) := by decide +kernel
theorem dL_law_249 : decode cL_law 249 = .ok (.aload_n 3, 1) := by decide +kernel
theorem dL_law_250 : decode cL_law 250 = .ok (.iconst 0, 1) := by decide +kernel
theorem dL_law_251 : decode cL_law 251 = .ok (.laload, 1) := by decide +kernel
theorem dL_law_252 : decode cL_law 252 = .ok (.iload 7, 2) := by decide +kernel
theorem dL_law_254 : decode cL_law 254 = .ok (.i2l, 1) := by decide +kernel
theorem dL_law_255 : decode cL_law 255 = .ok (.lcmp, 1) := by decide +kernel
theorem dL_law_256 : decode cL_law 256 = .ok (.ifCond .eq 5, 3) := by decide +kernel
theorem dL_law_259 : decode cL_law 259 = .ok (.iconst 0, 1) := by decide +kernel
theorem dL_law_260 : decode cL_law 260 = .ok (.ireturn, 1) := by decide +kernel
theorem dL_law_261 : decode cL_law 261 = .ok (.goto 1342, 3) := by decide +kernel
theorem dL_law_264 : decode cL_law 264 = .ok (.aload_n 1, 1) := by decide +kernel
theorem dL_law_265 : decode cL_law 265 = .ok (.invokevirtual 92, 3) := by decide +kernel
theorem dL_law_268 : decode cL_law 268 = .ok (.aload_n 2, 1) := by decide +kernel
theorem dL_law_269 : decode cL_law 269 = .ok (.invokevirtual 95, 3) := by decide +kernel
theorem dL_law_272 : decode cL_law 272 = .ok (.if_icmp .eq 1331, 3) := by decide +kernel
theorem dL_law_275 : decode cL_law 275 = .ok (.iconst 0, 1) := by decide +kernel
theorem dL_law_276 : decode cL_law 276 = .ok (.ireturn, 1) := by decide +kernel
theorem dL_law_277 : decode cL_law 277 = .ok (.aload_n 1, 1) := by decide +kernel
theorem dL_law_278 : decode cL_law 278 = .ok (.invokevirtual 96, 3) := by decide +kernel
theorem dL_law_281 : decode cL_law 281 = .ok (.aload_n 2, 1) := by decide +kernel
theorem dL_law_282 : decode cL_law 282 = .ok (.invokevirtual 99, 3) := by decide +kernel
theorem dL_law_285 : decode cL_law 285 = .ok (.if_icmp .eq 1318, 3) := by decide +kernel
theorem dL_law_288 : decode cL_law 288 = .ok (.iconst 0, 1) := by decide +kernel
theorem dL_law_289 : decode cL_law 289 = .ok (.ireturn, 1) := by decide +kernel
theorem dL_law_290 : decode cL_law 290 = .ok (.aload_n 1, 1) := by decide +kernel
theorem dL_law_291 : decode cL_law 291 = .ok (.aload_n 0, 1) := by decide +kernel
theorem dL_law_292 : decode cL_law 292 = .ok (.iload 5, 2) := by decide +kernel
theorem dL_law_294 : decode cL_law 294 = .ok (.iconst 1, 1) := by decide +kernel
theorem dL_law_295 : decode cL_law 295 = .ok (.iadd, 1) := by decide +kernel
theorem dL_law_296 : decode cL_law 296 = .ok (.iaload, 1) := by decide +kernel
theorem dL_law_297 : decode cL_law 297 = .ok (.aload_n 3, 1) := by decide +kernel
theorem dL_law_298 : decode cL_law 298 = .ok (.invokestatic 100, 3) := by decide +kernel
theorem dL_law_301 : decode cL_law 301 = .ok (.istore 6, 2) := by decide +kernel
theorem dL_law_303 : decode cL_law 303 = .ok (.aload_n 2, 1) := by decide +kernel
theorem dL_law_304 : decode cL_law 304 = .ok (.aload_n 0, 1) := by decide +kernel
theorem dL_law_305 : decode cL_law 305 = .ok (.iload 5, 2) := by decide +kernel
theorem dL_law_307 : decode cL_law 307 = .ok (.iconst 1, 1) := by decide +kernel
theorem dL_law_308 : decode cL_law 308 = .ok (.iadd, 1) := by decide +kernel
theorem dL_law_309 : decode cL_law 309 = .ok (.iaload, 1) := by decide +kernel
theorem dL_law_310 : decode cL_law 310 = .ok (.invokevirtual 103, 3) := by decide +kernel
theorem dL_law_313 : decode cL_law 313 = .ok (.istore 7, 2) := by decide +kernel
theorem dL_law_315 : decode cL_law 315 = .ok (.aload_n 2, 1) := by decide +kernel
theorem dL_law_316 : decode cL_law 316 = .ok (.invokevirtual 88, 3) := by decide +kernel
theorem dL_law_319 : decode cL_law 319 = .ok (.iload 6, 2) := by decide +kernel
theorem dL_law_321 : decode cL_law 321 = .ok (.if_icmp .eq 5, 3) := by decide +kernel
theorem dL_law_324 : decode cL_law 324 = .ok (.iconst 0, 1) := by decide +kernel
theorem dL_law_325 : decode cL_law 325 = .ok (.ireturn, 1) := by decide +kernel
theorem dL_law_326 : decode cL_law 326 = .ok (.iload 6, 2) := by decide +kernel
theorem dL_law_328 : decode cL_law 328 = .ok (.ifCond .ne 15, 3) := by decide +kernel
theorem dL_law_331 : decode cL_law 331 = .ok (.aload_n 3, 1) := by decide +kernel
theorem dL_law_332 : decode cL_law 332 = .ok (.iconst 0, 1) := by decide +kernel
theorem dL_law_333 : decode cL_law 333 = .ok (.laload, 1) := by decide +kernel
theorem dL_law_334 : decode cL_law 334 = .ok (.iload 7, 2) := by decide +kernel
theorem dL_law_336 : decode cL_law 336 = .ok (.i2l, 1) := by decide +kernel
theorem dL_law_337 : decode cL_law 337 = .ok (.lcmp, 1) := by decide +kernel
theorem dL_law_338 : decode cL_law 338 = .ok (.ifCond .eq 5, 3) := by decide +kernel
theorem dL_law_341 : decode cL_law 341 = .ok (.iconst 0, 1) := by decide +kernel
theorem dL_law_342 : decode cL_law 342 = .ok (.ireturn, 1) := by decide +kernel
theorem dL_law_343 : decode cL_law 343 = .ok (.goto 1260, 3) := by decide +kernel
theorem dL_law_346 : decode cL_law 346 = .ok (.aload_n 1, 1) := by decide +kernel
theorem dL_law_347 : decode cL_law 347 = .ok (.aload_n 0, 1) := by decide +kernel
theorem dL_law_348 : decode cL_law 348 = .ok (.iload 5, 2) := by decide +kernel
theorem dL_law_350 : decode cL_law 350 = .ok (.iconst 1, 1) := by decide +kernel
theorem dL_law_351 : decode cL_law 351 = .ok (.iadd, 1) := by decide +kernel
theorem dL_law_352 : decode cL_law 352 = .ok (.iaload, 1) := by decide +kernel
theorem dL_law_353 : decode cL_law 353 = .ok (.aload_n 0, 1) := by decide +kernel
theorem dL_law_354 : decode cL_law 354 = .ok (.iload 5, 2) := by decide +kernel
theorem dL_law_356 : decode cL_law 356 = .ok (.iconst 2, 1) := by decide +kernel
theorem dL_law_357 : decode cL_law 357 = .ok (.iadd, 1) := by decide +kernel
theorem dL_law_358 : decode cL_law 358 = .ok (.iaload, 1) := by decide +kernel
theorem dL_law_359 : decode cL_law 359 = .ok (.aload_n 3, 1) := by decide +kernel
theorem dL_law_360 : decode cL_law 360 = .ok (.invokestatic 104, 3) := by decide +kernel
theorem dL_law_363 : decode cL_law 363 = .ok (.istore 6, 2) := by decide +kernel
theorem dL_law_365 : decode cL_law 365 = .ok (.aload_n 2, 1) := by decide +kernel
theorem dL_law_366 : decode cL_law 366 = .ok (.aload_n 0, 1) := by decide +kernel
theorem dL_law_367 : decode cL_law 367 = .ok (.iload 5, 2) := by decide +kernel
theorem dL_law_369 : decode cL_law 369 = .ok (.iconst 1, 1) := by decide +kernel
theorem dL_law_370 : decode cL_law 370 = .ok (.iadd, 1) := by decide +kernel
theorem dL_law_371 : decode cL_law 371 = .ok (.iaload, 1) := by decide +kernel
theorem dL_law_372 : decode cL_law 372 = .ok (.aload_n 0, 1) := by decide +kernel
theorem dL_law_373 : decode cL_law 373 = .ok (.iload 5, 2) := by decide +kernel
theorem dL_law_375 : decode cL_law 375 = .ok (.iconst 2, 1) := by decide +kernel
theorem dL_law_376 : decode cL_law 376 = .ok (.iadd, 1) := by decide +kernel
theorem dL_law_377 : decode cL_law 377 = .ok (.iaload, 1) := by decide +kernel
theorem dL_law_378 : decode cL_law 378 = .ok (.invokevirtual 107, 3) := by decide +kernel
theorem dL_law_381 : decode cL_law 381 = .ok (.istore 7, 2) := by decide +kernel
theorem dL_law_383 : decode cL_law 383 = .ok (.aload_n 2, 1) := by decide +kernel
theorem dL_law_384 : decode cL_law 384 = .ok (.invokevirtual 88, 3) := by decide +kernel
theorem dL_law_387 : decode cL_law 387 = .ok (.iload 6, 2) := by decide +kernel
theorem dL_law_389 : decode cL_law 389 = .ok (.if_icmp .eq 5, 3) := by decide +kernel
theorem dL_law_392 : decode cL_law 392 = .ok (.iconst 0, 1) := by decide +kernel
theorem dL_law_393 : decode cL_law 393 = .ok (.ireturn, 1) := by decide +kernel
theorem dL_law_394 : decode cL_law 394 = .ok (.iload 6, 2) := by decide +kernel
theorem dL_law_396 : decode cL_law 396 = .ok (.ifCond .ne 15, 3) := by decide +kernel
theorem dL_law_399 : decode cL_law 399 = .ok (.aload_n 3, 1) := by decide +kernel
theorem dL_law_400 : decode cL_law 400 = .ok (.iconst 0, 1) := by decide +kernel
theorem dL_law_401 : decode cL_law 401 = .ok (.laload, 1) := by decide +kernel
theorem dL_law_402 : decode cL_law 402 = .ok (.iload 7, 2) := by decide +kernel
theorem dL_law_404 : decode cL_law 404 = .ok (.i2l, 1) := by decide +kernel
theorem dL_law_405 : decode cL_law 405 = .ok (.lcmp, 1) := by decide +kernel
theorem dL_law_406 : decode cL_law 406 = .ok (.ifCond .eq 5, 3) := by decide +kernel
theorem dL_law_409 : decode cL_law 409 = .ok (.iconst 0, 1) := by decide +kernel
theorem dL_law_410 : decode cL_law 410 = .ok (.ireturn, 1) := by decide +kernel
theorem dL_law_411 : decode cL_law 411 = .ok (.goto 1192, 3) := by decide +kernel
theorem dL_law_414 : decode cL_law 414 = .ok (.aload_n 1, 1) := by decide +kernel
theorem dL_law_415 : decode cL_law 415 = .ok (.aload_n 0, 1) := by decide +kernel
theorem dL_law_416 : decode cL_law 416 = .ok (.iload 5, 2) := by decide +kernel
theorem dL_law_418 : decode cL_law 418 = .ok (.iconst 1, 1) := by decide +kernel
theorem dL_law_419 : decode cL_law 419 = .ok (.iadd, 1) := by decide +kernel
theorem dL_law_420 : decode cL_law 420 = .ok (.iaload, 1) := by decide +kernel
theorem dL_law_421 : decode cL_law 421 = .ok (.aload_n 0, 1) := by decide +kernel
theorem dL_law_422 : decode cL_law 422 = .ok (.iload 5, 2) := by decide +kernel
theorem dL_law_424 : decode cL_law 424 = .ok (.iconst 2, 1) := by decide +kernel
theorem dL_law_425 : decode cL_law 425 = .ok (.iadd, 1) := by decide +kernel
theorem dL_law_426 : decode cL_law 426 = .ok (.iaload, 1) := by decide +kernel
theorem dL_law_427 : decode cL_law 427 = .ok (.aload 4, 2) := by decide +kernel
theorem dL_law_429 : decode cL_law 429 = .ok (.invokestatic 108, 3) := by decide +kernel
theorem dL_law_432 : decode cL_law 432 = .ok (.istore 6, 2) := by decide +kernel
theorem dL_law_434 : decode cL_law 434 = .ok (.aload_n 2, 1) := by decide +kernel
theorem dL_law_435 : decode cL_law 435 = .ok (.aload_n 0, 1) := by decide +kernel
theorem dL_law_436 : decode cL_law 436 = .ok (.iload 5, 2) := by decide +kernel
theorem dL_law_438 : decode cL_law 438 = .ok (.iconst 1, 1) := by decide +kernel
theorem dL_law_439 : decode cL_law 439 = .ok (.iadd, 1) := by decide +kernel
theorem dL_law_440 : decode cL_law 440 = .ok (.iaload, 1) := by decide +kernel
theorem dL_law_441 : decode cL_law 441 = .ok (.aload_n 0, 1) := by decide +kernel
theorem dL_law_442 : decode cL_law 442 = .ok (.iload 5, 2) := by decide +kernel
theorem dL_law_444 : decode cL_law 444 = .ok (.iconst 2, 1) := by decide +kernel
theorem dL_law_445 : decode cL_law 445 = .ok (.iadd, 1) := by decide +kernel
theorem dL_law_446 : decode cL_law 446 = .ok (.iaload, 1) := by decide +kernel
theorem dL_law_447 : decode cL_law 447 = .ok (.invokevirtual 111, 3) := by decide +kernel
theorem dL_law_450 : decode cL_law 450 = .ok (.dstore 7, 2) := by decide +kernel
theorem dL_law_452 : decode cL_law 452 = .ok (.aload_n 2, 1) := by decide +kernel
theorem dL_law_453 : decode cL_law 453 = .ok (.invokevirtual 88, 3) := by decide +kernel
theorem dL_law_456 : decode cL_law 456 = .ok (.iload 6, 2) := by decide +kernel
theorem dL_law_458 : decode cL_law 458 = .ok (.if_icmp .eq 5, 3) := by decide +kernel
theorem dL_law_461 : decode cL_law 461 = .ok (.iconst 0, 1) := by decide +kernel
theorem dL_law_462 : decode cL_law 462 = .ok (.ireturn, 1) := by decide +kernel
theorem dL_law_463 : decode cL_law 463 = .ok (.iload 6, 2) := by decide +kernel
theorem dL_law_465 : decode cL_law 465 = .ok (.ifCond .ne 35, 3) := by decide +kernel
theorem dL_law_468 : decode cL_law 468 = .ok (.aload 4, 2) := by decide +kernel
theorem dL_law_470 : decode cL_law 470 = .ok (.iconst 0, 1) := by decide +kernel
theorem dL_law_471 : decode cL_law 471 = .ok (.daload, 1) := by decide +kernel
theorem dL_law_472 : decode cL_law 472 = .ok (.dload 7, 2) := by decide +kernel
theorem dL_law_474 : decode cL_law 474 = .ok (.dcmp .l, 1) := by decide +kernel
theorem dL_law_475 : decode cL_law 475 = .ok (.ifCond .eq 25, 3) := by decide +kernel
theorem dL_law_478 : decode cL_law 478 = .ok (.aload 4, 2) := by decide +kernel
theorem dL_law_480 : decode cL_law 480 = .ok (.iconst 0, 1) := by decide +kernel
theorem dL_law_481 : decode cL_law 481 = .ok (.daload, 1) := by decide +kernel
theorem dL_law_482 : decode cL_law 482 = .ok (.aload 4, 2) := by decide +kernel
theorem dL_law_484 : decode cL_law 484 = .ok (.iconst 0, 1) := by decide +kernel
theorem dL_law_485 : decode cL_law 485 = .ok (.daload, 1) := by decide +kernel
theorem dL_law_486 : decode cL_law 486 = .ok (.dcmp .l, 1) := by decide +kernel
theorem dL_law_487 : decode cL_law 487 = .ok (.ifCond .eq 11, 3) := by decide +kernel
theorem dL_law_490 : decode cL_law 490 = .ok (.dload 7, 2) := by decide +kernel
theorem dL_law_492 : decode cL_law 492 = .ok (.dload 7, 2) := by decide +kernel
theorem dL_law_494 : decode cL_law 494 = .ok (.dcmp .l, 1) := by decide +kernel
theorem dL_law_495 : decode cL_law 495 = .ok (.ifCond .ne 5, 3) := by decide +kernel
theorem dL_law_498 : decode cL_law 498 = .ok (.iconst 0, 1) := by decide +kernel
theorem dL_law_499 : decode cL_law 499 = .ok (.ireturn, 1) := by decide +kernel
theorem dL_law_500 : decode cL_law 500 = .ok (.goto 1103, 3) := by decide +kernel
theorem dL_law_503 : decode cL_law 503 = .ok (.aload_n 1, 1) := by decide +kernel
theorem dL_law_504 : decode cL_law 504 = .ok (.aload_n 0, 1) := by decide +kernel
theorem dL_law_505 : decode cL_law 505 = .ok (.iload 5, 2) := by decide +kernel
theorem dL_law_507 : decode cL_law 507 = .ok (.iconst 1, 1) := by decide +kernel
theorem dL_law_508 : decode cL_law 508 = .ok (.iadd, 1) := by decide +kernel
theorem dL_law_509 : decode cL_law 509 = .ok (.iaload, 1) := by decide +kernel
theorem dL_law_510 : decode cL_law 510 = .ok (.aload_n 0, 1) := by decide +kernel
theorem dL_law_511 : decode cL_law 511 = .ok (.iload 5, 2) := by decide +kernel
theorem dL_law_513 : decode cL_law 513 = .ok (.iconst 2, 1) := by decide +kernel
theorem dL_law_514 : decode cL_law 514 = .ok (.iadd, 1) := by decide +kernel
theorem dL_law_515 : decode cL_law 515 = .ok (.iaload, 1) := by decide +kernel
theorem dL_law_516 : decode cL_law 516 = .ok (.aload_n 0, 1) := by decide +kernel
theorem dL_law_517 : decode cL_law 517 = .ok (.iload 5, 2) := by decide +kernel
theorem dL_law_519 : decode cL_law 519 = .ok (.iconst 3, 1) := by decide +kernel
theorem dL_law_520 : decode cL_law 520 = .ok (.iadd, 1) := by decide +kernel
theorem dL_law_521 : decode cL_law 521 = .ok (.iaload, 1) := by decide +kernel
theorem dL_law_522 : decode cL_law 522 = .ok (.aload_n 0, 1) := by decide +kernel
theorem dL_law_523 : decode cL_law 523 = .ok (.iload 5, 2) := by decide +kernel
theorem dL_law_525 : decode cL_law 525 = .ok (.iconst 4, 1) := by decide +kernel
theorem dL_law_526 : decode cL_law 526 = .ok (.iadd, 1) := by decide +kernel
theorem dL_law_527 : decode cL_law 527 = .ok (.iaload, 1) := by decide +kernel
theorem dL_law_528 : decode cL_law 528 = .ok (.aload_n 0, 1) := by decide +kernel
theorem dL_law_529 : decode cL_law 529 = .ok (.iload 5, 2) := by decide +kernel
theorem dL_law_531 : decode cL_law 531 = .ok (.iconst 5, 1) := by decide +kernel
theorem dL_law_532 : decode cL_law 532 = .ok (.iadd, 1) := by decide +kernel
theorem dL_law_533 : decode cL_law 533 = .ok (.iaload, 1) := by decide +kernel
theorem dL_law_534 : decode cL_law 534 = .ok (.aload_n 0, 1) := by decide +kernel
theorem dL_law_535 : decode cL_law 535 = .ok (.iload 5, 2) := by decide +kernel
theorem dL_law_537 : decode cL_law 537 = .ok (.bipush 6, 2) := by decide +kernel
theorem dL_law_539 : decode cL_law 539 = .ok (.iadd, 1) := by decide +kernel
theorem dL_law_540 : decode cL_law 540 = .ok (.iaload, 1) := by decide +kernel
theorem dL_law_541 : decode cL_law 541 = .ok (.aload_n 3, 1) := by decide +kernel
theorem dL_law_542 : decode cL_law 542 = .ok (.invokestatic 112, 3) := by decide +kernel
theorem dL_law_545 : decode cL_law 545 = .ok (.istore 6, 2) := by decide +kernel
theorem dL_law_547 : decode cL_law 547 = .ok (.aload_n 2, 1) := by decide +kernel
theorem dL_law_548 : decode cL_law 548 = .ok (.aload_n 0, 1) := by decide +kernel
theorem dL_law_549 : decode cL_law 549 = .ok (.iload 5, 2) := by decide +kernel
theorem dL_law_551 : decode cL_law 551 = .ok (.iconst 1, 1) := by decide +kernel
theorem dL_law_552 : decode cL_law 552 = .ok (.iadd, 1) := by decide +kernel
theorem dL_law_553 : decode cL_law 553 = .ok (.iaload, 1) := by decide +kernel
theorem dL_law_554 : decode cL_law 554 = .ok (.aload_n 0, 1) := by decide +kernel
theorem dL_law_555 : decode cL_law 555 = .ok (.iload 5, 2) := by decide +kernel
theorem dL_law_557 : decode cL_law 557 = .ok (.iconst 2, 1) := by decide +kernel
theorem dL_law_558 : decode cL_law 558 = .ok (.iadd, 1) := by decide +kernel
theorem dL_law_559 : decode cL_law 559 = .ok (.iaload, 1) := by decide +kernel
theorem dL_law_560 : decode cL_law 560 = .ok (.aload_n 0, 1) := by decide +kernel
theorem dL_law_561 : decode cL_law 561 = .ok (.iload 5, 2) := by decide +kernel
theorem dL_law_563 : decode cL_law 563 = .ok (.iconst 3, 1) := by decide +kernel
theorem dL_law_564 : decode cL_law 564 = .ok (.iadd, 1) := by decide +kernel
theorem dL_law_565 : decode cL_law 565 = .ok (.iaload, 1) := by decide +kernel
theorem dL_law_566 : decode cL_law 566 = .ok (.aload_n 0, 1) := by decide +kernel
theorem dL_law_567 : decode cL_law 567 = .ok (.iload 5, 2) := by decide +kernel
theorem dL_law_569 : decode cL_law 569 = .ok (.iconst 4, 1) := by decide +kernel
theorem dL_law_570 : decode cL_law 570 = .ok (.iadd, 1) := by decide +kernel
theorem dL_law_571 : decode cL_law 571 = .ok (.iaload, 1) := by decide +kernel
theorem dL_law_572 : decode cL_law 572 = .ok (.aload_n 0, 1) := by decide +kernel
theorem dL_law_573 : decode cL_law 573 = .ok (.iload 5, 2) := by decide +kernel
theorem dL_law_575 : decode cL_law 575 = .ok (.iconst 5, 1) := by decide +kernel
theorem dL_law_576 : decode cL_law 576 = .ok (.iadd, 1) := by decide +kernel
theorem dL_law_577 : decode cL_law 577 = .ok (.iaload, 1) := by decide +kernel
theorem dL_law_578 : decode cL_law 578 = .ok (.aload_n 0, 1) := by decide +kernel
theorem dL_law_579 : decode cL_law 579 = .ok (.iload 5, 2) := by decide +kernel
theorem dL_law_581 : decode cL_law 581 = .ok (.bipush 6, 2) := by decide +kernel
theorem dL_law_583 : decode cL_law 583 = .ok (.iadd, 1) := by decide +kernel
theorem dL_law_584 : decode cL_law 584 = .ok (.iaload, 1) := by decide +kernel
theorem dL_law_585 : decode cL_law 585 = .ok (.invokevirtual 115, 3) := by decide +kernel
theorem dL_law_588 : decode cL_law 588 = .ok (.istore 7, 2) := by decide +kernel
theorem dL_law_590 : decode cL_law 590 = .ok (.aload_n 2, 1) := by decide +kernel
theorem dL_law_591 : decode cL_law 591 = .ok (.invokevirtual 88, 3) := by decide +kernel
theorem dL_law_594 : decode cL_law 594 = .ok (.iload 6, 2) := by decide +kernel
theorem dL_law_596 : decode cL_law 596 = .ok (.if_icmp .eq 5, 3) := by decide +kernel
theorem dL_law_599 : decode cL_law 599 = .ok (.iconst 0, 1) := by decide +kernel
theorem dL_law_600 : decode cL_law 600 = .ok (.ireturn, 1) := by decide +kernel
theorem dL_law_601 : decode cL_law 601 = .ok (.iload 6, 2) := by decide +kernel
theorem dL_law_603 : decode cL_law 603 = .ok (.ifCond .ne 15, 3) := by decide +kernel
theorem dL_law_606 : decode cL_law 606 = .ok (.aload_n 3, 1) := by decide +kernel
theorem dL_law_607 : decode cL_law 607 = .ok (.iconst 0, 1) := by decide +kernel
theorem dL_law_608 : decode cL_law 608 = .ok (.laload, 1) := by decide +kernel
theorem dL_law_609 : decode cL_law 609 = .ok (.iload 7, 2) := by decide +kernel
theorem dL_law_611 : decode cL_law 611 = .ok (.i2l, 1) := by decide +kernel
theorem dL_law_612 : decode cL_law 612 = .ok (.lcmp, 1) := by decide +kernel
theorem dL_law_613 : decode cL_law 613 = .ok (.ifCond .eq 5, 3) := by decide +kernel
theorem dL_law_616 : decode cL_law 616 = .ok (.iconst 0, 1) := by decide +kernel
theorem dL_law_617 : decode cL_law 617 = .ok (.ireturn, 1) := by decide +kernel
theorem dL_law_618 : decode cL_law 618 = .ok (.goto 985, 3) := by decide +kernel
theorem dL_law_621 : decode cL_law 621 = .ok (.aload_n 1, 1) := by decide +kernel
theorem dL_law_622 : decode cL_law 622 = .ok (.aload_n 0, 1) := by decide +kernel
theorem dL_law_623 : decode cL_law 623 = .ok (.iload 5, 2) := by decide +kernel
theorem dL_law_625 : decode cL_law 625 = .ok (.iconst 1, 1) := by decide +kernel
theorem dL_law_626 : decode cL_law 626 = .ok (.iadd, 1) := by decide +kernel
theorem dL_law_627 : decode cL_law 627 = .ok (.iaload, 1) := by decide +kernel
theorem dL_law_628 : decode cL_law 628 = .ok (.aload_n 3, 1) := by decide +kernel
theorem dL_law_629 : decode cL_law 629 = .ok (.invokestatic 116, 3) := by decide +kernel
theorem dL_law_632 : decode cL_law 632 = .ok (.istore 6, 2) := by decide +kernel
theorem dL_law_634 : decode cL_law 634 = .ok (.aload_n 2, 1) := by decide +kernel
theorem dL_law_635 : decode cL_law 635 = .ok (.aload_n 0, 1) := by decide +kernel
theorem dL_law_636 : decode cL_law 636 = .ok (.iload 5, 2) := by decide +kernel
theorem dL_law_638 : decode cL_law 638 = .ok (.iconst 1, 1) := by decide +kernel
theorem dL_law_639 : decode cL_law 639 = .ok (.iadd, 1) := by decide +kernel
theorem dL_law_640 : decode cL_law 640 = .ok (.iaload, 1) := by decide +kernel
theorem dL_law_641 : decode cL_law 641 = .ok (.invokevirtual 118, 3) := by decide +kernel
theorem dL_law_644 : decode cL_law 644 = .ok (.istore 7, 2) := by decide +kernel
theorem dL_law_646 : decode cL_law 646 = .ok (.aload_n 2, 1) := by decide +kernel
theorem dL_law_647 : decode cL_law 647 = .ok (.invokevirtual 88, 3) := by decide +kernel
theorem dL_law_650 : decode cL_law 650 = .ok (.iload 6, 2) := by decide +kernel
theorem dL_law_652 : decode cL_law 652 = .ok (.if_icmp .eq 5, 3) := by decide +kernel
theorem dL_law_655 : decode cL_law 655 = .ok (.iconst 0, 1) := by decide +kernel
theorem dL_law_656 : decode cL_law 656 = .ok (.ireturn, 1) := by decide +kernel
theorem dL_law_657 : decode cL_law 657 = .ok (.iload 6, 2) := by decide +kernel
theorem dL_law_659 : decode cL_law 659 = .ok (.ifCond .ne 15, 3) := by decide +kernel
theorem dL_law_662 : decode cL_law 662 = .ok (.aload_n 3, 1) := by decide +kernel
theorem dL_law_663 : decode cL_law 663 = .ok (.iconst 0, 1) := by decide +kernel
theorem dL_law_664 : decode cL_law 664 = .ok (.laload, 1) := by decide +kernel
theorem dL_law_665 : decode cL_law 665 = .ok (.iload 7, 2) := by decide +kernel
theorem dL_law_667 : decode cL_law 667 = .ok (.i2l, 1) := by decide +kernel
theorem dL_law_668 : decode cL_law 668 = .ok (.lcmp, 1) := by decide +kernel
theorem dL_law_669 : decode cL_law 669 = .ok (.ifCond .eq 5, 3) := by decide +kernel
theorem dL_law_672 : decode cL_law 672 = .ok (.iconst 0, 1) := by decide +kernel
theorem dL_law_673 : decode cL_law 673 = .ok (.ireturn, 1) := by decide +kernel
theorem dL_law_674 : decode cL_law 674 = .ok (.goto 929, 3) := by decide +kernel
theorem dL_law_677 : decode cL_law 677 = .ok (.aload_n 1, 1) := by decide +kernel
theorem dL_law_678 : decode cL_law 678 = .ok (.aload_n 0, 1) := by decide +kernel
theorem dL_law_679 : decode cL_law 679 = .ok (.iload 5, 2) := by decide +kernel
theorem dL_law_681 : decode cL_law 681 = .ok (.iconst 1, 1) := by decide +kernel
theorem dL_law_682 : decode cL_law 682 = .ok (.iadd, 1) := by decide +kernel
theorem dL_law_683 : decode cL_law 683 = .ok (.iaload, 1) := by decide +kernel
theorem dL_law_684 : decode cL_law 684 = .ok (.aload_n 3, 1) := by decide +kernel
theorem dL_law_685 : decode cL_law 685 = .ok (.invokestatic 119, 3) := by decide +kernel
theorem dL_law_688 : decode cL_law 688 = .ok (.istore 6, 2) := by decide +kernel
theorem dL_law_690 : decode cL_law 690 = .ok (.aload_n 2, 1) := by decide +kernel
theorem dL_law_691 : decode cL_law 691 = .ok (.aload_n 0, 1) := by decide +kernel
theorem dL_law_692 : decode cL_law 692 = .ok (.iload 5, 2) := by decide +kernel
theorem dL_law_694 : decode cL_law 694 = .ok (.iconst 1, 1) := by decide +kernel
theorem dL_law_695 : decode cL_law 695 = .ok (.iadd, 1) := by decide +kernel
theorem dL_law_696 : decode cL_law 696 = .ok (.iaload, 1) := by decide +kernel
theorem dL_law_697 : decode cL_law 697 = .ok (.invokevirtual 121, 3) := by decide +kernel
theorem dL_law_700 : decode cL_law 700 = .ok (.istore 7, 2) := by decide +kernel
theorem dL_law_702 : decode cL_law 702 = .ok (.aload_n 2, 1) := by decide +kernel
theorem dL_law_703 : decode cL_law 703 = .ok (.invokevirtual 88, 3) := by decide +kernel
theorem dL_law_706 : decode cL_law 706 = .ok (.iload 6, 2) := by decide +kernel
theorem dL_law_708 : decode cL_law 708 = .ok (.if_icmp .eq 5, 3) := by decide +kernel
theorem dL_law_711 : decode cL_law 711 = .ok (.iconst 0, 1) := by decide +kernel
theorem dL_law_712 : decode cL_law 712 = .ok (.ireturn, 1) := by decide +kernel
theorem dL_law_713 : decode cL_law 713 = .ok (.iload 6, 2) := by decide +kernel
theorem dL_law_715 : decode cL_law 715 = .ok (.ifCond .ne 15, 3) := by decide +kernel
theorem dL_law_718 : decode cL_law 718 = .ok (.aload_n 3, 1) := by decide +kernel
theorem dL_law_719 : decode cL_law 719 = .ok (.iconst 0, 1) := by decide +kernel
theorem dL_law_720 : decode cL_law 720 = .ok (.laload, 1) := by decide +kernel
theorem dL_law_721 : decode cL_law 721 = .ok (.iload 7, 2) := by decide +kernel
theorem dL_law_723 : decode cL_law 723 = .ok (.i2l, 1) := by decide +kernel
theorem dL_law_724 : decode cL_law 724 = .ok (.lcmp, 1) := by decide +kernel
theorem dL_law_725 : decode cL_law 725 = .ok (.ifCond .eq 5, 3) := by decide +kernel
theorem dL_law_728 : decode cL_law 728 = .ok (.iconst 0, 1) := by decide +kernel
theorem dL_law_729 : decode cL_law 729 = .ok (.ireturn, 1) := by decide +kernel
theorem dL_law_730 : decode cL_law 730 = .ok (.goto 873, 3) := by decide +kernel
theorem dL_law_733 : decode cL_law 733 = .ok (.aload_n 1, 1) := by decide +kernel
theorem dL_law_734 : decode cL_law 734 = .ok (.invokevirtual 122, 3) := by decide +kernel
theorem dL_law_737 : decode cL_law 737 = .ok (.aload_n 2, 1) := by decide +kernel
theorem dL_law_738 : decode cL_law 738 = .ok (.invokevirtual 125, 3) := by decide +kernel
theorem dL_law_741 : decode cL_law 741 = .ok (.if_icmp .eq 862, 3) := by decide +kernel
theorem dL_law_744 : decode cL_law 744 = .ok (.iconst 0, 1) := by decide +kernel
theorem dL_law_745 : decode cL_law 745 = .ok (.ireturn, 1) := by decide +kernel
theorem dL_law_746 : decode cL_law 746 = .ok (.aload_n 1, 1) := by decide +kernel
theorem dL_law_747 : decode cL_law 747 = .ok (.invokevirtual 126, 3) := by decide +kernel
theorem dL_law_750 : decode cL_law 750 = .ok (.aload_n 2, 1) := by decide +kernel
theorem dL_law_751 : decode cL_law 751 = .ok (.invokevirtual 129, 3) := by decide +kernel
theorem dL_law_754 : decode cL_law 754 = .ok (.if_icmp .eq 849, 3) := by decide +kernel
theorem dL_law_757 : decode cL_law 757 = .ok (.iconst 0, 1) := by decide +kernel
theorem dL_law_758 : decode cL_law 758 = .ok (.ireturn, 1) := by decide +kernel
theorem dL_law_759 : decode cL_law 759 = .ok (.aload_n 1, 1) := by decide +kernel
theorem dL_law_760 : decode cL_law 760 = .ok (.invokevirtual 130, 3) := by decide +kernel
theorem dL_law_763 : decode cL_law 763 = .ok (.aload_n 2, 1) := by decide +kernel
theorem dL_law_764 : decode cL_law 764 = .ok (.invokevirtual 133, 3) := by decide +kernel
theorem dL_law_767 : decode cL_law 767 = .ok (.if_icmp .eq 836, 3) := by decide +kernel
theorem dL_law_770 : decode cL_law 770 = .ok (.iconst 0, 1) := by decide +kernel
theorem dL_law_771 : decode cL_law 771 = .ok (.ireturn, 1) := by decide +kernel
theorem dL_law_772 : decode cL_law 772 = .ok (.aload_n 1, 1) := by decide +kernel
theorem dL_law_773 : decode cL_law 773 = .ok (.aload_n 0, 1) := by decide +kernel
theorem dL_law_774 : decode cL_law 774 = .ok (.iload 5, 2) := by decide +kernel
theorem dL_law_776 : decode cL_law 776 = .ok (.iconst 1, 1) := by decide +kernel
theorem dL_law_777 : decode cL_law 777 = .ok (.iadd, 1) := by decide +kernel
theorem dL_law_778 : decode cL_law 778 = .ok (.iaload, 1) := by decide +kernel
theorem dL_law_779 : decode cL_law 779 = .ok (.aload_n 3, 1) := by decide +kernel
theorem dL_law_780 : decode cL_law 780 = .ok (.invokestatic 134, 3) := by decide +kernel
theorem dL_law_783 : decode cL_law 783 = .ok (.istore 6, 2) := by decide +kernel
theorem dL_law_785 : decode cL_law 785 = .ok (.aload_n 2, 1) := by decide +kernel
theorem dL_law_786 : decode cL_law 786 = .ok (.aload_n 0, 1) := by decide +kernel
theorem dL_law_787 : decode cL_law 787 = .ok (.iload 5, 2) := by decide +kernel
theorem dL_law_789 : decode cL_law 789 = .ok (.iconst 1, 1) := by decide +kernel
theorem dL_law_790 : decode cL_law 790 = .ok (.iadd, 1) := by decide +kernel
theorem dL_law_791 : decode cL_law 791 = .ok (.iaload, 1) := by decide +kernel
theorem dL_law_792 : decode cL_law 792 = .ok (.invokevirtual 136, 3) := by decide +kernel
theorem dL_law_795 : decode cL_law 795 = .ok (.istore 7, 2) := by decide +kernel
theorem dL_law_797 : decode cL_law 797 = .ok (.aload_n 2, 1) := by decide +kernel
theorem dL_law_798 : decode cL_law 798 = .ok (.invokevirtual 88, 3) := by decide +kernel
theorem dL_law_801 : decode cL_law 801 = .ok (.iload 6, 2) := by decide +kernel
theorem dL_law_803 : decode cL_law 803 = .ok (.if_icmp .eq 5, 3) := by decide +kernel
theorem dL_law_806 : decode cL_law 806 = .ok (.iconst 0, 1) := by decide +kernel
theorem dL_law_807 : decode cL_law 807 = .ok (.ireturn, 1) := by decide +kernel
theorem dL_law_808 : decode cL_law 808 = .ok (.iload 6, 2) := by decide +kernel
theorem dL_law_810 : decode cL_law 810 = .ok (.ifCond .ne 15, 3) := by decide +kernel
theorem dL_law_813 : decode cL_law 813 = .ok (.aload_n 3, 1) := by decide +kernel
theorem dL_law_814 : decode cL_law 814 = .ok (.iconst 0, 1) := by decide +kernel
theorem dL_law_815 : decode cL_law 815 = .ok (.laload, 1) := by decide +kernel
theorem dL_law_816 : decode cL_law 816 = .ok (.iload 7, 2) := by decide +kernel
theorem dL_law_818 : decode cL_law 818 = .ok (.i2l, 1) := by decide +kernel
theorem dL_law_819 : decode cL_law 819 = .ok (.lcmp, 1) := by decide +kernel
theorem dL_law_820 : decode cL_law 820 = .ok (.ifCond .eq 5, 3) := by decide +kernel
theorem dL_law_823 : decode cL_law 823 = .ok (.iconst 0, 1) := by decide +kernel
theorem dL_law_824 : decode cL_law 824 = .ok (.ireturn, 1) := by decide +kernel
theorem dL_law_825 : decode cL_law 825 = .ok (.goto 778, 3) := by decide +kernel
theorem dL_law_828 : decode cL_law 828 = .ok (.aload_n 1, 1) := by decide +kernel
theorem dL_law_829 : decode cL_law 829 = .ok (.aload_n 0, 1) := by decide +kernel
theorem dL_law_830 : decode cL_law 830 = .ok (.iload 5, 2) := by decide +kernel
theorem dL_law_832 : decode cL_law 832 = .ok (.iconst 1, 1) := by decide +kernel
theorem dL_law_833 : decode cL_law 833 = .ok (.iadd, 1) := by decide +kernel
theorem dL_law_834 : decode cL_law 834 = .ok (.iaload, 1) := by decide +kernel
theorem dL_law_835 : decode cL_law 835 = .ok (.aload_n 3, 1) := by decide +kernel
theorem dL_law_836 : decode cL_law 836 = .ok (.invokestatic 137, 3) := by decide +kernel
theorem dL_law_839 : decode cL_law 839 = .ok (.istore 6, 2) := by decide +kernel
theorem dL_law_841 : decode cL_law 841 = .ok (.aload_n 2, 1) := by decide +kernel
theorem dL_law_842 : decode cL_law 842 = .ok (.aload_n 0, 1) := by decide +kernel
theorem dL_law_843 : decode cL_law 843 = .ok (.iload 5, 2) := by decide +kernel
theorem dL_law_845 : decode cL_law 845 = .ok (.iconst 1, 1) := by decide +kernel
theorem dL_law_846 : decode cL_law 846 = .ok (.iadd, 1) := by decide +kernel
theorem dL_law_847 : decode cL_law 847 = .ok (.iaload, 1) := by decide +kernel
theorem dL_law_848 : decode cL_law 848 = .ok (.invokevirtual 139, 3) := by decide +kernel
theorem dL_law_851 : decode cL_law 851 = .ok (.istore 7, 2) := by decide +kernel
theorem dL_law_853 : decode cL_law 853 = .ok (.aload_n 2, 1) := by decide +kernel
theorem dL_law_854 : decode cL_law 854 = .ok (.invokevirtual 88, 3) := by decide +kernel
theorem dL_law_857 : decode cL_law 857 = .ok (.iload 6, 2) := by decide +kernel
theorem dL_law_859 : decode cL_law 859 = .ok (.if_icmp .eq 5, 3) := by decide +kernel
theorem dL_law_862 : decode cL_law 862 = .ok (.iconst 0, 1) := by decide +kernel
theorem dL_law_863 : decode cL_law 863 = .ok (.ireturn, 1) := by decide +kernel
theorem dL_law_864 : decode cL_law 864 = .ok (.iload 6, 2) := by decide +kernel
theorem dL_law_866 : decode cL_law 866 = .ok (.ifCond .ne 15, 3) := by decide +kernel
theorem dL_law_869 : decode cL_law 869 = .ok (.aload_n 3, 1) := by decide +kernel
theorem dL_law_870 : decode cL_law 870 = .ok (.iconst 0, 1) := by decide +kernel
theorem dL_law_871 : decode cL_law 871 = .ok (.laload, 1) := by decide +kernel
theorem dL_law_872 : decode cL_law 872 = .ok (.iload 7, 2) := by decide +kernel
theorem dL_law_874 : decode cL_law 874 = .ok (.i2l, 1) := by decide +kernel
theorem dL_law_875 : decode cL_law 875 = .ok (.lcmp, 1) := by decide +kernel
theorem dL_law_876 : decode cL_law 876 = .ok (.ifCond .eq 5, 3) := by decide +kernel
theorem dL_law_879 : decode cL_law 879 = .ok (.iconst 0, 1) := by decide +kernel
theorem dL_law_880 : decode cL_law 880 = .ok (.ireturn, 1) := by decide +kernel
theorem dL_law_881 : decode cL_law 881 = .ok (.goto 722, 3) := by decide +kernel
theorem dL_law_884 : decode cL_law 884 = .ok (.aload_n 1, 1) := by decide +kernel
theorem dL_law_885 : decode cL_law 885 = .ok (.aload_n 0, 1) := by decide +kernel
theorem dL_law_886 : decode cL_law 886 = .ok (.iload 5, 2) := by decide +kernel
theorem dL_law_888 : decode cL_law 888 = .ok (.iconst 1, 1) := by decide +kernel
theorem dL_law_889 : decode cL_law 889 = .ok (.iadd, 1) := by decide +kernel
theorem dL_law_890 : decode cL_law 890 = .ok (.iaload, 1) := by decide +kernel
theorem dL_law_891 : decode cL_law 891 = .ok (.aload_n 3, 1) := by decide +kernel
theorem dL_law_892 : decode cL_law 892 = .ok (.invokestatic 140, 3) := by decide +kernel
theorem dL_law_895 : decode cL_law 895 = .ok (.istore 6, 2) := by decide +kernel
theorem dL_law_897 : decode cL_law 897 = .ok (.aload_n 2, 1) := by decide +kernel
theorem dL_law_898 : decode cL_law 898 = .ok (.aload_n 0, 1) := by decide +kernel
theorem dL_law_899 : decode cL_law 899 = .ok (.iload 5, 2) := by decide +kernel
theorem dL_law_901 : decode cL_law 901 = .ok (.iconst 1, 1) := by decide +kernel
theorem dL_law_902 : decode cL_law 902 = .ok (.iadd, 1) := by decide +kernel
theorem dL_law_903 : decode cL_law 903 = .ok (.iaload, 1) := by decide +kernel
theorem dL_law_904 : decode cL_law 904 = .ok (.invokevirtual 142, 3) := by decide +kernel
theorem dL_law_907 : decode cL_law 907 = .ok (.istore 7, 2) := by decide +kernel
theorem dL_law_909 : decode cL_law 909 = .ok (.aload_n 2, 1) := by decide +kernel
theorem dL_law_910 : decode cL_law 910 = .ok (.invokevirtual 88, 3) := by decide +kernel
theorem dL_law_913 : decode cL_law 913 = .ok (.iload 6, 2) := by decide +kernel
theorem dL_law_915 : decode cL_law 915 = .ok (.if_icmp .eq 5, 3) := by decide +kernel
theorem dL_law_918 : decode cL_law 918 = .ok (.iconst 0, 1) := by decide +kernel
theorem dL_law_919 : decode cL_law 919 = .ok (.ireturn, 1) := by decide +kernel
theorem dL_law_920 : decode cL_law 920 = .ok (.iload 6, 2) := by decide +kernel
theorem dL_law_922 : decode cL_law 922 = .ok (.ifCond .ne 15, 3) := by decide +kernel
theorem dL_law_925 : decode cL_law 925 = .ok (.aload_n 3, 1) := by decide +kernel
theorem dL_law_926 : decode cL_law 926 = .ok (.iconst 0, 1) := by decide +kernel
theorem dL_law_927 : decode cL_law 927 = .ok (.laload, 1) := by decide +kernel
theorem dL_law_928 : decode cL_law 928 = .ok (.iload 7, 2) := by decide +kernel
theorem dL_law_930 : decode cL_law 930 = .ok (.i2l, 1) := by decide +kernel
theorem dL_law_931 : decode cL_law 931 = .ok (.lcmp, 1) := by decide +kernel
theorem dL_law_932 : decode cL_law 932 = .ok (.ifCond .eq 5, 3) := by decide +kernel
theorem dL_law_935 : decode cL_law 935 = .ok (.iconst 0, 1) := by decide +kernel
theorem dL_law_936 : decode cL_law 936 = .ok (.ireturn, 1) := by decide +kernel
theorem dL_law_937 : decode cL_law 937 = .ok (.goto 666, 3) := by decide +kernel
theorem dL_law_940 : decode cL_law 940 = .ok (.aload_n 1, 1) := by decide +kernel
theorem dL_law_941 : decode cL_law 941 = .ok (.aload_n 0, 1) := by decide +kernel
theorem dL_law_942 : decode cL_law 942 = .ok (.iload 5, 2) := by decide +kernel
theorem dL_law_944 : decode cL_law 944 = .ok (.iconst 1, 1) := by decide +kernel
theorem dL_law_945 : decode cL_law 945 = .ok (.iadd, 1) := by decide +kernel
theorem dL_law_946 : decode cL_law 946 = .ok (.iaload, 1) := by decide +kernel
theorem dL_law_947 : decode cL_law 947 = .ok (.aload_n 3, 1) := by decide +kernel
theorem dL_law_948 : decode cL_law 948 = .ok (.invokestatic 143, 3) := by decide +kernel
theorem dL_law_951 : decode cL_law 951 = .ok (.istore 6, 2) := by decide +kernel
theorem dL_law_953 : decode cL_law 953 = .ok (.aload_n 2, 1) := by decide +kernel
theorem dL_law_954 : decode cL_law 954 = .ok (.aload_n 0, 1) := by decide +kernel
theorem dL_law_955 : decode cL_law 955 = .ok (.iload 5, 2) := by decide +kernel
theorem dL_law_957 : decode cL_law 957 = .ok (.iconst 1, 1) := by decide +kernel
theorem dL_law_958 : decode cL_law 958 = .ok (.iadd, 1) := by decide +kernel
theorem dL_law_959 : decode cL_law 959 = .ok (.iaload, 1) := by decide +kernel
theorem dL_law_960 : decode cL_law 960 = .ok (.invokevirtual 145, 3) := by decide +kernel
theorem dL_law_963 : decode cL_law 963 = .ok (.istore 7, 2) := by decide +kernel
theorem dL_law_965 : decode cL_law 965 = .ok (.aload_n 2, 1) := by decide +kernel
theorem dL_law_966 : decode cL_law 966 = .ok (.invokevirtual 88, 3) := by decide +kernel
theorem dL_law_969 : decode cL_law 969 = .ok (.iload 6, 2) := by decide +kernel
theorem dL_law_971 : decode cL_law 971 = .ok (.if_icmp .eq 5, 3) := by decide +kernel
theorem dL_law_974 : decode cL_law 974 = .ok (.iconst 0, 1) := by decide +kernel
theorem dL_law_975 : decode cL_law 975 = .ok (.ireturn, 1) := by decide +kernel
theorem dL_law_976 : decode cL_law 976 = .ok (.iload 6, 2) := by decide +kernel
theorem dL_law_978 : decode cL_law 978 = .ok (.ifCond .ne 15, 3) := by decide +kernel
theorem dL_law_981 : decode cL_law 981 = .ok (.aload_n 3, 1) := by decide +kernel
theorem dL_law_982 : decode cL_law 982 = .ok (.iconst 0, 1) := by decide +kernel
theorem dL_law_983 : decode cL_law 983 = .ok (.laload, 1) := by decide +kernel
theorem dL_law_984 : decode cL_law 984 = .ok (.iload 7, 2) := by decide +kernel
theorem dL_law_986 : decode cL_law 986 = .ok (.i2l, 1) := by decide +kernel
theorem dL_law_987 : decode cL_law 987 = .ok (.lcmp, 1) := by decide +kernel
theorem dL_law_988 : decode cL_law 988 = .ok (.ifCond .eq 5, 3) := by decide +kernel
theorem dL_law_991 : decode cL_law 991 = .ok (.iconst 0, 1) := by decide +kernel
theorem dL_law_992 : decode cL_law 992 = .ok (.ireturn, 1) := by decide +kernel
theorem dL_law_993 : decode cL_law 993 = .ok (.goto 610, 3) := by decide +kernel
theorem dL_law_996 : decode cL_law 996 = .ok (.aload_n 1, 1) := by decide +kernel
theorem dL_law_997 : decode cL_law 997 = .ok (.invokevirtual 146, 3) := by decide +kernel
theorem dL_law_1000 : decode cL_law 1000 = .ok (.aload_n 2, 1) := by decide +kernel
theorem dL_law_1001 : decode cL_law 1001 = .ok (.invokevirtual 149, 3) := by decide +kernel
theorem dL_law_1004 : decode cL_law 1004 = .ok (.if_icmp .eq 599, 3) := by decide +kernel
theorem dL_law_1007 : decode cL_law 1007 = .ok (.iconst 0, 1) := by decide +kernel
theorem dL_law_1008 : decode cL_law 1008 = .ok (.ireturn, 1) := by decide +kernel
theorem dL_law_1009 : decode cL_law 1009 = .ok (.aload_n 1, 1) := by decide +kernel
theorem dL_law_1010 : decode cL_law 1010 = .ok (.aload_n 0, 1) := by decide +kernel
theorem dL_law_1011 : decode cL_law 1011 = .ok (.iload 5, 2) := by decide +kernel
theorem dL_law_1013 : decode cL_law 1013 = .ok (.iconst 1, 1) := by decide +kernel
theorem dL_law_1014 : decode cL_law 1014 = .ok (.iadd, 1) := by decide +kernel
theorem dL_law_1015 : decode cL_law 1015 = .ok (.iaload, 1) := by decide +kernel
theorem dL_law_1016 : decode cL_law 1016 = .ok (.aload_n 3, 1) := by decide +kernel
theorem dL_law_1017 : decode cL_law 1017 = .ok (.invokestatic 150, 3) := by decide +kernel
theorem dL_law_1020 : decode cL_law 1020 = .ok (.istore 6, 2) := by decide +kernel
theorem dL_law_1022 : decode cL_law 1022 = .ok (.aload_n 2, 1) := by decide +kernel
theorem dL_law_1023 : decode cL_law 1023 = .ok (.aload_n 0, 1) := by decide +kernel
theorem dL_law_1024 : decode cL_law 1024 = .ok (.iload 5, 2) := by decide +kernel
theorem dL_law_1026 : decode cL_law 1026 = .ok (.iconst 1, 1) := by decide +kernel
theorem dL_law_1027 : decode cL_law 1027 = .ok (.iadd, 1) := by decide +kernel
theorem dL_law_1028 : decode cL_law 1028 = .ok (.iaload, 1) := by decide +kernel
theorem dL_law_1029 : decode cL_law 1029 = .ok (.invokevirtual 152, 3) := by decide +kernel
theorem dL_law_1032 : decode cL_law 1032 = .ok (.istore 7, 2) := by decide +kernel
theorem dL_law_1034 : decode cL_law 1034 = .ok (.aload_n 2, 1) := by decide +kernel
theorem dL_law_1035 : decode cL_law 1035 = .ok (.invokevirtual 88, 3) := by decide +kernel
theorem dL_law_1038 : decode cL_law 1038 = .ok (.iload 6, 2) := by decide +kernel
theorem dL_law_1040 : decode cL_law 1040 = .ok (.if_icmp .eq 5, 3) := by decide +kernel
theorem dL_law_1043 : decode cL_law 1043 = .ok (.iconst 0, 1) := by decide +kernel
theorem dL_law_1044 : decode cL_law 1044 = .ok (.ireturn, 1) := by decide +kernel
theorem dL_law_1045 : decode cL_law 1045 = .ok (.iload 6, 2) := by decide +kernel
theorem dL_law_1047 : decode cL_law 1047 = .ok (.ifCond .ne 15, 3) := by decide +kernel
theorem dL_law_1050 : decode cL_law 1050 = .ok (.aload_n 3, 1) := by decide +kernel
theorem dL_law_1051 : decode cL_law 1051 = .ok (.iconst 0, 1) := by decide +kernel
theorem dL_law_1052 : decode cL_law 1052 = .ok (.laload, 1) := by decide +kernel
theorem dL_law_1053 : decode cL_law 1053 = .ok (.iload 7, 2) := by decide +kernel
theorem dL_law_1055 : decode cL_law 1055 = .ok (.i2l, 1) := by decide +kernel
theorem dL_law_1056 : decode cL_law 1056 = .ok (.lcmp, 1) := by decide +kernel
theorem dL_law_1057 : decode cL_law 1057 = .ok (.ifCond .eq 5, 3) := by decide +kernel
theorem dL_law_1060 : decode cL_law 1060 = .ok (.iconst 0, 1) := by decide +kernel
theorem dL_law_1061 : decode cL_law 1061 = .ok (.ireturn, 1) := by decide +kernel
theorem dL_law_1062 : decode cL_law 1062 = .ok (.goto 541, 3) := by decide +kernel
theorem dL_law_1065 : decode cL_law 1065 = .ok (.aload_n 1, 1) := by decide +kernel
theorem dL_law_1066 : decode cL_law 1066 = .ok (.aload_n 0, 1) := by decide +kernel
theorem dL_law_1067 : decode cL_law 1067 = .ok (.iload 5, 2) := by decide +kernel
theorem dL_law_1069 : decode cL_law 1069 = .ok (.iconst 1, 1) := by decide +kernel
theorem dL_law_1070 : decode cL_law 1070 = .ok (.iadd, 1) := by decide +kernel
theorem dL_law_1071 : decode cL_law 1071 = .ok (.iaload, 1) := by decide +kernel
theorem dL_law_1072 : decode cL_law 1072 = .ok (.aload_n 3, 1) := by decide +kernel
theorem dL_law_1073 : decode cL_law 1073 = .ok (.invokestatic 153, 3) := by decide +kernel
theorem dL_law_1076 : decode cL_law 1076 = .ok (.istore 6, 2) := by decide +kernel
theorem dL_law_1078 : decode cL_law 1078 = .ok (.aload_n 2, 1) := by decide +kernel
theorem dL_law_1079 : decode cL_law 1079 = .ok (.aload_n 0, 1) := by decide +kernel
theorem dL_law_1080 : decode cL_law 1080 = .ok (.iload 5, 2) := by decide +kernel
theorem dL_law_1082 : decode cL_law 1082 = .ok (.iconst 1, 1) := by decide +kernel
theorem dL_law_1083 : decode cL_law 1083 = .ok (.iadd, 1) := by decide +kernel
theorem dL_law_1084 : decode cL_law 1084 = .ok (.iaload, 1) := by decide +kernel
theorem dL_law_1085 : decode cL_law 1085 = .ok (.invokevirtual 155, 3) := by decide +kernel
theorem dL_law_1088 : decode cL_law 1088 = .ok (.istore 7, 2) := by decide +kernel
theorem dL_law_1090 : decode cL_law 1090 = .ok (.aload_n 2, 1) := by decide +kernel
theorem dL_law_1091 : decode cL_law 1091 = .ok (.invokevirtual 88, 3) := by decide +kernel
theorem dL_law_1094 : decode cL_law 1094 = .ok (.iload 6, 2) := by decide +kernel
theorem dL_law_1096 : decode cL_law 1096 = .ok (.if_icmp .eq 5, 3) := by decide +kernel
theorem dL_law_1099 : decode cL_law 1099 = .ok (.iconst 0, 1) := by decide +kernel
theorem dL_law_1100 : decode cL_law 1100 = .ok (.ireturn, 1) := by decide +kernel
theorem dL_law_1101 : decode cL_law 1101 = .ok (.iload 6, 2) := by decide +kernel
theorem dL_law_1103 : decode cL_law 1103 = .ok (.ifCond .ne 15, 3) := by decide +kernel
theorem dL_law_1106 : decode cL_law 1106 = .ok (.aload_n 3, 1) := by decide +kernel
theorem dL_law_1107 : decode cL_law 1107 = .ok (.iconst 0, 1) := by decide +kernel
theorem dL_law_1108 : decode cL_law 1108 = .ok (.laload, 1) := by decide +kernel
theorem dL_law_1109 : decode cL_law 1109 = .ok (.iload 7, 2) := by decide +kernel
theorem dL_law_1111 : decode cL_law 1111 = .ok (.i2l, 1) := by decide +kernel
theorem dL_law_1112 : decode cL_law 1112 = .ok (.lcmp, 1) := by decide +kernel
theorem dL_law_1113 : decode cL_law 1113 = .ok (.ifCond .eq 5, 3) := by decide +kernel
theorem dL_law_1116 : decode cL_law 1116 = .ok (.iconst 0, 1) := by decide +kernel
theorem dL_law_1117 : decode cL_law 1117 = .ok (.ireturn, 1) := by decide +kernel
theorem dL_law_1118 : decode cL_law 1118 = .ok (.goto 485, 3) := by decide +kernel
theorem dL_law_1121 : decode cL_law 1121 = .ok (.aload_n 1, 1) := by decide +kernel
theorem dL_law_1122 : decode cL_law 1122 = .ok (.invokevirtual 156, 3) := by decide +kernel
theorem dL_law_1125 : decode cL_law 1125 = .ok (.aload_n 2, 1) := by decide +kernel
theorem dL_law_1126 : decode cL_law 1126 = .ok (.invokevirtual 159, 3) := by decide +kernel
theorem dL_law_1129 : decode cL_law 1129 = .ok (.if_icmp .eq 474, 3) := by decide +kernel
theorem dL_law_1132 : decode cL_law 1132 = .ok (.iconst 0, 1) := by decide +kernel
theorem dL_law_1133 : decode cL_law 1133 = .ok (.ireturn, 1) := by decide +kernel
theorem dL_law_1134 : decode cL_law 1134 = .ok (.aload_n 1, 1) := by decide +kernel
theorem dL_law_1135 : decode cL_law 1135 = .ok (.invokevirtual 160, 3) := by decide +kernel
theorem dL_law_1138 : decode cL_law 1138 = .ok (.aload_n 2, 1) := by decide +kernel
theorem dL_law_1139 : decode cL_law 1139 = .ok (.invokevirtual 163, 3) := by decide +kernel
theorem dL_law_1142 : decode cL_law 1142 = .ok (.if_icmp .eq 461, 3) := by decide +kernel
theorem dL_law_1145 : decode cL_law 1145 = .ok (.iconst 0, 1) := by decide +kernel
theorem dL_law_1146 : decode cL_law 1146 = .ok (.ireturn, 1) := by decide +kernel
theorem dL_law_1147 : decode cL_law 1147 = .ok (.aload_n 1, 1) := by decide +kernel
theorem dL_law_1148 : decode cL_law 1148 = .ok (.invokevirtual 164, 3) := by decide +kernel
theorem dL_law_1151 : decode cL_law 1151 = .ok (.aload_n 2, 1) := by decide +kernel
theorem dL_law_1152 : decode cL_law 1152 = .ok (.invokevirtual 167, 3) := by decide +kernel
theorem dL_law_1155 : decode cL_law 1155 = .ok (.if_icmp .eq 448, 3) := by decide +kernel
theorem dL_law_1158 : decode cL_law 1158 = .ok (.iconst 0, 1) := by decide +kernel
theorem dL_law_1159 : decode cL_law 1159 = .ok (.ireturn, 1) := by decide +kernel
theorem dL_law_1160 : decode cL_law 1160 = .ok (.aload_n 1, 1) := by decide +kernel
theorem dL_law_1161 : decode cL_law 1161 = .ok (.aload_n 0, 1) := by decide +kernel
theorem dL_law_1162 : decode cL_law 1162 = .ok (.iload 5, 2) := by decide +kernel
theorem dL_law_1164 : decode cL_law 1164 = .ok (.iconst 1, 1) := by decide +kernel
theorem dL_law_1165 : decode cL_law 1165 = .ok (.iadd, 1) := by decide +kernel
theorem dL_law_1166 : decode cL_law 1166 = .ok (.iaload, 1) := by decide +kernel
theorem dL_law_1167 : decode cL_law 1167 = .ok (.aload_n 3, 1) := by decide +kernel
theorem dL_law_1168 : decode cL_law 1168 = .ok (.invokestatic 168, 3) := by decide +kernel
theorem dL_law_1171 : decode cL_law 1171 = .ok (.istore 6, 2) := by decide +kernel
theorem dL_law_1173 : decode cL_law 1173 = .ok (.aload_n 2, 1) := by decide +kernel
theorem dL_law_1174 : decode cL_law 1174 = .ok (.aload_n 0, 1) := by decide +kernel
theorem dL_law_1175 : decode cL_law 1175 = .ok (.iload 5, 2) := by decide +kernel
theorem dL_law_1177 : decode cL_law 1177 = .ok (.iconst 1, 1) := by decide +kernel
theorem dL_law_1178 : decode cL_law 1178 = .ok (.iadd, 1) := by decide +kernel
theorem dL_law_1179 : decode cL_law 1179 = .ok (.iaload, 1) := by decide +kernel
theorem dL_law_1180 : decode cL_law 1180 = .ok (.invokevirtual 170, 3) := by decide +kernel
theorem dL_law_1183 : decode cL_law 1183 = .ok (.istore 7, 2) := by decide +kernel
theorem dL_law_1185 : decode cL_law 1185 = .ok (.aload_n 2, 1) := by decide +kernel
theorem dL_law_1186 : decode cL_law 1186 = .ok (.invokevirtual 88, 3) := by decide +kernel
theorem dL_law_1189 : decode cL_law 1189 = .ok (.iload 6, 2) := by decide +kernel
theorem dL_law_1191 : decode cL_law 1191 = .ok (.if_icmp .eq 5, 3) := by decide +kernel
theorem dL_law_1194 : decode cL_law 1194 = .ok (.iconst 0, 1) := by decide +kernel
theorem dL_law_1195 : decode cL_law 1195 = .ok (.ireturn, 1) := by decide +kernel
theorem dL_law_1196 : decode cL_law 1196 = .ok (.iload 6, 2) := by decide +kernel
theorem dL_law_1198 : decode cL_law 1198 = .ok (.ifCond .ne 15, 3) := by decide +kernel
theorem dL_law_1201 : decode cL_law 1201 = .ok (.aload_n 3, 1) := by decide +kernel
theorem dL_law_1202 : decode cL_law 1202 = .ok (.iconst 0, 1) := by decide +kernel
theorem dL_law_1203 : decode cL_law 1203 = .ok (.laload, 1) := by decide +kernel
theorem dL_law_1204 : decode cL_law 1204 = .ok (.iload 7, 2) := by decide +kernel
theorem dL_law_1206 : decode cL_law 1206 = .ok (.i2l, 1) := by decide +kernel
theorem dL_law_1207 : decode cL_law 1207 = .ok (.lcmp, 1) := by decide +kernel
theorem dL_law_1208 : decode cL_law 1208 = .ok (.ifCond .eq 5, 3) := by decide +kernel
theorem dL_law_1211 : decode cL_law 1211 = .ok (.iconst 0, 1) := by decide +kernel
theorem dL_law_1212 : decode cL_law 1212 = .ok (.ireturn, 1) := by decide +kernel
theorem dL_law_1213 : decode cL_law 1213 = .ok (.goto 390, 3) := by decide +kernel
theorem dL_law_1216 : decode cL_law 1216 = .ok (.aload_n 1, 1) := by decide +kernel
theorem dL_law_1217 : decode cL_law 1217 = .ok (.invokevirtual 171, 3) := by decide +kernel
theorem dL_law_1220 : decode cL_law 1220 = .ok (.aload_n 2, 1) := by decide +kernel
theorem dL_law_1221 : decode cL_law 1221 = .ok (.invokevirtual 174, 3) := by decide +kernel
theorem dL_law_1224 : decode cL_law 1224 = .ok (.if_icmp .eq 379, 3) := by decide +kernel
theorem dL_law_1227 : decode cL_law 1227 = .ok (.iconst 0, 1) := by decide +kernel
theorem dL_law_1228 : decode cL_law 1228 = .ok (.ireturn, 1) := by decide +kernel
theorem dL_law_1229 : decode cL_law 1229 = .ok (.aload_n 1, 1) := by decide +kernel
theorem dL_law_1230 : decode cL_law 1230 = .ok (.invokevirtual 175, 3) := by decide +kernel
theorem dL_law_1233 : decode cL_law 1233 = .ok (.aload_n 2, 1) := by decide +kernel
theorem dL_law_1234 : decode cL_law 1234 = .ok (.invokevirtual 178, 3) := by decide +kernel
theorem dL_law_1237 : decode cL_law 1237 = .ok (.if_icmp .eq 366, 3) := by decide +kernel
theorem dL_law_1240 : decode cL_law 1240 = .ok (.iconst 0, 1) := by decide +kernel
theorem dL_law_1241 : decode cL_law 1241 = .ok (.ireturn, 1) := by decide +kernel
theorem dL_law_1242 : decode cL_law 1242 = .ok (.aload_n 1, 1) := by decide +kernel
theorem dL_law_1243 : decode cL_law 1243 = .ok (.aload_n 0, 1) := by decide +kernel
theorem dL_law_1244 : decode cL_law 1244 = .ok (.iload 5, 2) := by decide +kernel
theorem dL_law_1246 : decode cL_law 1246 = .ok (.iconst 1, 1) := by decide +kernel
theorem dL_law_1247 : decode cL_law 1247 = .ok (.iadd, 1) := by decide +kernel
theorem dL_law_1248 : decode cL_law 1248 = .ok (.iaload, 1) := by decide +kernel
theorem dL_law_1249 : decode cL_law 1249 = .ok (.aload_n 0, 1) := by decide +kernel
theorem dL_law_1250 : decode cL_law 1250 = .ok (.iload 5, 2) := by decide +kernel
theorem dL_law_1252 : decode cL_law 1252 = .ok (.iconst 2, 1) := by decide +kernel
theorem dL_law_1253 : decode cL_law 1253 = .ok (.iadd, 1) := by decide +kernel
theorem dL_law_1254 : decode cL_law 1254 = .ok (.iaload, 1) := by decide +kernel
theorem dL_law_1255 : decode cL_law 1255 = .ok (.aload_n 3, 1) := by decide +kernel
theorem dL_law_1256 : decode cL_law 1256 = .ok (.invokestatic 179, 3) := by decide +kernel
theorem dL_law_1259 : decode cL_law 1259 = .ok (.istore 6, 2) := by decide +kernel
theorem dL_law_1261 : decode cL_law 1261 = .ok (.aload_n 2, 1) := by decide +kernel
theorem dL_law_1262 : decode cL_law 1262 = .ok (.aload_n 0, 1) := by decide +kernel
theorem dL_law_1263 : decode cL_law 1263 = .ok (.iload 5, 2) := by decide +kernel
theorem dL_law_1265 : decode cL_law 1265 = .ok (.iconst 1, 1) := by decide +kernel
theorem dL_law_1266 : decode cL_law 1266 = .ok (.iadd, 1) := by decide +kernel
theorem dL_law_1267 : decode cL_law 1267 = .ok (.iaload, 1) := by decide +kernel
theorem dL_law_1268 : decode cL_law 1268 = .ok (.aload_n 0, 1) := by decide +kernel
theorem dL_law_1269 : decode cL_law 1269 = .ok (.iload 5, 2) := by decide +kernel
theorem dL_law_1271 : decode cL_law 1271 = .ok (.iconst 2, 1) := by decide +kernel
theorem dL_law_1272 : decode cL_law 1272 = .ok (.iadd, 1) := by decide +kernel
theorem dL_law_1273 : decode cL_law 1273 = .ok (.iaload, 1) := by decide +kernel
theorem dL_law_1274 : decode cL_law 1274 = .ok (.invokevirtual 181, 3) := by decide +kernel
theorem dL_law_1277 : decode cL_law 1277 = .ok (.istore 7, 2) := by decide +kernel
theorem dL_law_1279 : decode cL_law 1279 = .ok (.aload_n 2, 1) := by decide +kernel
theorem dL_law_1280 : decode cL_law 1280 = .ok (.invokevirtual 88, 3) := by decide +kernel
theorem dL_law_1283 : decode cL_law 1283 = .ok (.iload 6, 2) := by decide +kernel
theorem dL_law_1285 : decode cL_law 1285 = .ok (.if_icmp .eq 5, 3) := by decide +kernel
theorem dL_law_1288 : decode cL_law 1288 = .ok (.iconst 0, 1) := by decide +kernel
theorem dL_law_1289 : decode cL_law 1289 = .ok (.ireturn, 1) := by decide +kernel
theorem dL_law_1290 : decode cL_law 1290 = .ok (.iload 6, 2) := by decide +kernel
theorem dL_law_1292 : decode cL_law 1292 = .ok (.ifCond .ne 15, 3) := by decide +kernel
theorem dL_law_1295 : decode cL_law 1295 = .ok (.aload_n 3, 1) := by decide +kernel
theorem dL_law_1296 : decode cL_law 1296 = .ok (.iconst 0, 1) := by decide +kernel
theorem dL_law_1297 : decode cL_law 1297 = .ok (.laload, 1) := by decide +kernel
theorem dL_law_1298 : decode cL_law 1298 = .ok (.iload 7, 2) := by decide +kernel
theorem dL_law_1300 : decode cL_law 1300 = .ok (.i2l, 1) := by decide +kernel
theorem dL_law_1301 : decode cL_law 1301 = .ok (.lcmp, 1) := by decide +kernel
theorem dL_law_1302 : decode cL_law 1302 = .ok (.ifCond .eq 5, 3) := by decide +kernel
theorem dL_law_1305 : decode cL_law 1305 = .ok (.iconst 0, 1) := by decide +kernel
theorem dL_law_1306 : decode cL_law 1306 = .ok (.ireturn, 1) := by decide +kernel
theorem dL_law_1307 : decode cL_law 1307 = .ok (.goto 296, 3) := by decide +kernel
theorem dL_law_1310 : decode cL_law 1310 = .ok (.aload_n 1, 1) := by decide +kernel
theorem dL_law_1311 : decode cL_law 1311 = .ok (.aload_n 0, 1) := by decide +kernel
theorem dL_law_1312 : decode cL_law 1312 = .ok (.iload 5, 2) := by decide +kernel
theorem dL_law_1314 : decode cL_law 1314 = .ok (.iconst 1, 1) := by decide +kernel
theorem dL_law_1315 : decode cL_law 1315 = .ok (.iadd, 1) := by decide +kernel
theorem dL_law_1316 : decode cL_law 1316 = .ok (.iaload, 1) := by decide +kernel
theorem dL_law_1317 : decode cL_law 1317 = .ok (.aload_n 3, 1) := by decide +kernel
theorem dL_law_1318 : decode cL_law 1318 = .ok (.invokestatic 182, 3) := by decide +kernel
theorem dL_law_1321 : decode cL_law 1321 = .ok (.istore 6, 2) := by decide +kernel
theorem dL_law_1323 : decode cL_law 1323 = .ok (.aload_n 2, 1) := by decide +kernel
theorem dL_law_1324 : decode cL_law 1324 = .ok (.aload_n 0, 1) := by decide +kernel
theorem dL_law_1325 : decode cL_law 1325 = .ok (.iload 5, 2) := by decide +kernel
theorem dL_law_1327 : decode cL_law 1327 = .ok (.iconst 1, 1) := by decide +kernel
theorem dL_law_1328 : decode cL_law 1328 = .ok (.iadd, 1) := by decide +kernel
theorem dL_law_1329 : decode cL_law 1329 = .ok (.iaload, 1) := by decide +kernel
theorem dL_law_1330 : decode cL_law 1330 = .ok (.invokevirtual 184, 3) := by decide +kernel
theorem dL_law_1333 : decode cL_law 1333 = .ok (.istore 7, 2) := by decide +kernel
theorem dL_law_1335 : decode cL_law 1335 = .ok (.aload_n 2, 1) := by decide +kernel
theorem dL_law_1336 : decode cL_law 1336 = .ok (.invokevirtual 88, 3) := by decide +kernel
theorem dL_law_1339 : decode cL_law 1339 = .ok (.iload 6, 2) := by decide +kernel
theorem dL_law_1341 : decode cL_law 1341 = .ok (.if_icmp .eq 5, 3) := by decide +kernel
theorem dL_law_1344 : decode cL_law 1344 = .ok (.iconst 0, 1) := by decide +kernel
theorem dL_law_1345 : decode cL_law 1345 = .ok (.ireturn, 1) := by decide +kernel
theorem dL_law_1346 : decode cL_law 1346 = .ok (.iload 6, 2) := by decide +kernel
theorem dL_law_1348 : decode cL_law 1348 = .ok (.ifCond .ne 15, 3) := by decide +kernel
theorem dL_law_1351 : decode cL_law 1351 = .ok (.aload_n 3, 1) := by decide +kernel
theorem dL_law_1352 : decode cL_law 1352 = .ok (.iconst 0, 1) := by decide +kernel
theorem dL_law_1353 : decode cL_law 1353 = .ok (.laload, 1) := by decide +kernel
theorem dL_law_1354 : decode cL_law 1354 = .ok (.iload 7, 2) := by decide +kernel
theorem dL_law_1356 : decode cL_law 1356 = .ok (.i2l, 1) := by decide +kernel
theorem dL_law_1357 : decode cL_law 1357 = .ok (.lcmp, 1) := by decide +kernel
theorem dL_law_1358 : decode cL_law 1358 = .ok (.ifCond .eq 5, 3) := by decide +kernel
theorem dL_law_1361 : decode cL_law 1361 = .ok (.iconst 0, 1) := by decide +kernel
theorem dL_law_1362 : decode cL_law 1362 = .ok (.ireturn, 1) := by decide +kernel
theorem dL_law_1363 : decode cL_law 1363 = .ok (.goto 240, 3) := by decide +kernel
theorem dL_law_1366 : decode cL_law 1366 = .ok (.aload_n 1, 1) := by decide +kernel
theorem dL_law_1367 : decode cL_law 1367 = .ok (.aload_n 0, 1) := by decide +kernel
theorem dL_law_1368 : decode cL_law 1368 = .ok (.iload 5, 2) := by decide +kernel
theorem dL_law_1370 : decode cL_law 1370 = .ok (.iconst 1, 1) := by decide +kernel
theorem dL_law_1371 : decode cL_law 1371 = .ok (.iadd, 1) := by decide +kernel
theorem dL_law_1372 : decode cL_law 1372 = .ok (.iaload, 1) := by decide +kernel
theorem dL_law_1373 : decode cL_law 1373 = .ok (.aload_n 3, 1) := by decide +kernel
theorem dL_law_1374 : decode cL_law 1374 = .ok (.invokestatic 185, 3) := by decide +kernel
theorem dL_law_1377 : decode cL_law 1377 = .ok (.istore 6, 2) := by decide +kernel
theorem dL_law_1379 : decode cL_law 1379 = .ok (.aload_n 2, 1) := by decide +kernel
theorem dL_law_1380 : decode cL_law 1380 = .ok (.aload_n 0, 1) := by decide +kernel
theorem dL_law_1381 : decode cL_law 1381 = .ok (.iload 5, 2) := by decide +kernel
theorem dL_law_1383 : decode cL_law 1383 = .ok (.iconst 1, 1) := by decide +kernel
theorem dL_law_1384 : decode cL_law 1384 = .ok (.iadd, 1) := by decide +kernel
theorem dL_law_1385 : decode cL_law 1385 = .ok (.iaload, 1) := by decide +kernel
theorem dL_law_1386 : decode cL_law 1386 = .ok (.invokevirtual 187, 3) := by decide +kernel
theorem dL_law_1389 : decode cL_law 1389 = .ok (.istore 7, 2) := by decide +kernel
theorem dL_law_1391 : decode cL_law 1391 = .ok (.aload_n 2, 1) := by decide +kernel
theorem dL_law_1392 : decode cL_law 1392 = .ok (.invokevirtual 88, 3) := by decide +kernel
theorem dL_law_1395 : decode cL_law 1395 = .ok (.iload 6, 2) := by decide +kernel
theorem dL_law_1397 : decode cL_law 1397 = .ok (.if_icmp .eq 5, 3) := by decide +kernel
theorem dL_law_1400 : decode cL_law 1400 = .ok (.iconst 0, 1) := by decide +kernel
theorem dL_law_1401 : decode cL_law 1401 = .ok (.ireturn, 1) := by decide +kernel
theorem dL_law_1402 : decode cL_law 1402 = .ok (.iload 6, 2) := by decide +kernel
theorem dL_law_1404 : decode cL_law 1404 = .ok (.ifCond .ne 22, 3) := by decide +kernel
theorem dL_law_1407 : decode cL_law 1407 = .ok (.aload_n 3, 1) := by decide +kernel
theorem dL_law_1408 : decode cL_law 1408 = .ok (.iconst 0, 1) := by decide +kernel
theorem dL_law_1409 : decode cL_law 1409 = .ok (.laload, 1) := by decide +kernel
theorem dL_law_1410 : decode cL_law 1410 = .ok (.iload 7, 2) := by decide +kernel
theorem dL_law_1412 : decode cL_law 1412 = .ok (.ifCond .eq 7, 3) := by decide +kernel
theorem dL_law_1415 : decode cL_law 1415 = .ok (.lconst 1, 1) := by decide +kernel
theorem dL_law_1416 : decode cL_law 1416 = .ok (.goto 4, 3) := by decide +kernel
theorem dL_law_1419 : decode cL_law 1419 = .ok (.lconst 0, 1) := by decide +kernel
theorem dL_law_1420 : decode cL_law 1420 = .ok (.lcmp, 1) := by decide +kernel
theorem dL_law_1421 : decode cL_law 1421 = .ok (.ifCond .eq 5, 3) := by decide +kernel
theorem dL_law_1424 : decode cL_law 1424 = .ok (.iconst 0, 1) := by decide +kernel
theorem dL_law_1425 : decode cL_law 1425 = .ok (.ireturn, 1) := by decide +kernel
theorem dL_law_1426 : decode cL_law 1426 = .ok (.goto 177, 3) := by decide +kernel
theorem dL_law_1429 : decode cL_law 1429 = .ok (.aload_n 1, 1) := by decide +kernel
theorem dL_law_1430 : decode cL_law 1430 = .ok (.aload_n 0, 1) := by decide +kernel
theorem dL_law_1431 : decode cL_law 1431 = .ok (.iload 5, 2) := by decide +kernel
theorem dL_law_1433 : decode cL_law 1433 = .ok (.iconst 1, 1) := by decide +kernel
theorem dL_law_1434 : decode cL_law 1434 = .ok (.iadd, 1) := by decide +kernel
theorem dL_law_1435 : decode cL_law 1435 = .ok (.iaload, 1) := by decide +kernel
theorem dL_law_1436 : decode cL_law 1436 = .ok (.aload_n 0, 1) := by decide +kernel
theorem dL_law_1437 : decode cL_law 1437 = .ok (.iload 5, 2) := by decide +kernel
theorem dL_law_1439 : decode cL_law 1439 = .ok (.iconst 2, 1) := by decide +kernel
theorem dL_law_1440 : decode cL_law 1440 = .ok (.iadd, 1) := by decide +kernel
theorem dL_law_1441 : decode cL_law 1441 = .ok (.iaload, 1) := by decide +kernel
theorem dL_law_1442 : decode cL_law 1442 = .ok (.aload_n 0, 1) := by decide +kernel
theorem dL_law_1443 : decode cL_law 1443 = .ok (.iload 5, 2) := by decide +kernel
theorem dL_law_1445 : decode cL_law 1445 = .ok (.iconst 3, 1) := by decide +kernel
theorem dL_law_1446 : decode cL_law 1446 = .ok (.iadd, 1) := by decide +kernel
theorem dL_law_1447 : decode cL_law 1447 = .ok (.iaload, 1) := by decide +kernel
theorem dL_law_1448 : decode cL_law 1448 = .ok (.aload_n 3, 1) := by decide +kernel
theorem dL_law_1449 : decode cL_law 1449 = .ok (.invokestatic 188, 3) := by decide +kernel
theorem dL_law_1452 : decode cL_law 1452 = .ok (.istore 6, 2) := by decide +kernel
theorem dL_law_1454 : decode cL_law 1454 = .ok (.aload_n 2, 1) := by decide +kernel
theorem dL_law_1455 : decode cL_law 1455 = .ok (.aload_n 0, 1) := by decide +kernel
theorem dL_law_1456 : decode cL_law 1456 = .ok (.iload 5, 2) := by decide +kernel
theorem dL_law_1458 : decode cL_law 1458 = .ok (.iconst 1, 1) := by decide +kernel
theorem dL_law_1459 : decode cL_law 1459 = .ok (.iadd, 1) := by decide +kernel
theorem dL_law_1460 : decode cL_law 1460 = .ok (.iaload, 1) := by decide +kernel
theorem dL_law_1461 : decode cL_law 1461 = .ok (.aload_n 0, 1) := by decide +kernel
theorem dL_law_1462 : decode cL_law 1462 = .ok (.iload 5, 2) := by decide +kernel
theorem dL_law_1464 : decode cL_law 1464 = .ok (.iconst 2, 1) := by decide +kernel
theorem dL_law_1465 : decode cL_law 1465 = .ok (.iadd, 1) := by decide +kernel
theorem dL_law_1466 : decode cL_law 1466 = .ok (.iaload, 1) := by decide +kernel
theorem dL_law_1467 : decode cL_law 1467 = .ok (.aload_n 0, 1) := by decide +kernel
theorem dL_law_1468 : decode cL_law 1468 = .ok (.iload 5, 2) := by decide +kernel
theorem dL_law_1470 : decode cL_law 1470 = .ok (.iconst 3, 1) := by decide +kernel
theorem dL_law_1471 : decode cL_law 1471 = .ok (.iadd, 1) := by decide +kernel
theorem dL_law_1472 : decode cL_law 1472 = .ok (.iaload, 1) := by decide +kernel
theorem dL_law_1473 : decode cL_law 1473 = .ok (.invokevirtual 190, 3) := by decide +kernel
theorem dL_law_1476 : decode cL_law 1476 = .ok (.istore 7, 2) := by decide +kernel
theorem dL_law_1478 : decode cL_law 1478 = .ok (.aload_n 2, 1) := by decide +kernel
theorem dL_law_1479 : decode cL_law 1479 = .ok (.invokevirtual 88, 3) := by decide +kernel
theorem dL_law_1482 : decode cL_law 1482 = .ok (.iload 6, 2) := by decide +kernel
theorem dL_law_1484 : decode cL_law 1484 = .ok (.if_icmp .eq 5, 3) := by decide +kernel
theorem dL_law_1487 : decode cL_law 1487 = .ok (.iconst 0, 1) := by decide +kernel
theorem dL_law_1488 : decode cL_law 1488 = .ok (.ireturn, 1) := by decide +kernel
theorem dL_law_1489 : decode cL_law 1489 = .ok (.iload 6, 2) := by decide +kernel
theorem dL_law_1491 : decode cL_law 1491 = .ok (.ifCond .ne 15, 3) := by decide +kernel
theorem dL_law_1494 : decode cL_law 1494 = .ok (.aload_n 3, 1) := by decide +kernel
theorem dL_law_1495 : decode cL_law 1495 = .ok (.iconst 0, 1) := by decide +kernel
theorem dL_law_1496 : decode cL_law 1496 = .ok (.laload, 1) := by decide +kernel
theorem dL_law_1497 : decode cL_law 1497 = .ok (.iload 7, 2) := by decide +kernel
theorem dL_law_1499 : decode cL_law 1499 = .ok (.i2l, 1) := by decide +kernel
theorem dL_law_1500 : decode cL_law 1500 = .ok (.lcmp, 1) := by decide +kernel
theorem dL_law_1501 : decode cL_law 1501 = .ok (.ifCond .eq 5, 3) := by decide +kernel
theorem dL_law_1504 : decode cL_law 1504 = .ok (.iconst 0, 1) := by decide +kernel
theorem dL_law_1505 : decode cL_law 1505 = .ok (.ireturn, 1) := by decide +kernel
theorem dL_law_1506 : decode cL_law 1506 = .ok (.goto 97, 3) := by decide +kernel
theorem dL_law_1509 : decode cL_law 1509 = .ok (.aload_n 1, 1) := by decide +kernel
theorem dL_law_1510 : decode cL_law 1510 = .ok (.aload_n 0, 1) := by decide +kernel
theorem dL_law_1511 : decode cL_law 1511 = .ok (.iload 5, 2) := by decide +kernel
theorem dL_law_1513 : decode cL_law 1513 = .ok (.iconst 1, 1) := by decide +kernel
theorem dL_law_1514 : decode cL_law 1514 = .ok (.iadd, 1) := by decide +kernel
theorem dL_law_1515 : decode cL_law 1515 = .ok (.iaload, 1) := by decide +kernel
theorem dL_law_1516 : decode cL_law 1516 = .ok (.aload_n 0, 1) := by decide +kernel
theorem dL_law_1517 : decode cL_law 1517 = .ok (.iload 5, 2) := by decide +kernel
theorem dL_law_1519 : decode cL_law 1519 = .ok (.iconst 2, 1) := by decide +kernel
theorem dL_law_1520 : decode cL_law 1520 = .ok (.iadd, 1) := by decide +kernel
theorem dL_law_1521 : decode cL_law 1521 = .ok (.iaload, 1) := by decide +kernel
theorem dL_law_1522 : decode cL_law 1522 = .ok (.aload_n 0, 1) := by decide +kernel
theorem dL_law_1523 : decode cL_law 1523 = .ok (.iload 5, 2) := by decide +kernel
theorem dL_law_1525 : decode cL_law 1525 = .ok (.iconst 3, 1) := by decide +kernel
theorem dL_law_1526 : decode cL_law 1526 = .ok (.iadd, 1) := by decide +kernel
theorem dL_law_1527 : decode cL_law 1527 = .ok (.iaload, 1) := by decide +kernel
theorem dL_law_1528 : decode cL_law 1528 = .ok (.aload_n 3, 1) := by decide +kernel
theorem dL_law_1529 : decode cL_law 1529 = .ok (.invokestatic 191, 3) := by decide +kernel
theorem dL_law_1532 : decode cL_law 1532 = .ok (.istore 6, 2) := by decide +kernel
theorem dL_law_1534 : decode cL_law 1534 = .ok (.aload_n 2, 1) := by decide +kernel
theorem dL_law_1535 : decode cL_law 1535 = .ok (.aload_n 0, 1) := by decide +kernel
theorem dL_law_1536 : decode cL_law 1536 = .ok (.iload 5, 2) := by decide +kernel
theorem dL_law_1538 : decode cL_law 1538 = .ok (.iconst 1, 1) := by decide +kernel
theorem dL_law_1539 : decode cL_law 1539 = .ok (.iadd, 1) := by decide +kernel
theorem dL_law_1540 : decode cL_law 1540 = .ok (.iaload, 1) := by decide +kernel
theorem dL_law_1541 : decode cL_law 1541 = .ok (.aload_n 0, 1) := by decide +kernel
theorem dL_law_1542 : decode cL_law 1542 = .ok (.iload 5, 2) := by decide +kernel
theorem dL_law_1544 : decode cL_law 1544 = .ok (.iconst 2, 1) := by decide +kernel
theorem dL_law_1545 : decode cL_law 1545 = .ok (.iadd, 1) := by decide +kernel
theorem dL_law_1546 : decode cL_law 1546 = .ok (.iaload, 1) := by decide +kernel
theorem dL_law_1547 : decode cL_law 1547 = .ok (.aload_n 0, 1) := by decide +kernel
theorem dL_law_1548 : decode cL_law 1548 = .ok (.iload 5, 2) := by decide +kernel
theorem dL_law_1550 : decode cL_law 1550 = .ok (.iconst 3, 1) := by decide +kernel
theorem dL_law_1551 : decode cL_law 1551 = .ok (.iadd, 1) := by decide +kernel
theorem dL_law_1552 : decode cL_law 1552 = .ok (.iaload, 1) := by decide +kernel
theorem dL_law_1553 : decode cL_law 1553 = .ok (.invokevirtual 193, 3) := by decide +kernel
theorem dL_law_1556 : decode cL_law 1556 = .ok (.istore 7, 2) := by decide +kernel
theorem dL_law_1558 : decode cL_law 1558 = .ok (.aload_n 2, 1) := by decide +kernel
theorem dL_law_1559 : decode cL_law 1559 = .ok (.invokevirtual 88, 3) := by decide +kernel
theorem dL_law_1562 : decode cL_law 1562 = .ok (.iload 6, 2) := by decide +kernel
theorem dL_law_1564 : decode cL_law 1564 = .ok (.if_icmp .eq 5, 3) := by decide +kernel
theorem dL_law_1567 : decode cL_law 1567 = .ok (.iconst 0, 1) := by decide +kernel
theorem dL_law_1568 : decode cL_law 1568 = .ok (.ireturn, 1) := by decide +kernel
theorem dL_law_1569 : decode cL_law 1569 = .ok (.iload 6, 2) := by decide +kernel
theorem dL_law_1571 : decode cL_law 1571 = .ok (.ifCond .ne 15, 3) := by decide +kernel
theorem dL_law_1574 : decode cL_law 1574 = .ok (.aload_n 3, 1) := by decide +kernel
theorem dL_law_1575 : decode cL_law 1575 = .ok (.iconst 0, 1) := by decide +kernel
theorem dL_law_1576 : decode cL_law 1576 = .ok (.laload, 1) := by decide +kernel
theorem dL_law_1577 : decode cL_law 1577 = .ok (.iload 7, 2) := by decide +kernel
theorem dL_law_1579 : decode cL_law 1579 = .ok (.i2l, 1) := by decide +kernel
theorem dL_law_1580 : decode cL_law 1580 = .ok (.lcmp, 1) := by decide +kernel
theorem dL_law_1581 : decode cL_law 1581 = .ok (.ifCond .eq 5, 3) := by decide +kernel
theorem dL_law_1584 : decode cL_law 1584 = .ok (.iconst 0, 1) := by decide +kernel
theorem dL_law_1585 : decode cL_law 1585 = .ok (.ireturn, 1) := by decide +kernel
theorem dL_law_1586 : decode cL_law 1586 = .ok (.goto 17, 3) := by decide +kernel
theorem dL_law_1589 : decode cL_law 1589 = .ok (.aload_n 1, 1) := by decide +kernel
theorem dL_law_1590 : decode cL_law 1590 = .ok (.invokevirtual 194, 3) := by decide +kernel
theorem dL_law_1593 : decode cL_law 1593 = .ok (.aload_n 2, 1) := by decide +kernel
theorem dL_law_1594 : decode cL_law 1594 = .ok (.invokevirtual 198, 3) := by decide +kernel
theorem dL_law_1597 : decode cL_law 1597 = .ok (.lcmp, 1) := by decide +kernel
theorem dL_law_1598 : decode cL_law 1598 = .ok (.ifCond .eq 5, 3) := by decide +kernel
theorem dL_law_1601 : decode cL_law 1601 = .ok (.iconst 0, 1) := by decide +kernel
theorem dL_law_1602 : decode cL_law 1602 = .ok (.ireturn, 1) := by decide +kernel
theorem dL_law_1603 : decode cL_law 1603 = .ok (.iinc 5 7, 3) := by decide +kernel
theorem dL_law_1606 : decode cL_law 1606 = .ok (.goto (-1578), 3) := by decide +kernel
theorem dL_law_1609 : decode cL_law 1609 = .ok (.iconst 1, 1) := by decide +kernel
theorem dL_law_1610 : decode cL_law 1610 = .ok (.ireturn, 1) := by decide +kernel
end
section
/-! own rows: one list of words for all methods; methods that only read -/
abbrev wy (y : MethodName) (cc : ByteArray) (nL : Nat) (ret : Option FieldType) : List Cond := .code y cc nL ret :: wsL_law
abbrev rmL (d mc ms : Nat) : Room := { frames := d, cells := mc, slots := ms, locals := 64 * d }
theorem wsL_law_good : wsL_law.all goodWord = true := by decide +kernel
theorem gin_law : GoodIn wsL_law wsL_law := fun w h => ⟨h, good_of_word (List.all_eq_true.mp wsL_law_good w h)⟩
theorem gin_v {own : String} {idx : Nat} {C : String} {y : MethodName} {cc : ByteArray} {nL : Nat} {ret : Option FieldType} (h1 : Cond.methodLink own idx y ∈ wsL_law) (h2 : Cond.instanceMethod y ∈ wsL_law) (h3 : Cond.selects C y y ∈ wsL_law) (h4 : Cond.initialized C ∈ wsL_law) (h5 : Cond.code y cc nL ret ∈ wsL_law) : GoodIn wsL_law (wsV own idx C y (wy y cc nL ret)) := by
  intro w hw
  refine gin_law w ?_
  rcases List.mem_append.mp hw with h | h
  · rcases List.mem_cons.mp h with rfl | h
    · exact h1
    · rcases List.mem_cons.mp h with rfl | h
      · exact h2
      · rcases List.mem_cons.mp h with rfl | h
        · exact h3
        · rcases List.mem_cons.mp h with rfl | h
          · exact h4
          · exact absurd h List.not_mem_nil
  · rcases List.mem_cons.mp h with rfl | h
    · exact h5
    · exact h
theorem gin_s {own : String} {idx : Nat} {y : MethodName} {cc : ByteArray} {nL : Nat} {ret : Option FieldType} (h1 : Cond.methodLink own idx y ∈ wsL_law) (h2 : Cond.static y ∈ wsL_law) (h4 : Cond.initialized y.cls ∈ wsL_law) (h5 : Cond.code y cc nL ret ∈ wsL_law) : GoodIn wsL_law (va_wsS own idx y (wy y cc nL ret)) := by
  intro w hw
  refine gin_law w ?_
  rcases List.mem_append.mp hw with h | h
  · rcases List.mem_cons.mp h with rfl | h
    · exact h1
    · rcases List.mem_cons.mp h with rfl | h
      · exact h2
      · rcases List.mem_cons.mp h with rfl | h
        · exact h4
        · exact absurd h List.not_mem_nil
  · rcases List.mem_cons.mp h with rfl | h
    · exact h5
    · exact h
theorem gin_i {y : MethodName} {cc : ByteArray} {nL : Nat} {ret : Option FieldType} (h5 : Cond.code y cc nL ret ∈ wsL_law) : GoodIn wsL_law (wy y cc nL ret) := by
  intro w hw
  refine gin_law w ?_
  rcases List.mem_cons.mp hw with rfl | h
  · exact h5
  · exact h
/-- the entry of a walk -/
theorem ent {l : Launch} {y : MethodName} {cc : ByteArray} {nL : Nat} {ret : Option FieldType} {d mc ms : Nat} {As : List Value} {Pu : State → Prop} {Qc : Array Value → State → Outcome → State → Prop} {free : Addr → Prop} (hy : plainName y.cls = true) (hn : (lg_sl As).length ≤ nL)
    (body : ∀ (p : Program) (e : Env) (s : State) (m : MethodId) (below : List Frame) (meth : Method) (c : Code) (ls : Array Slot), p.tables.exec = Jvm.exec → c.code = cc → meth.sig.returnType = ret → c.maxLocals = nL → s.vm.findClass y.cls = some m.cls → (∀ w ∈ wsL_law, w.before As.toArray s = true) → meth.locks = false → meth.name = y.name → lv_has ls nL (lv_args 0 As) → Pu s → W p l e (rmL d mc ms) s m As.toArray below meth c s.heap [] 0 0 (MQ below Qc As.toArray s mc ms free) (F0 m 0 ls [])) :
    Met l y (wy y cc nL ret) (rmL d mc ms) (va_Pc As Pu) Qc mc ms free := by
  refine Met.ofW (cc := cc) (maxL := nL) (ret := ret) hy rfl ?_
  intro p e s m args below meth c s₁ B hml hv
  obtain ⟨rfl, hP⟩ := hv
  have hts0 := atoms_spec (ws := wy y cc nL ret) B.pre
  rw [lg_entry_eq]
  exact body p e s m below meth c _ B.exec B.bytes B.returns hml (findClass_of_methodNamed B.named) (fun w h => hts0 w (List.mem_cons_of_mem _ h)) B.notSynchronized (name_of_methodNamed B.named B.method).1 (lv_entry As hn) hP
/-- a method that only reads: the heap stays, its answer is ov -/
def Rd (l : Launch) (D : va_G) (tys : List (ClassId × FieldType)) (d : Nat) (y : MethodName) (cc : ByteArray) (nL : Nat) (ret : Option FieldType) (H : Heap) (As : List Value) (ov : Option Value) : Prop :=
  Met l y (wy y cc nL ret) (rmL d 0 0) (va_Pc As (fun U => U.heap = H ∧ va_K D vwCl tys U)) (fun _ st oc t => oc = .returned ov ∧ t.heap = st.heap) 0 0 (fun _ => False)
theorem rd_ent {l : Launch} {D : va_G} {tys : List (ClassId × FieldType)} {d : Nat} {y : MethodName} {cc : ByteArray} {nL : Nat} {ret : Option FieldType} {H : Heap} {As : List Value} {ov : Option Value} (hy : plainName y.cls = true) (hn : (lg_sl As).length ≤ nL)
    (body : ∀ (p : Program) (e : Env) (s : State) (m : MethodId) (below : List Frame) (meth : Method) (c : Code) (ls : Array Slot), p.tables.exec = Jvm.exec → c.code = cc → meth.sig.returnType = ret → c.maxLocals = nL → s.vm.findClass y.cls = some m.cls → (∀ w ∈ wsL_law, w.before As.toArray s = true) → meth.locks = false → lv_has ls nL (lv_args 0 As) → s.heap = H → va_K D vwCl tys s → W p l e (rmL d 0 0) s m As.toArray below meth c H [] 0 0 (MQ below (fun _ st oc t => oc = .returned ov ∧ t.heap = st.heap) As.toArray s 0 0 (fun _ => False)) (F0 m 0 ls [])) :
    Rd l D tys d y cc nL ret H As ov := by
  refine ent hy hn ?_
  intro p e s m below meth c ls hx hb hr hml hown hts hlocks _ hl hP
  obtain ⟨hH, hK⟩ := hP
  rw [hH]
  exact body p e s m below meth c ls hx hb hr hml hown hts hlocks hl hH hK
section RdCalls
variable {p : Program} {l : Launch} {e : Env} {R : Room} {s : State} {m : MethodId} {args : Array Value} {below : List Frame} {meth : Method} {c : Code} {H : Heap} {locs : List Loc} {cells slots : Nat} {Q : State → Prop} {cc cc' : ByteArray} {pc nL nL' : Nat} {ls : Array Slot} {rest st0 : List Value} {D : va_G} {tys : List (ClassId × FieldType)} {own C : String} {index d : Nat} {y : MethodName} {ret : Option FieldType} {As : List Value} {b : Addr} {ov : Option Value}
theorem rd_run {g : JFrame} {a : Array Value} (hr : va_Run p l e R s m args below meth c H locs cells slots 0 0 g rest ((fun (_ : Array Value) (st : State) (oc : Outcome) (t : State) => oc = .returned ov ∧ t.heap = st.heap) a) (fun _ => False)) (k : W p l e R s m args below meth c H locs cells slots Q { g with pc := g.pc + 3, stack := ov.toList ++ rest }) : W p l e R s m args below meth c H locs cells slots Q g := by
  intro T hT X
  obtain ⟨v, st₀, t, T', L, h0, X', hL, e1, e2, ⟨hv, hh⟩, st⟩ := hr T hT X
  cases hv
  have hL0 : L = [] := by
    cases L with
    | nil => rfl
    | cons q L => exact (hL q List.mem_cons_self).elim
  subst hL0
  rw [List.append_nil] at X'
  obtain ⟨t2, a1, b1⟩ := k T' (by rw [e1, hh, h0]) X'
  exact ⟨t2, st t2 a1, b1⟩
theorem rd_blind {As : List Value} : FrameBlind (va_Pc As (fun U => U.heap = H ∧ va_K D vwCl tys U)) := fun a U g mk q => by
  obtain ⟨q0, q1, qK⟩ := q
  exact ⟨q0, q1, va_K.moved (u := U) (U := U.calling g mk a) (Vm.Alike.refl U.vm) qK⟩
theorem rdV (S : CallFix p m c cc nL s args wsL_law own) (hK : va_K D vwCl tys s) (n : Nat) (hM : Rd l D tys d y cc' nL' ret H (.ref b :: As) ov) (hG : GoodIn wsL_law (wsV own index C y (wy y cc' nL' ret)))
    (hd : y.cls = C ∧ y.cls ≠ "java/lang/invoke/MethodHandle" ∧ y.cls ≠ "java/lang/invoke/VarHandle" ∧ (parseMethodDescriptor y.desc).map (fun d => d.parameters.length) = some n) (hR : d + 1 ≤ R.frames ∧ 8 + (nL' + 11) + 64 * d ≤ R.locals)
    (hrecv : ∃ cellB : Cell, H[b]? = some cellB ∧ cellB.vm.isStatics = false ∧ s.vm.findClass C = some cellB.cls) (hn : As.length = n) (hsize : ls.size = nL) (hst : st0 = As.reverse ++ .ref b :: rest) (hW : (rest.map fun v => v.category).sum ≤ 8) (hdg : decode cc pc = .ok (.invokevirtual index, 3)) (hf : cells ≤ R.cells ∧ slots ≤ R.slots)
    (k : W p l e R s m args below meth c H locs cells slots Q (F0 m (pc + 3) ls (ov.toList ++ rest))) : W p l e R s m args below meth c H locs cells slots Q (F0 m pc ls st0) :=
  rd_run (a := (Value.ref b :: As).toArray) (va_runV (g := F0 m pc ls st0) S hM (cwV n S.2.2.2.2 hG rfl rfl rfl hd hR) ⟨rd_blind, hrecv, fun _U hU hW => ⟨rfl, hU, va_K.moved hW.alike hK⟩⟩ rfl hn hsize hst (lv_room hW) hdg hf) k
theorem rdS (S : CallFix p m c cc nL s args wsL_law own) (hK : va_K D vwCl tys s) (n : Nat) (hM : Rd l D tys d y cc' nL' ret H As ov) (hG : GoodIn wsL_law (va_wsS own index y (wy y cc' nL' ret)))
    (hd : y.cls ≠ "java/lang/invoke/MethodHandle" ∧ y.cls ≠ "java/lang/invoke/VarHandle" ∧ (parseMethodDescriptor y.desc).map (fun d => d.parameters.length) = some n) (hR : d + 1 ≤ R.frames ∧ 8 + (nL' + 11) + 64 * d ≤ R.locals)
    (hn : As.length = n) (hsize : ls.size = nL) (hst : st0 = As.reverse ++ rest) (hW : (rest.map fun v => v.category).sum ≤ 8) (hdg : decode cc pc = .ok (.invokestatic index, 3)) (hf : cells ≤ R.cells ∧ slots ≤ R.slots)
    (k : W p l e R s m args below meth c H locs cells slots Q (F0 m (pc + 3) ls (ov.toList ++ rest))) : W p l e R s m args below meth c H locs cells slots Q (F0 m pc ls st0) :=
  rd_run (a := As.toArray) (va_runS (g := F0 m pc ls st0) S hM (va_cwS n S.2.2.2.2 hG rfl rfl rfl hd hR) ⟨rd_blind, fun _U hU hW => ⟨rfl, hU, va_K.moved hW.alike hK⟩⟩ rfl hn hsize hst (lv_room hW) hdg hf) k
/-- its end: an int (a boolean too), a long, nothing, a reference -/
theorem rd_iret {v : Int32} (hH : s.heap = H) (hx : p.tables.exec = Jvm.exec) (hb : c.code = cc) (hr : meth.sig.returnType = some .int) (hlocks : meth.locks = false) (hv : ov = some (.int v)) (hdg : decode cc pc = .ok (.ireturn, 1)) : W p l e R s m args below meth c H [] 0 0 (MQ below (fun _ st oc t => oc = .returned ov ∧ t.heap = st.heap) args s 0 0 (fun _ => False)) (F0 m pc ls [.int v]) := by
  subst hv
  exact W.iret (v := v) hx hb hr (fun t ht _ => ⟨rfl, ht.trans hH.symm⟩) (fun q hq => absurd hq List.not_mem_nil) hdg hlocks
theorem rd_zret {v : Int32} (hH : s.heap = H) (hx : p.tables.exec = Jvm.exec) (hb : c.code = cc) (hr : meth.sig.returnType = some .boolean) (hlocks : meth.locks = false) (hv : ov = some (.int v)) (h01 : narrow .boolean (.int v) = .int v) (hdg : decode cc pc = .ok (.ireturn, 1)) : W p l e R s m args below meth c H [] 0 0 (MQ below (fun _ st oc t => oc = .returned ov ∧ t.heap = st.heap) args s 0 0 (fun _ => False)) (F0 m pc ls [.int v]) := by
  subst hv
  exact W.zret (v := v) hx hb hr h01 (fun t ht _ => ⟨rfl, ht.trans hH.symm⟩) (fun q hq => absurd hq List.not_mem_nil) hdg hlocks
theorem rd_lret {v : Int64} (hH : s.heap = H) (hx : p.tables.exec = Jvm.exec) (hb : c.code = cc) (hr : meth.sig.returnType = some .long) (hlocks : meth.locks = false) (hv : ov = some (.long v)) (hdg : decode cc pc = .ok (.lreturn, 1)) : W p l e R s m args below meth c H [] 0 0 (MQ below (fun _ st oc t => oc = .returned ov ∧ t.heap = st.heap) args s 0 0 (fun _ => False)) (F0 m pc ls [.long v]) := by
  subst hv
  exact W.lret (v := v) hx hb hr (fun t ht _ => ⟨rfl, ht.trans hH.symm⟩) (fun q hq => absurd hq List.not_mem_nil) hdg hlocks
theorem rd_vret (hH : s.heap = H) (hx : p.tables.exec = Jvm.exec) (hb : c.code = cc) (hr : meth.sig.returnType = none) (hlocks : meth.locks = false) (hv : ov = none) (hdg : decode cc pc = .ok (.return_, 1)) : W p l e R s m args below meth c H [] 0 0 (MQ below (fun _ st oc t => oc = .returned ov ∧ t.heap = st.heap) args s 0 0 (fun _ => False)) (F0 m pc ls []) := by
  subst hv
  exact W.vret hx hb hr (fun t ht _ => ⟨rfl, ht.trans hH.symm⟩) (fun q hq => absurd hq List.not_mem_nil) hdg hlocks
theorem rd_aret {v : Value} {rt : FieldType} (hH : s.heap = H) (hx : p.tables.exec = Jvm.exec) (hb : c.code = cc) (hr : meth.sig.returnType = some rt) (hlocks : meth.locks = false) (hrt : (∃ n, rt = .object n) ∨ ∃ t, rt = .array t) (hv1 : v = .null ∨ ∃ a, v = .ref a) (hv : ov = some v) (hdg : decode cc pc = .ok (.areturn, 1)) : W p l e R s m args below meth c H [] 0 0 (MQ below (fun _ st oc t => oc = .returned ov ∧ t.heap = st.heap) args s 0 0 (fun _ => False)) (F0 m pc ls [v]) := by
  subst hv
  exact W.aret (v := v) hx hb hr hrt hv1 (fun t ht _ => ⟨rfl, ht.trans hH.symm⟩) (fun q hq => absurd hq List.not_mem_nil) hdg hlocks
theorem lv_rwi {x y : Int32} (h : x = y) (k : W p l e R s m args below meth c H locs cells slots Q (F0 m pc ls (.int y :: rest))) : W p l e R s m args below meth c H locs cells slots Q (F0 m pc ls (.int x :: rest)) := h ▸ k
theorem lv_rwl {x y : Int64} (h : x = y) (k : W p l e R s m args below meth c H locs cells slots Q (F0 m pc ls (.long y :: rest))) : W p l e R s m args below meth c H locs cells slots Q (F0 m pc ls (.long x :: rest)) := h ▸ k
theorem lv_rwv {x y : Value} (h : x = y) (k : W p l e R s m args below meth c H locs cells slots Q (F0 m pc ls (y :: rest))) : W p l e R s m args below meth c H locs cells slots Q (F0 m pc ls (x :: rest)) := h ▸ k
end RdCalls
end
section
/-! which words stand in the one list; by program -/
theorem in_l0 : ∀ w ∈ wsL_law0, w ∈ wsL_law := fun _ h => List.mem_append_left _ (List.mem_append_left _ (List.mem_append_left _ h))
theorem in_r1 : ∀ w ∈ wsL_law0_r1, w ∈ wsL_law := fun w h => in_l0 w (List.mem_append_left _ (List.mem_append_left _ (List.mem_append_left _ (List.mem_append_left _ (List.mem_append_left _ (List.mem_append_left _ (List.mem_append_left _ h)))))))
theorem in_r2 : ∀ w ∈ wsL_law0_r2, w ∈ wsL_law := fun w h => in_l0 w (List.mem_append_left _ (List.mem_append_left _ (List.mem_append_left _ (List.mem_append_left _ (List.mem_append_left _ (List.mem_append_left _ (List.mem_append_right _ (List.mem_append_left _ h))))))))
theorem in_r3 : ∀ w ∈ wsL_law0_r3, w ∈ wsL_law := fun w h => in_l0 w (List.mem_append_left _ (List.mem_append_left _ (List.mem_append_left _ (List.mem_append_left _ (List.mem_append_left _ (List.mem_append_left _ (List.mem_append_right _ (List.mem_append_right _ (List.mem_append_left _ h)))))))))
theorem in_r4 : ∀ w ∈ wsL_law0_r4, w ∈ wsL_law := fun w h => in_l0 w (List.mem_append_left _ (List.mem_append_left _ (List.mem_append_left _ (List.mem_append_left _ (List.mem_append_left _ (List.mem_append_left _ (List.mem_append_right _ (List.mem_append_right _ (List.mem_append_right _ (List.mem_append_left _ h))))))))))
theorem in_r5 : ∀ w ∈ wsL_law0_r5, w ∈ wsL_law := fun w h => in_l0 w (List.mem_append_left _ (List.mem_append_left _ (List.mem_append_left _ (List.mem_append_left _ (List.mem_append_left _ (List.mem_append_left _ (List.mem_append_right _ (List.mem_append_right _ (List.mem_append_right _ (List.mem_append_right _ (List.mem_append_left _ h)))))))))))
theorem in_r6 : ∀ w ∈ wsL_law0_r6, w ∈ wsL_law := fun w h => in_l0 w (List.mem_append_left _ (List.mem_append_left _ (List.mem_append_left _ (List.mem_append_left _ (List.mem_append_left _ (List.mem_append_left _ (List.mem_append_right _ (List.mem_append_right _ (List.mem_append_right _ (List.mem_append_right _ (List.mem_append_right _ (List.mem_append_left _ h))))))))))))
theorem in_r7 : ∀ w ∈ wsL_law0_r7, w ∈ wsL_law := fun w h => in_l0 w (List.mem_append_left _ (List.mem_append_left _ (List.mem_append_left _ (List.mem_append_left _ (List.mem_append_left _ (List.mem_append_left _ (List.mem_append_right _ (List.mem_append_right _ (List.mem_append_right _ (List.mem_append_right _ (List.mem_append_right _ (List.mem_append_right _ (List.mem_append_left _ h)))))))))))))
theorem in_r8 : ∀ w ∈ wsL_law0_r8, w ∈ wsL_law := fun w h => in_l0 w (List.mem_append_left _ (List.mem_append_left _ (List.mem_append_left _ (List.mem_append_left _ (List.mem_append_left _ (List.mem_append_left _ (List.mem_append_right _ (List.mem_append_right _ (List.mem_append_right _ (List.mem_append_right _ (List.mem_append_right _ (List.mem_append_right _ (List.mem_append_right _ (List.mem_append_left _ h))))))))))))))
theorem in_r9 : ∀ w ∈ wsL_law0_r9, w ∈ wsL_law := fun w h => in_l0 w (List.mem_append_left _ (List.mem_append_left _ (List.mem_append_left _ (List.mem_append_left _ (List.mem_append_left _ (List.mem_append_left _ (List.mem_append_right _ (List.mem_append_right _ (List.mem_append_right _ (List.mem_append_right _ (List.mem_append_right _ (List.mem_append_right _ (List.mem_append_right _ (List.mem_append_right _ (List.mem_append_left _ h)))))))))))))))
theorem in_r10 : ∀ w ∈ wsL_law0_r10, w ∈ wsL_law := fun w h => in_l0 w (List.mem_append_left _ (List.mem_append_left _ (List.mem_append_left _ (List.mem_append_left _ (List.mem_append_left _ (List.mem_append_left _ (List.mem_append_right _ (List.mem_append_right _ (List.mem_append_right _ (List.mem_append_right _ (List.mem_append_right _ (List.mem_append_right _ (List.mem_append_right _ (List.mem_append_right _ (List.mem_append_right _ (List.mem_append_left _ h))))))))))))))))
theorem in_r11 : ∀ w ∈ wsL_law0_r11, w ∈ wsL_law := fun w h => in_l0 w (List.mem_append_left _ (List.mem_append_left _ (List.mem_append_left _ (List.mem_append_left _ (List.mem_append_left _ (List.mem_append_left _ (List.mem_append_right _ (List.mem_append_right _ (List.mem_append_right _ (List.mem_append_right _ (List.mem_append_right _ (List.mem_append_right _ (List.mem_append_right _ (List.mem_append_right _ (List.mem_append_right _ (List.mem_append_right _ (List.mem_append_left _ h)))))))))))))))))
theorem in_r12 : ∀ w ∈ wsL_law0_r12, w ∈ wsL_law := fun w h => in_l0 w (List.mem_append_left _ (List.mem_append_left _ (List.mem_append_left _ (List.mem_append_left _ (List.mem_append_left _ (List.mem_append_left _ (List.mem_append_right _ (List.mem_append_right _ (List.mem_append_right _ (List.mem_append_right _ (List.mem_append_right _ (List.mem_append_right _ (List.mem_append_right _ (List.mem_append_right _ (List.mem_append_right _ (List.mem_append_right _ (List.mem_append_right _ (List.mem_append_left _ h))))))))))))))))))
theorem in_r13 : ∀ w ∈ wsL_law0_r13, w ∈ wsL_law := fun w h => in_l0 w (List.mem_append_left _ (List.mem_append_left _ (List.mem_append_left _ (List.mem_append_left _ (List.mem_append_left _ (List.mem_append_left _ (List.mem_append_right _ (List.mem_append_right _ (List.mem_append_right _ (List.mem_append_right _ (List.mem_append_right _ (List.mem_append_right _ (List.mem_append_right _ (List.mem_append_right _ (List.mem_append_right _ (List.mem_append_right _ (List.mem_append_right _ (List.mem_append_right _ (List.mem_append_left _ h)))))))))))))))))))
theorem in_r14 : ∀ w ∈ wsL_law0_r14, w ∈ wsL_law := fun w h => in_l0 w (List.mem_append_left _ (List.mem_append_left _ (List.mem_append_left _ (List.mem_append_left _ (List.mem_append_left _ (List.mem_append_left _ (List.mem_append_right _ (List.mem_append_right _ (List.mem_append_right _ (List.mem_append_right _ (List.mem_append_right _ (List.mem_append_right _ (List.mem_append_right _ (List.mem_append_right _ (List.mem_append_right _ (List.mem_append_right _ (List.mem_append_right _ (List.mem_append_right _ (List.mem_append_right _ (List.mem_append_left _ h))))))))))))))))))))
theorem in_r15 : ∀ w ∈ wsL_law0_r15, w ∈ wsL_law := fun w h => in_l0 w (List.mem_append_left _ (List.mem_append_left _ (List.mem_append_left _ (List.mem_append_left _ (List.mem_append_left _ (List.mem_append_left _ (List.mem_append_right _ (List.mem_append_right _ (List.mem_append_right _ (List.mem_append_right _ (List.mem_append_right _ (List.mem_append_right _ (List.mem_append_right _ (List.mem_append_right _ (List.mem_append_right _ (List.mem_append_right _ (List.mem_append_right _ (List.mem_append_right _ (List.mem_append_right _ (List.mem_append_right _ (List.mem_append_left _ h)))))))))))))))))))))
theorem in_r16 : ∀ w ∈ wsL_law0_r16, w ∈ wsL_law := fun w h => in_l0 w (List.mem_append_left _ (List.mem_append_left _ (List.mem_append_left _ (List.mem_append_left _ (List.mem_append_left _ (List.mem_append_left _ (List.mem_append_right _ (List.mem_append_right _ (List.mem_append_right _ (List.mem_append_right _ (List.mem_append_right _ (List.mem_append_right _ (List.mem_append_right _ (List.mem_append_right _ (List.mem_append_right _ (List.mem_append_right _ (List.mem_append_right _ (List.mem_append_right _ (List.mem_append_right _ (List.mem_append_right _ (List.mem_append_right _ (List.mem_append_left _ h))))))))))))))))))))))
theorem in_r17 : ∀ w ∈ wsL_law0_r17, w ∈ wsL_law := fun w h => in_l0 w (List.mem_append_left _ (List.mem_append_left _ (List.mem_append_left _ (List.mem_append_left _ (List.mem_append_left _ (List.mem_append_left _ (List.mem_append_right _ (List.mem_append_right _ (List.mem_append_right _ (List.mem_append_right _ (List.mem_append_right _ (List.mem_append_right _ (List.mem_append_right _ (List.mem_append_right _ (List.mem_append_right _ (List.mem_append_right _ (List.mem_append_right _ (List.mem_append_right _ (List.mem_append_right _ (List.mem_append_right _ (List.mem_append_right _ (List.mem_append_right _ (List.mem_append_left _ h)))))))))))))))))))))))
theorem in_r18 : ∀ w ∈ wsL_law0_r18, w ∈ wsL_law := fun w h => in_l0 w (List.mem_append_left _ (List.mem_append_left _ (List.mem_append_left _ (List.mem_append_left _ (List.mem_append_left _ (List.mem_append_left _ (List.mem_append_right _ (List.mem_append_right _ (List.mem_append_right _ (List.mem_append_right _ (List.mem_append_right _ (List.mem_append_right _ (List.mem_append_right _ (List.mem_append_right _ (List.mem_append_right _ (List.mem_append_right _ (List.mem_append_right _ (List.mem_append_right _ (List.mem_append_right _ (List.mem_append_right _ (List.mem_append_right _ (List.mem_append_right _ (List.mem_append_right _ (List.mem_append_left _ h))))))))))))))))))))))))
theorem in_r19 : ∀ w ∈ wsL_law0_r19, w ∈ wsL_law := fun w h => in_l0 w (List.mem_append_left _ (List.mem_append_left _ (List.mem_append_left _ (List.mem_append_left _ (List.mem_append_left _ (List.mem_append_left _ (List.mem_append_right _ (List.mem_append_right _ (List.mem_append_right _ (List.mem_append_right _ (List.mem_append_right _ (List.mem_append_right _ (List.mem_append_right _ (List.mem_append_right _ (List.mem_append_right _ (List.mem_append_right _ (List.mem_append_right _ (List.mem_append_right _ (List.mem_append_right _ (List.mem_append_right _ (List.mem_append_right _ (List.mem_append_right _ (List.mem_append_right _ (List.mem_append_right _ (List.mem_append_left _ h)))))))))))))))))))))))))
theorem in_r20 : ∀ w ∈ wsL_law0_r20, w ∈ wsL_law := fun w h => in_l0 w (List.mem_append_left _ (List.mem_append_left _ (List.mem_append_left _ (List.mem_append_left _ (List.mem_append_left _ (List.mem_append_left _ (List.mem_append_right _ (List.mem_append_right _ (List.mem_append_right _ (List.mem_append_right _ (List.mem_append_right _ (List.mem_append_right _ (List.mem_append_right _ (List.mem_append_right _ (List.mem_append_right _ (List.mem_append_right _ (List.mem_append_right _ (List.mem_append_right _ (List.mem_append_right _ (List.mem_append_right _ (List.mem_append_right _ (List.mem_append_right _ (List.mem_append_right _ (List.mem_append_right _ (List.mem_append_right _ (List.mem_append_left _ h))))))))))))))))))))))))))
theorem in_r21 : ∀ w ∈ wsL_law0_r21, w ∈ wsL_law := fun w h => in_l0 w (List.mem_append_left _ (List.mem_append_left _ (List.mem_append_left _ (List.mem_append_left _ (List.mem_append_left _ (List.mem_append_left _ (List.mem_append_right _ (List.mem_append_right _ (List.mem_append_right _ (List.mem_append_right _ (List.mem_append_right _ (List.mem_append_right _ (List.mem_append_right _ (List.mem_append_right _ (List.mem_append_right _ (List.mem_append_right _ (List.mem_append_right _ (List.mem_append_right _ (List.mem_append_right _ (List.mem_append_right _ (List.mem_append_right _ (List.mem_append_right _ (List.mem_append_right _ (List.mem_append_right _ (List.mem_append_right _ (List.mem_append_right _ (List.mem_append_left _ h)))))))))))))))))))))))))))
theorem in_r22 : ∀ w ∈ wsL_law0_r22, w ∈ wsL_law := fun w h => in_l0 w (List.mem_append_left _ (List.mem_append_left _ (List.mem_append_left _ (List.mem_append_left _ (List.mem_append_left _ (List.mem_append_left _ (List.mem_append_right _ (List.mem_append_right _ (List.mem_append_right _ (List.mem_append_right _ (List.mem_append_right _ (List.mem_append_right _ (List.mem_append_right _ (List.mem_append_right _ (List.mem_append_right _ (List.mem_append_right _ (List.mem_append_right _ (List.mem_append_right _ (List.mem_append_right _ (List.mem_append_right _ (List.mem_append_right _ (List.mem_append_right _ (List.mem_append_right _ (List.mem_append_right _ (List.mem_append_right _ (List.mem_append_right _ (List.mem_append_right _ (List.mem_append_left _ h))))))))))))))))))))))))))))
theorem in_r23 : ∀ w ∈ wsL_law0_r23, w ∈ wsL_law := fun w h => in_l0 w (List.mem_append_left _ (List.mem_append_left _ (List.mem_append_left _ (List.mem_append_left _ (List.mem_append_left _ (List.mem_append_left _ (List.mem_append_right _ (List.mem_append_right _ (List.mem_append_right _ (List.mem_append_right _ (List.mem_append_right _ (List.mem_append_right _ (List.mem_append_right _ (List.mem_append_right _ (List.mem_append_right _ (List.mem_append_right _ (List.mem_append_right _ (List.mem_append_right _ (List.mem_append_right _ (List.mem_append_right _ (List.mem_append_right _ (List.mem_append_right _ (List.mem_append_right _ (List.mem_append_right _ (List.mem_append_right _ (List.mem_append_right _ (List.mem_append_right _ (List.mem_append_right _ (List.mem_append_left _ h)))))))))))))))))))))))))))))
theorem in_r24 : ∀ w ∈ wsL_law0_r24, w ∈ wsL_law := fun w h => in_l0 w (List.mem_append_left _ (List.mem_append_left _ (List.mem_append_left _ (List.mem_append_left _ (List.mem_append_left _ (List.mem_append_left _ (List.mem_append_right _ (List.mem_append_right _ (List.mem_append_right _ (List.mem_append_right _ (List.mem_append_right _ (List.mem_append_right _ (List.mem_append_right _ (List.mem_append_right _ (List.mem_append_right _ (List.mem_append_right _ (List.mem_append_right _ (List.mem_append_right _ (List.mem_append_right _ (List.mem_append_right _ (List.mem_append_right _ (List.mem_append_right _ (List.mem_append_right _ (List.mem_append_right _ (List.mem_append_right _ (List.mem_append_right _ (List.mem_append_right _ (List.mem_append_right _ (List.mem_append_right _ (List.mem_append_left _ h))))))))))))))))))))))))))))))
theorem in_r25 : ∀ w ∈ wsL_law0_r25, w ∈ wsL_law := fun w h => in_l0 w (List.mem_append_left _ (List.mem_append_left _ (List.mem_append_left _ (List.mem_append_left _ (List.mem_append_left _ (List.mem_append_left _ (List.mem_append_right _ (List.mem_append_right _ (List.mem_append_right _ (List.mem_append_right _ (List.mem_append_right _ (List.mem_append_right _ (List.mem_append_right _ (List.mem_append_right _ (List.mem_append_right _ (List.mem_append_right _ (List.mem_append_right _ (List.mem_append_right _ (List.mem_append_right _ (List.mem_append_right _ (List.mem_append_right _ (List.mem_append_right _ (List.mem_append_right _ (List.mem_append_right _ (List.mem_append_right _ (List.mem_append_right _ (List.mem_append_right _ (List.mem_append_right _ (List.mem_append_right _ (List.mem_append_right _ (List.mem_append_left _ h)))))))))))))))))))))))))))))))
theorem in_r26 : ∀ w ∈ wsL_law0_r26, w ∈ wsL_law := fun w h => in_l0 w (List.mem_append_left _ (List.mem_append_left _ (List.mem_append_left _ (List.mem_append_left _ (List.mem_append_left _ (List.mem_append_left _ (List.mem_append_right _ (List.mem_append_right _ (List.mem_append_right _ (List.mem_append_right _ (List.mem_append_right _ (List.mem_append_right _ (List.mem_append_right _ (List.mem_append_right _ (List.mem_append_right _ (List.mem_append_right _ (List.mem_append_right _ (List.mem_append_right _ (List.mem_append_right _ (List.mem_append_right _ (List.mem_append_right _ (List.mem_append_right _ (List.mem_append_right _ (List.mem_append_right _ (List.mem_append_right _ (List.mem_append_right _ (List.mem_append_right _ (List.mem_append_right _ (List.mem_append_right _ (List.mem_append_right _ (List.mem_append_right _ (List.mem_append_left _ h))))))))))))))))))))))))))))))))
theorem in_r27 : ∀ w ∈ wsL_law0_r27, w ∈ wsL_law := fun w h => in_l0 w (List.mem_append_left _ (List.mem_append_left _ (List.mem_append_left _ (List.mem_append_left _ (List.mem_append_left _ (List.mem_append_left _ (List.mem_append_right _ (List.mem_append_right _ (List.mem_append_right _ (List.mem_append_right _ (List.mem_append_right _ (List.mem_append_right _ (List.mem_append_right _ (List.mem_append_right _ (List.mem_append_right _ (List.mem_append_right _ (List.mem_append_right _ (List.mem_append_right _ (List.mem_append_right _ (List.mem_append_right _ (List.mem_append_right _ (List.mem_append_right _ (List.mem_append_right _ (List.mem_append_right _ (List.mem_append_right _ (List.mem_append_right _ (List.mem_append_right _ (List.mem_append_right _ (List.mem_append_right _ (List.mem_append_right _ (List.mem_append_right _ (List.mem_append_right _ (List.mem_append_left _ h)))))))))))))))))))))))))))))))))
theorem in_r28 : ∀ w ∈ wsL_law0_r28, w ∈ wsL_law := fun w h => in_l0 w (List.mem_append_left _ (List.mem_append_left _ (List.mem_append_left _ (List.mem_append_left _ (List.mem_append_left _ (List.mem_append_left _ (List.mem_append_right _ (List.mem_append_right _ (List.mem_append_right _ (List.mem_append_right _ (List.mem_append_right _ (List.mem_append_right _ (List.mem_append_right _ (List.mem_append_right _ (List.mem_append_right _ (List.mem_append_right _ (List.mem_append_right _ (List.mem_append_right _ (List.mem_append_right _ (List.mem_append_right _ (List.mem_append_right _ (List.mem_append_right _ (List.mem_append_right _ (List.mem_append_right _ (List.mem_append_right _ (List.mem_append_right _ (List.mem_append_right _ (List.mem_append_right _ (List.mem_append_right _ (List.mem_append_right _ (List.mem_append_right _ (List.mem_append_right _ (List.mem_append_right _ (List.mem_append_left _ h))))))))))))))))))))))))))))))))))
theorem in_r29 : ∀ w ∈ wsL_law0_r29, w ∈ wsL_law := fun w h => in_l0 w (List.mem_append_left _ (List.mem_append_left _ (List.mem_append_left _ (List.mem_append_left _ (List.mem_append_left _ (List.mem_append_left _ (List.mem_append_right _ (List.mem_append_right _ (List.mem_append_right _ (List.mem_append_right _ (List.mem_append_right _ (List.mem_append_right _ (List.mem_append_right _ (List.mem_append_right _ (List.mem_append_right _ (List.mem_append_right _ (List.mem_append_right _ (List.mem_append_right _ (List.mem_append_right _ (List.mem_append_right _ (List.mem_append_right _ (List.mem_append_right _ (List.mem_append_right _ (List.mem_append_right _ (List.mem_append_right _ (List.mem_append_right _ (List.mem_append_right _ (List.mem_append_right _ (List.mem_append_right _ (List.mem_append_right _ (List.mem_append_right _ (List.mem_append_right _ (List.mem_append_right _ (List.mem_append_right _ (List.mem_append_left _ h)))))))))))))))))))))))))))))))))))
theorem in_r30 : ∀ w ∈ wsL_law0_r30, w ∈ wsL_law := fun w h => in_l0 w (List.mem_append_left _ (List.mem_append_left _ (List.mem_append_left _ (List.mem_append_left _ (List.mem_append_left _ (List.mem_append_left _ (List.mem_append_right _ (List.mem_append_right _ (List.mem_append_right _ (List.mem_append_right _ (List.mem_append_right _ (List.mem_append_right _ (List.mem_append_right _ (List.mem_append_right _ (List.mem_append_right _ (List.mem_append_right _ (List.mem_append_right _ (List.mem_append_right _ (List.mem_append_right _ (List.mem_append_right _ (List.mem_append_right _ (List.mem_append_right _ (List.mem_append_right _ (List.mem_append_right _ (List.mem_append_right _ (List.mem_append_right _ (List.mem_append_right _ (List.mem_append_right _ (List.mem_append_right _ (List.mem_append_right _ (List.mem_append_right _ (List.mem_append_right _ (List.mem_append_right _ (List.mem_append_right _ (List.mem_append_right _ (List.mem_append_left _ h))))))))))))))))))))))))))))))))))))
theorem in_r31 : ∀ w ∈ wsL_law0_r31, w ∈ wsL_law := fun w h => in_l0 w (List.mem_append_left _ (List.mem_append_left _ (List.mem_append_left _ (List.mem_append_left _ (List.mem_append_left _ (List.mem_append_left _ (List.mem_append_right _ (List.mem_append_right _ (List.mem_append_right _ (List.mem_append_right _ (List.mem_append_right _ (List.mem_append_right _ (List.mem_append_right _ (List.mem_append_right _ (List.mem_append_right _ (List.mem_append_right _ (List.mem_append_right _ (List.mem_append_right _ (List.mem_append_right _ (List.mem_append_right _ (List.mem_append_right _ (List.mem_append_right _ (List.mem_append_right _ (List.mem_append_right _ (List.mem_append_right _ (List.mem_append_right _ (List.mem_append_right _ (List.mem_append_right _ (List.mem_append_right _ (List.mem_append_right _ (List.mem_append_right _ (List.mem_append_right _ (List.mem_append_right _ (List.mem_append_right _ (List.mem_append_right _ (List.mem_append_right _ h))))))))))))))))))))))))))))))))))))
theorem mw_1_0 : Cond.classLink RL 8 RX2 ∈ wsL_law := in_r1 _ (List.mem_of_getElem? (i := 0) rfl)
theorem mw_1_1 : Cond.instantiable RX2 5 ∈ wsL_law := in_r1 _ (List.mem_of_getElem? (i := 1) rfl)
theorem mw_1_2 : Cond.initialized RX2 ∈ wsL_law := in_r1 _ (List.mem_of_getElem? (i := 2) rfl)
theorem mw_1_3 : Cond.classLink RL 79 RX3 ∈ wsL_law := in_r1 _ (List.mem_of_getElem? (i := 3) rfl)
theorem mw_1_4 : Cond.instantiable RX3 15 ∈ wsL_law := in_r1 _ (List.mem_of_getElem? (i := 4) rfl)
theorem mw_1_5 : Cond.initialized RX3 ∈ wsL_law := in_r1 _ (List.mem_of_getElem? (i := 5) rfl)
theorem mw_1_6 : Cond.arrayClass .long ∈ wsL_law := in_r1 _ (List.mem_of_getElem? (i := 6) rfl)
theorem mw_1_7 : Cond.arrayClass .double ∈ wsL_law := in_r1 _ (List.mem_of_getElem? (i := 7) rfl)
theorem mw_1_8 : Cond.methodLink RL 78 yX2_init ∈ wsL_law := in_r1 _ (List.mem_of_getElem? (i := 8) rfl)
theorem mw_1_9 : Cond.instanceMethod yX2_init ∈ wsL_law := in_r1 _ (List.mem_of_getElem? (i := 9) rfl)
theorem mw_1_10 : Cond.code yX2_init cX2_init 2 none ∈ wsL_law := in_r1 _ (List.mem_of_getElem? (i := 10) rfl)
theorem mw_1_11 : Cond.methodLink RX2 3 objectInit ∈ wsL_law := in_r1 _ (List.mem_of_getElem? (i := 11) rfl)
theorem mw_1_12 : Cond.instanceMethod objectInit ∈ wsL_law := in_r1 _ (List.mem_of_getElem? (i := 12) rfl)
theorem mw_1_13 : Cond.code objectInit ⟨#[0xb1]⟩ 1 none ∈ wsL_law := in_r1 _ (List.mem_of_getElem? (i := 13) rfl)
theorem mw_1_14 : Cond.classLink RX2 9 RX0 ∈ wsL_law := in_r1 _ (List.mem_of_getElem? (i := 14) rfl)
theorem mw_1_15 : Cond.instantiable RX0 4 ∈ wsL_law := in_r1 _ (List.mem_of_getElem? (i := 15) rfl)
theorem mw_1_16 : Cond.initialized RX0 ∈ wsL_law := in_r1 _ (List.mem_of_getElem? (i := 16) rfl)
theorem mw_1_17 : Cond.fieldLink RX2 12 "TavernDice" "dice" "LTavernDice$Dice;" ∈ wsL_law := in_r1 _ (List.mem_of_getElem? (i := 17) rfl)
theorem mw_1_18 : Cond.classLink RX2 16 RJx4a65c ∈ wsL_law := in_r1 _ (List.mem_of_getElem? (i := 18) rfl)
theorem mw_1_19 : Cond.instantiable RJx4a65c 3 ∈ wsL_law := in_r1 _ (List.mem_of_getElem? (i := 19) rfl)
theorem mw_1_20 : Cond.initialized RJx4a65c ∈ wsL_law := in_r1 _ (List.mem_of_getElem? (i := 20) rfl)
theorem mw_1_21 : Cond.fieldLink RX2 19 "TavernDice" "wagers" "Ljava/util/ArrayList;" ∈ wsL_law := in_r1 _ (List.mem_of_getElem? (i := 21) rfl)
theorem mw_1_22 : Cond.arrayClass .int ∈ wsL_law := in_r1 _ (List.mem_of_getElem? (i := 22) rfl)
theorem mw_1_23 : Cond.fieldLink RX2 23 "TavernDice" "purses" "[I" ∈ wsL_law := in_r1 _ (List.mem_of_getElem? (i := 23) rfl)
theorem mw_2_0 : Cond.fieldLink RX2 27 "TavernDice" "bank" "I" ∈ wsL_law := in_r2 _ (List.mem_of_getElem? (i := 0) rfl)
theorem mw_2_1 : Cond.methodLink RX2 11 yX0_init ∈ wsL_law := in_r2 _ (List.mem_of_getElem? (i := 1) rfl)
theorem mw_2_2 : Cond.instanceMethod yX0_init ∈ wsL_law := in_r2 _ (List.mem_of_getElem? (i := 2) rfl)
theorem mw_2_3 : Cond.code yX0_init cX0_init 1 none ∈ wsL_law := in_r2 _ (List.mem_of_getElem? (i := 3) rfl)
theorem mw_2_4 : Cond.methodLink RX0 3 objectInit ∈ wsL_law := in_r2 _ (List.mem_of_getElem? (i := 4) rfl)
theorem mw_2_5 : Cond.fieldLink RX0 9 "TavernDice$Dice" "sums" "[I" ∈ wsL_law := in_r2 _ (List.mem_of_getElem? (i := 5) rfl)
theorem mw_2_6 : Cond.fieldLink RX0 15 "TavernDice$Dice" "faces" "[I" ∈ wsL_law := in_r2 _ (List.mem_of_getElem? (i := 6) rfl)
theorem mw_2_7 : Cond.methodLink RX0 18 yX0_layOut ∈ wsL_law := in_r2 _ (List.mem_of_getElem? (i := 7) rfl)
theorem mw_2_8 : Cond.instanceMethod yX0_layOut ∈ wsL_law := in_r2 _ (List.mem_of_getElem? (i := 8) rfl)
theorem mw_2_9 : Cond.selects RX0 yX0_layOut yX0_layOut ∈ wsL_law := in_r2 _ (List.mem_of_getElem? (i := 9) rfl)
theorem mw_2_10 : Cond.code yX0_layOut cX0_layOut 7 none ∈ wsL_law := in_r2 _ (List.mem_of_getElem? (i := 10) rfl)
theorem mw_2_11 : Cond.fieldLink RX0 22 "TavernDice$Dice" "count" "I" ∈ wsL_law := in_r2 _ (List.mem_of_getElem? (i := 11) rfl)
theorem mw_2_12 : Cond.fieldLink RX0 26 "TavernDice$Dice" "outcomes" "I" ∈ wsL_law := in_r2 _ (List.mem_of_getElem? (i := 12) rfl)
theorem mw_2_13 : Cond.methodLink RX0 29 Lib.Math.min.name ∈ wsL_law := in_r2 _ (List.mem_of_getElem? (i := 13) rfl)
theorem mw_2_14 : Cond.static Lib.Math.min.name ∈ wsL_law := in_r2 _ (List.mem_of_getElem? (i := 14) rfl)
theorem mw_2_15 : Cond.initialized "java/lang/Math" ∈ wsL_law := in_r2 _ (List.mem_of_getElem? (i := 15) rfl)
theorem mw_2_16 : Cond.code Lib.Math.min.name Lib.Math.min.code 2 (some .int) ∈ wsL_law := in_r2 _ (List.mem_of_getElem? (i := 16) rfl)
theorem mw_2_17 : Cond.methodLink RX0 35 yX0_addOutcome ∈ wsL_law := in_r2 _ (List.mem_of_getElem? (i := 17) rfl)
theorem mw_2_18 : Cond.instanceMethod yX0_addOutcome ∈ wsL_law := in_r2 _ (List.mem_of_getElem? (i := 18) rfl)
theorem mw_2_19 : Cond.selects RX0 yX0_addOutcome yX0_addOutcome ∈ wsL_law := in_r2 _ (List.mem_of_getElem? (i := 19) rfl)
theorem mw_2_20 : Cond.code yX0_addOutcome cX0_addOutcome 4 none ∈ wsL_law := in_r2 _ (List.mem_of_getElem? (i := 20) rfl)
theorem mw_2_21 : Cond.methodLink RX0 38 yX0_bitOf ∈ wsL_law := in_r2 _ (List.mem_of_getElem? (i := 21) rfl)
theorem mw_2_22 : Cond.static yX0_bitOf ∈ wsL_law := in_r2 _ (List.mem_of_getElem? (i := 22) rfl)
theorem mw_2_23 : Cond.code yX0_bitOf cX0_bitOf 1 (some .int) ∈ wsL_law := in_r2 _ (List.mem_of_getElem? (i := 23) rfl)
theorem mw_3_0 : Cond.methodLink RX2 18 yJx4a65c_init_da8c8 ∈ wsL_law := in_r3 _ (List.mem_of_getElem? (i := 0) rfl)
theorem mw_3_1 : Cond.instanceMethod yJx4a65c_init_da8c8 ∈ wsL_law := in_r3 _ (List.mem_of_getElem? (i := 1) rfl)
theorem mw_3_2 : Cond.code yJx4a65c_init_da8c8 cJx4a65c_init_da8c8 1 none ∈ wsL_law := in_r3 _ (List.mem_of_getElem? (i := 2) rfl)
theorem mw_3_3 : Cond.fieldLink RJx4a65c 39 "java/util/ArrayList" "DEFAULTCAPACITY_EMPTY_ELEMENTDATA" "[Ljava/lang/Object;" ∈ wsL_law := in_r3 _ (List.mem_of_getElem? (i := 3) rfl)
theorem mw_3_4 : Cond.fieldLink RJx4a65c 9 "java/util/ArrayList" "elementData" "[Ljava/lang/Object;" ∈ wsL_law := in_r3 _ (List.mem_of_getElem? (i := 4) rfl)
theorem mw_3_5 : Cond.methodLink RJx4a65c 1 yJxc12de_init_da8c8 ∈ wsL_law := in_r3 _ (List.mem_of_getElem? (i := 5) rfl)
theorem mw_3_6 : Cond.instanceMethod yJxc12de_init_da8c8 ∈ wsL_law := in_r3 _ (List.mem_of_getElem? (i := 6) rfl)
theorem mw_3_7 : Cond.initialized RJxc12de ∈ wsL_law := in_r3 _ (List.mem_of_getElem? (i := 7) rfl)
theorem mw_3_8 : Cond.code yJxc12de_init_da8c8 cJxc12de_init_da8c8 1 none ∈ wsL_law := in_r3 _ (List.mem_of_getElem? (i := 8) rfl)
theorem mw_3_9 : Cond.fieldLink RJxc12de 7 "java/util/AbstractList" "modCount" "I" ∈ wsL_law := in_r3 _ (List.mem_of_getElem? (i := 9) rfl)
theorem mw_3_10 : Cond.methodLink RJxc12de 1 yJxa1e45_init_da8c8 ∈ wsL_law := in_r3 _ (List.mem_of_getElem? (i := 10) rfl)
theorem mw_3_11 : Cond.instanceMethod yJxa1e45_init_da8c8 ∈ wsL_law := in_r3 _ (List.mem_of_getElem? (i := 11) rfl)
theorem mw_3_12 : Cond.initialized RJxa1e45 ∈ wsL_law := in_r3 _ (List.mem_of_getElem? (i := 12) rfl)
theorem mw_3_13 : Cond.code yJxa1e45_init_da8c8 cJxa1e45_init_da8c8 1 none ∈ wsL_law := in_r3 _ (List.mem_of_getElem? (i := 13) rfl)
theorem mw_3_14 : Cond.methodLink RJxa1e45 1 objectInit ∈ wsL_law := in_r3 _ (List.mem_of_getElem? (i := 14) rfl)
theorem mw_3_15 : Cond.methodLink RL 81 yX3_init ∈ wsL_law := in_r3 _ (List.mem_of_getElem? (i := 15) rfl)
theorem mw_3_16 : Cond.instanceMethod yX3_init ∈ wsL_law := in_r3 _ (List.mem_of_getElem? (i := 16) rfl)
theorem mw_3_17 : Cond.code yX3_init cX3_init 1 none ∈ wsL_law := in_r3 _ (List.mem_of_getElem? (i := 17) rfl)
theorem mw_3_18 : Cond.methodLink RX3 3 objectInit ∈ wsL_law := in_r3 _ (List.mem_of_getElem? (i := 18) rfl)
theorem mw_3_19 : Cond.fieldLink RX3 9 "TavernDiceModel" "faces" "[I" ∈ wsL_law := in_r3 _ (List.mem_of_getElem? (i := 19) rfl)
theorem mw_3_20 : Cond.fieldLink RX3 13 "TavernDiceModel" "dice" "I" ∈ wsL_law := in_r3 _ (List.mem_of_getElem? (i := 20) rfl)
theorem mw_3_21 : Cond.fieldLink RX3 17 "TavernDiceModel" "outcomes" "I" ∈ wsL_law := in_r3 _ (List.mem_of_getElem? (i := 21) rfl)
theorem mw_3_22 : Cond.fieldLink RX3 20 "TavernDiceModel" "purse" "[I" ∈ wsL_law := in_r3 _ (List.mem_of_getElem? (i := 22) rfl)
theorem mw_3_23 : Cond.fieldLink RX3 23 "TavernDiceModel" "bank" "I" ∈ wsL_law := in_r3 _ (List.mem_of_getElem? (i := 23) rfl)
theorem mw_4_0 : Cond.fieldLink RX3 26 "TavernDiceModel" "who" "[I" ∈ wsL_law := in_r4 _ (List.mem_of_getElem? (i := 0) rfl)
theorem mw_4_1 : Cond.fieldLink RX3 29 "TavernDiceModel" "kind" "[I" ∈ wsL_law := in_r4 _ (List.mem_of_getElem? (i := 1) rfl)
theorem mw_4_2 : Cond.fieldLink RX3 32 "TavernDiceModel" "number" "[I" ∈ wsL_law := in_r4 _ (List.mem_of_getElem? (i := 2) rfl)
theorem mw_4_3 : Cond.fieldLink RX3 35 "TavernDiceModel" "stake" "[I" ∈ wsL_law := in_r4 _ (List.mem_of_getElem? (i := 3) rfl)
theorem mw_4_4 : Cond.fieldLink RX3 38 "TavernDiceModel" "brings" "[I" ∈ wsL_law := in_r4 _ (List.mem_of_getElem? (i := 4) rfl)
theorem mw_4_5 : Cond.arrayClass .boolean ∈ wsL_law := in_r4 _ (List.mem_of_getElem? (i := 5) rfl)
theorem mw_4_6 : Cond.fieldLink RX3 41 "TavernDiceModel" "isHit" "[Z" ∈ wsL_law := in_r4 _ (List.mem_of_getElem? (i := 6) rfl)
theorem mw_4_7 : Cond.fieldLink RX3 45 "TavernDiceModel" "sums" "[I" ∈ wsL_law := in_r4 _ (List.mem_of_getElem? (i := 7) rfl)
theorem mw_4_8 : Cond.methodLink RL 82 yL_setDice ∈ wsL_law := in_r4 _ (List.mem_of_getElem? (i := 8) rfl)
theorem mw_4_9 : Cond.static yL_setDice ∈ wsL_law := in_r4 _ (List.mem_of_getElem? (i := 9) rfl)
theorem mw_4_10 : Cond.initialized RL ∈ wsL_law := in_r4 _ (List.mem_of_getElem? (i := 10) rfl)
theorem mw_4_11 : Cond.codeWith yL_setDice cL_setDice 6 (some .int) [(0, 12, 15, 13), (0, 12, 19, 15)] ∈ wsL_law := in_r4 _ (List.mem_of_getElem? (i := 11) rfl)
theorem mw_4_12 : Cond.classLink RL 13 "java/lang/IllegalArgumentException" ∈ wsL_law := in_r4 _ (List.mem_of_getElem? (i := 12) rfl)
theorem mw_4_13 : Cond.classLink RL 15 "java/lang/IllegalStateException" ∈ wsL_law := in_r4 _ (List.mem_of_getElem? (i := 13) rfl)
theorem mw_4_14 : Cond.methodLink RL 7 yX2_setDice ∈ wsL_law := in_r4 _ (List.mem_of_getElem? (i := 14) rfl)
theorem mw_4_15 : Cond.instanceMethod yX2_setDice ∈ wsL_law := in_r4 _ (List.mem_of_getElem? (i := 15) rfl)
theorem mw_4_16 : Cond.selects RX2 yX2_setDice yX2_setDice ∈ wsL_law := in_r4 _ (List.mem_of_getElem? (i := 16) rfl)
theorem mw_4_17 : Cond.code yX2_setDice cX2_setDice 4 (some .int) ∈ wsL_law := in_r4 _ (List.mem_of_getElem? (i := 17) rfl)
theorem mw_4_18 : Cond.classLink RX2 38 "java/lang/IllegalArgumentException" ∈ wsL_law := in_r4 _ (List.mem_of_getElem? (i := 18) rfl)
theorem mw_4_19 : Cond.initialized "java/lang/IllegalArgumentException" ∈ wsL_law := in_r4 _ (List.mem_of_getElem? (i := 19) rfl)
theorem mw_4_20 : Cond.classLink RX2 49 "java/lang/IllegalStateException" ∈ wsL_law := in_r4 _ (List.mem_of_getElem? (i := 20) rfl)
theorem mw_4_21 : Cond.initialized "java/lang/IllegalStateException" ∈ wsL_law := in_r4 _ (List.mem_of_getElem? (i := 21) rfl)
theorem mw_4_22 : Cond.fieldLink RX2 58 "TavernDice$Dice" "outcomes" "I" ∈ wsL_law := in_r4 _ (List.mem_of_getElem? (i := 22) rfl)
theorem mw_4_23 : Cond.methodLink RX2 31 yX2_isDie ∈ wsL_law := in_r4 _ (List.mem_of_getElem? (i := 23) rfl)
theorem mw_5_0 : Cond.static yX2_isDie ∈ wsL_law := in_r5 _ (List.mem_of_getElem? (i := 0) rfl)
theorem mw_5_1 : Cond.code yX2_isDie cX2_isDie 1 (some .boolean) ∈ wsL_law := in_r5 _ (List.mem_of_getElem? (i := 1) rfl)
theorem mw_5_2 : Cond.methodLink RX2 35 yX2_isDieOrNone ∈ wsL_law := in_r5 _ (List.mem_of_getElem? (i := 2) rfl)
theorem mw_5_3 : Cond.static yX2_isDieOrNone ∈ wsL_law := in_r5 _ (List.mem_of_getElem? (i := 3) rfl)
theorem mw_5_4 : Cond.code yX2_isDieOrNone cX2_isDieOrNone 1 (some .boolean) ∈ wsL_law := in_r5 _ (List.mem_of_getElem? (i := 4) rfl)
theorem mw_5_5 : Cond.methodLink RX2 45 yJx4a65c_isEmpty_aae02 ∈ wsL_law := in_r5 _ (List.mem_of_getElem? (i := 5) rfl)
theorem mw_5_6 : Cond.instanceMethod yJx4a65c_isEmpty_aae02 ∈ wsL_law := in_r5 _ (List.mem_of_getElem? (i := 6) rfl)
theorem mw_5_7 : Cond.selects RJx4a65c yJx4a65c_isEmpty_aae02 yJx4a65c_isEmpty_aae02 ∈ wsL_law := in_r5 _ (List.mem_of_getElem? (i := 7) rfl)
theorem mw_5_8 : Cond.code yJx4a65c_isEmpty_aae02 cJx4a65c_isEmpty_aae02 1 (some .boolean) ∈ wsL_law := in_r5 _ (List.mem_of_getElem? (i := 8) rfl)
theorem mw_5_9 : Cond.fieldLink RJx4a65c 48 "java/util/ArrayList" "size" "I" ∈ wsL_law := in_r5 _ (List.mem_of_getElem? (i := 9) rfl)
theorem mw_5_10 : Cond.methodLink RX2 54 yX0_layOut ∈ wsL_law := in_r5 _ (List.mem_of_getElem? (i := 10) rfl)
theorem mw_5_11 : Cond.methodLink RL 87 yX3_setDice ∈ wsL_law := in_r5 _ (List.mem_of_getElem? (i := 11) rfl)
theorem mw_5_12 : Cond.instanceMethod yX3_setDice ∈ wsL_law := in_r5 _ (List.mem_of_getElem? (i := 12) rfl)
theorem mw_5_13 : Cond.selects RX3 yX3_setDice yX3_setDice ∈ wsL_law := in_r5 _ (List.mem_of_getElem? (i := 13) rfl)
theorem mw_5_14 : Cond.code yX3_setDice cX3_setDice 4 (some .int) ∈ wsL_law := in_r5 _ (List.mem_of_getElem? (i := 14) rfl)
theorem mw_5_15 : Cond.fieldLink RX3 48 "TavernDiceModel" "thrown" "I" ∈ wsL_law := in_r5 _ (List.mem_of_getElem? (i := 15) rfl)
theorem mw_5_16 : Cond.fieldLink RX3 51 "TavernDiceModel" "open" "I" ∈ wsL_law := in_r5 _ (List.mem_of_getElem? (i := 16) rfl)
theorem mw_5_17 : Cond.methodLink RX3 105 Lib.Math.max.name ∈ wsL_law := in_r5 _ (List.mem_of_getElem? (i := 17) rfl)
theorem mw_5_18 : Cond.static Lib.Math.max.name ∈ wsL_law := in_r5 _ (List.mem_of_getElem? (i := 18) rfl)
theorem mw_5_19 : Cond.code Lib.Math.max.name Lib.Math.max.code 2 (some .int) ∈ wsL_law := in_r5 _ (List.mem_of_getElem? (i := 19) rfl)
theorem mw_5_20 : Cond.methodLink RX3 98 yX3_isDie ∈ wsL_law := in_r5 _ (List.mem_of_getElem? (i := 20) rfl)
theorem mw_5_21 : Cond.static yX3_isDie ∈ wsL_law := in_r5 _ (List.mem_of_getElem? (i := 21) rfl)
theorem mw_5_22 : Cond.code yX3_isDie cX3_isDie 1 (some .boolean) ∈ wsL_law := in_r5 _ (List.mem_of_getElem? (i := 22) rfl)
theorem mw_5_23 : Cond.methodLink RX3 54 yX3_isIn ∈ wsL_law := in_r5 _ (List.mem_of_getElem? (i := 23) rfl)
theorem mw_6_0 : Cond.static yX3_isIn ∈ wsL_law := in_r6 _ (List.mem_of_getElem? (i := 0) rfl)
theorem mw_6_1 : Cond.code yX3_isIn cX3_isIn 3 (some .boolean) ∈ wsL_law := in_r6 _ (List.mem_of_getElem? (i := 1) rfl)
theorem mw_6_2 : Cond.methodLink RX3 102 yX3_no ∈ wsL_law := in_r6 _ (List.mem_of_getElem? (i := 2) rfl)
theorem mw_6_3 : Cond.instanceMethod yX3_no ∈ wsL_law := in_r6 _ (List.mem_of_getElem? (i := 3) rfl)
theorem mw_6_4 : Cond.selects RX3 yX3_no yX3_no ∈ wsL_law := in_r6 _ (List.mem_of_getElem? (i := 4) rfl)
theorem mw_6_5 : Cond.code yX3_no cX3_no 2 (some .int) ∈ wsL_law := in_r6 _ (List.mem_of_getElem? (i := 5) rfl)
theorem mw_6_6 : Cond.methodLink RL 88 yX3_thrown ∈ wsL_law := in_r6 _ (List.mem_of_getElem? (i := 6) rfl)
theorem mw_6_7 : Cond.instanceMethod yX3_thrown ∈ wsL_law := in_r6 _ (List.mem_of_getElem? (i := 7) rfl)
theorem mw_6_8 : Cond.selects RX3 yX3_thrown yX3_thrown ∈ wsL_law := in_r6 _ (List.mem_of_getElem? (i := 8) rfl)
theorem mw_6_9 : Cond.code yX3_thrown cX3_thrown 1 (some .int) ∈ wsL_law := in_r6 _ (List.mem_of_getElem? (i := 9) rfl)
theorem mw_6_10 : Cond.methodLink RL 92 yX2_dice ∈ wsL_law := in_r6 _ (List.mem_of_getElem? (i := 10) rfl)
theorem mw_6_11 : Cond.instanceMethod yX2_dice ∈ wsL_law := in_r6 _ (List.mem_of_getElem? (i := 11) rfl)
theorem mw_6_12 : Cond.selects RX2 yX2_dice yX2_dice ∈ wsL_law := in_r6 _ (List.mem_of_getElem? (i := 12) rfl)
theorem mw_6_13 : Cond.code yX2_dice cX2_dice 1 (some .int) ∈ wsL_law := in_r6 _ (List.mem_of_getElem? (i := 13) rfl)
theorem mw_6_14 : Cond.fieldLink RX2 61 "TavernDice$Dice" "count" "I" ∈ wsL_law := in_r6 _ (List.mem_of_getElem? (i := 14) rfl)
theorem mw_6_15 : Cond.methodLink RL 95 yX3_dice ∈ wsL_law := in_r6 _ (List.mem_of_getElem? (i := 15) rfl)
theorem mw_6_16 : Cond.instanceMethod yX3_dice ∈ wsL_law := in_r6 _ (List.mem_of_getElem? (i := 16) rfl)
theorem mw_6_17 : Cond.selects RX3 yX3_dice yX3_dice ∈ wsL_law := in_r6 _ (List.mem_of_getElem? (i := 17) rfl)
theorem mw_6_18 : Cond.code yX3_dice cX3_dice 1 (some .int) ∈ wsL_law := in_r6 _ (List.mem_of_getElem? (i := 18) rfl)
theorem mw_6_19 : Cond.methodLink RX3 108 yX3_ok ∈ wsL_law := in_r6 _ (List.mem_of_getElem? (i := 19) rfl)
theorem mw_6_20 : Cond.instanceMethod yX3_ok ∈ wsL_law := in_r6 _ (List.mem_of_getElem? (i := 20) rfl)
theorem mw_6_21 : Cond.selects RX3 yX3_ok yX3_ok ∈ wsL_law := in_r6 _ (List.mem_of_getElem? (i := 21) rfl)
theorem mw_6_22 : Cond.code yX3_ok cX3_ok 2 (some .int) ∈ wsL_law := in_r6 _ (List.mem_of_getElem? (i := 22) rfl)
theorem mw_6_23 : Cond.methodLink RL 96 yX2_outcomes ∈ wsL_law := in_r6 _ (List.mem_of_getElem? (i := 23) rfl)
theorem mw_7_0 : Cond.instanceMethod yX2_outcomes ∈ wsL_law := in_r7 _ (List.mem_of_getElem? (i := 0) rfl)
theorem mw_7_1 : Cond.selects RX2 yX2_outcomes yX2_outcomes ∈ wsL_law := in_r7 _ (List.mem_of_getElem? (i := 1) rfl)
theorem mw_7_2 : Cond.code yX2_outcomes cX2_outcomes 1 (some .int) ∈ wsL_law := in_r7 _ (List.mem_of_getElem? (i := 2) rfl)
theorem mw_7_3 : Cond.methodLink RL 99 yX3_outcomes ∈ wsL_law := in_r7 _ (List.mem_of_getElem? (i := 3) rfl)
theorem mw_7_4 : Cond.instanceMethod yX3_outcomes ∈ wsL_law := in_r7 _ (List.mem_of_getElem? (i := 4) rfl)
theorem mw_7_5 : Cond.selects RX3 yX3_outcomes yX3_outcomes ∈ wsL_law := in_r7 _ (List.mem_of_getElem? (i := 5) rfl)
theorem mw_7_6 : Cond.code yX3_outcomes cX3_outcomes 1 (some .int) ∈ wsL_law := in_r7 _ (List.mem_of_getElem? (i := 6) rfl)
theorem mw_7_7 : Cond.methodLink RL 100 yL_sumOf ∈ wsL_law := in_r7 _ (List.mem_of_getElem? (i := 7) rfl)
theorem mw_7_8 : Cond.static yL_sumOf ∈ wsL_law := in_r7 _ (List.mem_of_getElem? (i := 8) rfl)
theorem mw_7_9 : Cond.codeWith yL_sumOf cL_sumOf 4 (some .int) [(0, 9, 12, 21)] ∈ wsL_law := in_r7 _ (List.mem_of_getElem? (i := 9) rfl)
theorem mw_7_10 : Cond.classLink RL 21 "java/lang/IndexOutOfBoundsException" ∈ wsL_law := in_r7 _ (List.mem_of_getElem? (i := 10) rfl)
theorem mw_7_11 : Cond.methodLink RL 17 yX2_sumOf ∈ wsL_law := in_r7 _ (List.mem_of_getElem? (i := 11) rfl)
theorem mw_7_12 : Cond.instanceMethod yX2_sumOf ∈ wsL_law := in_r7 _ (List.mem_of_getElem? (i := 12) rfl)
theorem mw_7_13 : Cond.selects RX2 yX2_sumOf yX2_sumOf ∈ wsL_law := in_r7 _ (List.mem_of_getElem? (i := 13) rfl)
theorem mw_7_14 : Cond.code yX2_sumOf cX2_sumOf 2 (some .int) ∈ wsL_law := in_r7 _ (List.mem_of_getElem? (i := 14) rfl)
theorem mw_7_15 : Cond.fieldLink RX2 68 "TavernDice$Dice" "sums" "[I" ∈ wsL_law := in_r7 _ (List.mem_of_getElem? (i := 15) rfl)
theorem mw_7_16 : Cond.methodLink RX2 64 yX2_checkOutcome ∈ wsL_law := in_r7 _ (List.mem_of_getElem? (i := 16) rfl)
theorem mw_7_17 : Cond.instanceMethod yX2_checkOutcome ∈ wsL_law := in_r7 _ (List.mem_of_getElem? (i := 17) rfl)
theorem mw_7_18 : Cond.selects RX2 yX2_checkOutcome yX2_checkOutcome ∈ wsL_law := in_r7 _ (List.mem_of_getElem? (i := 18) rfl)
theorem mw_7_19 : Cond.code yX2_checkOutcome cX2_checkOutcome 2 none ∈ wsL_law := in_r7 _ (List.mem_of_getElem? (i := 19) rfl)
theorem mw_7_20 : Cond.classLink RX2 254 "java/lang/IndexOutOfBoundsException" ∈ wsL_law := in_r7 _ (List.mem_of_getElem? (i := 20) rfl)
theorem mw_7_21 : Cond.initialized "java/lang/IndexOutOfBoundsException" ∈ wsL_law := in_r7 _ (List.mem_of_getElem? (i := 21) rfl)
theorem mw_7_22 : Cond.methodLink RL 103 yX3_sumOf ∈ wsL_law := in_r7 _ (List.mem_of_getElem? (i := 22) rfl)
theorem mw_7_23 : Cond.instanceMethod yX3_sumOf ∈ wsL_law := in_r7 _ (List.mem_of_getElem? (i := 23) rfl)
theorem mw_8_0 : Cond.selects RX3 yX3_sumOf yX3_sumOf ∈ wsL_law := in_r8 _ (List.mem_of_getElem? (i := 0) rfl)
theorem mw_8_1 : Cond.code yX3_sumOf cX3_sumOf 2 (some .int) ∈ wsL_law := in_r8 _ (List.mem_of_getElem? (i := 1) rfl)
theorem mw_8_2 : Cond.methodLink RX3 111 yX3_isOutcome ∈ wsL_law := in_r8 _ (List.mem_of_getElem? (i := 2) rfl)
theorem mw_8_3 : Cond.instanceMethod yX3_isOutcome ∈ wsL_law := in_r8 _ (List.mem_of_getElem? (i := 3) rfl)
theorem mw_8_4 : Cond.selects RX3 yX3_isOutcome yX3_isOutcome ∈ wsL_law := in_r8 _ (List.mem_of_getElem? (i := 4) rfl)
theorem mw_8_5 : Cond.code yX3_isOutcome cX3_isOutcome 2 (some .boolean) ∈ wsL_law := in_r8 _ (List.mem_of_getElem? (i := 5) rfl)
theorem mw_8_6 : Cond.methodLink RX3 65 yX3_sum ∈ wsL_law := in_r8 _ (List.mem_of_getElem? (i := 6) rfl)
theorem mw_8_7 : Cond.instanceMethod yX3_sum ∈ wsL_law := in_r8 _ (List.mem_of_getElem? (i := 7) rfl)
theorem mw_8_8 : Cond.selects RX3 yX3_sum yX3_sum ∈ wsL_law := in_r8 _ (List.mem_of_getElem? (i := 8) rfl)
theorem mw_8_9 : Cond.code yX3_sum cX3_sum 4 (some .int) ∈ wsL_law := in_r8 _ (List.mem_of_getElem? (i := 9) rfl)
theorem mw_8_10 : Cond.methodLink RX3 58 yX3_face ∈ wsL_law := in_r8 _ (List.mem_of_getElem? (i := 10) rfl)
theorem mw_8_11 : Cond.instanceMethod yX3_face ∈ wsL_law := in_r8 _ (List.mem_of_getElem? (i := 11) rfl)
theorem mw_8_12 : Cond.selects RX3 yX3_face yX3_face ∈ wsL_law := in_r8 _ (List.mem_of_getElem? (i := 12) rfl)
theorem mw_8_13 : Cond.code yX3_face cX3_face 5 (some .int) ∈ wsL_law := in_r8 _ (List.mem_of_getElem? (i := 13) rfl)
theorem mw_8_14 : Cond.methodLink RL 104 yL_ways ∈ wsL_law := in_r8 _ (List.mem_of_getElem? (i := 14) rfl)
theorem mw_8_15 : Cond.static yL_ways ∈ wsL_law := in_r8 _ (List.mem_of_getElem? (i := 15) rfl)
theorem mw_8_16 : Cond.codeWith yL_ways cL_ways 5 (some .int) [(0, 10, 13, 13)] ∈ wsL_law := in_r8 _ (List.mem_of_getElem? (i := 16) rfl)
theorem mw_8_17 : Cond.methodLink RL 23 yX2_ways ∈ wsL_law := in_r8 _ (List.mem_of_getElem? (i := 17) rfl)
theorem mw_8_18 : Cond.instanceMethod yX2_ways ∈ wsL_law := in_r8 _ (List.mem_of_getElem? (i := 18) rfl)
theorem mw_8_19 : Cond.selects RX2 yX2_ways yX2_ways ∈ wsL_law := in_r8 _ (List.mem_of_getElem? (i := 19) rfl)
theorem mw_8_20 : Cond.code yX2_ways cX2_ways 3 (some .int) ∈ wsL_law := in_r8 _ (List.mem_of_getElem? (i := 20) rfl)
theorem mw_8_21 : Cond.methodLink RX2 71 yX2_checkEvent ∈ wsL_law := in_r8 _ (List.mem_of_getElem? (i := 21) rfl)
theorem mw_8_22 : Cond.static yX2_checkEvent ∈ wsL_law := in_r8 _ (List.mem_of_getElem? (i := 22) rfl)
theorem mw_8_23 : Cond.code yX2_checkEvent cX2_checkEvent 2 none ∈ wsL_law := in_r8 _ (List.mem_of_getElem? (i := 23) rfl)
theorem mw_9_0 : Cond.methodLink RX2 75 yX0_countWays ∈ wsL_law := in_r9 _ (List.mem_of_getElem? (i := 0) rfl)
theorem mw_9_1 : Cond.instanceMethod yX0_countWays ∈ wsL_law := in_r9 _ (List.mem_of_getElem? (i := 1) rfl)
theorem mw_9_2 : Cond.selects RX0 yX0_countWays yX0_countWays ∈ wsL_law := in_r9 _ (List.mem_of_getElem? (i := 2) rfl)
theorem mw_9_3 : Cond.code yX0_countWays cX0_countWays 5 (some .int) ∈ wsL_law := in_r9 _ (List.mem_of_getElem? (i := 3) rfl)
theorem mw_9_4 : Cond.methodLink RX0 51 yX0_comes ∈ wsL_law := in_r9 _ (List.mem_of_getElem? (i := 4) rfl)
theorem mw_9_5 : Cond.instanceMethod yX0_comes ∈ wsL_law := in_r9 _ (List.mem_of_getElem? (i := 5) rfl)
theorem mw_9_6 : Cond.selects RX0 yX0_comes yX0_comes ∈ wsL_law := in_r9 _ (List.mem_of_getElem? (i := 6) rfl)
theorem mw_9_7 : Cond.code yX0_comes cX0_comes 4 (some .boolean) ∈ wsL_law := in_r9 _ (List.mem_of_getElem? (i := 7) rfl)
theorem mw_9_8 : Cond.methodLink RX0 42 yX0_holds ∈ wsL_law := in_r9 _ (List.mem_of_getElem? (i := 8) rfl)
theorem mw_9_9 : Cond.instanceMethod yX0_holds ∈ wsL_law := in_r9 _ (List.mem_of_getElem? (i := 9) rfl)
theorem mw_9_10 : Cond.selects RX0 yX0_holds yX0_holds ∈ wsL_law := in_r9 _ (List.mem_of_getElem? (i := 10) rfl)
theorem mw_9_11 : Cond.code yX0_holds cX0_holds 4 (some .boolean) ∈ wsL_law := in_r9 _ (List.mem_of_getElem? (i := 11) rfl)
theorem mw_9_12 : Cond.methodLink RX0 46 yJ6_bitCount_0f7a4 ∈ wsL_law := in_r9 _ (List.mem_of_getElem? (i := 12) rfl)
theorem mw_9_13 : Cond.static yJ6_bitCount_0f7a4 ∈ wsL_law := in_r9 _ (List.mem_of_getElem? (i := 13) rfl)
theorem mw_9_14 : Cond.initialized RJ6 ∈ wsL_law := in_r9 _ (List.mem_of_getElem? (i := 14) rfl)
theorem mw_9_15 : Cond.code yJ6_bitCount_0f7a4 cJ6_bitCount_0f7a4 1 (some .int) ∈ wsL_law := in_r9 _ (List.mem_of_getElem? (i := 15) rfl)
theorem mw_9_16 : Cond.constant RJ6 265 (1431655765) ∈ wsL_law := in_r9 _ (List.mem_of_getElem? (i := 16) rfl)
theorem mw_9_17 : Cond.constant RJ6 266 (858993459) ∈ wsL_law := in_r9 _ (List.mem_of_getElem? (i := 17) rfl)
theorem mw_9_18 : Cond.constant RJ6 267 (252645135) ∈ wsL_law := in_r9 _ (List.mem_of_getElem? (i := 18) rfl)
theorem mw_9_19 : Cond.methodLink RL 107 yX3_ways ∈ wsL_law := in_r9 _ (List.mem_of_getElem? (i := 19) rfl)
theorem mw_9_20 : Cond.instanceMethod yX3_ways ∈ wsL_law := in_r9 _ (List.mem_of_getElem? (i := 20) rfl)
theorem mw_9_21 : Cond.selects RX3 yX3_ways yX3_ways ∈ wsL_law := in_r9 _ (List.mem_of_getElem? (i := 21) rfl)
theorem mw_9_22 : Cond.code yX3_ways cX3_ways 3 (some .int) ∈ wsL_law := in_r9 _ (List.mem_of_getElem? (i := 22) rfl)
theorem mw_9_23 : Cond.methodLink RX3 114 yX3_isEvent ∈ wsL_law := in_r9 _ (List.mem_of_getElem? (i := 23) rfl)
theorem mw_10_0 : Cond.static yX3_isEvent ∈ wsL_law := in_r10 _ (List.mem_of_getElem? (i := 0) rfl)
theorem mw_10_1 : Cond.code yX3_isEvent cX3_isEvent 2 (some .boolean) ∈ wsL_law := in_r10 _ (List.mem_of_getElem? (i := 1) rfl)
theorem mw_10_2 : Cond.methodLink RX3 74 yX3_many ∈ wsL_law := in_r10 _ (List.mem_of_getElem? (i := 2) rfl)
theorem mw_10_3 : Cond.instanceMethod yX3_many ∈ wsL_law := in_r10 _ (List.mem_of_getElem? (i := 3) rfl)
theorem mw_10_4 : Cond.selects RX3 yX3_many yX3_many ∈ wsL_law := in_r10 _ (List.mem_of_getElem? (i := 4) rfl)
theorem mw_10_5 : Cond.code yX3_many cX3_many 5 (some .int) ∈ wsL_law := in_r10 _ (List.mem_of_getElem? (i := 5) rfl)
theorem mw_10_6 : Cond.methodLink RX3 69 Lib.Math.min.name ∈ wsL_law := in_r10 _ (List.mem_of_getElem? (i := 6) rfl)
theorem mw_10_7 : Cond.methodLink RX3 77 yX3_without ∈ wsL_law := in_r10 _ (List.mem_of_getElem? (i := 7) rfl)
theorem mw_10_8 : Cond.instanceMethod yX3_without ∈ wsL_law := in_r10 _ (List.mem_of_getElem? (i := 8) rfl)
theorem mw_10_9 : Cond.selects RX3 yX3_without yX3_without ∈ wsL_law := in_r10 _ (List.mem_of_getElem? (i := 9) rfl)
theorem mw_10_10 : Cond.code yX3_without cX3_without 4 (some .int) ∈ wsL_law := in_r10 _ (List.mem_of_getElem? (i := 10) rfl)
theorem mw_10_11 : Cond.methodLink RX3 80 yX3_add ∈ wsL_law := in_r10 _ (List.mem_of_getElem? (i := 11) rfl)
theorem mw_10_12 : Cond.instanceMethod yX3_add ∈ wsL_law := in_r10 _ (List.mem_of_getElem? (i := 12) rfl)
theorem mw_10_13 : Cond.selects RX3 yX3_add yX3_add ∈ wsL_law := in_r10 _ (List.mem_of_getElem? (i := 13) rfl)
theorem mw_10_14 : Cond.code yX3_add cX3_add 5 none ∈ wsL_law := in_r10 _ (List.mem_of_getElem? (i := 14) rfl)
theorem mw_10_15 : Cond.methodLink RL 108 yL_chance ∈ wsL_law := in_r10 _ (List.mem_of_getElem? (i := 15) rfl)
theorem mw_10_16 : Cond.static yL_chance ∈ wsL_law := in_r10 _ (List.mem_of_getElem? (i := 16) rfl)
theorem mw_10_17 : Cond.codeWith yL_chance cL_chance 5 (some .int) [(0, 9, 12, 13)] ∈ wsL_law := in_r10 _ (List.mem_of_getElem? (i := 17) rfl)
theorem mw_10_18 : Cond.methodLink RL 27 yX2_chance ∈ wsL_law := in_r10 _ (List.mem_of_getElem? (i := 18) rfl)
theorem mw_10_19 : Cond.instanceMethod yX2_chance ∈ wsL_law := in_r10 _ (List.mem_of_getElem? (i := 19) rfl)
theorem mw_10_20 : Cond.selects RX2 yX2_chance yX2_chance ∈ wsL_law := in_r10 _ (List.mem_of_getElem? (i := 20) rfl)
theorem mw_10_21 : Cond.code yX2_chance cX2_chance 3 (some .double) ∈ wsL_law := in_r10 _ (List.mem_of_getElem? (i := 21) rfl)
theorem mw_10_22 : Cond.methodLink RL 111 yX3_chance ∈ wsL_law := in_r10 _ (List.mem_of_getElem? (i := 22) rfl)
theorem mw_10_23 : Cond.instanceMethod yX3_chance ∈ wsL_law := in_r10 _ (List.mem_of_getElem? (i := 23) rfl)
theorem mw_11_0 : Cond.selects RX3 yX3_chance yX3_chance ∈ wsL_law := in_r11 _ (List.mem_of_getElem? (i := 0) rfl)
theorem mw_11_1 : Cond.code yX3_chance cX3_chance 3 (some .double) ∈ wsL_law := in_r11 _ (List.mem_of_getElem? (i := 1) rfl)
theorem mw_11_2 : Cond.methodLink RL 112 yL_lay ∈ wsL_law := in_r11 _ (List.mem_of_getElem? (i := 2) rfl)
theorem mw_11_3 : Cond.static yL_lay ∈ wsL_law := in_r11 _ (List.mem_of_getElem? (i := 3) rfl)
theorem mw_11_4 : Cond.codeWith yL_lay cL_lay 9 (some .int) [(0, 18, 21, 21), (0, 18, 25, 13), (0, 18, 29, 15)] ∈ wsL_law := in_r11 _ (List.mem_of_getElem? (i := 4) rfl)
theorem mw_11_5 : Cond.methodLink RL 31 yX2_lay ∈ wsL_law := in_r11 _ (List.mem_of_getElem? (i := 5) rfl)
theorem mw_11_6 : Cond.instanceMethod yX2_lay ∈ wsL_law := in_r11 _ (List.mem_of_getElem? (i := 6) rfl)
theorem mw_11_7 : Cond.selects RX2 yX2_lay yX2_lay ∈ wsL_law := in_r11 _ (List.mem_of_getElem? (i := 7) rfl)
theorem mw_11_8 : Cond.code yX2_lay cX2_lay 8 (some .int) ∈ wsL_law := in_r11 _ (List.mem_of_getElem? (i := 8) rfl)
theorem mw_11_9 : Cond.classLink RX2 98 RX1 ∈ wsL_law := in_r11 _ (List.mem_of_getElem? (i := 9) rfl)
theorem mw_11_10 : Cond.instantiable RX1 6 ∈ wsL_law := in_r11 _ (List.mem_of_getElem? (i := 10) rfl)
theorem mw_11_11 : Cond.initialized RX1 ∈ wsL_law := in_r11 _ (List.mem_of_getElem? (i := 11) rfl)
theorem mw_11_12 : Cond.methodLink RX2 79 yX2_checkPatron ∈ wsL_law := in_r11 _ (List.mem_of_getElem? (i := 12) rfl)
theorem mw_11_13 : Cond.static yX2_checkPatron ∈ wsL_law := in_r11 _ (List.mem_of_getElem? (i := 13) rfl)
theorem mw_11_14 : Cond.code yX2_checkPatron cX2_checkPatron 1 none ∈ wsL_law := in_r11 _ (List.mem_of_getElem? (i := 14) rfl)
theorem mw_11_15 : Cond.methodLink RX2 84 yX2_checkWin ∈ wsL_law := in_r11 _ (List.mem_of_getElem? (i := 15) rfl)
theorem mw_11_16 : Cond.static yX2_checkWin ∈ wsL_law := in_r11 _ (List.mem_of_getElem? (i := 16) rfl)
theorem mw_11_17 : Cond.code yX2_checkWin cX2_checkWin 1 none ∈ wsL_law := in_r11 _ (List.mem_of_getElem? (i := 17) rfl)
theorem mw_11_18 : Cond.methodLink RX2 87 yX2_checkBase ∈ wsL_law := in_r11 _ (List.mem_of_getElem? (i := 18) rfl)
theorem mw_11_19 : Cond.static yX2_checkBase ∈ wsL_law := in_r11 _ (List.mem_of_getElem? (i := 19) rfl)
theorem mw_11_20 : Cond.code yX2_checkBase cX2_checkBase 1 none ∈ wsL_law := in_r11 _ (List.mem_of_getElem? (i := 20) rfl)
theorem mw_11_21 : Cond.methodLink RX2 90 yJx4a65c_size_8abf5 ∈ wsL_law := in_r11 _ (List.mem_of_getElem? (i := 21) rfl)
theorem mw_11_22 : Cond.instanceMethod yJx4a65c_size_8abf5 ∈ wsL_law := in_r11 _ (List.mem_of_getElem? (i := 22) rfl)
theorem mw_11_23 : Cond.selects RJx4a65c yJx4a65c_size_8abf5 yJx4a65c_size_8abf5 ∈ wsL_law := in_r11 _ (List.mem_of_getElem? (i := 23) rfl)
theorem mw_12_0 : Cond.code yJx4a65c_size_8abf5 cJx4a65c_size_8abf5 1 (some .int) ∈ wsL_law := in_r12 _ (List.mem_of_getElem? (i := 0) rfl)
theorem mw_12_1 : Cond.methodLink RX2 100 yX2_broughtBy ∈ wsL_law := in_r12 _ (List.mem_of_getElem? (i := 1) rfl)
theorem mw_12_2 : Cond.static yX2_broughtBy ∈ wsL_law := in_r12 _ (List.mem_of_getElem? (i := 2) rfl)
theorem mw_12_3 : Cond.code yX2_broughtBy cX2_broughtBy 3 (some .int) ∈ wsL_law := in_r12 _ (List.mem_of_getElem? (i := 3) rfl)
theorem mw_12_4 : Cond.methodLink RX2 104 yX1_init ∈ wsL_law := in_r12 _ (List.mem_of_getElem? (i := 4) rfl)
theorem mw_12_5 : Cond.instanceMethod yX1_init ∈ wsL_law := in_r12 _ (List.mem_of_getElem? (i := 5) rfl)
theorem mw_12_6 : Cond.code yX1_init cX1_init 7 none ∈ wsL_law := in_r12 _ (List.mem_of_getElem? (i := 6) rfl)
theorem mw_12_7 : Cond.methodLink RX1 1 objectInit ∈ wsL_law := in_r12 _ (List.mem_of_getElem? (i := 7) rfl)
theorem mw_12_8 : Cond.fieldLink RX1 7 "TavernDice$Wager" "patron" "I" ∈ wsL_law := in_r12 _ (List.mem_of_getElem? (i := 8) rfl)
theorem mw_12_9 : Cond.fieldLink RX1 13 "TavernDice$Wager" "kind" "I" ∈ wsL_law := in_r12 _ (List.mem_of_getElem? (i := 9) rfl)
theorem mw_12_10 : Cond.fieldLink RX1 16 "TavernDice$Wager" "number" "I" ∈ wsL_law := in_r12 _ (List.mem_of_getElem? (i := 10) rfl)
theorem mw_12_11 : Cond.fieldLink RX1 19 "TavernDice$Wager" "stake" "I" ∈ wsL_law := in_r12 _ (List.mem_of_getElem? (i := 11) rfl)
theorem mw_12_12 : Cond.fieldLink RX1 22 "TavernDice$Wager" "brings" "I" ∈ wsL_law := in_r12 _ (List.mem_of_getElem? (i := 12) rfl)
theorem mw_12_13 : Cond.fieldLink RX1 25 "TavernDice$Wager" "ways" "I" ∈ wsL_law := in_r12 _ (List.mem_of_getElem? (i := 13) rfl)
theorem mw_12_14 : Cond.methodLink RX2 107 yJx4a65c_add_9ea2d ∈ wsL_law := in_r12 _ (List.mem_of_getElem? (i := 14) rfl)
theorem mw_12_15 : Cond.instanceMethod yJx4a65c_add_9ea2d ∈ wsL_law := in_r12 _ (List.mem_of_getElem? (i := 15) rfl)
theorem mw_12_16 : Cond.selects RJx4a65c yJx4a65c_add_9ea2d yJx4a65c_add_9ea2d ∈ wsL_law := in_r12 _ (List.mem_of_getElem? (i := 16) rfl)
theorem mw_12_17 : Cond.code yJx4a65c_add_9ea2d cJx4a65c_add_9ea2d 2 (some .boolean) ∈ wsL_law := in_r12 _ (List.mem_of_getElem? (i := 17) rfl)
theorem mw_12_18 : Cond.fieldLink RJx4a65c 63 "java/util/ArrayList" "modCount" "I" ∈ wsL_law := in_r12 _ (List.mem_of_getElem? (i := 18) rfl)
theorem mw_12_19 : Cond.sameField "java/util/ArrayList" "java/util/AbstractList" "modCount" "I" ∈ wsL_law := in_r12 _ (List.mem_of_getElem? (i := 19) rfl)
theorem mw_12_20 : Cond.methodLink RJx4a65c 131 yJx4a65c_add_72be8 ∈ wsL_law := in_r12 _ (List.mem_of_getElem? (i := 20) rfl)
theorem mw_12_21 : Cond.instanceMethod yJx4a65c_add_72be8 ∈ wsL_law := in_r12 _ (List.mem_of_getElem? (i := 21) rfl)
theorem mw_12_22 : Cond.selects RJx4a65c yJx4a65c_add_72be8 yJx4a65c_add_72be8 ∈ wsL_law := in_r12 _ (List.mem_of_getElem? (i := 22) rfl)
theorem mw_12_23 : Cond.code yJx4a65c_add_72be8 cJx4a65c_add_72be8 4 none ∈ wsL_law := in_r12 _ (List.mem_of_getElem? (i := 23) rfl)
theorem mw_13_0 : Cond.methodLink RJx4a65c 129 yJx4a65c_grow_d5877 ∈ wsL_law := in_r13 _ (List.mem_of_getElem? (i := 0) rfl)
theorem mw_13_1 : Cond.instanceMethod yJx4a65c_grow_d5877 ∈ wsL_law := in_r13 _ (List.mem_of_getElem? (i := 1) rfl)
theorem mw_13_2 : Cond.selects RJx4a65c yJx4a65c_grow_d5877 yJx4a65c_grow_d5877 ∈ wsL_law := in_r13 _ (List.mem_of_getElem? (i := 2) rfl)
theorem mw_13_3 : Cond.code yJx4a65c_grow_d5877 cJx4a65c_grow_d5877 1 (some (.array (.object "java/lang/Object"))) ∈ wsL_law := in_r13 _ (List.mem_of_getElem? (i := 3) rfl)
theorem mw_13_4 : Cond.methodLink RJx4a65c 69 yJx4a65c_grow_92f84 ∈ wsL_law := in_r13 _ (List.mem_of_getElem? (i := 4) rfl)
theorem mw_13_5 : Cond.instanceMethod yJx4a65c_grow_92f84 ∈ wsL_law := in_r13 _ (List.mem_of_getElem? (i := 5) rfl)
theorem mw_13_6 : Cond.selects RJx4a65c yJx4a65c_grow_92f84 yJx4a65c_grow_92f84 ∈ wsL_law := in_r13 _ (List.mem_of_getElem? (i := 6) rfl)
theorem mw_13_7 : Cond.code yJx4a65c_grow_92f84 cJx4a65c_grow_92f84 4 (some (.array (.object "java/lang/Object"))) ∈ wsL_law := in_r13 _ (List.mem_of_getElem? (i := 7) rfl)
theorem mw_13_8 : Cond.methodLink RJx4a65c 79 Lib.Math.max.name ∈ wsL_law := in_r13 _ (List.mem_of_getElem? (i := 8) rfl)
theorem mw_13_9 : Cond.classLink RJx4a65c 7 "java/lang/Object" ∈ wsL_law := in_r13 _ (List.mem_of_getElem? (i := 9) rfl)
theorem mw_13_10 : Cond.methodLink RJx4a65c 73 yJ8_newLength_cabcc ∈ wsL_law := in_r13 _ (List.mem_of_getElem? (i := 10) rfl)
theorem mw_13_11 : Cond.static yJ8_newLength_cabcc ∈ wsL_law := in_r13 _ (List.mem_of_getElem? (i := 11) rfl)
theorem mw_13_12 : Cond.initialized RJ8 ∈ wsL_law := in_r13 _ (List.mem_of_getElem? (i := 12) rfl)
theorem mw_13_13 : Cond.code yJ8_newLength_cabcc cJ8_newLength_cabcc 4 (some .int) ∈ wsL_law := in_r13 _ (List.mem_of_getElem? (i := 13) rfl)
theorem mw_13_14 : Cond.methodLink RJ8 194 Lib.Math.max.name ∈ wsL_law := in_r13 _ (List.mem_of_getElem? (i := 14) rfl)
theorem mw_13_15 : Cond.constant RJ8 200 (2147483639) ∈ wsL_law := in_r13 _ (List.mem_of_getElem? (i := 15) rfl)
theorem mw_13_16 : Cond.methodLink RJ8 201 yJ8_hugeLength_7cf53 ∈ wsL_law := in_r13 _ (List.mem_of_getElem? (i := 16) rfl)
theorem mw_13_17 : Cond.static yJ8_hugeLength_7cf53 ∈ wsL_law := in_r13 _ (List.mem_of_getElem? (i := 17) rfl)
theorem mw_13_18 : Cond.code yJ8_hugeLength_7cf53 cJ8_hugeLength_7cf53 3 (some .int) ∈ wsL_law := in_r13 _ (List.mem_of_getElem? (i := 18) rfl)
theorem mw_13_19 : Cond.methodLink RJx4a65c 66 yJ7_copyOf_1904c ∈ wsL_law := in_r13 _ (List.mem_of_getElem? (i := 19) rfl)
theorem mw_13_20 : Cond.static yJ7_copyOf_1904c ∈ wsL_law := in_r13 _ (List.mem_of_getElem? (i := 20) rfl)
theorem mw_13_21 : Cond.initialized RJ7 ∈ wsL_law := in_r13 _ (List.mem_of_getElem? (i := 21) rfl)
theorem mw_13_22 : Cond.code yJ7_copyOf_1904c cJ7_copyOf_1904c 2 (some (.array (.object "java/lang/Object"))) ∈ wsL_law := in_r13 _ (List.mem_of_getElem? (i := 22) rfl)
theorem mw_13_23 : Cond.methodLink RJ7 86 ⟨"java/lang/Object", "getClass", "()Ljava/lang/Class;"⟩ ∈ wsL_law := in_r13 _ (List.mem_of_getElem? (i := 23) rfl)
theorem mw_14_0 : Cond.selects "[Ljava/lang/Object;" ⟨"java/lang/Object", "getClass", "()Ljava/lang/Class;"⟩ ⟨"java/lang/Object", "getClass", "()Ljava/lang/Class;"⟩ ∈ wsL_law := in_r14 _ (List.mem_of_getElem? (i := 0) rfl)
theorem mw_14_1 : Cond.instanceMethod ⟨"java/lang/Object", "getClass", "()Ljava/lang/Class;"⟩ ∈ wsL_law := in_r14 _ (List.mem_of_getElem? (i := 1) rfl)
theorem mw_14_2 : Cond.native ⟨"java/lang/Object", "getClass", "()Ljava/lang/Class;"⟩ ∈ wsL_law := in_r14 _ (List.mem_of_getElem? (i := 2) rfl)
theorem mw_14_3 : Cond.methodLink RJ7 300 yJ7_copyOf_6403c ∈ wsL_law := in_r14 _ (List.mem_of_getElem? (i := 3) rfl)
theorem mw_14_4 : Cond.static yJ7_copyOf_6403c ∈ wsL_law := in_r14 _ (List.mem_of_getElem? (i := 4) rfl)
theorem mw_14_5 : Cond.code yJ7_copyOf_6403c cJ7_copyOf_6403c 4 (some (.array (.object "java/lang/Object"))) ∈ wsL_law := in_r14 _ (List.mem_of_getElem? (i := 5) rfl)
theorem mw_14_6 : Cond.classLink RJ7 110 "[Ljava/lang/Object;" ∈ wsL_law := in_r14 _ (List.mem_of_getElem? (i := 6) rfl)
theorem mw_14_7 : Cond.classLink RJ7 2 "java/lang/Object" ∈ wsL_law := in_r14 _ (List.mem_of_getElem? (i := 7) rfl)
theorem mw_14_8 : Cond.methodLink RJ7 304 Lib.Math.min.name ∈ wsL_law := in_r14 _ (List.mem_of_getElem? (i := 8) rfl)
theorem mw_14_9 : Cond.methodLink RJ7 150 arraycopyName ∈ wsL_law := in_r14 _ (List.mem_of_getElem? (i := 9) rfl)
theorem mw_14_10 : Cond.native arraycopyName ∈ wsL_law := in_r14 _ (List.mem_of_getElem? (i := 10) rfl)
theorem mw_14_11 : Cond.static arraycopyName ∈ wsL_law := in_r14 _ (List.mem_of_getElem? (i := 11) rfl)
theorem mw_14_12 : Cond.initialized "java/lang/System" ∈ wsL_law := in_r14 _ (List.mem_of_getElem? (i := 12) rfl)
theorem mw_14_13 : Cond.methodLink RL 115 yX3_lay ∈ wsL_law := in_r14 _ (List.mem_of_getElem? (i := 13) rfl)
theorem mw_14_14 : Cond.instanceMethod yX3_lay ∈ wsL_law := in_r14 _ (List.mem_of_getElem? (i := 14) rfl)
theorem mw_14_15 : Cond.selects RX3 yX3_lay yX3_lay ∈ wsL_law := in_r14 _ (List.mem_of_getElem? (i := 15) rfl)
theorem mw_14_16 : Cond.code yX3_lay cX3_lay 8 (some .int) ∈ wsL_law := in_r14 _ (List.mem_of_getElem? (i := 16) rfl)
theorem mw_14_17 : Cond.methodLink RX3 118 yX3_isPatron ∈ wsL_law := in_r14 _ (List.mem_of_getElem? (i := 17) rfl)
theorem mw_14_18 : Cond.static yX3_isPatron ∈ wsL_law := in_r14 _ (List.mem_of_getElem? (i := 18) rfl)
theorem mw_14_19 : Cond.code yX3_isPatron cX3_isPatron 1 (some .boolean) ∈ wsL_law := in_r14 _ (List.mem_of_getElem? (i := 19) rfl)
theorem mw_14_20 : Cond.methodLink RX3 62 yX3_comes ∈ wsL_law := in_r14 _ (List.mem_of_getElem? (i := 20) rfl)
theorem mw_14_21 : Cond.instanceMethod yX3_comes ∈ wsL_law := in_r14 _ (List.mem_of_getElem? (i := 21) rfl)
theorem mw_14_22 : Cond.selects RX3 yX3_comes yX3_comes ∈ wsL_law := in_r14 _ (List.mem_of_getElem? (i := 22) rfl)
theorem mw_14_23 : Cond.code yX3_comes cX3_comes 6 (some .boolean) ∈ wsL_law := in_r14 _ (List.mem_of_getElem? (i := 23) rfl)
theorem mw_15_0 : Cond.methodLink RL 116 yL_takeBack ∈ wsL_law := in_r15 _ (List.mem_of_getElem? (i := 0) rfl)
theorem mw_15_1 : Cond.static yL_takeBack ∈ wsL_law := in_r15 _ (List.mem_of_getElem? (i := 1) rfl)
theorem mw_15_2 : Cond.codeWith yL_takeBack cL_takeBack 4 (some .int) [(0, 9, 12, 21)] ∈ wsL_law := in_r15 _ (List.mem_of_getElem? (i := 2) rfl)
theorem mw_15_3 : Cond.methodLink RL 35 yX2_takeBack ∈ wsL_law := in_r15 _ (List.mem_of_getElem? (i := 3) rfl)
theorem mw_15_4 : Cond.instanceMethod yX2_takeBack ∈ wsL_law := in_r15 _ (List.mem_of_getElem? (i := 4) rfl)
theorem mw_15_5 : Cond.selects RX2 yX2_takeBack yX2_takeBack ∈ wsL_law := in_r15 _ (List.mem_of_getElem? (i := 5) rfl)
theorem mw_15_6 : Cond.code yX2_takeBack cX2_takeBack 3 (some .int) ∈ wsL_law := in_r15 _ (List.mem_of_getElem? (i := 6) rfl)
theorem mw_15_7 : Cond.classLink RX2 98 "TavernDice$Wager" ∈ wsL_law := in_r15 _ (List.mem_of_getElem? (i := 7) rfl)
theorem mw_15_8 : Cond.fieldLink RX2 118 "TavernDice$Wager" "patron" "I" ∈ wsL_law := in_r15 _ (List.mem_of_getElem? (i := 8) rfl)
theorem mw_15_9 : Cond.fieldLink RX2 121 "TavernDice$Wager" "stake" "I" ∈ wsL_law := in_r15 _ (List.mem_of_getElem? (i := 9) rfl)
theorem mw_15_10 : Cond.methodLink RX2 111 yX2_checkWager ∈ wsL_law := in_r15 _ (List.mem_of_getElem? (i := 10) rfl)
theorem mw_15_11 : Cond.instanceMethod yX2_checkWager ∈ wsL_law := in_r15 _ (List.mem_of_getElem? (i := 11) rfl)
theorem mw_15_12 : Cond.selects RX2 yX2_checkWager yX2_checkWager ∈ wsL_law := in_r15 _ (List.mem_of_getElem? (i := 12) rfl)
theorem mw_15_13 : Cond.code yX2_checkWager cX2_checkWager 2 none ∈ wsL_law := in_r15 _ (List.mem_of_getElem? (i := 13) rfl)
theorem mw_15_14 : Cond.methodLink RX2 114 yJx4a65c_remove_915e3 ∈ wsL_law := in_r15 _ (List.mem_of_getElem? (i := 14) rfl)
theorem mw_15_15 : Cond.instanceMethod yJx4a65c_remove_915e3 ∈ wsL_law := in_r15 _ (List.mem_of_getElem? (i := 15) rfl)
theorem mw_15_16 : Cond.selects RJx4a65c yJx4a65c_remove_915e3 yJx4a65c_remove_915e3 ∈ wsL_law := in_r15 _ (List.mem_of_getElem? (i := 16) rfl)
theorem mw_15_17 : Cond.code yJx4a65c_remove_915e3 cJx4a65c_remove_915e3 4 (some (.object "java/lang/Object")) ∈ wsL_law := in_r15 _ (List.mem_of_getElem? (i := 17) rfl)
theorem mw_15_18 : Cond.methodLink RJx4a65c 118 yJ15_checkIndex_7cf53 ∈ wsL_law := in_r15 _ (List.mem_of_getElem? (i := 18) rfl)
theorem mw_15_19 : Cond.static yJ15_checkIndex_7cf53 ∈ wsL_law := in_r15 _ (List.mem_of_getElem? (i := 19) rfl)
theorem mw_15_20 : Cond.initialized RJ15 ∈ wsL_law := in_r15 _ (List.mem_of_getElem? (i := 20) rfl)
theorem mw_15_21 : Cond.code yJ15_checkIndex_7cf53 cJ15_checkIndex_7cf53 2 (some .int) ∈ wsL_law := in_r15 _ (List.mem_of_getElem? (i := 21) rfl)
theorem mw_15_22 : Cond.methodLink RJ15 105 yJ3_checkIndex_8e157 ∈ wsL_law := in_r15 _ (List.mem_of_getElem? (i := 22) rfl)
theorem mw_15_23 : Cond.static yJ3_checkIndex_8e157 ∈ wsL_law := in_r15 _ (List.mem_of_getElem? (i := 23) rfl)
theorem mw_16_0 : Cond.initialized RJ3 ∈ wsL_law := in_r16 _ (List.mem_of_getElem? (i := 0) rfl)
theorem mw_16_1 : Cond.code yJ3_checkIndex_8e157 cJ3_checkIndex_8e157 3 (some .int) ∈ wsL_law := in_r16 _ (List.mem_of_getElem? (i := 1) rfl)
theorem mw_16_2 : Cond.methodLink RJx4a65c 144 yJx4a65c_fastRemove_b59b0 ∈ wsL_law := in_r16 _ (List.mem_of_getElem? (i := 2) rfl)
theorem mw_16_3 : Cond.instanceMethod yJx4a65c_fastRemove_b59b0 ∈ wsL_law := in_r16 _ (List.mem_of_getElem? (i := 3) rfl)
theorem mw_16_4 : Cond.selects RJx4a65c yJx4a65c_fastRemove_b59b0 yJx4a65c_fastRemove_b59b0 ∈ wsL_law := in_r16 _ (List.mem_of_getElem? (i := 4) rfl)
theorem mw_16_5 : Cond.code yJx4a65c_fastRemove_b59b0 cJx4a65c_fastRemove_b59b0 4 none ∈ wsL_law := in_r16 _ (List.mem_of_getElem? (i := 5) rfl)
theorem mw_16_6 : Cond.methodLink RJx4a65c 112 arraycopyName ∈ wsL_law := in_r16 _ (List.mem_of_getElem? (i := 6) rfl)
theorem mw_16_7 : Cond.methodLink RL 118 yX3_takeBack ∈ wsL_law := in_r16 _ (List.mem_of_getElem? (i := 7) rfl)
theorem mw_16_8 : Cond.instanceMethod yX3_takeBack ∈ wsL_law := in_r16 _ (List.mem_of_getElem? (i := 8) rfl)
theorem mw_16_9 : Cond.selects RX3 yX3_takeBack yX3_takeBack ∈ wsL_law := in_r16 _ (List.mem_of_getElem? (i := 9) rfl)
theorem mw_16_10 : Cond.code yX3_takeBack cX3_takeBack 4 (some .int) ∈ wsL_law := in_r16 _ (List.mem_of_getElem? (i := 10) rfl)
theorem mw_16_11 : Cond.methodLink RX3 124 arraycopyName ∈ wsL_law := in_r16 _ (List.mem_of_getElem? (i := 11) rfl)
theorem mw_16_12 : Cond.methodLink RX3 121 yX3_isWager ∈ wsL_law := in_r16 _ (List.mem_of_getElem? (i := 12) rfl)
theorem mw_16_13 : Cond.instanceMethod yX3_isWager ∈ wsL_law := in_r16 _ (List.mem_of_getElem? (i := 13) rfl)
theorem mw_16_14 : Cond.selects RX3 yX3_isWager yX3_isWager ∈ wsL_law := in_r16 _ (List.mem_of_getElem? (i := 14) rfl)
theorem mw_16_15 : Cond.code yX3_isWager cX3_isWager 2 (some .boolean) ∈ wsL_law := in_r16 _ (List.mem_of_getElem? (i := 15) rfl)
theorem mw_16_16 : Cond.methodLink RL 119 yL_settle ∈ wsL_law := in_r16 _ (List.mem_of_getElem? (i := 16) rfl)
theorem mw_16_17 : Cond.static yL_settle ∈ wsL_law := in_r16 _ (List.mem_of_getElem? (i := 17) rfl)
theorem mw_16_18 : Cond.codeWith yL_settle cL_settle 4 (some .int) [(0, 9, 12, 21)] ∈ wsL_law := in_r16 _ (List.mem_of_getElem? (i := 18) rfl)
theorem mw_16_19 : Cond.methodLink RL 38 yX2_settle ∈ wsL_law := in_r16 _ (List.mem_of_getElem? (i := 19) rfl)
theorem mw_16_20 : Cond.instanceMethod yX2_settle ∈ wsL_law := in_r16 _ (List.mem_of_getElem? (i := 20) rfl)
theorem mw_16_21 : Cond.selects RX2 yX2_settle yX2_settle ∈ wsL_law := in_r16 _ (List.mem_of_getElem? (i := 21) rfl)
theorem mw_16_22 : Cond.code yX2_settle cX2_settle 4 (some .int) ∈ wsL_law := in_r16 _ (List.mem_of_getElem? (i := 22) rfl)
theorem mw_16_23 : Cond.fieldLink RX2 134 "TavernDice" "rounds" "I" ∈ wsL_law := in_r16 _ (List.mem_of_getElem? (i := 23) rfl)
theorem mw_17_0 : Cond.methodLink RX2 124 yX2_gainOfAll ∈ wsL_law := in_r17 _ (List.mem_of_getElem? (i := 0) rfl)
theorem mw_17_1 : Cond.instanceMethod yX2_gainOfAll ∈ wsL_law := in_r17 _ (List.mem_of_getElem? (i := 1) rfl)
theorem mw_17_2 : Cond.selects RX2 yX2_gainOfAll yX2_gainOfAll ∈ wsL_law := in_r17 _ (List.mem_of_getElem? (i := 2) rfl)
theorem mw_17_3 : Cond.code yX2_gainOfAll cX2_gainOfAll 5 (some .int) ∈ wsL_law := in_r17 _ (List.mem_of_getElem? (i := 3) rfl)
theorem mw_17_4 : Cond.fieldLink RX2 232 "TavernDice$Wager" "kind" "I" ∈ wsL_law := in_r17 _ (List.mem_of_getElem? (i := 4) rfl)
theorem mw_17_5 : Cond.fieldLink RX2 235 "TavernDice$Wager" "number" "I" ∈ wsL_law := in_r17 _ (List.mem_of_getElem? (i := 5) rfl)
theorem mw_17_6 : Cond.fieldLink RX2 140 "TavernDice$Wager" "brings" "I" ∈ wsL_law := in_r17 _ (List.mem_of_getElem? (i := 6) rfl)
theorem mw_17_7 : Cond.methodLink RX2 137 yJx4a65c_get_915e3 ∈ wsL_law := in_r17 _ (List.mem_of_getElem? (i := 7) rfl)
theorem mw_17_8 : Cond.instanceMethod yJx4a65c_get_915e3 ∈ wsL_law := in_r17 _ (List.mem_of_getElem? (i := 8) rfl)
theorem mw_17_9 : Cond.selects RJx4a65c yJx4a65c_get_915e3 yJx4a65c_get_915e3 ∈ wsL_law := in_r17 _ (List.mem_of_getElem? (i := 9) rfl)
theorem mw_17_10 : Cond.code yJx4a65c_get_915e3 cJx4a65c_get_915e3 2 (some (.object "java/lang/Object")) ∈ wsL_law := in_r17 _ (List.mem_of_getElem? (i := 10) rfl)
theorem mw_17_11 : Cond.methodLink RJx4a65c 123 yJx4a65c_elementData_915e3 ∈ wsL_law := in_r17 _ (List.mem_of_getElem? (i := 11) rfl)
theorem mw_17_12 : Cond.instanceMethod yJx4a65c_elementData_915e3 ∈ wsL_law := in_r17 _ (List.mem_of_getElem? (i := 12) rfl)
theorem mw_17_13 : Cond.selects RJx4a65c yJx4a65c_elementData_915e3 yJx4a65c_elementData_915e3 ∈ wsL_law := in_r17 _ (List.mem_of_getElem? (i := 13) rfl)
theorem mw_17_14 : Cond.code yJx4a65c_elementData_915e3 cJx4a65c_elementData_915e3 2 (some (.object "java/lang/Object")) ∈ wsL_law := in_r17 _ (List.mem_of_getElem? (i := 14) rfl)
theorem mw_17_15 : Cond.methodLink RX2 238 yX0_comes ∈ wsL_law := in_r17 _ (List.mem_of_getElem? (i := 15) rfl)
theorem mw_17_16 : Cond.methodLink RX2 128 yX2_purseBehind ∈ wsL_law := in_r17 _ (List.mem_of_getElem? (i := 16) rfl)
theorem mw_17_17 : Cond.instanceMethod yX2_purseBehind ∈ wsL_law := in_r17 _ (List.mem_of_getElem? (i := 17) rfl)
theorem mw_17_18 : Cond.selects RX2 yX2_purseBehind yX2_purseBehind ∈ wsL_law := in_r17 _ (List.mem_of_getElem? (i := 18) rfl)
theorem mw_17_19 : Cond.code yX2_purseBehind cX2_purseBehind 6 (some .int) ∈ wsL_law := in_r17 _ (List.mem_of_getElem? (i := 19) rfl)
theorem mw_17_20 : Cond.methodLink RX2 131 yJx4a65c_clear_da8c8 ∈ wsL_law := in_r17 _ (List.mem_of_getElem? (i := 20) rfl)
theorem mw_17_21 : Cond.instanceMethod yJx4a65c_clear_da8c8 ∈ wsL_law := in_r17 _ (List.mem_of_getElem? (i := 21) rfl)
theorem mw_17_22 : Cond.selects RJx4a65c yJx4a65c_clear_da8c8 yJx4a65c_clear_da8c8 ∈ wsL_law := in_r17 _ (List.mem_of_getElem? (i := 22) rfl)
theorem mw_17_23 : Cond.code yJx4a65c_clear_da8c8 cJx4a65c_clear_da8c8 4 none ∈ wsL_law := in_r17 _ (List.mem_of_getElem? (i := 23) rfl)
theorem mw_18_0 : Cond.methodLink RL 121 yX3_settle ∈ wsL_law := in_r18 _ (List.mem_of_getElem? (i := 0) rfl)
theorem mw_18_1 : Cond.instanceMethod yX3_settle ∈ wsL_law := in_r18 _ (List.mem_of_getElem? (i := 1) rfl)
theorem mw_18_2 : Cond.selects RX3 yX3_settle yX3_settle ∈ wsL_law := in_r18 _ (List.mem_of_getElem? (i := 2) rfl)
theorem mw_18_3 : Cond.code yX3_settle cX3_settle 4 (some .int) ∈ wsL_law := in_r18 _ (List.mem_of_getElem? (i := 3) rfl)
theorem mw_18_4 : Cond.fieldLink RX3 130 "TavernDiceModel" "rounds" "I" ∈ wsL_law := in_r18 _ (List.mem_of_getElem? (i := 4) rfl)
theorem mw_18_5 : Cond.methodLink RX3 92 yX3_gain ∈ wsL_law := in_r18 _ (List.mem_of_getElem? (i := 5) rfl)
theorem mw_18_6 : Cond.instanceMethod yX3_gain ∈ wsL_law := in_r18 _ (List.mem_of_getElem? (i := 6) rfl)
theorem mw_18_7 : Cond.selects RX3 yX3_gain yX3_gain ∈ wsL_law := in_r18 _ (List.mem_of_getElem? (i := 7) rfl)
theorem mw_18_8 : Cond.code yX3_gain cX3_gain 4 (some .int) ∈ wsL_law := in_r18 _ (List.mem_of_getElem? (i := 8) rfl)
theorem mw_18_9 : Cond.methodLink RL 122 yX2_open ∈ wsL_law := in_r18 _ (List.mem_of_getElem? (i := 9) rfl)
theorem mw_18_10 : Cond.instanceMethod yX2_open ∈ wsL_law := in_r18 _ (List.mem_of_getElem? (i := 10) rfl)
theorem mw_18_11 : Cond.selects RX2 yX2_open yX2_open ∈ wsL_law := in_r18 _ (List.mem_of_getElem? (i := 11) rfl)
theorem mw_18_12 : Cond.code yX2_open cX2_open 1 (some .int) ∈ wsL_law := in_r18 _ (List.mem_of_getElem? (i := 12) rfl)
theorem mw_18_13 : Cond.methodLink RL 125 yX3_open ∈ wsL_law := in_r18 _ (List.mem_of_getElem? (i := 13) rfl)
theorem mw_18_14 : Cond.instanceMethod yX3_open ∈ wsL_law := in_r18 _ (List.mem_of_getElem? (i := 14) rfl)
theorem mw_18_15 : Cond.selects RX3 yX3_open yX3_open ∈ wsL_law := in_r18 _ (List.mem_of_getElem? (i := 15) rfl)
theorem mw_18_16 : Cond.code yX3_open cX3_open 1 (some .int) ∈ wsL_law := in_r18 _ (List.mem_of_getElem? (i := 16) rfl)
theorem mw_18_17 : Cond.methodLink RL 126 yX2_bank ∈ wsL_law := in_r18 _ (List.mem_of_getElem? (i := 17) rfl)
theorem mw_18_18 : Cond.instanceMethod yX2_bank ∈ wsL_law := in_r18 _ (List.mem_of_getElem? (i := 18) rfl)
theorem mw_18_19 : Cond.selects RX2 yX2_bank yX2_bank ∈ wsL_law := in_r18 _ (List.mem_of_getElem? (i := 19) rfl)
theorem mw_18_20 : Cond.code yX2_bank cX2_bank 1 (some .int) ∈ wsL_law := in_r18 _ (List.mem_of_getElem? (i := 20) rfl)
theorem mw_18_21 : Cond.methodLink RL 129 yX3_bank ∈ wsL_law := in_r18 _ (List.mem_of_getElem? (i := 21) rfl)
theorem mw_18_22 : Cond.instanceMethod yX3_bank ∈ wsL_law := in_r18 _ (List.mem_of_getElem? (i := 22) rfl)
theorem mw_18_23 : Cond.selects RX3 yX3_bank yX3_bank ∈ wsL_law := in_r18 _ (List.mem_of_getElem? (i := 23) rfl)
theorem mw_19_0 : Cond.code yX3_bank cX3_bank 1 (some .int) ∈ wsL_law := in_r19 _ (List.mem_of_getElem? (i := 0) rfl)
theorem mw_19_1 : Cond.methodLink RL 130 yX2_rounds ∈ wsL_law := in_r19 _ (List.mem_of_getElem? (i := 1) rfl)
theorem mw_19_2 : Cond.instanceMethod yX2_rounds ∈ wsL_law := in_r19 _ (List.mem_of_getElem? (i := 2) rfl)
theorem mw_19_3 : Cond.selects RX2 yX2_rounds yX2_rounds ∈ wsL_law := in_r19 _ (List.mem_of_getElem? (i := 3) rfl)
theorem mw_19_4 : Cond.code yX2_rounds cX2_rounds 1 (some .int) ∈ wsL_law := in_r19 _ (List.mem_of_getElem? (i := 4) rfl)
theorem mw_19_5 : Cond.methodLink RL 133 yX3_rounds ∈ wsL_law := in_r19 _ (List.mem_of_getElem? (i := 5) rfl)
theorem mw_19_6 : Cond.instanceMethod yX3_rounds ∈ wsL_law := in_r19 _ (List.mem_of_getElem? (i := 6) rfl)
theorem mw_19_7 : Cond.selects RX3 yX3_rounds yX3_rounds ∈ wsL_law := in_r19 _ (List.mem_of_getElem? (i := 7) rfl)
theorem mw_19_8 : Cond.code yX3_rounds cX3_rounds 1 (some .int) ∈ wsL_law := in_r19 _ (List.mem_of_getElem? (i := 8) rfl)
theorem mw_19_9 : Cond.methodLink RL 134 yL_purseOf ∈ wsL_law := in_r19 _ (List.mem_of_getElem? (i := 9) rfl)
theorem mw_19_10 : Cond.static yL_purseOf ∈ wsL_law := in_r19 _ (List.mem_of_getElem? (i := 10) rfl)
theorem mw_19_11 : Cond.codeWith yL_purseOf cL_purseOf 4 (some .int) [(0, 9, 12, 21)] ∈ wsL_law := in_r19 _ (List.mem_of_getElem? (i := 11) rfl)
theorem mw_19_12 : Cond.methodLink RL 41 yX2_purseOf ∈ wsL_law := in_r19 _ (List.mem_of_getElem? (i := 12) rfl)
theorem mw_19_13 : Cond.instanceMethod yX2_purseOf ∈ wsL_law := in_r19 _ (List.mem_of_getElem? (i := 13) rfl)
theorem mw_19_14 : Cond.selects RX2 yX2_purseOf yX2_purseOf ∈ wsL_law := in_r19 _ (List.mem_of_getElem? (i := 14) rfl)
theorem mw_19_15 : Cond.code yX2_purseOf cX2_purseOf 2 (some .int) ∈ wsL_law := in_r19 _ (List.mem_of_getElem? (i := 15) rfl)
theorem mw_19_16 : Cond.methodLink RL 136 yX3_purseOf ∈ wsL_law := in_r19 _ (List.mem_of_getElem? (i := 16) rfl)
theorem mw_19_17 : Cond.instanceMethod yX3_purseOf ∈ wsL_law := in_r19 _ (List.mem_of_getElem? (i := 17) rfl)
theorem mw_19_18 : Cond.selects RX3 yX3_purseOf yX3_purseOf ∈ wsL_law := in_r19 _ (List.mem_of_getElem? (i := 18) rfl)
theorem mw_19_19 : Cond.code yX3_purseOf cX3_purseOf 2 (some .int) ∈ wsL_law := in_r19 _ (List.mem_of_getElem? (i := 19) rfl)
theorem mw_19_20 : Cond.methodLink RL 137 yL_patronOf ∈ wsL_law := in_r19 _ (List.mem_of_getElem? (i := 20) rfl)
theorem mw_19_21 : Cond.static yL_patronOf ∈ wsL_law := in_r19 _ (List.mem_of_getElem? (i := 21) rfl)
theorem mw_19_22 : Cond.codeWith yL_patronOf cL_patronOf 4 (some .int) [(0, 9, 12, 21)] ∈ wsL_law := in_r19 _ (List.mem_of_getElem? (i := 22) rfl)
theorem mw_19_23 : Cond.methodLink RL 44 yX2_patronOf ∈ wsL_law := in_r19 _ (List.mem_of_getElem? (i := 23) rfl)
theorem mw_20_0 : Cond.instanceMethod yX2_patronOf ∈ wsL_law := in_r20 _ (List.mem_of_getElem? (i := 0) rfl)
theorem mw_20_1 : Cond.selects RX2 yX2_patronOf yX2_patronOf ∈ wsL_law := in_r20 _ (List.mem_of_getElem? (i := 1) rfl)
theorem mw_20_2 : Cond.code yX2_patronOf cX2_patronOf 2 (some .int) ∈ wsL_law := in_r20 _ (List.mem_of_getElem? (i := 2) rfl)
theorem mw_20_3 : Cond.methodLink RL 139 yX3_patronOf ∈ wsL_law := in_r20 _ (List.mem_of_getElem? (i := 3) rfl)
theorem mw_20_4 : Cond.instanceMethod yX3_patronOf ∈ wsL_law := in_r20 _ (List.mem_of_getElem? (i := 4) rfl)
theorem mw_20_5 : Cond.selects RX3 yX3_patronOf yX3_patronOf ∈ wsL_law := in_r20 _ (List.mem_of_getElem? (i := 5) rfl)
theorem mw_20_6 : Cond.code yX3_patronOf cX3_patronOf 2 (some .int) ∈ wsL_law := in_r20 _ (List.mem_of_getElem? (i := 6) rfl)
theorem mw_20_7 : Cond.methodLink RX3 133 yX3_of ∈ wsL_law := in_r20 _ (List.mem_of_getElem? (i := 7) rfl)
theorem mw_20_8 : Cond.instanceMethod yX3_of ∈ wsL_law := in_r20 _ (List.mem_of_getElem? (i := 8) rfl)
theorem mw_20_9 : Cond.selects RX3 yX3_of yX3_of ∈ wsL_law := in_r20 _ (List.mem_of_getElem? (i := 9) rfl)
theorem mw_20_10 : Cond.code yX3_of cX3_of 3 (some .int) ∈ wsL_law := in_r20 _ (List.mem_of_getElem? (i := 10) rfl)
theorem mw_20_11 : Cond.methodLink RL 140 yL_stakeOf ∈ wsL_law := in_r20 _ (List.mem_of_getElem? (i := 11) rfl)
theorem mw_20_12 : Cond.static yL_stakeOf ∈ wsL_law := in_r20 _ (List.mem_of_getElem? (i := 12) rfl)
theorem mw_20_13 : Cond.codeWith yL_stakeOf cL_stakeOf 4 (some .int) [(0, 9, 12, 21)] ∈ wsL_law := in_r20 _ (List.mem_of_getElem? (i := 13) rfl)
theorem mw_20_14 : Cond.methodLink RL 47 yX2_stakeOf ∈ wsL_law := in_r20 _ (List.mem_of_getElem? (i := 14) rfl)
theorem mw_20_15 : Cond.instanceMethod yX2_stakeOf ∈ wsL_law := in_r20 _ (List.mem_of_getElem? (i := 15) rfl)
theorem mw_20_16 : Cond.selects RX2 yX2_stakeOf yX2_stakeOf ∈ wsL_law := in_r20 _ (List.mem_of_getElem? (i := 16) rfl)
theorem mw_20_17 : Cond.code yX2_stakeOf cX2_stakeOf 2 (some .int) ∈ wsL_law := in_r20 _ (List.mem_of_getElem? (i := 17) rfl)
theorem mw_20_18 : Cond.methodLink RL 142 yX3_stakeOf ∈ wsL_law := in_r20 _ (List.mem_of_getElem? (i := 18) rfl)
theorem mw_20_19 : Cond.instanceMethod yX3_stakeOf ∈ wsL_law := in_r20 _ (List.mem_of_getElem? (i := 19) rfl)
theorem mw_20_20 : Cond.selects RX3 yX3_stakeOf yX3_stakeOf ∈ wsL_law := in_r20 _ (List.mem_of_getElem? (i := 20) rfl)
theorem mw_20_21 : Cond.code yX3_stakeOf cX3_stakeOf 2 (some .int) ∈ wsL_law := in_r20 _ (List.mem_of_getElem? (i := 21) rfl)
theorem mw_20_22 : Cond.methodLink RL 143 yL_bringsOf ∈ wsL_law := in_r20 _ (List.mem_of_getElem? (i := 22) rfl)
theorem mw_20_23 : Cond.static yL_bringsOf ∈ wsL_law := in_r20 _ (List.mem_of_getElem? (i := 23) rfl)
theorem mw_21_0 : Cond.codeWith yL_bringsOf cL_bringsOf 4 (some .int) [(0, 9, 12, 21)] ∈ wsL_law := in_r21 _ (List.mem_of_getElem? (i := 0) rfl)
theorem mw_21_1 : Cond.methodLink RL 50 yX2_bringsOf ∈ wsL_law := in_r21 _ (List.mem_of_getElem? (i := 1) rfl)
theorem mw_21_2 : Cond.instanceMethod yX2_bringsOf ∈ wsL_law := in_r21 _ (List.mem_of_getElem? (i := 2) rfl)
theorem mw_21_3 : Cond.selects RX2 yX2_bringsOf yX2_bringsOf ∈ wsL_law := in_r21 _ (List.mem_of_getElem? (i := 3) rfl)
theorem mw_21_4 : Cond.code yX2_bringsOf cX2_bringsOf 2 (some .int) ∈ wsL_law := in_r21 _ (List.mem_of_getElem? (i := 4) rfl)
theorem mw_21_5 : Cond.methodLink RL 145 yX3_bringsOf ∈ wsL_law := in_r21 _ (List.mem_of_getElem? (i := 5) rfl)
theorem mw_21_6 : Cond.instanceMethod yX3_bringsOf ∈ wsL_law := in_r21 _ (List.mem_of_getElem? (i := 6) rfl)
theorem mw_21_7 : Cond.selects RX3 yX3_bringsOf yX3_bringsOf ∈ wsL_law := in_r21 _ (List.mem_of_getElem? (i := 7) rfl)
theorem mw_21_8 : Cond.code yX3_bringsOf cX3_bringsOf 2 (some .int) ∈ wsL_law := in_r21 _ (List.mem_of_getElem? (i := 8) rfl)
theorem mw_21_9 : Cond.methodLink RL 146 yX2_staked ∈ wsL_law := in_r21 _ (List.mem_of_getElem? (i := 9) rfl)
theorem mw_21_10 : Cond.instanceMethod yX2_staked ∈ wsL_law := in_r21 _ (List.mem_of_getElem? (i := 10) rfl)
theorem mw_21_11 : Cond.selects RX2 yX2_staked yX2_staked ∈ wsL_law := in_r21 _ (List.mem_of_getElem? (i := 11) rfl)
theorem mw_21_12 : Cond.code yX2_staked cX2_staked 3 (some .int) ∈ wsL_law := in_r21 _ (List.mem_of_getElem? (i := 12) rfl)
theorem mw_21_13 : Cond.methodLink RL 149 yX3_staked ∈ wsL_law := in_r21 _ (List.mem_of_getElem? (i := 13) rfl)
theorem mw_21_14 : Cond.instanceMethod yX3_staked ∈ wsL_law := in_r21 _ (List.mem_of_getElem? (i := 14) rfl)
theorem mw_21_15 : Cond.selects RX3 yX3_staked yX3_staked ∈ wsL_law := in_r21 _ (List.mem_of_getElem? (i := 15) rfl)
theorem mw_21_16 : Cond.code yX3_staked cX3_staked 1 (some .int) ∈ wsL_law := in_r21 _ (List.mem_of_getElem? (i := 16) rfl)
theorem mw_21_17 : Cond.methodLink RX3 137 yX3_allStakes ∈ wsL_law := in_r21 _ (List.mem_of_getElem? (i := 17) rfl)
theorem mw_21_18 : Cond.instanceMethod yX3_allStakes ∈ wsL_law := in_r21 _ (List.mem_of_getElem? (i := 18) rfl)
theorem mw_21_19 : Cond.selects RX3 yX3_allStakes yX3_allStakes ∈ wsL_law := in_r21 _ (List.mem_of_getElem? (i := 19) rfl)
theorem mw_21_20 : Cond.code yX3_allStakes cX3_allStakes 3 (some .int) ∈ wsL_law := in_r21 _ (List.mem_of_getElem? (i := 20) rfl)
theorem mw_21_21 : Cond.methodLink RL 150 yL_edgeTop ∈ wsL_law := in_r21 _ (List.mem_of_getElem? (i := 21) rfl)
theorem mw_21_22 : Cond.static yL_edgeTop ∈ wsL_law := in_r21 _ (List.mem_of_getElem? (i := 22) rfl)
theorem mw_21_23 : Cond.codeWith yL_edgeTop cL_edgeTop 4 (some .int) [(0, 9, 12, 21)] ∈ wsL_law := in_r21 _ (List.mem_of_getElem? (i := 23) rfl)
theorem mw_22_0 : Cond.methodLink RL 53 yX2_edgeTop ∈ wsL_law := in_r22 _ (List.mem_of_getElem? (i := 0) rfl)
theorem mw_22_1 : Cond.instanceMethod yX2_edgeTop ∈ wsL_law := in_r22 _ (List.mem_of_getElem? (i := 1) rfl)
theorem mw_22_2 : Cond.selects RX2 yX2_edgeTop yX2_edgeTop ∈ wsL_law := in_r22 _ (List.mem_of_getElem? (i := 2) rfl)
theorem mw_22_3 : Cond.code yX2_edgeTop cX2_edgeTop 2 (some .int) ∈ wsL_law := in_r22 _ (List.mem_of_getElem? (i := 3) rfl)
theorem mw_22_4 : Cond.methodLink RX2 143 yX2_gainOverOutcomes ∈ wsL_law := in_r22 _ (List.mem_of_getElem? (i := 4) rfl)
theorem mw_22_5 : Cond.instanceMethod yX2_gainOverOutcomes ∈ wsL_law := in_r22 _ (List.mem_of_getElem? (i := 5) rfl)
theorem mw_22_6 : Cond.selects RX2 yX2_gainOverOutcomes yX2_gainOverOutcomes ∈ wsL_law := in_r22 _ (List.mem_of_getElem? (i := 6) rfl)
theorem mw_22_7 : Cond.code yX2_gainOverOutcomes cX2_gainOverOutcomes 2 (some .int) ∈ wsL_law := in_r22 _ (List.mem_of_getElem? (i := 7) rfl)
theorem mw_22_8 : Cond.fieldLink RX2 242 "TavernDice$Wager" "ways" "I" ∈ wsL_law := in_r22 _ (List.mem_of_getElem? (i := 8) rfl)
theorem mw_22_9 : Cond.methodLink RX2 164 yX0_gainOver ∈ wsL_law := in_r22 _ (List.mem_of_getElem? (i := 9) rfl)
theorem mw_22_10 : Cond.instanceMethod yX0_gainOver ∈ wsL_law := in_r22 _ (List.mem_of_getElem? (i := 10) rfl)
theorem mw_22_11 : Cond.selects RX0 yX0_gainOver yX0_gainOver ∈ wsL_law := in_r22 _ (List.mem_of_getElem? (i := 11) rfl)
theorem mw_22_12 : Cond.code yX0_gainOver cX0_gainOver 4 (some .int) ∈ wsL_law := in_r22 _ (List.mem_of_getElem? (i := 12) rfl)
theorem mw_22_13 : Cond.methodLink RX2 147 yX2_lowestTop ∈ wsL_law := in_r22 _ (List.mem_of_getElem? (i := 13) rfl)
theorem mw_22_14 : Cond.instanceMethod yX2_lowestTop ∈ wsL_law := in_r22 _ (List.mem_of_getElem? (i := 14) rfl)
theorem mw_22_15 : Cond.selects RX2 yX2_lowestTop yX2_lowestTop ∈ wsL_law := in_r22 _ (List.mem_of_getElem? (i := 15) rfl)
theorem mw_22_16 : Cond.code yX2_lowestTop cX2_lowestTop 2 (some .int) ∈ wsL_law := in_r22 _ (List.mem_of_getElem? (i := 16) rfl)
theorem mw_22_17 : Cond.methodLink RX2 245 yX2_commonDivisor ∈ wsL_law := in_r22 _ (List.mem_of_getElem? (i := 17) rfl)
theorem mw_22_18 : Cond.static yX2_commonDivisor ∈ wsL_law := in_r22 _ (List.mem_of_getElem? (i := 18) rfl)
theorem mw_22_19 : Cond.code yX2_commonDivisor cX2_commonDivisor 6 (some .int) ∈ wsL_law := in_r22 _ (List.mem_of_getElem? (i := 19) rfl)
theorem mw_22_20 : Cond.methodLink RX2 248 Lib.Math.abs.name ∈ wsL_law := in_r22 _ (List.mem_of_getElem? (i := 20) rfl)
theorem mw_22_21 : Cond.static Lib.Math.abs.name ∈ wsL_law := in_r22 _ (List.mem_of_getElem? (i := 21) rfl)
theorem mw_22_22 : Cond.code Lib.Math.abs.name Lib.Math.abs.code 1 (some .int) ∈ wsL_law := in_r22 _ (List.mem_of_getElem? (i := 22) rfl)
theorem mw_22_23 : Cond.methodLink RX2 251 Lib.Math.max.name ∈ wsL_law := in_r22 _ (List.mem_of_getElem? (i := 23) rfl)
theorem mw_23_0 : Cond.methodLink RL 152 yX3_edgeTop ∈ wsL_law := in_r23 _ (List.mem_of_getElem? (i := 0) rfl)
theorem mw_23_1 : Cond.instanceMethod yX3_edgeTop ∈ wsL_law := in_r23 _ (List.mem_of_getElem? (i := 1) rfl)
theorem mw_23_2 : Cond.selects RX3 yX3_edgeTop yX3_edgeTop ∈ wsL_law := in_r23 _ (List.mem_of_getElem? (i := 2) rfl)
theorem mw_23_3 : Cond.code yX3_edgeTop cX3_edgeTop 2 (some .int) ∈ wsL_law := in_r23 _ (List.mem_of_getElem? (i := 3) rfl)
theorem mw_23_4 : Cond.methodLink RX3 83 yX3_edge ∈ wsL_law := in_r23 _ (List.mem_of_getElem? (i := 4) rfl)
theorem mw_23_5 : Cond.instanceMethod yX3_edge ∈ wsL_law := in_r23 _ (List.mem_of_getElem? (i := 5) rfl)
theorem mw_23_6 : Cond.selects RX3 yX3_edge yX3_edge ∈ wsL_law := in_r23 _ (List.mem_of_getElem? (i := 6) rfl)
theorem mw_23_7 : Cond.code yX3_edge cX3_edge 3 (some .int) ∈ wsL_law := in_r23 _ (List.mem_of_getElem? (i := 7) rfl)
theorem mw_23_8 : Cond.methodLink RX3 141 yX3_top ∈ wsL_law := in_r23 _ (List.mem_of_getElem? (i := 8) rfl)
theorem mw_23_9 : Cond.instanceMethod yX3_top ∈ wsL_law := in_r23 _ (List.mem_of_getElem? (i := 9) rfl)
theorem mw_23_10 : Cond.selects RX3 yX3_top yX3_top ∈ wsL_law := in_r23 _ (List.mem_of_getElem? (i := 10) rfl)
theorem mw_23_11 : Cond.code yX3_top cX3_top 2 (some .int) ∈ wsL_law := in_r23 _ (List.mem_of_getElem? (i := 11) rfl)
theorem mw_23_12 : Cond.methodLink RX3 89 yX3_divisor ∈ wsL_law := in_r23 _ (List.mem_of_getElem? (i := 12) rfl)
theorem mw_23_13 : Cond.static yX3_divisor ∈ wsL_law := in_r23 _ (List.mem_of_getElem? (i := 13) rfl)
theorem mw_23_14 : Cond.code yX3_divisor cX3_divisor 5 (some .int) ∈ wsL_law := in_r23 _ (List.mem_of_getElem? (i := 14) rfl)
theorem mw_23_15 : Cond.methodLink RX3 86 Lib.Math.abs.name ∈ wsL_law := in_r23 _ (List.mem_of_getElem? (i := 15) rfl)
theorem mw_23_16 : Cond.methodLink RL 153 yL_edgeBottom ∈ wsL_law := in_r23 _ (List.mem_of_getElem? (i := 16) rfl)
theorem mw_23_17 : Cond.static yL_edgeBottom ∈ wsL_law := in_r23 _ (List.mem_of_getElem? (i := 17) rfl)
theorem mw_23_18 : Cond.codeWith yL_edgeBottom cL_edgeBottom 4 (some .int) [(0, 9, 12, 21)] ∈ wsL_law := in_r23 _ (List.mem_of_getElem? (i := 18) rfl)
theorem mw_23_19 : Cond.methodLink RL 56 yX2_edgeBottom ∈ wsL_law := in_r23 _ (List.mem_of_getElem? (i := 19) rfl)
theorem mw_23_20 : Cond.instanceMethod yX2_edgeBottom ∈ wsL_law := in_r23 _ (List.mem_of_getElem? (i := 20) rfl)
theorem mw_23_21 : Cond.selects RX2 yX2_edgeBottom yX2_edgeBottom ∈ wsL_law := in_r23 _ (List.mem_of_getElem? (i := 21) rfl)
theorem mw_23_22 : Cond.code yX2_edgeBottom cX2_edgeBottom 2 (some .int) ∈ wsL_law := in_r23 _ (List.mem_of_getElem? (i := 22) rfl)
theorem mw_23_23 : Cond.methodLink RX2 150 yX2_lowestBottom ∈ wsL_law := in_r23 _ (List.mem_of_getElem? (i := 23) rfl)
theorem mw_24_0 : Cond.instanceMethod yX2_lowestBottom ∈ wsL_law := in_r24 _ (List.mem_of_getElem? (i := 0) rfl)
theorem mw_24_1 : Cond.selects RX2 yX2_lowestBottom yX2_lowestBottom ∈ wsL_law := in_r24 _ (List.mem_of_getElem? (i := 1) rfl)
theorem mw_24_2 : Cond.code yX2_lowestBottom cX2_lowestBottom 2 (some .int) ∈ wsL_law := in_r24 _ (List.mem_of_getElem? (i := 2) rfl)
theorem mw_24_3 : Cond.methodLink RL 155 yX3_edgeBottom ∈ wsL_law := in_r24 _ (List.mem_of_getElem? (i := 3) rfl)
theorem mw_24_4 : Cond.instanceMethod yX3_edgeBottom ∈ wsL_law := in_r24 _ (List.mem_of_getElem? (i := 4) rfl)
theorem mw_24_5 : Cond.selects RX3 yX3_edgeBottom yX3_edgeBottom ∈ wsL_law := in_r24 _ (List.mem_of_getElem? (i := 5) rfl)
theorem mw_24_6 : Cond.code yX3_edgeBottom cX3_edgeBottom 2 (some .int) ∈ wsL_law := in_r24 _ (List.mem_of_getElem? (i := 6) rfl)
theorem mw_24_7 : Cond.methodLink RX3 144 yX3_bottom ∈ wsL_law := in_r24 _ (List.mem_of_getElem? (i := 7) rfl)
theorem mw_24_8 : Cond.instanceMethod yX3_bottom ∈ wsL_law := in_r24 _ (List.mem_of_getElem? (i := 8) rfl)
theorem mw_24_9 : Cond.selects RX3 yX3_bottom yX3_bottom ∈ wsL_law := in_r24 _ (List.mem_of_getElem? (i := 9) rfl)
theorem mw_24_10 : Cond.code yX3_bottom cX3_bottom 2 (some .int) ∈ wsL_law := in_r24 _ (List.mem_of_getElem? (i := 10) rfl)
theorem mw_24_11 : Cond.methodLink RL 156 yX2_allEdgesTop ∈ wsL_law := in_r24 _ (List.mem_of_getElem? (i := 11) rfl)
theorem mw_24_12 : Cond.instanceMethod yX2_allEdgesTop ∈ wsL_law := in_r24 _ (List.mem_of_getElem? (i := 12) rfl)
theorem mw_24_13 : Cond.selects RX2 yX2_allEdgesTop yX2_allEdgesTop ∈ wsL_law := in_r24 _ (List.mem_of_getElem? (i := 13) rfl)
theorem mw_24_14 : Cond.code yX2_allEdgesTop cX2_allEdgesTop 1 (some .int) ∈ wsL_law := in_r24 _ (List.mem_of_getElem? (i := 14) rfl)
theorem mw_24_15 : Cond.methodLink RX2 153 yX2_gainOfAllOverOutcomes ∈ wsL_law := in_r24 _ (List.mem_of_getElem? (i := 15) rfl)
theorem mw_24_16 : Cond.instanceMethod yX2_gainOfAllOverOutcomes ∈ wsL_law := in_r24 _ (List.mem_of_getElem? (i := 16) rfl)
theorem mw_24_17 : Cond.selects RX2 yX2_gainOfAllOverOutcomes yX2_gainOfAllOverOutcomes ∈ wsL_law := in_r24 _ (List.mem_of_getElem? (i := 17) rfl)
theorem mw_24_18 : Cond.code yX2_gainOfAllOverOutcomes cX2_gainOfAllOverOutcomes 3 (some .int) ∈ wsL_law := in_r24 _ (List.mem_of_getElem? (i := 18) rfl)
theorem mw_24_19 : Cond.methodLink RL 159 yX3_allEdgesTop ∈ wsL_law := in_r24 _ (List.mem_of_getElem? (i := 19) rfl)
theorem mw_24_20 : Cond.instanceMethod yX3_allEdgesTop ∈ wsL_law := in_r24 _ (List.mem_of_getElem? (i := 20) rfl)
theorem mw_24_21 : Cond.selects RX3 yX3_allEdgesTop yX3_allEdgesTop ∈ wsL_law := in_r24 _ (List.mem_of_getElem? (i := 21) rfl)
theorem mw_24_22 : Cond.code yX3_allEdgesTop cX3_allEdgesTop 1 (some .int) ∈ wsL_law := in_r24 _ (List.mem_of_getElem? (i := 22) rfl)
theorem mw_24_23 : Cond.methodLink RX3 147 yX3_edges ∈ wsL_law := in_r24 _ (List.mem_of_getElem? (i := 23) rfl)
theorem mw_25_0 : Cond.instanceMethod yX3_edges ∈ wsL_law := in_r25 _ (List.mem_of_getElem? (i := 0) rfl)
theorem mw_25_1 : Cond.selects RX3 yX3_edges yX3_edges ∈ wsL_law := in_r25 _ (List.mem_of_getElem? (i := 1) rfl)
theorem mw_25_2 : Cond.code yX3_edges cX3_edges 3 (some .int) ∈ wsL_law := in_r25 _ (List.mem_of_getElem? (i := 2) rfl)
theorem mw_25_3 : Cond.methodLink RL 160 yX2_allEdgesBottom ∈ wsL_law := in_r25 _ (List.mem_of_getElem? (i := 3) rfl)
theorem mw_25_4 : Cond.instanceMethod yX2_allEdgesBottom ∈ wsL_law := in_r25 _ (List.mem_of_getElem? (i := 4) rfl)
theorem mw_25_5 : Cond.selects RX2 yX2_allEdgesBottom yX2_allEdgesBottom ∈ wsL_law := in_r25 _ (List.mem_of_getElem? (i := 5) rfl)
theorem mw_25_6 : Cond.code yX2_allEdgesBottom cX2_allEdgesBottom 1 (some .int) ∈ wsL_law := in_r25 _ (List.mem_of_getElem? (i := 6) rfl)
theorem mw_25_7 : Cond.methodLink RL 163 yX3_allEdgesBottom ∈ wsL_law := in_r25 _ (List.mem_of_getElem? (i := 7) rfl)
theorem mw_25_8 : Cond.instanceMethod yX3_allEdgesBottom ∈ wsL_law := in_r25 _ (List.mem_of_getElem? (i := 8) rfl)
theorem mw_25_9 : Cond.selects RX3 yX3_allEdgesBottom yX3_allEdgesBottom ∈ wsL_law := in_r25 _ (List.mem_of_getElem? (i := 9) rfl)
theorem mw_25_10 : Cond.code yX3_allEdgesBottom cX3_allEdgesBottom 1 (some .int) ∈ wsL_law := in_r25 _ (List.mem_of_getElem? (i := 10) rfl)
theorem mw_25_11 : Cond.methodLink RL 164 yX2_dearestWager ∈ wsL_law := in_r25 _ (List.mem_of_getElem? (i := 11) rfl)
theorem mw_25_12 : Cond.instanceMethod yX2_dearestWager ∈ wsL_law := in_r25 _ (List.mem_of_getElem? (i := 12) rfl)
theorem mw_25_13 : Cond.selects RX2 yX2_dearestWager yX2_dearestWager ∈ wsL_law := in_r25 _ (List.mem_of_getElem? (i := 13) rfl)
theorem mw_25_14 : Cond.code yX2_dearestWager cX2_dearestWager 10 (some .int) ∈ wsL_law := in_r25 _ (List.mem_of_getElem? (i := 14) rfl)
theorem mw_25_15 : Cond.methodLink RL 167 yX3_dearestWager ∈ wsL_law := in_r25 _ (List.mem_of_getElem? (i := 15) rfl)
theorem mw_25_16 : Cond.instanceMethod yX3_dearestWager ∈ wsL_law := in_r25 _ (List.mem_of_getElem? (i := 16) rfl)
theorem mw_25_17 : Cond.selects RX3 yX3_dearestWager yX3_dearestWager ∈ wsL_law := in_r25 _ (List.mem_of_getElem? (i := 17) rfl)
theorem mw_25_18 : Cond.code yX3_dearestWager cX3_dearestWager 1 (some .int) ∈ wsL_law := in_r25 _ (List.mem_of_getElem? (i := 18) rfl)
theorem mw_25_19 : Cond.methodLink RX3 150 yX3_dear ∈ wsL_law := in_r25 _ (List.mem_of_getElem? (i := 19) rfl)
theorem mw_25_20 : Cond.instanceMethod yX3_dear ∈ wsL_law := in_r25 _ (List.mem_of_getElem? (i := 20) rfl)
theorem mw_25_21 : Cond.selects RX3 yX3_dear yX3_dear ∈ wsL_law := in_r25 _ (List.mem_of_getElem? (i := 21) rfl)
theorem mw_25_22 : Cond.code yX3_dear cX3_dear 3 (some .int) ∈ wsL_law := in_r25 _ (List.mem_of_getElem? (i := 22) rfl)
theorem mw_25_23 : Cond.methodLink RL 168 yL_gainAt ∈ wsL_law := in_r25 _ (List.mem_of_getElem? (i := 23) rfl)
theorem mw_26_0 : Cond.static yL_gainAt ∈ wsL_law := in_r26 _ (List.mem_of_getElem? (i := 0) rfl)
theorem mw_26_1 : Cond.codeWith yL_gainAt cL_gainAt 4 (some .int) [(0, 9, 12, 21)] ∈ wsL_law := in_r26 _ (List.mem_of_getElem? (i := 1) rfl)
theorem mw_26_2 : Cond.methodLink RL 59 yX2_gainAt ∈ wsL_law := in_r26 _ (List.mem_of_getElem? (i := 2) rfl)
theorem mw_26_3 : Cond.instanceMethod yX2_gainAt ∈ wsL_law := in_r26 _ (List.mem_of_getElem? (i := 3) rfl)
theorem mw_26_4 : Cond.selects RX2 yX2_gainAt yX2_gainAt ∈ wsL_law := in_r26 _ (List.mem_of_getElem? (i := 4) rfl)
theorem mw_26_5 : Cond.code yX2_gainAt cX2_gainAt 2 (some .int) ∈ wsL_law := in_r26 _ (List.mem_of_getElem? (i := 5) rfl)
theorem mw_26_6 : Cond.methodLink RL 170 yX3_gainAt ∈ wsL_law := in_r26 _ (List.mem_of_getElem? (i := 6) rfl)
theorem mw_26_7 : Cond.instanceMethod yX3_gainAt ∈ wsL_law := in_r26 _ (List.mem_of_getElem? (i := 7) rfl)
theorem mw_26_8 : Cond.selects RX3 yX3_gainAt yX3_gainAt ∈ wsL_law := in_r26 _ (List.mem_of_getElem? (i := 8) rfl)
theorem mw_26_9 : Cond.code yX3_gainAt cX3_gainAt 2 (some .int) ∈ wsL_law := in_r26 _ (List.mem_of_getElem? (i := 9) rfl)
theorem mw_26_10 : Cond.methodLink RL 171 yX2_worstGain ∈ wsL_law := in_r26 _ (List.mem_of_getElem? (i := 10) rfl)
theorem mw_26_11 : Cond.instanceMethod yX2_worstGain ∈ wsL_law := in_r26 _ (List.mem_of_getElem? (i := 11) rfl)
theorem mw_26_12 : Cond.selects RX2 yX2_worstGain yX2_worstGain ∈ wsL_law := in_r26 _ (List.mem_of_getElem? (i := 12) rfl)
theorem mw_26_13 : Cond.code yX2_worstGain cX2_worstGain 1 (some .int) ∈ wsL_law := in_r26 _ (List.mem_of_getElem? (i := 13) rfl)
theorem mw_26_14 : Cond.methodLink RX2 156 yX2_worstOutcome ∈ wsL_law := in_r26 _ (List.mem_of_getElem? (i := 14) rfl)
theorem mw_26_15 : Cond.instanceMethod yX2_worstOutcome ∈ wsL_law := in_r26 _ (List.mem_of_getElem? (i := 15) rfl)
theorem mw_26_16 : Cond.selects RX2 yX2_worstOutcome yX2_worstOutcome ∈ wsL_law := in_r26 _ (List.mem_of_getElem? (i := 16) rfl)
theorem mw_26_17 : Cond.code yX2_worstOutcome cX2_worstOutcome 5 (some .int) ∈ wsL_law := in_r26 _ (List.mem_of_getElem? (i := 17) rfl)
theorem mw_26_18 : Cond.methodLink RL 174 yX3_worstGain ∈ wsL_law := in_r26 _ (List.mem_of_getElem? (i := 18) rfl)
theorem mw_26_19 : Cond.instanceMethod yX3_worstGain ∈ wsL_law := in_r26 _ (List.mem_of_getElem? (i := 19) rfl)
theorem mw_26_20 : Cond.selects RX3 yX3_worstGain yX3_worstGain ∈ wsL_law := in_r26 _ (List.mem_of_getElem? (i := 20) rfl)
theorem mw_26_21 : Cond.code yX3_worstGain cX3_worstGain 1 (some .int) ∈ wsL_law := in_r26 _ (List.mem_of_getElem? (i := 21) rfl)
theorem mw_26_22 : Cond.methodLink RX3 153 yX3_worst ∈ wsL_law := in_r26 _ (List.mem_of_getElem? (i := 22) rfl)
theorem mw_26_23 : Cond.instanceMethod yX3_worst ∈ wsL_law := in_r26 _ (List.mem_of_getElem? (i := 23) rfl)
theorem mw_27_0 : Cond.selects RX3 yX3_worst yX3_worst ∈ wsL_law := in_r27 _ (List.mem_of_getElem? (i := 0) rfl)
theorem mw_27_1 : Cond.code yX3_worst cX3_worst 3 (some .int) ∈ wsL_law := in_r27 _ (List.mem_of_getElem? (i := 1) rfl)
theorem mw_27_2 : Cond.methodLink RL 175 yX2_worstOutcome ∈ wsL_law := in_r27 _ (List.mem_of_getElem? (i := 2) rfl)
theorem mw_27_3 : Cond.methodLink RL 178 yX3_worstOutcome ∈ wsL_law := in_r27 _ (List.mem_of_getElem? (i := 3) rfl)
theorem mw_27_4 : Cond.instanceMethod yX3_worstOutcome ∈ wsL_law := in_r27 _ (List.mem_of_getElem? (i := 4) rfl)
theorem mw_27_5 : Cond.selects RX3 yX3_worstOutcome yX3_worstOutcome ∈ wsL_law := in_r27 _ (List.mem_of_getElem? (i := 5) rfl)
theorem mw_27_6 : Cond.code yX3_worstOutcome cX3_worstOutcome 1 (some .int) ∈ wsL_law := in_r27 _ (List.mem_of_getElem? (i := 6) rfl)
theorem mw_27_7 : Cond.methodLink RL 179 yL_purseAt ∈ wsL_law := in_r27 _ (List.mem_of_getElem? (i := 7) rfl)
theorem mw_27_8 : Cond.static yL_purseAt ∈ wsL_law := in_r27 _ (List.mem_of_getElem? (i := 8) rfl)
theorem mw_27_9 : Cond.codeWith yL_purseAt cL_purseAt 5 (some .int) [(0, 10, 13, 21)] ∈ wsL_law := in_r27 _ (List.mem_of_getElem? (i := 9) rfl)
theorem mw_27_10 : Cond.methodLink RL 62 yX2_purseAt ∈ wsL_law := in_r27 _ (List.mem_of_getElem? (i := 10) rfl)
theorem mw_27_11 : Cond.instanceMethod yX2_purseAt ∈ wsL_law := in_r27 _ (List.mem_of_getElem? (i := 11) rfl)
theorem mw_27_12 : Cond.selects RX2 yX2_purseAt yX2_purseAt ∈ wsL_law := in_r27 _ (List.mem_of_getElem? (i := 12) rfl)
theorem mw_27_13 : Cond.code yX2_purseAt cX2_purseAt 3 (some .int) ∈ wsL_law := in_r27 _ (List.mem_of_getElem? (i := 13) rfl)
theorem mw_27_14 : Cond.methodLink RL 181 yX3_purseAt ∈ wsL_law := in_r27 _ (List.mem_of_getElem? (i := 14) rfl)
theorem mw_27_15 : Cond.instanceMethod yX3_purseAt ∈ wsL_law := in_r27 _ (List.mem_of_getElem? (i := 15) rfl)
theorem mw_27_16 : Cond.selects RX3 yX3_purseAt yX3_purseAt ∈ wsL_law := in_r27 _ (List.mem_of_getElem? (i := 16) rfl)
theorem mw_27_17 : Cond.code yX3_purseAt cX3_purseAt 3 (some .int) ∈ wsL_law := in_r27 _ (List.mem_of_getElem? (i := 17) rfl)
theorem mw_27_18 : Cond.methodLink RX3 95 yX3_behind ∈ wsL_law := in_r27 _ (List.mem_of_getElem? (i := 18) rfl)
theorem mw_27_19 : Cond.instanceMethod yX3_behind ∈ wsL_law := in_r27 _ (List.mem_of_getElem? (i := 19) rfl)
theorem mw_27_20 : Cond.selects RX3 yX3_behind yX3_behind ∈ wsL_law := in_r27 _ (List.mem_of_getElem? (i := 20) rfl)
theorem mw_27_21 : Cond.code yX3_behind cX3_behind 5 (some .int) ∈ wsL_law := in_r27 _ (List.mem_of_getElem? (i := 21) rfl)
theorem mw_27_22 : Cond.methodLink RL 182 yL_leastPurse ∈ wsL_law := in_r27 _ (List.mem_of_getElem? (i := 22) rfl)
theorem mw_27_23 : Cond.static yL_leastPurse ∈ wsL_law := in_r27 _ (List.mem_of_getElem? (i := 23) rfl)
theorem mw_28_0 : Cond.codeWith yL_leastPurse cL_leastPurse 4 (some .int) [(0, 9, 12, 21)] ∈ wsL_law := in_r28 _ (List.mem_of_getElem? (i := 0) rfl)
theorem mw_28_1 : Cond.methodLink RL 65 yX2_leastPurse ∈ wsL_law := in_r28 _ (List.mem_of_getElem? (i := 1) rfl)
theorem mw_28_2 : Cond.instanceMethod yX2_leastPurse ∈ wsL_law := in_r28 _ (List.mem_of_getElem? (i := 2) rfl)
theorem mw_28_3 : Cond.selects RX2 yX2_leastPurse yX2_leastPurse ∈ wsL_law := in_r28 _ (List.mem_of_getElem? (i := 3) rfl)
theorem mw_28_4 : Cond.code yX2_leastPurse cX2_leastPurse 4 (some .int) ∈ wsL_law := in_r28 _ (List.mem_of_getElem? (i := 4) rfl)
theorem mw_28_5 : Cond.methodLink RX2 159 Lib.Math.min.name ∈ wsL_law := in_r28 _ (List.mem_of_getElem? (i := 5) rfl)
theorem mw_28_6 : Cond.methodLink RL 184 yX3_leastPurse ∈ wsL_law := in_r28 _ (List.mem_of_getElem? (i := 6) rfl)
theorem mw_28_7 : Cond.instanceMethod yX3_leastPurse ∈ wsL_law := in_r28 _ (List.mem_of_getElem? (i := 7) rfl)
theorem mw_28_8 : Cond.selects RX3 yX3_leastPurse yX3_leastPurse ∈ wsL_law := in_r28 _ (List.mem_of_getElem? (i := 8) rfl)
theorem mw_28_9 : Cond.code yX3_leastPurse cX3_leastPurse 2 (some .int) ∈ wsL_law := in_r28 _ (List.mem_of_getElem? (i := 9) rfl)
theorem mw_28_10 : Cond.methodLink RX3 156 yX3_least ∈ wsL_law := in_r28 _ (List.mem_of_getElem? (i := 10) rfl)
theorem mw_28_11 : Cond.instanceMethod yX3_least ∈ wsL_law := in_r28 _ (List.mem_of_getElem? (i := 11) rfl)
theorem mw_28_12 : Cond.selects RX3 yX3_least yX3_least ∈ wsL_law := in_r28 _ (List.mem_of_getElem? (i := 12) rfl)
theorem mw_28_13 : Cond.code yX3_least cX3_least 4 (some .int) ∈ wsL_law := in_r28 _ (List.mem_of_getElem? (i := 13) rfl)
theorem mw_28_14 : Cond.methodLink RL 185 yL_isHedged ∈ wsL_law := in_r28 _ (List.mem_of_getElem? (i := 14) rfl)
theorem mw_28_15 : Cond.static yL_isHedged ∈ wsL_law := in_r28 _ (List.mem_of_getElem? (i := 15) rfl)
theorem mw_28_16 : Cond.codeWith yL_isHedged cL_isHedged 4 (some .int) [(0, 16, 19, 21)] ∈ wsL_law := in_r28 _ (List.mem_of_getElem? (i := 16) rfl)
theorem mw_28_17 : Cond.methodLink RL 68 yX2_isHedged ∈ wsL_law := in_r28 _ (List.mem_of_getElem? (i := 17) rfl)
theorem mw_28_18 : Cond.instanceMethod yX2_isHedged ∈ wsL_law := in_r28 _ (List.mem_of_getElem? (i := 18) rfl)
theorem mw_28_19 : Cond.selects RX2 yX2_isHedged yX2_isHedged ∈ wsL_law := in_r28 _ (List.mem_of_getElem? (i := 19) rfl)
theorem mw_28_20 : Cond.code yX2_isHedged cX2_isHedged 4 (some .boolean) ∈ wsL_law := in_r28 _ (List.mem_of_getElem? (i := 20) rfl)
theorem mw_28_21 : Cond.methodLink RL 187 yX3_isHedged ∈ wsL_law := in_r28 _ (List.mem_of_getElem? (i := 21) rfl)
theorem mw_28_22 : Cond.instanceMethod yX3_isHedged ∈ wsL_law := in_r28 _ (List.mem_of_getElem? (i := 22) rfl)
theorem mw_28_23 : Cond.selects RX3 yX3_isHedged yX3_isHedged ∈ wsL_law := in_r28 _ (List.mem_of_getElem? (i := 23) rfl)
theorem mw_29_0 : Cond.code yX3_isHedged cX3_isHedged 2 (some .boolean) ∈ wsL_law := in_r29 _ (List.mem_of_getElem? (i := 0) rfl)
theorem mw_29_1 : Cond.methodLink RX3 159 yX3_hedged ∈ wsL_law := in_r29 _ (List.mem_of_getElem? (i := 1) rfl)
theorem mw_29_2 : Cond.instanceMethod yX3_hedged ∈ wsL_law := in_r29 _ (List.mem_of_getElem? (i := 2) rfl)
theorem mw_29_3 : Cond.selects RX3 yX3_hedged yX3_hedged ∈ wsL_law := in_r29 _ (List.mem_of_getElem? (i := 3) rfl)
theorem mw_29_4 : Cond.code yX3_hedged cX3_hedged 3 (some .boolean) ∈ wsL_law := in_r29 _ (List.mem_of_getElem? (i := 4) rfl)
theorem mw_29_5 : Cond.methodLink RL 188 yL_hedgeFor ∈ wsL_law := in_r29 _ (List.mem_of_getElem? (i := 5) rfl)
theorem mw_29_6 : Cond.static yL_hedgeFor ∈ wsL_law := in_r29 _ (List.mem_of_getElem? (i := 6) rfl)
theorem mw_29_7 : Cond.codeWith yL_hedgeFor cL_hedgeFor 6 (some .int) [(0, 12, 15, 21), (0, 12, 19, 13)] ∈ wsL_law := in_r29 _ (List.mem_of_getElem? (i := 7) rfl)
theorem mw_29_8 : Cond.methodLink RL 72 yX2_hedgeFor ∈ wsL_law := in_r29 _ (List.mem_of_getElem? (i := 8) rfl)
theorem mw_29_9 : Cond.instanceMethod yX2_hedgeFor ∈ wsL_law := in_r29 _ (List.mem_of_getElem? (i := 9) rfl)
theorem mw_29_10 : Cond.selects RX2 yX2_hedgeFor yX2_hedgeFor ∈ wsL_law := in_r29 _ (List.mem_of_getElem? (i := 10) rfl)
theorem mw_29_11 : Cond.code yX2_hedgeFor cX2_hedgeFor 8 (some .int) ∈ wsL_law := in_r29 _ (List.mem_of_getElem? (i := 11) rfl)
theorem mw_29_12 : Cond.methodLink RL 190 yX3_hedgeFor ∈ wsL_law := in_r29 _ (List.mem_of_getElem? (i := 12) rfl)
theorem mw_29_13 : Cond.instanceMethod yX3_hedgeFor ∈ wsL_law := in_r29 _ (List.mem_of_getElem? (i := 13) rfl)
theorem mw_29_14 : Cond.selects RX3 yX3_hedgeFor yX3_hedgeFor ∈ wsL_law := in_r29 _ (List.mem_of_getElem? (i := 14) rfl)
theorem mw_29_15 : Cond.code yX3_hedgeFor cX3_hedgeFor 4 (some .int) ∈ wsL_law := in_r29 _ (List.mem_of_getElem? (i := 15) rfl)
theorem mw_29_16 : Cond.methodLink RX3 162 yX3_hedge ∈ wsL_law := in_r29 _ (List.mem_of_getElem? (i := 16) rfl)
theorem mw_29_17 : Cond.instanceMethod yX3_hedge ∈ wsL_law := in_r29 _ (List.mem_of_getElem? (i := 17) rfl)
theorem mw_29_18 : Cond.selects RX3 yX3_hedge yX3_hedge ∈ wsL_law := in_r29 _ (List.mem_of_getElem? (i := 18) rfl)
theorem mw_29_19 : Cond.code yX3_hedge cX3_hedge 5 (some .int) ∈ wsL_law := in_r29 _ (List.mem_of_getElem? (i := 19) rfl)
theorem mw_29_20 : Cond.methodLink RL 191 yL_fairWin ∈ wsL_law := in_r29 _ (List.mem_of_getElem? (i := 20) rfl)
theorem mw_29_21 : Cond.static yL_fairWin ∈ wsL_law := in_r29 _ (List.mem_of_getElem? (i := 21) rfl)
theorem mw_29_22 : Cond.codeWith yL_fairWin cL_fairWin 6 (some .int) [(0, 12, 15, 13)] ∈ wsL_law := in_r29 _ (List.mem_of_getElem? (i := 22) rfl)
theorem mw_29_23 : Cond.methodLink RL 75 yX2_fairWin ∈ wsL_law := in_r29 _ (List.mem_of_getElem? (i := 23) rfl)
theorem mw_30_0 : Cond.instanceMethod yX2_fairWin ∈ wsL_law := in_r30 _ (List.mem_of_getElem? (i := 0) rfl)
theorem mw_30_1 : Cond.selects RX2 yX2_fairWin yX2_fairWin ∈ wsL_law := in_r30 _ (List.mem_of_getElem? (i := 1) rfl)
theorem mw_30_2 : Cond.code yX2_fairWin cX2_fairWin 6 (some .int) ∈ wsL_law := in_r30 _ (List.mem_of_getElem? (i := 2) rfl)
theorem mw_30_3 : Cond.methodLink RL 193 yX3_fairWin ∈ wsL_law := in_r30 _ (List.mem_of_getElem? (i := 3) rfl)
theorem mw_30_4 : Cond.instanceMethod yX3_fairWin ∈ wsL_law := in_r30 _ (List.mem_of_getElem? (i := 4) rfl)
theorem mw_30_5 : Cond.selects RX3 yX3_fairWin yX3_fairWin ∈ wsL_law := in_r30 _ (List.mem_of_getElem? (i := 5) rfl)
theorem mw_30_6 : Cond.code yX3_fairWin cX3_fairWin 6 (some .int) ∈ wsL_law := in_r30 _ (List.mem_of_getElem? (i := 6) rfl)
theorem mw_30_7 : Cond.methodLink RL 194 yX2_digest ∈ wsL_law := in_r30 _ (List.mem_of_getElem? (i := 7) rfl)
theorem mw_30_8 : Cond.instanceMethod yX2_digest ∈ wsL_law := in_r30 _ (List.mem_of_getElem? (i := 8) rfl)
theorem mw_30_9 : Cond.selects RX2 yX2_digest yX2_digest ∈ wsL_law := in_r30 _ (List.mem_of_getElem? (i := 9) rfl)
theorem mw_30_10 : Cond.code yX2_digest cX2_digest 4 (some .long) ∈ wsL_law := in_r30 _ (List.mem_of_getElem? (i := 10) rfl)
theorem mw_30_11 : Cond.constantLong RX2 167 (2141) ∈ wsL_law := in_r30 _ (List.mem_of_getElem? (i := 11) rfl)
theorem mw_30_12 : Cond.methodLink RX2 169 yX2_dice ∈ wsL_law := in_r30 _ (List.mem_of_getElem? (i := 12) rfl)
theorem mw_30_13 : Cond.methodLink RX2 171 yX2_digested ∈ wsL_law := in_r30 _ (List.mem_of_getElem? (i := 13) rfl)
theorem mw_30_14 : Cond.static yX2_digested ∈ wsL_law := in_r30 _ (List.mem_of_getElem? (i := 14) rfl)
theorem mw_30_15 : Cond.code yX2_digested cX2_digested 4 (some .long) ∈ wsL_law := in_r30 _ (List.mem_of_getElem? (i := 15) rfl)
theorem mw_30_16 : Cond.constantLong RX2 230 (31) ∈ wsL_law := in_r30 _ (List.mem_of_getElem? (i := 16) rfl)
theorem mw_30_17 : Cond.methodLink RX2 175 yX2_outcomes ∈ wsL_law := in_r30 _ (List.mem_of_getElem? (i := 17) rfl)
theorem mw_30_18 : Cond.methodLink RX2 177 yX2_open ∈ wsL_law := in_r30 _ (List.mem_of_getElem? (i := 18) rfl)
theorem mw_30_19 : Cond.methodLink RX2 180 yX2_bank ∈ wsL_law := in_r30 _ (List.mem_of_getElem? (i := 19) rfl)
theorem mw_30_20 : Cond.methodLink RX2 182 yX2_rounds ∈ wsL_law := in_r30 _ (List.mem_of_getElem? (i := 20) rfl)
theorem mw_30_21 : Cond.methodLink RX2 184 yX2_staked ∈ wsL_law := in_r30 _ (List.mem_of_getElem? (i := 21) rfl)
theorem mw_30_22 : Cond.methodLink RX2 187 yX2_allEdgesTop ∈ wsL_law := in_r30 _ (List.mem_of_getElem? (i := 22) rfl)
theorem mw_30_23 : Cond.methodLink RX2 190 yX2_allEdgesBottom ∈ wsL_law := in_r30 _ (List.mem_of_getElem? (i := 23) rfl)
theorem mw_31_0 : Cond.methodLink RX2 193 yX2_dearestWager ∈ wsL_law := in_r31 _ (List.mem_of_getElem? (i := 0) rfl)
theorem mw_31_1 : Cond.methodLink RX2 196 yX2_worstGain ∈ wsL_law := in_r31 _ (List.mem_of_getElem? (i := 1) rfl)
theorem mw_31_2 : Cond.methodLink RX2 199 yX2_digestOfWagers ∈ wsL_law := in_r31 _ (List.mem_of_getElem? (i := 2) rfl)
theorem mw_31_3 : Cond.instanceMethod yX2_digestOfWagers ∈ wsL_law := in_r31 _ (List.mem_of_getElem? (i := 3) rfl)
theorem mw_31_4 : Cond.selects RX2 yX2_digestOfWagers yX2_digestOfWagers ∈ wsL_law := in_r31 _ (List.mem_of_getElem? (i := 4) rfl)
theorem mw_31_5 : Cond.code yX2_digestOfWagers cX2_digestOfWagers 6 (some .long) ∈ wsL_law := in_r31 _ (List.mem_of_getElem? (i := 5) rfl)
theorem mw_31_6 : Cond.methodLink RX2 206 yX2_patronOf ∈ wsL_law := in_r31 _ (List.mem_of_getElem? (i := 6) rfl)
theorem mw_31_7 : Cond.methodLink RX2 209 yX2_stakeOf ∈ wsL_law := in_r31 _ (List.mem_of_getElem? (i := 7) rfl)
theorem mw_31_8 : Cond.methodLink RX2 212 yX2_bringsOf ∈ wsL_law := in_r31 _ (List.mem_of_getElem? (i := 8) rfl)
theorem mw_31_9 : Cond.methodLink RX2 215 yX2_edgeTop ∈ wsL_law := in_r31 _ (List.mem_of_getElem? (i := 9) rfl)
theorem mw_31_10 : Cond.methodLink RX2 218 yX2_edgeBottom ∈ wsL_law := in_r31 _ (List.mem_of_getElem? (i := 10) rfl)
theorem mw_31_11 : Cond.methodLink RX2 203 yX2_digestOfPatrons ∈ wsL_law := in_r31 _ (List.mem_of_getElem? (i := 11) rfl)
theorem mw_31_12 : Cond.instanceMethod yX2_digestOfPatrons ∈ wsL_law := in_r31 _ (List.mem_of_getElem? (i := 12) rfl)
theorem mw_31_13 : Cond.selects RX2 yX2_digestOfPatrons yX2_digestOfPatrons ∈ wsL_law := in_r31 _ (List.mem_of_getElem? (i := 13) rfl)
theorem mw_31_14 : Cond.code yX2_digestOfPatrons cX2_digestOfPatrons 6 (some .long) ∈ wsL_law := in_r31 _ (List.mem_of_getElem? (i := 14) rfl)
theorem mw_31_15 : Cond.methodLink RX2 221 yX2_purseOf ∈ wsL_law := in_r31 _ (List.mem_of_getElem? (i := 15) rfl)
theorem mw_31_16 : Cond.methodLink RX2 224 yX2_leastPurse ∈ wsL_law := in_r31 _ (List.mem_of_getElem? (i := 16) rfl)
theorem mw_31_17 : Cond.methodLink RX2 227 yX2_isHedged ∈ wsL_law := in_r31 _ (List.mem_of_getElem? (i := 17) rfl)
theorem mw_31_18 : Cond.methodLink RL 198 yX3_digest ∈ wsL_law := in_r31 _ (List.mem_of_getElem? (i := 18) rfl)
theorem mw_31_19 : Cond.instanceMethod yX3_digest ∈ wsL_law := in_r31 _ (List.mem_of_getElem? (i := 19) rfl)
theorem mw_31_20 : Cond.selects RX3 yX3_digest yX3_digest ∈ wsL_law := in_r31 _ (List.mem_of_getElem? (i := 20) rfl)
theorem mw_31_21 : Cond.code yX3_digest cX3_digest 9 (some .long) ∈ wsL_law := in_r31 _ (List.mem_of_getElem? (i := 21) rfl)
theorem mw_31_22 : Cond.constantLong RX3 166 (2141) ∈ wsL_law := in_r31 _ (List.mem_of_getElem? (i := 22) rfl)
theorem mw_31_23 : Cond.constantLong RX3 168 (31) ∈ wsL_law := in_r31 _ (List.mem_of_getElem? (i := 23) rfl)
end
section
/-! numbers (the family fa_lt .. fa_trans is pasted from kit/laws/NUMBERS.to-paste.lean.txt) -/
theorem fa_lt (a b : Int32) : a < b ↔ a.toInt < b.toInt := Int32.lt_iff_toInt_lt
theorem fa_le (a b : Int32) : a ≤ b ↔ a.toInt ≤ b.toInt := Int32.le_iff_toInt_le
theorem fa_eq (a b : Int32) : a = b ↔ a.toInt = b.toInt := Int32.toInt_inj.symm
theorem fa_lt64 (a b : Int64) : a < b ↔ a.toInt < b.toInt := Int64.lt_iff_toInt_lt
theorem fa_le64 (a b : Int64) : a ≤ b ↔ a.toInt ≤ b.toInt := Int64.le_iff_toInt_le
theorem fa_eq64 (a b : Int64) : a = b ↔ a.toInt = b.toInt := Int64.toInt_inj.symm
/-- a comparison of two ints taken as longs -/
theorem fa_wide_lt (a b : Int32) : a.toInt64 < b.toInt64 ↔ a < b := by rw [fa_lt64, fa_lt, Int32.toInt_toInt64, Int32.toInt_toInt64]
theorem fa_wide_le (a b : Int32) : a.toInt64 ≤ b.toInt64 ↔ a ≤ b := by rw [fa_le64, fa_le, Int32.toInt_toInt64, Int32.toInt_toInt64]
theorem fa_wide_eq (a b : Int32) : a.toInt64 = b.toInt64 ↔ a = b := by rw [fa_eq64, fa_eq, Int32.toInt_toInt64, Int32.toInt_toInt64]
/-- one strict comparison gives all the others -/
theorem fa_of_lt {a b : Int32} (h : a < b) : a ≤ b ∧ ¬ b ≤ a ∧ ¬ b < a ∧ a ≠ b ∧ b ≠ a := by
  rw [fa_lt] at h
  refine ⟨?_, ?_, ?_, ?_, ?_⟩
  · rw [fa_le]; omega
  · rw [fa_le]; omega
  · rw [fa_lt]; omega
  · intro e; rw [fa_eq] at e; omega
  · intro e; rw [fa_eq] at e; omega
theorem fa_of_nlt {a b : Int32} (h : ¬ a < b) : b ≤ a := by
  rw [fa_lt] at h
  rw [fa_le]
  omega
theorem fa_of_nle {a b : Int32} (h : ¬ a ≤ b) : b < a := by
  rw [fa_le] at h
  rw [fa_lt]
  omega
theorem fa_le_ne {a b : Int32} (h : a ≤ b) (h2 : a ≠ b) : a < b := by
  rw [fa_le] at h
  rw [fa_lt]
  have h3 : a.toInt ≠ b.toInt := fun e => h2 ((fa_eq a b).mpr e)
  omega
theorem fa_three (a b : Int32) : a < b ∨ a = b ∨ b < a := by
  rw [fa_lt, fa_lt, fa_eq]
  omega
theorem fa_trans {a b c : Int32} (h : a < b) (h2 : b ≤ c) : a < c := by
  rw [fa_lt] at *
  rw [fa_le] at h2
  omega
/-! ===== small literals as numbers ===== -/
theorem il0 : (0 : Int32).toInt = 0 := by decide
theorem il1 : (1 : Int32).toInt = 1 := by decide
theorem il2 : (2 : Int32).toInt = 2 := by decide
theorem il3 : (3 : Int32).toInt = 3 := by decide
theorem il4 : (4 : Int32).toInt = 4 := by decide
theorem il5 : (5 : Int32).toInt = 5 := by decide
theorem il6 : (6 : Int32).toInt = 6 := by decide
theorem il7 : (7 : Int32).toInt = 7 := by decide
theorem il9 : (9 : Int32).toInt = 9 := by decide
theorem il10 : (10 : Int32).toInt = 10 := by decide
theorem il12 : (12 : Int32).toInt = 12 := by decide
theorem il20 : (20 : Int32).toInt = 20 := by decide
theorem il36 : (36 : Int32).toInt = 36 := by decide
theorem il100 : (100 : Int32).toInt = 100 := by decide
theorem il999 : (999 : Int32).toInt = 999 := by decide
theorem il1728 : (1728 : Int32).toInt = 1728 := by decide
/-! what the class computes, in words of its own arrays; what its cells are -/
abbrev RdW (p : Program) (l : Launch) (e : Env) (d : Nat) (s : State) (m : MethodId) (As : List Value) (below : List Frame) (meth : Method) (c : Code) (H : Heap) (ov : Option Value) (g : JFrame) : Prop :=
  W p l e (rmL d 0 0) s m As.toArray below meth c H [] 0 0 (MQ below (fun _ st oc t => oc = .returned ov ∧ t.heap = st.heap) As.toArray s 0 0 (fun _ => False)) g
/-- the array classes: int[], boolean[], Object[], long[], double[] -/
abbrev Ty (cs : Nat → ClassId) : List (ClassId × FieldType) := [(cs 0, .int), (cs 1, .boolean), (cs 2, .object "java/lang/Object"), (cs 3, .long), (cs 4, .double)]
def b2i (b : Bool) : Int32 := if b then 1 else 0
theorem b2i_t {b : Bool} (h : b = true) : b2i b = 1 := by rw [h]; rfl
theorem b2i_f {b : Bool} (h : b = false) : b2i b = 0 := by rw [h]; rfl
theorem b2i_z (b : Bool) : narrow .boolean (.int (b2i b)) = .int (b2i b) := by cases b <;> decide
theorem b2i_eq0 (b : Bool) : b2i b = 0 ↔ b = false := by cases b <;> decide
theorem b2i_ne0 (b : Bool) : ¬ b2i b = 0 ↔ b = true := by cases b <;> decide
theorem rv {a b : Int32} (h : a = b) : (some (Value.int b) : Option Value) = some (Value.int a) := by rw [h]
theorem rb1 {b : Bool} (h : b = true) : (some (Value.int (b2i b)) : Option Value) = some (Value.int 1) := by rw [h]; rfl
theorem rb0 {b : Bool} (h : b = false) : (some (Value.int (b2i b)) : Option Value) = some (Value.int 0) := by rw [h]; rfl
theorem nIi {a b : Nat} (ha : a < 2 ^ 31) (hb : b < 2 ^ 31) : (nI a < nI b ↔ a < b) ∧ (nI a ≤ nI b ↔ a ≤ b) ∧ (nI a = nI b ↔ a = b) := ⟨nI_ltI ha hb, nI_leI ha hb, nI_eq ha hb⟩
/-- how many of the first n -/
def cn (p : Nat → Bool) : Nat → Nat
  | 0 => 0
  | n + 1 => cn p n + (if p n then 1 else 0)
theorem cn_t {p : Nat → Bool} {n : Nat} (h : p n = true) : cn p (n + 1) = cn p n + 1 := by simp [cn, h]
theorem cn_f {p : Nat → Bool} {n : Nat} (h : p n = false) : cn p (n + 1) = cn p n := by simp [cn, h]
theorem cn_le (p : Nat → Bool) : ∀ n, cn p n ≤ n
  | 0 => Nat.le_refl 0
  | n + 1 => by
    have h := cn_le p n
    simp only [cn]
    split <;> omega
def bitX (f : Int32) : Int32 := if f < 1 ∨ 12 < f then 0 else 1 <<< (f &&& 31)
def bc1 (x : Int32) : Int32 := x - ((x.toUInt32 >>> ((1 : Int32).toUInt32 &&& Int32.toUInt32 31)).toInt32 &&& 1431655765)
def bc2 (x : Int32) : Int32 := (x &&& 858993459) + ((x.toUInt32 >>> ((2 : Int32).toUInt32 &&& Int32.toUInt32 31)).toInt32 &&& 858993459)
def bc3 (x : Int32) : Int32 := (x + (x.toUInt32 >>> ((4 : Int32).toUInt32 &&& Int32.toUInt32 31)).toInt32) &&& 252645135
def bc4 (x : Int32) : Int32 := x + (x.toUInt32 >>> ((8 : Int32).toUInt32 &&& Int32.toUInt32 31)).toInt32
def bc5 (x : Int32) : Int32 := x + (x.toUInt32 >>> ((16 : Int32).toUInt32 &&& Int32.toUInt32 31)).toInt32
def bcX (x : Int32) : Int32 := bc5 (bc4 (bc3 (bc2 (bc1 x)))) &&& 63
def holdsX (su fa : Nat → Int32) (k : Nat) (n : Int32) (o : Nat) : Bool := match k with
  | 0 => decide (su o = n)
  | 1 => decide (n ≤ su o)
  | 2 => decide (su o - su o / 2 * 2 = 1)
  | 3 => decide (bcX (fa o) = 1)
  | 4 => decide (¬ (fa o &&& bitX n) = 0)
  | _ => false
def comesX (su fa : Nat → Int32) (k : Nat) (n : Int32) (o : Nat) : Bool := if k < 5 then holdsX su fa k n o else !(holdsX su fa (k - 5) n o)
theorem comesX_lt {su fa : Nat → Int32} {k : Nat} {n : Int32} {o : Nat} (h : k < 5) : comesX su fa k n o = holdsX su fa k n o := if_pos h
theorem comesX_ge {su fa : Nat → Int32} {k : Nat} {n : Int32} {o : Nat} (h : ¬ k < 5) : comesX su fa k n o = !(holdsX su fa (k - 5) n o) := if_neg h
abbrev wD (cs : Nat → ClassId) (aD aS aF : Nat) (cnt : Int32) (N : Nat) (su fa : Nat → Int32) : va_W := [(aD, .inr (1, [.ref aS, .ref aF, .int cnt, .int (nI N)])), (aS, .inl (cs 0, 1728, .inl su)), (aF, .inl (cs 0, 1728, .inl fa))]
end
section
/-! Dice: what it reads; rows by program -/
set_option maxHeartbeats 4000000 in
set_option maxRecDepth 100000 in
theorem c_bitOf (l : Launch) (D : va_G) (cs : Nat → ClassId) (H : Heap) (f : Int32) : Rd l D (Ty cs) 1 yX0_bitOf cX0_bitOf 1 (some .int) H [.int f] (some (.int (bitX f))) := by
  refine rd_ent (by decide) (Nat.le_of_ble_eq_true rfl) ?_
  intro p e s m below meth c ls hx hb hr hml hown hts hlocks hl hH hK
  have hl : lv_has ls 1 [(0, .int f)] := hl
  refine lv_iload_n hx hb dX0_bitOf_0 rfl (lv_at hl 0 rfl) ?_
  refine lv_iconst (v := 1) hx hb dX0_bitOf_1 (by decide) ?_
  refine lv_icmp_lt (tgt := 11) hx hb dX0_bitOf_2 (by decide) (fun c_1 => ?_) (fun c_1 => ?_)
  · refine lv_iconst (v := 0) hx hb dX0_bitOf_11 (by decide) ?_
    refine lv_goto (tgt := 18) hx hb dX0_bitOf_12 (by decide) ?_
    exact rd_iret hH hx hb hr hlocks (rv (by have gc_1 := c_1; try simp only [fa_lt, fa_le, fa_eq, il0, il1, il2, il3, il4, il5, il6, il7, il9, il10, il12, il20, il36, il100, il999, il1728] at gc_1; unfold bitX; first | rfl | (rw [if_pos (by simp only [fa_lt, fa_le, fa_eq, il0, il1, il2, il3, il4, il5, il6, il7, il9, il10, il12, il20, il36, il100, il999, il1728]; omega)]; done) | (rw [if_neg (by simp only [fa_lt, fa_le, fa_eq, il0, il1, il2, il3, il4, il5, il6, il7, il9, il10, il12, il20, il36, il100, il999, il1728]; omega)]; done))) dX0_bitOf_18
  · refine lv_iload_n hx hb dX0_bitOf_5 rfl (lv_at hl 0 rfl) ?_
    refine lv_bipush (v := 12) hx hb dX0_bitOf_6 (by decide) ?_
    refine lv_icmp_le (tgt := 15) hx hb dX0_bitOf_8 (by decide) (fun c_2 => ?_) (fun c_2 => ?_)
    · refine lv_iconst (v := 1) hx hb dX0_bitOf_15 (by decide) ?_
      refine lv_iload_n hx hb dX0_bitOf_16 rfl (lv_at hl 0 rfl) ?_
      refine lv_ishl hx hb dX0_bitOf_17 ?_
      exact rd_iret hH hx hb hr hlocks (rv (by have gc_1 := c_1; have gc_2 := c_2; try simp only [fa_lt, fa_le, fa_eq, il0, il1, il2, il3, il4, il5, il6, il7, il9, il10, il12, il20, il36, il100, il999, il1728] at gc_1; try simp only [fa_lt, fa_le, fa_eq, il0, il1, il2, il3, il4, il5, il6, il7, il9, il10, il12, il20, il36, il100, il999, il1728] at gc_2; unfold bitX; first | rfl | (rw [if_pos (by simp only [fa_lt, fa_le, fa_eq, il0, il1, il2, il3, il4, il5, il6, il7, il9, il10, il12, il20, il36, il100, il999, il1728]; omega)]; done) | (rw [if_neg (by simp only [fa_lt, fa_le, fa_eq, il0, il1, il2, il3, il4, il5, il6, il7, il9, il10, il12, il20, il36, il100, il999, il1728]; omega)]; done))) dX0_bitOf_18
    · refine lv_iconst (v := 0) hx hb dX0_bitOf_11 (by decide) ?_
      refine lv_goto (tgt := 18) hx hb dX0_bitOf_12 (by decide) ?_
      exact rd_iret hH hx hb hr hlocks (rv (by have gc_1 := c_1; have gc_2 := c_2; try simp only [fa_lt, fa_le, fa_eq, il0, il1, il2, il3, il4, il5, il6, il7, il9, il10, il12, il20, il36, il100, il999, il1728] at gc_1; try simp only [fa_lt, fa_le, fa_eq, il0, il1, il2, il3, il4, il5, il6, il7, il9, il10, il12, il20, il36, il100, il999, il1728] at gc_2; unfold bitX; first | rfl | (rw [if_pos (by simp only [fa_lt, fa_le, fa_eq, il0, il1, il2, il3, il4, il5, il6, il7, il9, il10, il12, il20, il36, il100, il999, il1728]; omega)]; done) | (rw [if_neg (by simp only [fa_lt, fa_le, fa_eq, il0, il1, il2, il3, il4, il5, il6, il7, il9, il10, il12, il20, il36, il100, il999, il1728]; omega)]; done))) dX0_bitOf_18
set_option maxHeartbeats 4000000 in
set_option maxRecDepth 100000 in
theorem c_bitCount (l : Launch) (D : va_G) (cs : Nat → ClassId) (H : Heap) (x : Int32) : Rd l D (Ty cs) 1 yJ6_bitCount_0f7a4 cJ6_bitCount_0f7a4 1 (some .int) H [.int x] (some (.int (bcX x))) := by
  refine rd_ent (by decide) (Nat.le_of_ble_eq_true rfl) ?_
  intro p e s m below meth c ls hx hb hr hml hown hts hlocks hl hH hK
  have hl : lv_has ls 1 [(0, .int x)] := hl
  refine lv_iload_n hx hb dJ6_bitCount_0f7a4_0 rfl (lv_at hl 0 rfl) ?_
  refine lv_iload_n hx hb dJ6_bitCount_0f7a4_1 rfl (lv_at hl 0 rfl) ?_
  refine lv_iconst (v := 1) hx hb dJ6_bitCount_0f7a4_2 (by decide) ?_
  refine lv_iushr hx hb dJ6_bitCount_0f7a4_3 rfl ?_
  refine lv_ldcw hx hb hown (hts (Cond.constant RJ6 265 (1431655765)) mw_9_16) dJ6_bitCount_0f7a4_4 ?_
  refine lv_iand hx hb dJ6_bitCount_0f7a4_7 ?_
  refine lv_isub hx hb dJ6_bitCount_0f7a4_8 ?_
  refine lv_rwi (y := bc1 x) (rfl) ?_
  refine lv_istore_n (lv' := [(0, .int (bc1 x))]) hx hb dJ6_bitCount_0f7a4_9 rfl hl (by decide) rfl (fun ls hl => ?_)
  refine lv_iload_n hx hb dJ6_bitCount_0f7a4_10 rfl (lv_at hl 0 rfl) ?_
  refine lv_ldcw hx hb hown (hts (Cond.constant RJ6 266 (858993459)) mw_9_17) dJ6_bitCount_0f7a4_11 ?_
  refine lv_iand hx hb dJ6_bitCount_0f7a4_14 ?_
  refine lv_iload_n hx hb dJ6_bitCount_0f7a4_15 rfl (lv_at hl 0 rfl) ?_
  refine lv_iconst (v := 2) hx hb dJ6_bitCount_0f7a4_16 (by decide) ?_
  refine lv_iushr hx hb dJ6_bitCount_0f7a4_17 rfl ?_
  refine lv_ldcw hx hb hown (hts (Cond.constant RJ6 266 (858993459)) mw_9_17) dJ6_bitCount_0f7a4_18 ?_
  refine lv_iand hx hb dJ6_bitCount_0f7a4_21 ?_
  refine lv_iadd hx hb dJ6_bitCount_0f7a4_22 ?_
  refine lv_rwi (y := bc2 (bc1 x)) (rfl) ?_
  refine lv_istore_n (lv' := [(0, .int (bc2 (bc1 x)))]) hx hb dJ6_bitCount_0f7a4_23 rfl hl (by decide) rfl (fun ls hl => ?_)
  refine lv_iload_n hx hb dJ6_bitCount_0f7a4_24 rfl (lv_at hl 0 rfl) ?_
  refine lv_iload_n hx hb dJ6_bitCount_0f7a4_25 rfl (lv_at hl 0 rfl) ?_
  refine lv_iconst (v := 4) hx hb dJ6_bitCount_0f7a4_26 (by decide) ?_
  refine lv_iushr hx hb dJ6_bitCount_0f7a4_27 rfl ?_
  refine lv_iadd hx hb dJ6_bitCount_0f7a4_28 ?_
  refine lv_ldcw hx hb hown (hts (Cond.constant RJ6 267 (252645135)) mw_9_18) dJ6_bitCount_0f7a4_29 ?_
  refine lv_iand hx hb dJ6_bitCount_0f7a4_32 ?_
  refine lv_rwi (y := bc3 (bc2 (bc1 x))) (rfl) ?_
  refine lv_istore_n (lv' := [(0, .int (bc3 (bc2 (bc1 x))))]) hx hb dJ6_bitCount_0f7a4_33 rfl hl (by decide) rfl (fun ls hl => ?_)
  refine lv_iload_n hx hb dJ6_bitCount_0f7a4_34 rfl (lv_at hl 0 rfl) ?_
  refine lv_iload_n hx hb dJ6_bitCount_0f7a4_35 rfl (lv_at hl 0 rfl) ?_
  refine lv_bipush (v := 8) hx hb dJ6_bitCount_0f7a4_36 (by decide) ?_
  refine lv_iushr hx hb dJ6_bitCount_0f7a4_38 rfl ?_
  refine lv_iadd hx hb dJ6_bitCount_0f7a4_39 ?_
  refine lv_rwi (y := bc4 (bc3 (bc2 (bc1 x)))) (rfl) ?_
  refine lv_istore_n (lv' := [(0, .int (bc4 (bc3 (bc2 (bc1 x)))))]) hx hb dJ6_bitCount_0f7a4_40 rfl hl (by decide) rfl (fun ls hl => ?_)
  refine lv_iload_n hx hb dJ6_bitCount_0f7a4_41 rfl (lv_at hl 0 rfl) ?_
  refine lv_iload_n hx hb dJ6_bitCount_0f7a4_42 rfl (lv_at hl 0 rfl) ?_
  refine lv_bipush (v := 16) hx hb dJ6_bitCount_0f7a4_43 (by decide) ?_
  refine lv_iushr hx hb dJ6_bitCount_0f7a4_45 rfl ?_
  refine lv_iadd hx hb dJ6_bitCount_0f7a4_46 ?_
  refine lv_rwi (y := bc5 (bc4 (bc3 (bc2 (bc1 x))))) (rfl) ?_
  refine lv_istore_n (lv' := [(0, .int (bc5 (bc4 (bc3 (bc2 (bc1 x))))))]) hx hb dJ6_bitCount_0f7a4_47 rfl hl (by decide) rfl (fun ls hl => ?_)
  refine lv_iload_n hx hb dJ6_bitCount_0f7a4_48 rfl (lv_at hl 0 rfl) ?_
  refine lv_bipush (v := 63) hx hb dJ6_bitCount_0f7a4_49 (by decide) ?_
  refine lv_iand hx hb dJ6_bitCount_0f7a4_51 ?_
  exact rd_iret hH hx hb hr hlocks (rfl) dJ6_bitCount_0f7a4_52
set_option maxHeartbeats 4000000 in
set_option maxRecDepth 100000 in
theorem c_holds0 (l : Launch) (D : va_G) (cs : Nat → ClassId) (H : Heap) {aD aS aF : Nat} {cnt : Int32} {N : Nat} {su fa : Nat → Int32} (hP : va_P D vwCl (wD cs aD aS aF cnt N su fa) H) (n : Int32) (o : Nat) (ho : o < 1728) : Rd l D (Ty cs) 2 yX0_holds cX0_holds 4 (some .boolean) H [.ref aD, .int 0, .int n, .int (nI o)] (some (.int (b2i (holdsX su fa 0 n o)))) := by
  refine rd_ent (by decide) (Nat.le_of_ble_eq_true rfl) ?_
  intro p e s m below meth c ls hx hb hr hml hown hts hlocks hl hH hK
  have hl : lv_has ls 4 [(0, .ref aD), (1, .int 0), (2, .int n), (3, .int (nI o))] := hl
  refine lv_iload_n hx hb dX0_holds_0 rfl (lv_at hl 1 rfl) ?_
  refine lv_tableIn (tgt := 36) (off := 35) hx hb dX0_holds_1 (by decide) (by decide) (by decide) (by decide) ?_
  refine lv_aload_n hx hb dX0_holds_36 rfl (lv_at hl 0 rfl) ?_
  refine va_get (D := D) (ci := 1) (v := .ref aS) (C := RX0) (T := TX0) (N := 4) hx hb hts inlX0 hown hK hP 0 rfl rfl 0 (by decide) (hts (Cond.fieldLink RX0 9 "TavernDice$Dice" "sums" "[I") mw_2_5) (fun _ h9 => h9) rfl dX0_holds_37 ?_
  refine lv_iload_n hx hb dX0_holds_40 rfl (lv_at hl 3 rfl) ?_
  refine va_iald hx hb hK hP 1 0 rfl rfl (vp_in_nI (by omega) (by omega)) dX0_holds_41 ?_
  refine lv_rwi (y := su o) (congrArg su (nI_clamp (by omega))) ?_
  refine lv_iload_n hx hb dX0_holds_42 rfl (lv_at hl 2 rfl) ?_
  refine lv_icmp_ne (tgt := 50) hx hb dX0_holds_43 (by decide) (fun c_1 => ?_) (fun c_1 => ?_)
  · refine lv_iconst (v := 0) hx hb dX0_holds_50 (by decide) ?_
    exact rd_zret hH hx hb hr hlocks (rb0 (show holdsX su fa 0 n o = false from by first | (simp [holdsX, c_1]; done) | (simp [holdsX, fa_of_nlt c_1]; done))) (by decide) dX0_holds_51
  · refine lv_iconst (v := 1) hx hb dX0_holds_46 (by decide) ?_
    refine lv_goto (tgt := 51) hx hb dX0_holds_47 (by decide) ?_
    exact rd_zret hH hx hb hr hlocks (rb1 (show holdsX su fa 0 n o = true from by first | (simp [holdsX, c_1]; done) | (simp [holdsX, fa_of_nlt c_1]; done))) (by decide) dX0_holds_51
set_option maxHeartbeats 4000000 in
set_option maxRecDepth 100000 in
theorem c_holds1 (l : Launch) (D : va_G) (cs : Nat → ClassId) (H : Heap) {aD aS aF : Nat} {cnt : Int32} {N : Nat} {su fa : Nat → Int32} (hP : va_P D vwCl (wD cs aD aS aF cnt N su fa) H) (n : Int32) (o : Nat) (ho : o < 1728) : Rd l D (Ty cs) 2 yX0_holds cX0_holds 4 (some .boolean) H [.ref aD, .int 1, .int n, .int (nI o)] (some (.int (b2i (holdsX su fa 1 n o)))) := by
  refine rd_ent (by decide) (Nat.le_of_ble_eq_true rfl) ?_
  intro p e s m below meth c ls hx hb hr hml hown hts hlocks hl hH hK
  have hl : lv_has ls 4 [(0, .ref aD), (1, .int 1), (2, .int n), (3, .int (nI o))] := hl
  refine lv_iload_n hx hb dX0_holds_0 rfl (lv_at hl 1 rfl) ?_
  refine lv_tableIn (tgt := 52) (off := 51) hx hb dX0_holds_1 (by decide) (by decide) (by decide) (by decide) ?_
  refine lv_aload_n hx hb dX0_holds_52 rfl (lv_at hl 0 rfl) ?_
  refine va_get (D := D) (ci := 1) (v := .ref aS) (C := RX0) (T := TX0) (N := 4) hx hb hts inlX0 hown hK hP 0 rfl rfl 0 (by decide) (hts (Cond.fieldLink RX0 9 "TavernDice$Dice" "sums" "[I") mw_2_5) (fun _ h9 => h9) rfl dX0_holds_53 ?_
  refine lv_iload_n hx hb dX0_holds_56 rfl (lv_at hl 3 rfl) ?_
  refine va_iald hx hb hK hP 1 0 rfl rfl (vp_in_nI (by omega) (by omega)) dX0_holds_57 ?_
  refine lv_rwi (y := su o) (congrArg su (nI_clamp (by omega))) ?_
  refine lv_iload_n hx hb dX0_holds_58 rfl (lv_at hl 2 rfl) ?_
  refine lv_icmp_lt (tgt := 66) hx hb dX0_holds_59 (by decide) (fun c_1 => ?_) (fun c_1 => ?_)
  · refine lv_iconst (v := 0) hx hb dX0_holds_66 (by decide) ?_
    exact rd_zret hH hx hb hr hlocks (rb0 (show holdsX su fa 1 n o = false from by first | (simp [holdsX, c_1]; done) | (simp [holdsX, fa_of_nlt c_1]; done))) (by decide) dX0_holds_67
  · refine lv_iconst (v := 1) hx hb dX0_holds_62 (by decide) ?_
    refine lv_goto (tgt := 67) hx hb dX0_holds_63 (by decide) ?_
    exact rd_zret hH hx hb hr hlocks (rb1 (show holdsX su fa 1 n o = true from by first | (simp [holdsX, c_1]; done) | (simp [holdsX, fa_of_nlt c_1]; done))) (by decide) dX0_holds_67
set_option maxHeartbeats 4000000 in
set_option maxRecDepth 100000 in
theorem c_holds2 (l : Launch) (D : va_G) (cs : Nat → ClassId) (H : Heap) {aD aS aF : Nat} {cnt : Int32} {N : Nat} {su fa : Nat → Int32} (hP : va_P D vwCl (wD cs aD aS aF cnt N su fa) H) (n : Int32) (o : Nat) (ho : o < 1728) : Rd l D (Ty cs) 2 yX0_holds cX0_holds 4 (some .boolean) H [.ref aD, .int 2, .int n, .int (nI o)] (some (.int (b2i (holdsX su fa 2 n o)))) := by
  refine rd_ent (by decide) (Nat.le_of_ble_eq_true rfl) ?_
  intro p e s m below meth c ls hx hb hr hml hown hts hlocks hl hH hK
  have hl : lv_has ls 4 [(0, .ref aD), (1, .int 2), (2, .int n), (3, .int (nI o))] := hl
  refine lv_iload_n hx hb dX0_holds_0 rfl (lv_at hl 1 rfl) ?_
  refine lv_tableIn (tgt := 68) (off := 67) hx hb dX0_holds_1 (by decide) (by decide) (by decide) (by decide) ?_
  refine lv_aload_n hx hb dX0_holds_68 rfl (lv_at hl 0 rfl) ?_
  refine va_get (D := D) (ci := 1) (v := .ref aS) (C := RX0) (T := TX0) (N := 4) hx hb hts inlX0 hown hK hP 0 rfl rfl 0 (by decide) (hts (Cond.fieldLink RX0 9 "TavernDice$Dice" "sums" "[I") mw_2_5) (fun _ h9 => h9) rfl dX0_holds_69 ?_
  refine lv_iload_n hx hb dX0_holds_72 rfl (lv_at hl 3 rfl) ?_
  refine va_iald hx hb hK hP 1 0 rfl rfl (vp_in_nI (by omega) (by omega)) dX0_holds_73 ?_
  refine lv_rwi (y := su o) (congrArg su (nI_clamp (by omega))) ?_
  refine lv_iconst (v := 2) hx hb dX0_holds_74 (by decide) ?_
  refine lv_irem hx hb dX0_holds_75 (by decide) ?_
  refine lv_iconst (v := 1) hx hb dX0_holds_76 (by decide) ?_
  refine lv_icmp_ne (tgt := 84) hx hb dX0_holds_77 (by decide) (fun c_1 => ?_) (fun c_1 => ?_)
  · refine lv_iconst (v := 0) hx hb dX0_holds_84 (by decide) ?_
    exact rd_zret hH hx hb hr hlocks (rb0 (show holdsX su fa 2 n o = false from by first | (simp [holdsX, c_1]; done) | (simp [holdsX, fa_of_nlt c_1]; done))) (by decide) dX0_holds_85
  · refine lv_iconst (v := 1) hx hb dX0_holds_80 (by decide) ?_
    refine lv_goto (tgt := 85) hx hb dX0_holds_81 (by decide) ?_
    exact rd_zret hH hx hb hr hlocks (rb1 (show holdsX su fa 2 n o = true from by first | (simp [holdsX, c_1]; done) | (simp [holdsX, fa_of_nlt c_1]; done))) (by decide) dX0_holds_85
set_option maxHeartbeats 4000000 in
set_option maxRecDepth 100000 in
theorem c_holds3 (l : Launch) (D : va_G) (cs : Nat → ClassId) (H : Heap) {aD aS aF : Nat} {cnt : Int32} {N : Nat} {su fa : Nat → Int32} (hP : va_P D vwCl (wD cs aD aS aF cnt N su fa) H) (n : Int32) (o : Nat) (ho : o < 1728) : Rd l D (Ty cs) 2 yX0_holds cX0_holds 4 (some .boolean) H [.ref aD, .int 3, .int n, .int (nI o)] (some (.int (b2i (holdsX su fa 3 n o)))) := by
  refine rd_ent (by decide) (Nat.le_of_ble_eq_true rfl) ?_
  intro p e s m below meth c ls hx hb hr hml hown hts hlocks hl hH hK
  have hl : lv_has ls 4 [(0, .ref aD), (1, .int 3), (2, .int n), (3, .int (nI o))] := hl
  refine lv_iload_n hx hb dX0_holds_0 rfl (lv_at hl 1 rfl) ?_
  refine lv_tableIn (tgt := 86) (off := 85) hx hb dX0_holds_1 (by decide) (by decide) (by decide) (by decide) ?_
  refine lv_aload_n hx hb dX0_holds_86 rfl (lv_at hl 0 rfl) ?_
  refine va_get (D := D) (ci := 1) (v := .ref aF) (C := RX0) (T := TX0) (N := 4) hx hb hts inlX0 hown hK hP 0 rfl rfl 1 (by decide) (hts (Cond.fieldLink RX0 15 "TavernDice$Dice" "faces" "[I") mw_2_6) (fun _ h9 => h9) rfl dX0_holds_87 ?_
  refine lv_iload_n hx hb dX0_holds_90 rfl (lv_at hl 3 rfl) ?_
  refine va_iald hx hb hK hP 2 0 rfl rfl (vp_in_nI (by omega) (by omega)) dX0_holds_91 ?_
  refine lv_rwi (y := fa o) (congrArg fa (nI_clamp (by omega))) ?_
  refine rdS (As := [.int (fa o)]) (rest := []) ⟨hx, hb, hml, hown, hts⟩ hK 1 (c_bitCount l D cs H (fa o)) (gin_s mw_9_12 mw_9_13 mw_9_14 mw_9_15) (by decide +kernel) ⟨Nat.le_of_ble_eq_true rfl, Nat.le_of_ble_eq_true rfl⟩ rfl hl.1 rfl (Nat.le_of_ble_eq_true rfl) dX0_holds_92 ⟨(Nat.zero_le _), (Nat.zero_le _)⟩ ?_
  refine W.eq (g2 := F0 m 95 ls [.int (bcX (fa o))]) rfl ?_
  refine lv_iconst (v := 1) hx hb dX0_holds_95 (by decide) ?_
  refine lv_icmp_ne (tgt := 103) hx hb dX0_holds_96 (by decide) (fun c_1 => ?_) (fun c_1 => ?_)
  · refine lv_iconst (v := 0) hx hb dX0_holds_103 (by decide) ?_
    exact rd_zret hH hx hb hr hlocks (rb0 (show holdsX su fa 3 n o = false from by first | (simp [holdsX, c_1]; done) | (simp [holdsX, fa_of_nlt c_1]; done))) (by decide) dX0_holds_104
  · refine lv_iconst (v := 1) hx hb dX0_holds_99 (by decide) ?_
    refine lv_goto (tgt := 104) hx hb dX0_holds_100 (by decide) ?_
    exact rd_zret hH hx hb hr hlocks (rb1 (show holdsX su fa 3 n o = true from by first | (simp [holdsX, c_1]; done) | (simp [holdsX, fa_of_nlt c_1]; done))) (by decide) dX0_holds_104
set_option maxHeartbeats 4000000 in
set_option maxRecDepth 100000 in
theorem c_holds4 (l : Launch) (D : va_G) (cs : Nat → ClassId) (H : Heap) {aD aS aF : Nat} {cnt : Int32} {N : Nat} {su fa : Nat → Int32} (hP : va_P D vwCl (wD cs aD aS aF cnt N su fa) H) (n : Int32) (o : Nat) (ho : o < 1728) : Rd l D (Ty cs) 2 yX0_holds cX0_holds 4 (some .boolean) H [.ref aD, .int 4, .int n, .int (nI o)] (some (.int (b2i (holdsX su fa 4 n o)))) := by
  refine rd_ent (by decide) (Nat.le_of_ble_eq_true rfl) ?_
  intro p e s m below meth c ls hx hb hr hml hown hts hlocks hl hH hK
  have hl : lv_has ls 4 [(0, .ref aD), (1, .int 4), (2, .int n), (3, .int (nI o))] := hl
  refine lv_iload_n hx hb dX0_holds_0 rfl (lv_at hl 1 rfl) ?_
  refine lv_tableIn (tgt := 105) (off := 104) hx hb dX0_holds_1 (by decide) (by decide) (by decide) (by decide) ?_
  refine lv_aload_n hx hb dX0_holds_105 rfl (lv_at hl 0 rfl) ?_
  refine va_get (D := D) (ci := 1) (v := .ref aF) (C := RX0) (T := TX0) (N := 4) hx hb hts inlX0 hown hK hP 0 rfl rfl 1 (by decide) (hts (Cond.fieldLink RX0 15 "TavernDice$Dice" "faces" "[I") mw_2_6) (fun _ h9 => h9) rfl dX0_holds_106 ?_
  refine lv_iload_n hx hb dX0_holds_109 rfl (lv_at hl 3 rfl) ?_
  refine va_iald hx hb hK hP 2 0 rfl rfl (vp_in_nI (by omega) (by omega)) dX0_holds_110 ?_
  refine lv_rwi (y := fa o) (congrArg fa (nI_clamp (by omega))) ?_
  refine lv_iload_n hx hb dX0_holds_111 rfl (lv_at hl 2 rfl) ?_
  refine rdS (As := [.int n]) (rest := [.int (fa o)]) ⟨hx, hb, hml, hown, hts⟩ hK 1 (c_bitOf l D cs H n) (gin_s mw_2_21 mw_2_22 mw_1_16 mw_2_23) (by decide +kernel) ⟨Nat.le_of_ble_eq_true rfl, Nat.le_of_ble_eq_true rfl⟩ rfl hl.1 rfl (Nat.le_of_ble_eq_true rfl) dX0_holds_112 ⟨(Nat.zero_le _), (Nat.zero_le _)⟩ ?_
  refine W.eq (g2 := F0 m 115 ls [.int (bitX n), .int (fa o)]) rfl ?_
  refine lv_iand hx hb dX0_holds_115 ?_
  refine lv_if_eq (tgt := 123) hx hb dX0_holds_116 (by decide) (fun c_1 => ?_) (fun c_1 => ?_)
  · refine lv_iconst (v := 0) hx hb dX0_holds_123 (by decide) ?_
    exact rd_zret hH hx hb hr hlocks (rb0 (show holdsX su fa 4 n o = false from by first | (simp [holdsX, c_1]; done) | (simp [holdsX, fa_of_nlt c_1]; done))) (by decide) dX0_holds_124
  · refine lv_iconst (v := 1) hx hb dX0_holds_119 (by decide) ?_
    refine lv_goto (tgt := 124) hx hb dX0_holds_120 (by decide) ?_
    exact rd_zret hH hx hb hr hlocks (rb1 (show holdsX su fa 4 n o = true from by first | (simp [holdsX, c_1]; done) | (simp [holdsX, fa_of_nlt c_1]; done))) (by decide) dX0_holds_124
theorem c_holds (l : Launch) (D : va_G) (cs : Nat → ClassId) (H : Heap) {aD aS aF : Nat} {cnt : Int32} {N : Nat} {su fa : Nat → Int32} (hP : va_P D vwCl (wD cs aD aS aF cnt N su fa) H) (k : Nat) (hk : k < 5) (n : Int32) (o : Nat) (ho : o < 1728) : Rd l D (Ty cs) 2 yX0_holds cX0_holds 4 (some .boolean) H [.ref aD, .int (nI k), .int n, .int (nI o)] (some (.int (b2i (holdsX su fa k n o)))) := by
  match k, hk with
  | 0, _ => exact c_holds0 l D cs H hP n o ho
  | 1, _ => exact c_holds1 l D cs H hP n o ho
  | 2, _ => exact c_holds2 l D cs H hP n o ho
  | 3, _ => exact c_holds3 l D cs H hP n o ho
  | 4, _ => exact c_holds4 l D cs H hP n o ho
  | k + 5, h => exact absurd h (by omega)
set_option maxHeartbeats 4000000 in
set_option maxRecDepth 100000 in
theorem c_comes (l : Launch) (D : va_G) (cs : Nat → ClassId) (H : Heap) {aD aS aF : Nat} {cnt : Int32} {N : Nat} {su fa : Nat → Int32} (hP : va_P D vwCl (wD cs aD aS aF cnt N su fa) H) (k : Nat) (hk : k < 10) (n : Int32) (o : Nat) (ho : o < 1728) : Rd l D (Ty cs) 3 yX0_comes cX0_comes 4 (some .boolean) H [.ref aD, .int (nI k), .int n, .int (nI o)] (some (.int (b2i (comesX su fa k n o)))) := by
  refine rd_ent (by decide) (Nat.le_of_ble_eq_true rfl) ?_
  intro p e s m below meth c ls hx hb hr hml hown hts hlocks hl hH hK
  have hl : lv_has ls 4 [(0, .ref aD), (1, .int (nI k)), (2, .int n), (3, .int (nI o))] := hl
  refine lv_iload_n hx hb dX0_comes_0 rfl (lv_at hl 1 rfl) ?_
  refine lv_iconst (v := nI 5) hx hb dX0_comes_1 (by decide) ?_
  refine lv_icmp_lt (tgt := 23) hx hb dX0_comes_2 (by decide) (fun c_1 => ?_) (fun c_1 => ?_)
  · refine lv_aload_n hx hb dX0_comes_23 rfl (lv_at hl 0 rfl) ?_
    refine lv_iload_n hx hb dX0_comes_24 rfl (lv_at hl 1 rfl) ?_
    refine lv_iload_n hx hb dX0_comes_25 rfl (lv_at hl 2 rfl) ?_
    refine lv_iload_n hx hb dX0_comes_26 rfl (lv_at hl 3 rfl) ?_
    refine rdV (As := [.int (nI k), .int n, .int (nI o)]) (rest := []) (b := aD) ⟨hx, hb, hml, hown, hts⟩ hK 3 (c_holds l D cs H hP k (by have g := (nI_ltI (by omega) (by omega)).mp c_1; omega) n o ho) (gin_v mw_9_8 mw_9_9 mw_9_10 mw_1_16 mw_9_11) (by decide +kernel) ⟨Nat.le_of_ble_eq_true rfl, Nat.le_of_ble_eq_true rfl⟩ (va_recv hK hP (ci := 1) (q0 := 0) rfl rfl) rfl hl.1 rfl (Nat.le_of_ble_eq_true rfl) dX0_comes_27 ⟨(Nat.zero_le _), (Nat.zero_le _)⟩ ?_
    refine W.eq (g2 := F0 m 30 ls [.int (b2i (holdsX su fa k n o))]) rfl ?_
    exact rd_zret hH hx hb hr hlocks (by rw [comesX_lt (by have g := (nI_ltI (by omega) (by omega)).mp c_1; omega)]) (b2i_z _) dX0_comes_30
  · refine lv_aload_n hx hb dX0_comes_5 rfl (lv_at hl 0 rfl) ?_
    refine lv_iload_n hx hb dX0_comes_6 rfl (lv_at hl 1 rfl) ?_
    refine lv_iconst (v := nI 5) hx hb dX0_comes_7 (by decide) ?_
    refine lv_isub hx hb dX0_comes_8 ?_
    refine lv_rwi (y := nI (k - 5)) (pk_sub (by have g : ¬ k < 5 := fun z => c_1 ((nI_ltI (by omega) (by omega)).mpr z); omega)) ?_
    refine lv_iload_n hx hb dX0_comes_9 rfl (lv_at hl 2 rfl) ?_
    refine lv_iload_n hx hb dX0_comes_10 rfl (lv_at hl 3 rfl) ?_
    refine rdV (As := [.int (nI (k - 5)), .int n, .int (nI o)]) (rest := []) (b := aD) ⟨hx, hb, hml, hown, hts⟩ hK 3 (c_holds l D cs H hP (k - 5) (by have g : ¬ k < 5 := fun z => c_1 ((nI_ltI (by omega) (by omega)).mpr z); omega) n o ho) (gin_v mw_9_8 mw_9_9 mw_9_10 mw_1_16 mw_9_11) (by decide +kernel) ⟨Nat.le_of_ble_eq_true rfl, Nat.le_of_ble_eq_true rfl⟩ (va_recv hK hP (ci := 1) (q0 := 0) rfl rfl) rfl hl.1 rfl (Nat.le_of_ble_eq_true rfl) dX0_comes_11 ⟨(Nat.zero_le _), (Nat.zero_le _)⟩ ?_
    refine W.eq (g2 := F0 m 14 ls [.int (b2i (holdsX su fa (k - 5) n o))]) rfl ?_
    refine lv_if_ne (tgt := 21) hx hb dX0_comes_14 (by decide) (fun c_2 => ?_) (fun c_2 => ?_)
    · refine lv_iconst (v := 0) hx hb dX0_comes_21 (by decide) ?_
      exact rd_zret hH hx hb hr hlocks (rb0 (by rw [comesX_ge (by exact fun z => c_1 ((nI_ltI (by omega) (by omega)).mpr z)), (b2i_ne0 _).mp c_2]; rfl)) (by decide) dX0_comes_22
    · refine lv_iconst (v := 1) hx hb dX0_comes_17 (by decide) ?_
      refine lv_goto (tgt := 22) hx hb dX0_comes_18 (by decide) ?_
      exact rd_zret hH hx hb hr hlocks (rb1 (by rw [comesX_ge (by exact fun z => c_1 ((nI_ltI (by omega) (by omega)).mpr z)), (b2i_eq0 _).mp c_2]; rfl)) (by decide) dX0_comes_22
set_option maxHeartbeats 4000000 in
set_option maxRecDepth 100000 in
theorem c_countWays (l : Launch) (D : va_G) (cs : Nat → ClassId) (H : Heap) {aD aS aF : Nat} {cnt : Int32} {N : Nat} {su fa : Nat → Int32} (hP : va_P D vwCl (wD cs aD aS aF cnt N su fa) H) (hN : N ≤ 1728) (k : Nat) (hk : k < 10) (n : Int32) : Rd l D (Ty cs) 4 yX0_countWays cX0_countWays 5 (some .int) H [.ref aD, .int (nI k), .int n] (some (.int (nI (cn (comesX su fa k n) N)))) := by
  refine rd_ent (by decide) (Nat.le_of_ble_eq_true rfl) ?_
  intro p e s m below meth c ls hx hb hr hml hown hts hlocks hl hH hK
  have hl : lv_has ls 5 [(0, .ref aD), (1, .int (nI k)), (2, .int n)] := hl
  refine lv_iconst (v := nI 0) hx hb dX0_countWays_0 (by decide) ?_
  refine lv_istore_n (lv' := [(3, .int (nI 0)), (0, .ref aD), (1, .int (nI k)), (2, .int n)]) hx hb dX0_countWays_1 rfl hl (by decide) rfl (fun ls hl => ?_)
  refine lv_iconst (v := nI 0) hx hb dX0_countWays_2 (by decide) ?_
  refine lv_istore (lv' := [(4, .int (nI 0)), (3, .int (nI 0)), (0, .ref aD), (1, .int (nI k)), (2, .int n)]) hx hb dX0_countWays_3 hl (by decide) rfl (fun ls hl => ?_)
  have loop5 : ∀ (n9 : Nat) (i : Nat) (ls : Array Slot), i ≤ N → N + 1 ≤ i + n9 → lv_has ls 5 [(0, .ref aD), (1, .int (nI k)), (2, .int n), (3, .int (nI (cn (comesX su fa k n) i))), (4, .int (nI i))] → RdW p l e 4 s m [.ref aD, .int (nI k), .int n] below meth c H (some (.int (nI (cn (comesX su fa k n) N)))) (F0 m 5 ls []) := by
    intro n9
    induction n9 with
    | zero => intro i  ls hi hf hl; exact absurd hf (by omega)
    | succ n9 ih5 =>
      intro i  ls hi hf hl
      refine lv_iload hx hb dX0_countWays_5 (lv_at hl 4 rfl) ?_
      refine lv_aload_n hx hb dX0_countWays_7 rfl (lv_at hl 0 rfl) ?_
      refine va_get (D := D) (ci := 1) (v := .int (nI N)) (C := RX0) (T := TX0) (N := 4) hx hb hts inlX0 hown hK hP 0 rfl rfl 3 (by decide) (hts (Cond.fieldLink RX0 26 "TavernDice$Dice" "outcomes" "I") mw_2_12) (fun _ h9 => h9) rfl dX0_countWays_8 ?_
      refine lv_icmp_ge (tgt := 34) hx hb dX0_countWays_11 (by decide) (fun c_1 => ?_) (fun c_1 => ?_)
      · refine lv_iload_n hx hb dX0_countWays_34 rfl (lv_at hl 3 rfl) ?_
        exact rd_iret hH hx hb hr hlocks (rv (by rw [show i = N from by have g := (nI_leI (by omega) (by omega)).mp c_1; omega])) dX0_countWays_35
      · have hlt : i < N := by
          rcases Nat.lt_or_ge i N with q | q
          · exact q
          · exact absurd (nI_le q (by omega)) c_1
        refine lv_aload_n hx hb dX0_countWays_14 rfl (lv_at hl 0 rfl) ?_
        refine lv_iload_n hx hb dX0_countWays_15 rfl (lv_at hl 1 rfl) ?_
        refine lv_iload_n hx hb dX0_countWays_16 rfl (lv_at hl 2 rfl) ?_
        refine lv_iload hx hb dX0_countWays_17 (lv_at hl 4 rfl) ?_
        refine rdV (As := [.int (nI k), .int n, .int (nI i)]) (rest := []) (b := aD) ⟨hx, hb, hml, hown, hts⟩ hK 3 (c_comes l D cs H hP k hk n i (by omega)) (gin_v mw_9_4 mw_9_5 mw_9_6 mw_1_16 mw_9_7) (by decide +kernel) ⟨Nat.le_of_ble_eq_true rfl, Nat.le_of_ble_eq_true rfl⟩ (va_recv hK hP (ci := 1) (q0 := 0) rfl rfl) rfl hl.1 rfl (Nat.le_of_ble_eq_true rfl) dX0_countWays_19 ⟨(Nat.zero_le _), (Nat.zero_le _)⟩ ?_
        refine W.eq (g2 := F0 m 22 ls [.int (b2i (comesX su fa k n i))]) rfl ?_
        refine lv_if_eq (tgt := 28) hx hb dX0_countWays_22 (by decide) (fun c_2 => ?_) (fun c_2 => ?_)
        · have hl : lv_has ls 5 [(0, .ref aD), (1, .int (nI k)), (2, .int n), (3, .int (nI (cn (comesX su fa k n) (i + 1)))), (4, .int (nI i))] := by rw [cn_f ((b2i_eq0 _).mp c_2)]; exact hl
          refine lv_iinc (v := nI (i + 1)) (lv' := [(4, .int (nI (i + 1))), (0, .ref aD), (1, .int (nI k)), (2, .int n), (3, .int (nI (cn (comesX su fa k n) (i + 1))))]) hx hb dX0_countWays_28 hl (k := 4) rfl (nI_1 i) (by decide) rfl (fun ls hl => ?_)
          refine lv_goto (tgt := 5) hx hb dX0_countWays_31 (by decide) ?_
          exact ih5 (i + 1) ls (by omega) (by omega) (lv_sub hl [1, 2, 3, 4, 0] rfl)
        · refine lv_iinc (v := nI (cn (comesX su fa k n) (i + 1))) (lv' := [(3, .int (nI (cn (comesX su fa k n) (i + 1)))), (0, .ref aD), (1, .int (nI k)), (2, .int n), (4, .int (nI i))]) hx hb dX0_countWays_25 hl (k := 3) rfl (by rw [cn_t ((b2i_ne0 _).mp c_2)]; exact nI_1 _) (by decide) rfl (fun ls hl => ?_)
          refine lv_iinc (v := nI (i + 1)) (lv' := [(4, .int (nI (i + 1))), (3, .int (nI (cn (comesX su fa k n) (i + 1)))), (0, .ref aD), (1, .int (nI k)), (2, .int n)]) hx hb dX0_countWays_28 hl (k := 4) rfl (nI_1 i) (by decide) rfl (fun ls hl => ?_)
          refine lv_goto (tgt := 5) hx hb dX0_countWays_31 (by decide) ?_
          exact ih5 (i + 1) ls (by omega) (by omega) (lv_sub hl [2, 3, 4, 1, 0] rfl)
  exact loop5 (N + 1) 0 ls (Nat.zero_le _) (by omega) (lv_sub hl [2, 3, 4, 1, 0] rfl)
set_option maxHeartbeats 4000000 in
set_option maxRecDepth 100000 in
theorem c_gainOver (l : Launch) (D : va_G) (cs : Nat → ClassId) (H : Heap) {aD aS aF : Nat} {cnt : Int32} {N : Nat} {su fa : Nat → Int32} (hP : va_P D vwCl (wD cs aD aS aF cnt N su fa) H) (sk br ws : Int32) : Rd l D (Ty cs) 1 yX0_gainOver cX0_gainOver 4 (some .int) H [.ref aD, .int sk, .int br, .int ws] (some (.int (sk * (nI N - ws) - br * ws))) := by
  refine rd_ent (by decide) (Nat.le_of_ble_eq_true rfl) ?_
  intro p e s m below meth c ls hx hb hr hml hown hts hlocks hl hH hK
  have hl : lv_has ls 4 [(0, .ref aD), (1, .int sk), (2, .int br), (3, .int ws)] := hl
  refine lv_iload_n hx hb dX0_gainOver_0 rfl (lv_at hl 1 rfl) ?_
  refine lv_aload_n hx hb dX0_gainOver_1 rfl (lv_at hl 0 rfl) ?_
  refine va_get (D := D) (ci := 1) (v := .int (nI N)) (C := RX0) (T := TX0) (N := 4) hx hb hts inlX0 hown hK hP 0 rfl rfl 3 (by decide) (hts (Cond.fieldLink RX0 26 "TavernDice$Dice" "outcomes" "I") mw_2_12) (fun _ h9 => h9) rfl dX0_gainOver_2 ?_
  refine lv_iload_n hx hb dX0_gainOver_5 rfl (lv_at hl 3 rfl) ?_
  refine lv_isub hx hb dX0_gainOver_6 ?_
  refine lv_imul hx hb dX0_gainOver_7 ?_
  refine lv_iload_n hx hb dX0_gainOver_8 rfl (lv_at hl 2 rfl) ?_
  refine lv_iload_n hx hb dX0_gainOver_9 rfl (lv_at hl 3 rfl) ?_
  refine lv_imul hx hb dX0_gainOver_10 ?_
  refine lv_isub hx hb dX0_gainOver_11 ?_
  exact rd_iret hH hx hb hr hlocks (rfl) dX0_gainOver_12
end
section
/-! the class's state as it is read: its cells, its wagers; what its methods answer, in words of these -/
section Cast
variable {p : Program} {l : Launch} {e : Env} {R : Room} {s : State} {m : MethodId} {args : Array Value} {below : List Frame} {meth : Method} {c : Code} {H : Heap} {locs : List Loc} {cells slots : Nat} {Q : State → Prop} {cc : ByteArray} {pc : Nat} {ls : Array Slot} {rest : List Value} {a : Nat}
theorem va_castSelf (hexec : p.tables.exec = Jvm.exec) (hb : c.code = cc) {own C : String} {index : Nat} (hown : s.vm.findClass own = some m.cls) (hlink : (Cond.classLink own index C).before args s = true)
    (hr : ∃ cell : Cell, H[a]? = some cell ∧ cell.vm.isStatics = false ∧ s.vm.findClass C = some cell.cls) (hdg : decode cc pc = .ok (.checkcast index, 3))
    (k : W p l e R s m args below meth c H locs cells slots Q (F0 m (pc + 3) ls (.ref a :: rest))) : W p l e R s m args below meth c H locs cells slots Q (F0 m pc ls (.ref a :: rest)) := by
  obtain ⟨cell, h1, h2, h3⟩ := hr
  intro T hT X
  obtain ⟨vm', X', st⟩ := X.checkcastYes hexec hown hlink (by rw [hT]; exact h1) h2 h3 (Vm.assignable_self _ _) (g := F0 m pc ls (.ref a :: rest)) rfl rfl (by rw [hb]; exact hdg)
  obtain ⟨t, a1, b1⟩ := k (T.setVm vm') hT X'
  exact ⟨t, st t a1, b1⟩
end Cast
theorem lcmp_le (x y : Int64) : lg_cmp x y ≤ 0 ↔ ¬ y < x := by
  unfold lg_cmp
  by_cases h : y < x
  · rw [if_pos h]
    exact ⟨fun z => absurd z (by decide), fun z => absurd h z⟩
  · rw [if_neg h]
    refine ⟨fun _ => h, fun _ => ?_⟩
    by_cases h2 : x = y
    · rw [if_pos h2]; decide
    · rw [if_neg h2]; decide
theorem lcmp_eq (x y : Int64) : lg_cmp x y = 0 ↔ x = y := by
  unfold lg_cmp
  by_cases h : y < x
  · rw [if_pos h]
    exact ⟨fun z => absurd z (by decide), fun z => absurd h (by rw [z]; exact Int64.lt_irrefl)⟩
  · rw [if_neg h]
    by_cases h2 : x = y
    · rw [if_pos h2]; exact ⟨fun _ => h2, fun _ => rfl⟩
    · rw [if_neg h2]; exact ⟨fun z => absurd z (by decide), fun z => absurd z h2⟩
def dieX (f : Int32) : Bool := decide (2 ≤ f ∧ f ≤ 12)
def dieNX (f : Int32) : Bool := decide (f = 0) || dieX f
def brX (sk wn bs : Int32) : Int32 := if bs < 1 then 0 else sk * wn / bs
/-- sums of ints -/
def sm (f : Nat → Int32) : Nat → Int32
  | 0 => 0
  | n + 1 => sm f n + f n
/-- Euclid's steps, n at most -/
def euI : Nat → Int32 → Int32 → Int32
  | 0, a, _ => a
  | n + 1, a, b => if b = 0 then a else euI n b (a - a / b * b)
def absI (x : Int32) : Int32 := if 0 ≤ x then x else 0 - x
def cdX (t b : Int32) : Int32 := if euI 64 (absI t) b < 1 then 1 else euI 64 (absI t) b
theorem cdX_ne (t b : Int32) : ¬ cdX t b = 0 := by
  unfold cdX
  split
  · decide
  · rename_i h
    intro z
    rw [z] at h
    exact h (by decide)
theorem euI_0 (n : Nat) (a : Int32) : euI n a 0 = a := by cases n <;> simp [euI]
theorem euI_s {i : Nat} {a b : Int32} (hi : i < 64) (hb : ¬ b = 0) : euI (64 - i) a b = euI (64 - (i + 1)) b (a - a / b * b) := by
  rw [show 64 - i = (64 - (i + 1)) + 1 by omega]
  exact if_neg hb
abbrev wX (cs : Nat → ClassId) (ad : Nat → Nat) (bank rnds cnt mcn : Int32) (N n : Nat) (su fa pu : Nat → Int32) : va_W :=
  [(ad 0, .inr (3, [.ref (ad 1), .ref (ad 2), .ref (ad 3), .int bank, .int rnds])), (ad 1, .inr (1, [.ref (ad 4), .ref (ad 5), .int cnt, .int (nI N)])), (ad 4, .inl (cs 0, 1728, .inl su)), (ad 5, .inl (cs 0, 1728, .inl fa)), (ad 2, .inr (0, [.int mcn, .ref (ad 6), .int (nI n)])), (ad 3, .inl (cs 0, 6, .inl pu))]
abbrev wG (wa : Nat → Nat) (wf : Nat → Nat → Int32) (i : Nat) : Nat × va_E := (wa i, .inr (2, [.int (wf i 0), .int (wf i 1), .int (wf i 2), .int (wf i 3), .int (wf i 4), .int (wf i 5)]))
abbrev wE (cs : Nat → ClassId) (ad : Nat → Nat) (cap : Nat) (rf : Nat → Option Nat) : Nat × va_E := (ad 6, .inl (cs 2, cap, .inr (.inr (.inr (.inr rf)))))
/-- the class's cells in the heap H, for reading -/
def RX (D : va_G) (cs : Nat → ClassId) (H : Heap) (ad : Nat → Nat) (bank rnds cnt mcn : Int32) (N n cap : Nat) (su fa pu : Nat → Int32) (rf : Nat → Option Nat) (wa : Nat → Nat) (wf : Nat → Nat → Int32) (kd : Nat → Nat) : Prop :=
  va_P D vwCl (wX cs ad bank rnds cnt mcn N n su fa pu) H ∧ (∀ i, i < n → va_P D vwCl [wG wa wf i] H ∧ va_P D vwCl [wE cs ad cap rf] H ∧ rf i = some (wa i) ∧ wf i 1 = nI (kd i) ∧ kd i < 10 ∧ i < cap) ∧ 1 ≤ N ∧ N ≤ 1728 ∧ n ≤ 12 ∧ cap ≤ 1000
/-- what the house gains by a wager with an outcome; by all; a purse behind it; over all outcomes -/
def gnX (su fa : Nat → Int32) (wf : Nat → Nat → Int32) (kd : Nat → Nat) (o i : Nat) : Int32 := if comesX su fa (kd i) (wf i 2) o then -(wf i 4) else wf i 3
def behX (su fa pu : Nat → Int32) (wf : Nat → Nat → Int32) (kd : Nat → Nat) (p : Int32) (pi o : Nat) : Nat → Int32
  | 0 => pu pi
  | i + 1 => if wf i 0 = p ∧ comesX su fa (kd i) (wf i 2) o = true then behX su fa pu wf kd p pi o i + (wf i 3 + wf i 4) else behX su fa pu wf kd p pi o i
def goX (N : Nat) (wf : Nat → Nat → Int32) (i : Nat) : Int32 := wf i 3 * (nI N - wf i 5) - wf i 4 * wf i 5
def wst (g : Nat → Int32) : Nat → Nat
  | 0 => 0
  | i + 1 => if g i < g (wst g i) then i else wst g i
theorem wst_le (g : Nat → Int32) : ∀ i, wst g i ≤ i
  | 0 => Nat.le_refl 0
  | i + 1 => by
    have h := wst_le g i
    simp only [wst]
    split <;> omega
theorem wst_1 (g : Nat → Int32) : wst g 1 = 0 := by simp only [wst]; exact ite_self 0
def drs (N : Nat) (wf : Nat → Nat → Int32) : Nat → Int32 × Int64 × Int64
  | 0 => (-1, 0, 1)
  | i + 1 => if (drs N wf i).1 < 0 ∨ (drs N wf i).2.1 * (wf i 3).toInt64 < (goX N wf i).toInt64 * (drs N wf i).2.2 then (nI i, (goX N wf i).toInt64, (wf i 3).toInt64) else drs N wf i
def mnX (g : Nat → Int32) : Nat → Int32
  | 0 => g 0
  | i + 1 => if g (i + 1) < mnX g i then g (i + 1) else mnX g i
end
section
/-! the class: what it reads; rows by program -/
set_option maxHeartbeats 4000000 in
set_option maxRecDepth 100000 in
theorem c_isDie (l : Launch) (D : va_G) (cs : Nat → ClassId) (H : Heap) (f : Int32) : Rd l D (Ty cs) 1 yX2_isDie cX2_isDie 1 (some .boolean) H [.int f] (some (.int (b2i (dieX f)))) := by
  refine rd_ent (by decide) (Nat.le_of_ble_eq_true rfl) ?_
  intro p e s m below meth c ls hx hb hr hml hown hts hlocks hl hH hK
  have hl : lv_has ls 1 [(0, .int f)] := hl
  refine lv_iload_n hx hb dX2_isDie_0 rfl (lv_at hl 0 rfl) ?_
  refine lv_iconst (v := 2) hx hb dX2_isDie_1 (by first | decide | rfl) ?_
  refine lv_icmp_lt (tgt := 15) hx hb dX2_isDie_2 (by decide) (fun c_1 => ?_) (fun c_1 => ?_)
  · refine lv_iconst (v := 0) hx hb dX2_isDie_15 (by first | decide | rfl) ?_
    exact rd_zret hH hx hb hr hlocks (rb0 (show dieX f = false from by simp only [dieX]; rw [decide_eq_false_iff_not]; have gc_1 := c_1; try simp only [fa_lt, fa_le, fa_eq, il0, il1, il2, il3, il4, il5, il6, il7, il9, il10, il12, il20, il36, il100, il999, il1728] at gc_1; simp only [fa_lt, fa_le, fa_eq, il0, il1, il2, il3, il4, il5, il6, il7, il9, il10, il12, il20, il36, il100, il999, il1728]; omega)) (by decide) dX2_isDie_16
  · refine lv_iload_n hx hb dX2_isDie_5 rfl (lv_at hl 0 rfl) ?_
    refine lv_bipush (v := 12) hx hb dX2_isDie_6 (by first | decide | rfl) ?_
    refine lv_icmp_gt (tgt := 15) hx hb dX2_isDie_8 (by decide) (fun c_2 => ?_) (fun c_2 => ?_)
    · refine lv_iconst (v := 0) hx hb dX2_isDie_15 (by first | decide | rfl) ?_
      exact rd_zret hH hx hb hr hlocks (rb0 (show dieX f = false from by simp only [dieX]; rw [decide_eq_false_iff_not]; have gc_1 := c_1; have gc_2 := c_2; try simp only [fa_lt, fa_le, fa_eq, il0, il1, il2, il3, il4, il5, il6, il7, il9, il10, il12, il20, il36, il100, il999, il1728] at gc_1; try simp only [fa_lt, fa_le, fa_eq, il0, il1, il2, il3, il4, il5, il6, il7, il9, il10, il12, il20, il36, il100, il999, il1728] at gc_2; simp only [fa_lt, fa_le, fa_eq, il0, il1, il2, il3, il4, il5, il6, il7, il9, il10, il12, il20, il36, il100, il999, il1728]; omega)) (by decide) dX2_isDie_16
    · refine lv_iconst (v := 1) hx hb dX2_isDie_11 (by first | decide | rfl) ?_
      refine lv_goto (tgt := 16) hx hb dX2_isDie_12 (by decide) ?_
      exact rd_zret hH hx hb hr hlocks (rb1 (show dieX f = true from by simp only [dieX]; rw [decide_eq_true_iff]; have gc_1 := c_1; have gc_2 := c_2; try simp only [fa_lt, fa_le, fa_eq, il0, il1, il2, il3, il4, il5, il6, il7, il9, il10, il12, il20, il36, il100, il999, il1728] at gc_1; try simp only [fa_lt, fa_le, fa_eq, il0, il1, il2, il3, il4, il5, il6, il7, il9, il10, il12, il20, il36, il100, il999, il1728] at gc_2; simp only [fa_lt, fa_le, fa_eq, il0, il1, il2, il3, il4, il5, il6, il7, il9, il10, il12, il20, il36, il100, il999, il1728]; omega)) (by decide) dX2_isDie_16
set_option maxHeartbeats 4000000 in
set_option maxRecDepth 100000 in
theorem c_isDieOrNone (l : Launch) (D : va_G) (cs : Nat → ClassId) (H : Heap) (f : Int32) : Rd l D (Ty cs) 2 yX2_isDieOrNone cX2_isDieOrNone 1 (some .boolean) H [.int f] (some (.int (b2i (dieNX f)))) := by
  refine rd_ent (by decide) (Nat.le_of_ble_eq_true rfl) ?_
  intro p e s m below meth c ls hx hb hr hml hown hts hlocks hl hH hK
  have hl : lv_has ls 1 [(0, .int f)] := hl
  refine lv_iload_n hx hb dX2_isDieOrNone_0 rfl (lv_at hl 0 rfl) ?_
  refine lv_if_eq (tgt := 11) hx hb dX2_isDieOrNone_1 (by decide) (fun c_1 => ?_) (fun c_1 => ?_)
  · refine lv_iconst (v := 1) hx hb dX2_isDieOrNone_11 (by first | decide | rfl) ?_
    refine lv_goto (tgt := 16) hx hb dX2_isDieOrNone_12 (by decide) ?_
    exact rd_zret hH hx hb hr hlocks (rb1 (by simp [dieNX, c_1])) (by decide) dX2_isDieOrNone_16
  · refine lv_iload_n hx hb dX2_isDieOrNone_4 rfl (lv_at hl 0 rfl) ?_
    refine rdS (As := [.int f]) (rest := []) ⟨hx, hb, hml, hown, hts⟩ hK 1 (c_isDie l D cs H f) (gin_s mw_4_23 mw_5_0 mw_1_2 mw_5_1) (by decide +kernel) ⟨Nat.le_of_ble_eq_true rfl, Nat.le_of_ble_eq_true rfl⟩ rfl hl.1 rfl (Nat.le_of_ble_eq_true rfl) dX2_isDieOrNone_5 ⟨(Nat.zero_le _), (Nat.zero_le _)⟩ ?_
    refine W.eq (g2 := F0 m 8 ls [.int (b2i (dieX f))]) rfl ?_
    refine lv_if_eq (tgt := 15) hx hb dX2_isDieOrNone_8 (by decide) (fun c_2 => ?_) (fun c_2 => ?_)
    · refine lv_iconst (v := 0) hx hb dX2_isDieOrNone_15 (by first | decide | rfl) ?_
      exact rd_zret hH hx hb hr hlocks (rb0 (by simp [dieNX, c_1, (b2i_eq0 _).mp c_2])) (by decide) dX2_isDieOrNone_16
    · refine lv_iconst (v := 1) hx hb dX2_isDieOrNone_11 (by first | decide | rfl) ?_
      refine lv_goto (tgt := 16) hx hb dX2_isDieOrNone_12 (by decide) ?_
      exact rd_zret hH hx hb hr hlocks (rb1 (by simp [dieNX, (b2i_ne0 _).mp c_2])) (by decide) dX2_isDieOrNone_16
set_option maxHeartbeats 4000000 in
set_option maxRecDepth 100000 in
theorem c_broughtBy (l : Launch) (D : va_G) (cs : Nat → ClassId) (H : Heap) (sk wn bs : Int32) : Rd l D (Ty cs) 1 yX2_broughtBy cX2_broughtBy 3 (some .int) H [.int sk, .int wn, .int bs] (some (.int (brX sk wn bs))) := by
  refine rd_ent (by decide) (Nat.le_of_ble_eq_true rfl) ?_
  intro p e s m below meth c ls hx hb hr hml hown hts hlocks hl hH hK
  have hl : lv_has ls 3 [(0, .int sk), (1, .int wn), (2, .int bs)] := hl
  refine lv_iload_n hx hb dX2_broughtBy_0 rfl (lv_at hl 2 rfl) ?_
  refine lv_iconst (v := 1) hx hb dX2_broughtBy_1 (by first | decide | rfl) ?_
  refine lv_icmp_ge (tgt := 9) hx hb dX2_broughtBy_2 (by decide) (fun c_1 => ?_) (fun c_1 => ?_)
  · refine lv_iload_n hx hb dX2_broughtBy_9 rfl (lv_at hl 0 rfl) ?_
    refine lv_iload_n hx hb dX2_broughtBy_10 rfl (lv_at hl 1 rfl) ?_
    refine lv_imul hx hb dX2_broughtBy_11 ?_
    refine lv_iload_n hx hb dX2_broughtBy_12 rfl (lv_at hl 2 rfl) ?_
    refine lv_idiv hx hb dX2_broughtBy_13 (by have g := c_1; intro z; rw [z] at g; exact absurd g (by decide)) ?_
    exact rd_iret hH hx hb hr hlocks (rv (by have gc_1 := c_1; try simp only [fa_lt, fa_le, fa_eq, il0, il1, il2, il3, il4, il5, il6, il7, il9, il10, il12, il20, il36, il100, il999, il1728] at gc_1; unfold brX; first | rfl | (rw [if_pos (by simp only [fa_lt, fa_le, fa_eq, il0, il1, il2, il3, il4, il5, il6, il7, il9, il10, il12, il20, il36, il100, il999, il1728]; omega)]; done) | (rw [if_neg (by simp only [fa_lt, fa_le, fa_eq, il0, il1, il2, il3, il4, il5, il6, il7, il9, il10, il12, il20, il36, il100, il999, il1728]; omega)]; done))) dX2_broughtBy_14
  · refine lv_iconst (v := 0) hx hb dX2_broughtBy_5 (by first | decide | rfl) ?_
    refine lv_goto (tgt := 14) hx hb dX2_broughtBy_6 (by decide) ?_
    exact rd_iret hH hx hb hr hlocks (rv (by have gc_1 := c_1; try simp only [fa_lt, fa_le, fa_eq, il0, il1, il2, il3, il4, il5, il6, il7, il9, il10, il12, il20, il36, il100, il999, il1728] at gc_1; unfold brX; first | rfl | (rw [if_pos (by simp only [fa_lt, fa_le, fa_eq, il0, il1, il2, il3, il4, il5, il6, il7, il9, il10, il12, il20, il36, il100, il999, il1728]; omega)]; done) | (rw [if_neg (by simp only [fa_lt, fa_le, fa_eq, il0, il1, il2, il3, il4, il5, il6, il7, il9, il10, il12, il20, il36, il100, il999, il1728]; omega)]; done))) dX2_broughtBy_14
set_option maxHeartbeats 4000000 in
set_option maxRecDepth 100000 in
theorem c_digested (l : Launch) (D : va_G) (cs : Nat → ClassId) (H : Heap) (x y : Int64) : Rd l D (Ty cs) 1 yX2_digested cX2_digested 4 (some .long) H [.long x, .long y] (some (.long (x * 31 + y))) := by
  refine rd_ent (by decide) (Nat.le_of_ble_eq_true rfl) ?_
  intro p e s m below meth c ls hx hb hr hml hown hts hlocks hl hH hK
  have hl : lv_has ls 4 [(0, .long x), (2, .long y)] := hl
  refine lv_lload_n hx hb dX2_digested_0 rfl (lv_at hl 0 rfl) ?_
  refine lv_ldc2 hx hb hown (hts (Cond.constantLong RX2 230 (31)) mw_30_16) dX2_digested_1 ?_
  refine lv_lmul hx hb dX2_digested_4 ?_
  refine lv_lload_n hx hb dX2_digested_5 rfl (lv_at hl 1 rfl) ?_
  refine lv_ladd hx hb dX2_digested_6 ?_
  exact rd_lret hH hx hb hr hlocks (rfl) dX2_digested_7
set_option maxHeartbeats 4000000 in
set_option maxRecDepth 100000 in
theorem c_commonDivisor (l : Launch) (D : va_G) (cs : Nat → ClassId) (H : Heap) (t b : Int32) : Rd l D (Ty cs) 1 yX2_commonDivisor cX2_commonDivisor 6 (some .int) H [.int t, .int b] (some (.int (cdX t b))) := by
  refine rd_ent (by decide) (Nat.le_of_ble_eq_true rfl) ?_
  intro p e s m below meth c ls hx hb hr hml hown hts hlocks hl hH hK
  have hl : lv_has ls 6 [(0, .int t), (1, .int b)] := hl
  refine lv_iload_n hx hb dX2_commonDivisor_0 rfl (lv_at hl 0 rfl) ?_
  refine va_mabs hx hb (hml.trans hl.1.symm) hown (hts (Cond.methodLink RX2 248 Lib.Math.abs.name) mw_22_20) (hts (Cond.static Lib.Math.abs.name) mw_22_21) (hts (Cond.initialized "java/lang/Math") mw_2_15) (hts (Cond.code Lib.Math.abs.name Lib.Math.abs.code 1 (some .int)) mw_22_22) (Nat.le_of_ble_eq_true rfl) (Nat.le_of_ble_eq_true rfl) (Nat.zero_le _) (Nat.zero_le _) dX2_commonDivisor_1 ?_
  refine lv_rwi (y := absI t) (rfl) ?_
  refine lv_istore_n (lv' := [(2, .int (absI t)), (0, .int t), (1, .int b)]) hx hb dX2_commonDivisor_4 rfl hl (by decide) rfl (fun ls hl => ?_)
  refine lv_iload_n hx hb dX2_commonDivisor_5 rfl (lv_at hl 2 rfl) ?_
  refine lv_istore_n (lv' := [(3, .int b), (2, .int (absI t)), (0, .int t), (1, .int b)]) hx hb dX2_commonDivisor_6 rfl hl (by decide) rfl (fun ls hl => ?_)
  refine lv_iconst (v := nI 0) hx hb dX2_commonDivisor_7 (by first | decide | rfl) ?_
  refine lv_istore (lv' := [(4, .int (nI 0)), (3, .int b), (2, .int (absI t)), (0, .int t), (1, .int b)]) hx hb dX2_commonDivisor_8 hl (by decide) rfl (fun ls hl => ?_)
  have loop10 : ∀ (n9 : Nat) (i : Nat) (a9 b9 : Int32) (ls : Array Slot), i ≤ 64 → 65 ≤ i + n9 → euI (64 - i) a9 b9 = euI 64 (absI t) b → lv_has ls 6 [(0, .int t), (1, .int b), (2, .int a9), (3, .int b9), (4, .int (nI i))] → RdW p l e 1 s m [.int t, .int b] below meth c H (some (.int (cdX t b))) (F0 m 10 ls []) := by
    intro n9
    induction n9 with
    | zero => intro i  a9 b9  ls hi hf hE hl; exact absurd hf (by omega)
    | succ n9 ih10 =>
      intro i  a9 b9  ls hi hf hE hl
      refine lv_iload_n hx hb dX2_commonDivisor_10 rfl (lv_at hl 3 rfl) ?_
      refine lv_if_eq (tgt := 37) hx hb dX2_commonDivisor_11 (by decide) (fun c_1 => ?_) (fun c_1 => ?_)
      · have hE2 : euI 64 (absI t) b = a9 := by rw [← hE, c_1, euI_0]
        refine lv_iload_n hx hb dX2_commonDivisor_37 rfl (lv_at hl 2 rfl) ?_
        refine lv_iconst (v := 1) hx hb dX2_commonDivisor_38 (by first | decide | rfl) ?_
        refine va_mmax hx hb (hml.trans hl.1.symm) hown (hts (Cond.methodLink RX2 251 Lib.Math.max.name) mw_22_23) (hts (Cond.static Lib.Math.max.name) mw_5_18) (hts (Cond.initialized "java/lang/Math") mw_2_15) (hts (Cond.code Lib.Math.max.name Lib.Math.max.code 2 (some .int)) mw_5_19) (Nat.le_of_ble_eq_true rfl) (Nat.le_of_ble_eq_true rfl) (Nat.zero_le _) (Nat.zero_le _) dX2_commonDivisor_39 ?_
        exact rd_iret hH hx hb hr hlocks (rv (by unfold cdX; rw [hE2])) dX2_commonDivisor_42
      · refine lv_iload hx hb dX2_commonDivisor_14 (lv_at hl 4 rfl) ?_
        refine lv_bipush (v := nI 64) hx hb dX2_commonDivisor_16 (by first | decide | rfl) ?_
        refine lv_icmp_ge (tgt := 37) hx hb dX2_commonDivisor_18 (by decide) (fun c_2 => ?_) (fun c_2 => ?_)
        · have hE2 : euI 64 (absI t) b = a9 := by
            have g := (nI_leI (a := 64) (by omega) (by omega)).mp c_2
            rw [← hE, show i = 64 by omega]; rfl
          refine lv_iload_n hx hb dX2_commonDivisor_37 rfl (lv_at hl 2 rfl) ?_
          refine lv_iconst (v := 1) hx hb dX2_commonDivisor_38 (by first | decide | rfl) ?_
          refine va_mmax hx hb (hml.trans hl.1.symm) hown (hts (Cond.methodLink RX2 251 Lib.Math.max.name) mw_22_23) (hts (Cond.static Lib.Math.max.name) mw_5_18) (hts (Cond.initialized "java/lang/Math") mw_2_15) (hts (Cond.code Lib.Math.max.name Lib.Math.max.code 2 (some .int)) mw_5_19) (Nat.le_of_ble_eq_true rfl) (Nat.le_of_ble_eq_true rfl) (Nat.zero_le _) (Nat.zero_le _) dX2_commonDivisor_39 ?_
          exact rd_iret hH hx hb hr hlocks (rv (by unfold cdX; rw [hE2])) dX2_commonDivisor_42
        · have hlt : i < 64 := by
            rcases Nat.lt_or_ge i 64 with q | q
            · exact q
            · exact absurd (nI_le q (by omega)) c_2
          refine lv_iload_n hx hb dX2_commonDivisor_21 rfl (lv_at hl 2 rfl) ?_
          refine lv_iload_n hx hb dX2_commonDivisor_22 rfl (lv_at hl 3 rfl) ?_
          refine lv_irem hx hb dX2_commonDivisor_23 (c_1) ?_
          refine lv_istore (lv' := [(5, .int (a9 - a9 / b9 * b9)), (0, .int t), (1, .int b), (2, .int a9), (3, .int b9), (4, .int (nI i))]) hx hb dX2_commonDivisor_24 hl (by decide) rfl (fun ls hl => ?_)
          refine lv_iload_n hx hb dX2_commonDivisor_26 rfl (lv_at hl 4 rfl) ?_
          refine lv_istore_n (lv' := [(2, .int b9), (5, .int (a9 - a9 / b9 * b9)), (0, .int t), (1, .int b), (3, .int b9), (4, .int (nI i))]) hx hb dX2_commonDivisor_27 rfl hl (by decide) rfl (fun ls hl => ?_)
          refine lv_iload hx hb dX2_commonDivisor_28 (lv_at hl 1 rfl) ?_
          refine lv_istore_n (lv' := [(3, .int (a9 - a9 / b9 * b9)), (2, .int b9), (5, .int (a9 - a9 / b9 * b9)), (0, .int t), (1, .int b), (4, .int (nI i))]) hx hb dX2_commonDivisor_30 rfl hl (by decide) rfl (fun ls hl => ?_)
          refine lv_iinc (v := nI (i + 1)) (lv' := [(4, .int (nI (i + 1))), (3, .int (a9 - a9 / b9 * b9)), (2, .int b9), (5, .int (a9 - a9 / b9 * b9)), (0, .int t), (1, .int b)]) hx hb dX2_commonDivisor_31 hl (k := 5) rfl (nI_1 i) (by decide) rfl (fun ls hl => ?_)
          refine lv_goto (tgt := 10) hx hb dX2_commonDivisor_34 (by decide) ?_
          exact ih10 (i + 1) b9 (a9 - a9 / b9 * b9) ls (by omega) (by omega) (by rw [← euI_s hlt c_1]; exact hE) (lv_sub hl [4, 5, 2, 1, 0] rfl)
  exact loop10 65 0 (absI t) b ls (Nat.zero_le _) (by omega) rfl (lv_sub hl [3, 4, 2, 1, 0] rfl)
set_option maxHeartbeats 4000000 in
set_option maxRecDepth 100000 in
theorem c_size (l : Launch) (D : va_G) (cs : Nat → ClassId) (H : Heap) {aL aE : Nat} {mcn : Int32} {n : Nat} (hP : va_P D vwCl [(aL, .inr (0, [.int mcn, .ref aE, .int (nI n)]))] H) : Rd l D (Ty cs) 1 yJx4a65c_size_8abf5 cJx4a65c_size_8abf5 1 (some .int) H [.ref aL] (some (.int (nI n))) := by
  refine rd_ent (by decide) (Nat.le_of_ble_eq_true rfl) ?_
  intro p e s m below meth c ls hx hb hr hml hown hts hlocks hl hH hK
  have hl : lv_has ls 1 [(0, .ref aL)] := hl
  refine lv_aload_n hx hb dJx4a65c_size_8abf5_0 rfl (lv_at hl 0 rfl) ?_
  refine va_get (D := D) (ci := 0) (v := .int (nI n)) (C := RJx4a65c) (T := TJx4a65c) (N := 3) hx hb hts inlJx4a65c hown hK hP 0 rfl rfl 2 (by decide) (hts (Cond.fieldLink RJx4a65c 48 "java/util/ArrayList" "size" "I") mw_5_9) (fun _ h9 => h9) rfl dJx4a65c_size_8abf5_1 ?_
  exact rd_iret hH hx hb hr hlocks (rfl) dJx4a65c_size_8abf5_4
set_option maxHeartbeats 4000000 in
set_option maxRecDepth 100000 in
theorem c_isEmpty (l : Launch) (D : va_G) (cs : Nat → ClassId) (H : Heap) {aL aE : Nat} {mcn : Int32} {n : Nat} (hn : n < 2 ^ 31) (hP : va_P D vwCl [(aL, .inr (0, [.int mcn, .ref aE, .int (nI n)]))] H) : Rd l D (Ty cs) 1 yJx4a65c_isEmpty_aae02 cJx4a65c_isEmpty_aae02 1 (some .boolean) H [.ref aL] (some (.int (b2i (decide (n = 0))))) := by
  refine rd_ent (by decide) (Nat.le_of_ble_eq_true rfl) ?_
  intro p e s m below meth c ls hx hb hr hml hown hts hlocks hl hH hK
  have hl : lv_has ls 1 [(0, .ref aL)] := hl
  refine lv_aload_n hx hb dJx4a65c_isEmpty_aae02_0 rfl (lv_at hl 0 rfl) ?_
  refine va_get (D := D) (ci := 0) (v := .int (nI n)) (C := RJx4a65c) (T := TJx4a65c) (N := 3) hx hb hts inlJx4a65c hown hK hP 0 rfl rfl 2 (by decide) (hts (Cond.fieldLink RJx4a65c 48 "java/util/ArrayList" "size" "I") mw_5_9) (fun _ h9 => h9) rfl dJx4a65c_isEmpty_aae02_1 ?_
  refine lv_if_ne (tgt := 11) hx hb dJx4a65c_isEmpty_aae02_4 (by decide) (fun c_1 => ?_) (fun c_1 => ?_)
  · refine lv_iconst (v := 0) hx hb dJx4a65c_isEmpty_aae02_11 (by first | decide | rfl) ?_
    exact rd_zret hH hx hb hr hlocks (rb0 (decide_eq_false (fun z => c_1 ((nI_eq (b := 0) hn (by omega)).mpr z)))) (by decide) dJx4a65c_isEmpty_aae02_12
  · refine lv_iconst (v := 1) hx hb dJx4a65c_isEmpty_aae02_7 (by first | decide | rfl) ?_
    refine lv_goto (tgt := 12) hx hb dJx4a65c_isEmpty_aae02_8 (by decide) ?_
    exact rd_zret hH hx hb hr hlocks (rb1 (decide_eq_true ((nI_eq (b := 0) hn (by omega)).mp c_1))) (by decide) dJx4a65c_isEmpty_aae02_12
set_option maxHeartbeats 4000000 in
set_option maxRecDepth 100000 in
theorem c_pcheckIndex (l : Launch) (D : va_G) (cs : Nat → ClassId) (H : Heap) (i n : Nat) (hi : i < n) (hn : n < 2 ^ 31) : Rd l D (Ty cs) 1 yJ3_checkIndex_8e157 cJ3_checkIndex_8e157 3 (some .int) H [.int (nI i), .int (nI n), .null] (some (.int (nI i))) := by
  refine rd_ent (by decide) (Nat.le_of_ble_eq_true rfl) ?_
  intro p e s m below meth c ls hx hb hr hml hown hts hlocks hl hH hK
  have hl : lv_has ls 3 [(0, .int (nI i)), (1, .int (nI n)), (2, .null)] := hl
  refine lv_iload_n hx hb dJ3_checkIndex_8e157_0 rfl (lv_at hl 0 rfl) ?_
  refine lv_if_lt (tgt := 9) hx hb dJ3_checkIndex_8e157_1 (by decide) (fun c_1 => False.elim (absurd c_1 (nI_pos (by omega)))) (fun c_1 => ?_)
  refine lv_iload_n hx hb dJ3_checkIndex_8e157_4 rfl (lv_at hl 0 rfl) ?_
  refine lv_iload_n hx hb dJ3_checkIndex_8e157_5 rfl (lv_at hl 1 rfl) ?_
  refine lv_icmp_lt (tgt := 16) hx hb dJ3_checkIndex_8e157_6 (by decide) (fun c_2 => ?_) (fun c_2 => False.elim (absurd (nI_lt hi hn) c_2))
  refine lv_iload_n hx hb dJ3_checkIndex_8e157_16 rfl (lv_at hl 0 rfl) ?_
  exact rd_iret hH hx hb hr hlocks (rfl) dJ3_checkIndex_8e157_17
set_option maxHeartbeats 4000000 in
set_option maxRecDepth 100000 in
theorem c_checkIndex (l : Launch) (D : va_G) (cs : Nat → ClassId) (H : Heap) (i n : Nat) (hi : i < n) (hn : n < 2 ^ 31) : Rd l D (Ty cs) 2 yJ15_checkIndex_7cf53 cJ15_checkIndex_7cf53 2 (some .int) H [.int (nI i), .int (nI n)] (some (.int (nI i))) := by
  refine rd_ent (by decide) (Nat.le_of_ble_eq_true rfl) ?_
  intro p e s m below meth c ls hx hb hr hml hown hts hlocks hl hH hK
  have hl : lv_has ls 2 [(0, .int (nI i)), (1, .int (nI n))] := hl
  refine lv_iload_n hx hb dJ15_checkIndex_7cf53_0 rfl (lv_at hl 0 rfl) ?_
  refine lv_iload_n hx hb dJ15_checkIndex_7cf53_1 rfl (lv_at hl 1 rfl) ?_
  refine lv_null hx hb dJ15_checkIndex_7cf53_2 ?_
  refine rdS (As := [.int (nI i), .int (nI n), .null]) (rest := []) ⟨hx, hb, hml, hown, hts⟩ hK 3 (c_pcheckIndex l D cs H i n hi hn) (gin_s mw_15_22 mw_15_23 mw_16_0 mw_16_1) (by decide +kernel) ⟨Nat.le_of_ble_eq_true rfl, Nat.le_of_ble_eq_true rfl⟩ rfl hl.1 rfl (Nat.le_of_ble_eq_true rfl) dJ15_checkIndex_7cf53_3 ⟨(Nat.zero_le _), (Nat.zero_le _)⟩ ?_
  refine W.eq (g2 := F0 m 6 ls [.int (nI i)]) rfl ?_
  exact rd_iret hH hx hb hr hlocks (rfl) dJ15_checkIndex_7cf53_6
set_option maxHeartbeats 4000000 in
set_option maxRecDepth 100000 in
theorem c_elementData (l : Launch) (D : va_G) (cs : Nat → ClassId) (H : Heap) {aL aE : Nat} {mcn : Int32} {n : Nat} (hP : va_P D vwCl [(aL, .inr (0, [.int mcn, .ref aE, .int (nI n)]))] H) {cap : Nat} {rf : Nat → Option Nat} (hE : va_P D vwCl [(aE, .inl (cs 2, cap, .inr (.inr (.inr (.inr rf)))))] H) (i : Nat) (hi : i < cap) (hcap : cap < 2 ^ 31) {b : Nat} (hb9 : rf i = some b) : Rd l D (Ty cs) 1 yJx4a65c_elementData_915e3 cJx4a65c_elementData_915e3 2 (some (.object "java/lang/Object")) H [.ref aL, .int (nI i)] (some (.ref b)) := by
  refine rd_ent (by decide) (Nat.le_of_ble_eq_true rfl) ?_
  intro p e s m below meth c ls hx hb hr hml hown hts hlocks hl hH hK
  have hl : lv_has ls 2 [(0, .ref aL), (1, .int (nI i))] := hl
  refine lv_aload_n hx hb dJx4a65c_elementData_915e3_0 rfl (lv_at hl 0 rfl) ?_
  refine va_get (D := D) (ci := 0) (v := .ref aE) (C := RJx4a65c) (T := TJx4a65c) (N := 3) hx hb hts inlJx4a65c hown hK hP 0 rfl rfl 1 (by decide) (hts (Cond.fieldLink RJx4a65c 9 "java/util/ArrayList" "elementData" "[Ljava/lang/Object;") mw_3_4) (fun _ h9 => h9) rfl dJx4a65c_elementData_915e3_1 ?_
  refine lv_iload_n hx hb dJx4a65c_elementData_915e3_4 rfl (lv_at hl 1 rfl) ?_
  refine va_aldq hx hb hK hE 0 2 rfl rfl (vp_in_nI hi hcap) dJx4a65c_elementData_915e3_5 ?_
  refine lv_rwv (y := .ref b) (by rw [nI_clamp (by omega), hb9]; rfl) ?_
  exact rd_aret hH hx hb hr hlocks (Or.inl ⟨_, rfl⟩) (Or.inr ⟨_, rfl⟩) (rfl) dJx4a65c_elementData_915e3_6
set_option maxHeartbeats 4000000 in
set_option maxRecDepth 100000 in
theorem c_get (l : Launch) (D : va_G) (cs : Nat → ClassId) (H : Heap) {aL aE : Nat} {mcn : Int32} {n : Nat} (hP : va_P D vwCl [(aL, .inr (0, [.int mcn, .ref aE, .int (nI n)]))] H) {cap : Nat} {rf : Nat → Option Nat} (hE : va_P D vwCl [(aE, .inl (cs 2, cap, .inr (.inr (.inr (.inr rf)))))] H) (i : Nat) (hi : i < n) (hi2 : i < cap) (hcap : cap < 2 ^ 31) (hn9 : n < 2 ^ 31) {b : Nat} (hb9 : rf i = some b) : Rd l D (Ty cs) 3 yJx4a65c_get_915e3 cJx4a65c_get_915e3 2 (some (.object "java/lang/Object")) H [.ref aL, .int (nI i)] (some (.ref b)) := by
  refine rd_ent (by decide) (Nat.le_of_ble_eq_true rfl) ?_
  intro p e s m below meth c ls hx hb hr hml hown hts hlocks hl hH hK
  have hl : lv_has ls 2 [(0, .ref aL), (1, .int (nI i))] := hl
  refine lv_iload_n hx hb dJx4a65c_get_915e3_0 rfl (lv_at hl 1 rfl) ?_
  refine lv_aload_n hx hb dJx4a65c_get_915e3_1 rfl (lv_at hl 0 rfl) ?_
  refine va_get (D := D) (ci := 0) (v := .int (nI n)) (C := RJx4a65c) (T := TJx4a65c) (N := 3) hx hb hts inlJx4a65c hown hK hP 0 rfl rfl 2 (by decide) (hts (Cond.fieldLink RJx4a65c 48 "java/util/ArrayList" "size" "I") mw_5_9) (fun _ h9 => h9) rfl dJx4a65c_get_915e3_2 ?_
  refine rdS (As := [.int (nI i), .int (nI n)]) (rest := []) ⟨hx, hb, hml, hown, hts⟩ hK 2 (c_checkIndex l D cs H i n hi hn9) (gin_s mw_15_18 mw_15_19 mw_15_20 mw_15_21) (by decide +kernel) ⟨Nat.le_of_ble_eq_true rfl, Nat.le_of_ble_eq_true rfl⟩ rfl hl.1 rfl (Nat.le_of_ble_eq_true rfl) dJx4a65c_get_915e3_5 ⟨(Nat.zero_le _), (Nat.zero_le _)⟩ ?_
  refine W.eq (g2 := F0 m 8 ls [.int (nI i)]) rfl ?_
  refine lv_pop hx hb dJx4a65c_get_915e3_8 rfl ?_
  refine lv_aload_n hx hb dJx4a65c_get_915e3_9 rfl (lv_at hl 0 rfl) ?_
  refine lv_iload_n hx hb dJx4a65c_get_915e3_10 rfl (lv_at hl 1 rfl) ?_
  refine rdV (As := [.int (nI i)]) (rest := []) (b := aL) ⟨hx, hb, hml, hown, hts⟩ hK 1 (c_elementData l D cs H hP hE i hi2 hcap hb9) (gin_v mw_17_11 mw_17_12 mw_17_13 mw_1_20 mw_17_14) (by decide +kernel) ⟨Nat.le_of_ble_eq_true rfl, Nat.le_of_ble_eq_true rfl⟩ (va_recv hK hP (ci := 0) (q0 := 0) rfl rfl) rfl hl.1 rfl (Nat.le_of_ble_eq_true rfl) dJx4a65c_get_915e3_11 ⟨(Nat.zero_le _), (Nat.zero_le _)⟩ ?_
  refine W.eq (g2 := F0 m 14 ls [.ref b]) rfl ?_
  exact rd_aret hH hx hb hr hlocks (Or.inl ⟨_, rfl⟩) (Or.inr ⟨_, rfl⟩) (rfl) dJx4a65c_get_915e3_14
set_option maxHeartbeats 4000000 in
set_option maxRecDepth 100000 in
theorem c_gainOverOutcomes (l : Launch) (D : va_G) (cs : Nat → ClassId) (H : Heap) {ad : Nat → Nat} {bank rnds cnt mcn : Int32} {N n cap : Nat} {su fa pu : Nat → Int32} {rf : Nat → Option Nat} {wa : Nat → Nat} {wf : Nat → Nat → Int32} {kd : Nat → Nat} (RR : RX D cs H ad bank rnds cnt mcn N n cap su fa pu rf wa wf kd) (i : Nat) (hlt : i < n) : Rd l D (Ty cs) 2 yX2_gainOverOutcomes cX2_gainOverOutcomes 2 (some .int) H [.ref (ad 0), .ref (wa i)] (some (.int (goX N wf i))) := by
  refine rd_ent (by decide) (Nat.le_of_ble_eq_true rfl) ?_
  intro p e s m below meth c ls hx hb hr hml hown hts hlocks hl hH hK
  have hl : lv_has ls 2 [(0, .ref (ad 0)), (1, .ref (wa i))] := hl
  have RR0 := RR
  obtain ⟨hP, hG, hN1, hN, hn, hcap⟩ := RR
  refine lv_aload_n hx hb dX2_gainOverOutcomes_0 rfl (lv_at hl 0 rfl) ?_
  refine va_get (D := D) (ci := 3) (v := .ref (ad 1)) (C := RX2) (T := TX2) (N := 5) hx hb hts inlX2 hown hK hP 0 rfl rfl 0 (by decide) (hts (Cond.fieldLink RX2 12 "TavernDice" "dice" "LTavernDice$Dice;") mw_1_17) (fun _ h9 => h9) rfl dX2_gainOverOutcomes_1 ?_
  refine lv_aload_n hx hb dX2_gainOverOutcomes_4 rfl (lv_at hl 1 rfl) ?_
  refine va_get (D := D) (ci := 2) (v := .int (wf i 3)) (C := RX1) (T := TX1) (N := 6) hx hb hts inlX1 hown hK (hG i hlt).1 0 rfl rfl 3 (by decide) (hts (Cond.fieldLink RX2 121 "TavernDice$Wager" "stake" "I") mw_15_9) (fun _ h9 => h9) rfl dX2_gainOverOutcomes_5 ?_
  refine lv_aload_n hx hb dX2_gainOverOutcomes_8 rfl (lv_at hl 1 rfl) ?_
  refine va_get (D := D) (ci := 2) (v := .int (wf i 4)) (C := RX1) (T := TX1) (N := 6) hx hb hts inlX1 hown hK (hG i hlt).1 0 rfl rfl 4 (by decide) (hts (Cond.fieldLink RX2 140 "TavernDice$Wager" "brings" "I") mw_17_6) (fun _ h9 => h9) rfl dX2_gainOverOutcomes_9 ?_
  refine lv_aload_n hx hb dX2_gainOverOutcomes_12 rfl (lv_at hl 1 rfl) ?_
  refine va_get (D := D) (ci := 2) (v := .int (wf i 5)) (C := RX1) (T := TX1) (N := 6) hx hb hts inlX1 hown hK (hG i hlt).1 0 rfl rfl 5 (by decide) (hts (Cond.fieldLink RX2 242 "TavernDice$Wager" "ways" "I") mw_22_8) (fun _ h9 => h9) rfl dX2_gainOverOutcomes_13 ?_
  refine rdV (As := [.int (wf i 3), .int (wf i 4), .int (wf i 5)]) (rest := []) (b := ad 1) ⟨hx, hb, hml, hown, hts⟩ hK 3 (c_gainOver l D cs H (hP.sub [1, 2, 3] rfl) (wf i 3) (wf i 4) (wf i 5)) (gin_v mw_22_9 mw_22_10 mw_22_11 mw_1_16 mw_22_12) (by decide +kernel) ⟨Nat.le_of_ble_eq_true rfl, Nat.le_of_ble_eq_true rfl⟩ (va_recv hK hP (ci := 1) (q0 := 1) rfl rfl) rfl hl.1 rfl (Nat.le_of_ble_eq_true rfl) dX2_gainOverOutcomes_16 ⟨(Nat.zero_le _), (Nat.zero_le _)⟩ ?_
  refine W.eq (g2 := F0 m 19 ls [.int ((wf i 3) * (nI N - (wf i 5)) - (wf i 4) * (wf i 5))]) rfl ?_
  exact rd_iret hH hx hb hr hlocks (rfl) dX2_gainOverOutcomes_19
set_option maxHeartbeats 4000000 in
set_option maxRecDepth 100000 in
theorem c_gainOfAll (l : Launch) (D : va_G) (cs : Nat → ClassId) (H : Heap) {ad : Nat → Nat} {bank rnds cnt mcn : Int32} {N n cap : Nat} {su fa pu : Nat → Int32} {rf : Nat → Option Nat} {wa : Nat → Nat} {wf : Nat → Nat → Int32} {kd : Nat → Nat} (RR : RX D cs H ad bank rnds cnt mcn N n cap su fa pu rf wa wf kd) (o : Nat) (ho : o < 1728) : Rd l D (Ty cs) 4 yX2_gainOfAll cX2_gainOfAll 5 (some .int) H [.ref (ad 0), .int (nI o)] (some (.int (sm (gnX su fa wf kd o) n))) := by
  refine rd_ent (by decide) (Nat.le_of_ble_eq_true rfl) ?_
  intro p e s m below meth c ls hx hb hr hml hown hts hlocks hl hH hK
  have hl : lv_has ls 5 [(0, .ref (ad 0)), (1, .int (nI o))] := hl
  have RR0 := RR
  obtain ⟨hP, hG, hN1, hN, hn, hcap⟩ := RR
  refine lv_iconst (v := sm (gnX su fa wf kd o) 0) hx hb dX2_gainOfAll_0 (by first | decide | rfl) ?_
  refine lv_istore_n (lv' := [(2, .int (sm (gnX su fa wf kd o) 0)), (0, .ref (ad 0)), (1, .int (nI o))]) hx hb dX2_gainOfAll_1 rfl hl (by decide) rfl (fun ls hl => ?_)
  refine lv_iconst (v := nI 0) hx hb dX2_gainOfAll_2 (by first | decide | rfl) ?_
  refine lv_istore_n (lv' := [(3, .int (nI 0)), (2, .int (sm (gnX su fa wf kd o) 0)), (0, .ref (ad 0)), (1, .int (nI o))]) hx hb dX2_gainOfAll_3 rfl hl (by decide) rfl (fun ls hl => ?_)
  have loop4 : ∀ (n9 : Nat) (i : Nat) (ls : Array Slot), i ≤ n → n + 1 ≤ i + n9 → lv_has ls 5 [(0, .ref (ad 0)), (1, .int (nI o)), (2, .int (sm (gnX su fa wf kd o) i)), (3, .int (nI i))] → RdW p l e 4 s m [.ref (ad 0), .int (nI o)] below meth c H (some (.int (sm (gnX su fa wf kd o) n))) (F0 m 4 ls []) := by
    intro n9
    induction n9 with
    | zero => intro i  ls hi hf hl; exact absurd hf (by omega)
    | succ n9 ih4 =>
      intro i  ls hi hf hl
      refine lv_iload_n hx hb dX2_gainOfAll_4 rfl (lv_at hl 3 rfl) ?_
      refine lv_aload_n hx hb dX2_gainOfAll_5 rfl (lv_at hl 0 rfl) ?_
      refine va_get (D := D) (ci := 3) (v := .ref (ad 2)) (C := RX2) (T := TX2) (N := 5) hx hb hts inlX2 hown hK hP 0 rfl rfl 1 (by decide) (hts (Cond.fieldLink RX2 19 "TavernDice" "wagers" "Ljava/util/ArrayList;") mw_1_21) (fun _ h9 => h9) rfl dX2_gainOfAll_6 ?_
      refine rdV (As := []) (rest := [.int (nI i)]) (b := ad 2) ⟨hx, hb, hml, hown, hts⟩ hK 0 (c_size l D cs H (hP.sub [4] rfl)) (gin_v mw_11_21 mw_11_22 mw_11_23 mw_1_20 mw_12_0) (by decide +kernel) ⟨Nat.le_of_ble_eq_true rfl, Nat.le_of_ble_eq_true rfl⟩ (va_recv hK hP (ci := 0) (q0 := 4) rfl rfl) rfl hl.1 rfl (Nat.le_of_ble_eq_true rfl) dX2_gainOfAll_9 ⟨(Nat.zero_le _), (Nat.zero_le _)⟩ ?_
      refine W.eq (g2 := F0 m 12 ls [.int (nI n), .int (nI i)]) rfl ?_
      refine lv_icmp_ge (tgt := 72) hx hb dX2_gainOfAll_12 (by decide) (fun c_1 => ?_) (fun c_1 => ?_)
      · refine lv_iload_n hx hb dX2_gainOfAll_72 rfl (lv_at hl 2 rfl) ?_
        exact rd_iret hH hx hb hr hlocks (rv (by rw [show i = n from (by have g := (nI_leI (by omega) (by omega)).mp c_1; omega)])) dX2_gainOfAll_73
      · have hlt : i < n := by
          rcases Nat.lt_or_ge i n with q | q
          · exact q
          · exact absurd (nI_le q (by omega)) c_1
        refine lv_aload_n hx hb dX2_gainOfAll_15 rfl (lv_at hl 0 rfl) ?_
        refine va_get (D := D) (ci := 3) (v := .ref (ad 2)) (C := RX2) (T := TX2) (N := 5) hx hb hts inlX2 hown hK hP 0 rfl rfl 1 (by decide) (hts (Cond.fieldLink RX2 19 "TavernDice" "wagers" "Ljava/util/ArrayList;") mw_1_21) (fun _ h9 => h9) rfl dX2_gainOfAll_16 ?_
        refine lv_iload_n hx hb dX2_gainOfAll_19 rfl (lv_at hl 3 rfl) ?_
        refine rdV (As := [.int (nI i)]) (rest := []) (b := ad 2) ⟨hx, hb, hml, hown, hts⟩ hK 1 (c_get l D cs H (hP.sub [4] rfl) (hG i hlt).2.1 i hlt (hG i hlt).2.2.2.2.2 (by omega) (by omega) (hG i hlt).2.2.1) (gin_v mw_17_7 mw_17_8 mw_17_9 mw_1_20 mw_17_10) (by decide +kernel) ⟨Nat.le_of_ble_eq_true rfl, Nat.le_of_ble_eq_true rfl⟩ (va_recv hK hP (ci := 0) (q0 := 4) rfl rfl) rfl hl.1 rfl (Nat.le_of_ble_eq_true rfl) dX2_gainOfAll_20 ⟨(Nat.zero_le _), (Nat.zero_le _)⟩ ?_
        refine W.eq (g2 := F0 m 23 ls [.ref (wa i)]) rfl ?_
        refine va_castSelf hx hb hown (hts (Cond.classLink RX2 98 "TavernDice$Wager") mw_15_7) (va_recv hK (hG i hlt).1 (ci := 2) (q0 := 0) rfl rfl) dX2_gainOfAll_23 ?_
        refine lv_astore (lv' := [(4, .ref (wa i)), (0, .ref (ad 0)), (1, .int (nI o)), (2, .int (sm (gnX su fa wf kd o) i)), (3, .int (nI i))]) hx hb dX2_gainOfAll_26 hl (by decide) rfl (fun ls hl => ?_)
        refine lv_iload_n hx hb dX2_gainOfAll_28 rfl (lv_at hl 3 rfl) ?_
        refine lv_aload_n hx hb dX2_gainOfAll_29 rfl (lv_at hl 1 rfl) ?_
        refine va_get (D := D) (ci := 3) (v := .ref (ad 1)) (C := RX2) (T := TX2) (N := 5) hx hb hts inlX2 hown hK hP 0 rfl rfl 0 (by decide) (hts (Cond.fieldLink RX2 12 "TavernDice" "dice" "LTavernDice$Dice;") mw_1_17) (fun _ h9 => h9) rfl dX2_gainOfAll_30 ?_
        refine lv_aload hx hb dX2_gainOfAll_33 (lv_at hl 0 rfl) ?_
        refine va_get (D := D) (ci := 2) (v := .int (wf i 1)) (C := RX1) (T := TX1) (N := 6) hx hb hts inlX1 hown hK (hG i hlt).1 0 rfl rfl 1 (by decide) (hts (Cond.fieldLink RX2 232 "TavernDice$Wager" "kind" "I") mw_17_4) (fun _ h9 => h9) rfl dX2_gainOfAll_35 ?_
        refine lv_rwi (y := nI (kd i)) ((hG i hlt).2.2.2.1) ?_
        refine lv_aload hx hb dX2_gainOfAll_38 (lv_at hl 0 rfl) ?_
        refine va_get (D := D) (ci := 2) (v := .int (wf i 2)) (C := RX1) (T := TX1) (N := 6) hx hb hts inlX1 hown hK (hG i hlt).1 0 rfl rfl 2 (by decide) (hts (Cond.fieldLink RX2 235 "TavernDice$Wager" "number" "I") mw_17_5) (fun _ h9 => h9) rfl dX2_gainOfAll_40 ?_
        refine lv_iload_n hx hb dX2_gainOfAll_43 rfl (lv_at hl 2 rfl) ?_
        refine rdV (As := [.int (nI (kd i)), .int (wf i 2), .int (nI o)]) (rest := [.int (sm (gnX su fa wf kd o) i)]) (b := ad 1) ⟨hx, hb, hml, hown, hts⟩ hK 3 (c_comes l D cs H (hP.sub [1, 2, 3] rfl) ((kd i)) ((hG i hlt).2.2.2.2.1) (wf i 2) o (by omega)) (gin_v mw_17_15 mw_9_5 mw_9_6 mw_1_16 mw_9_7) (by decide +kernel) ⟨Nat.le_of_ble_eq_true rfl, Nat.le_of_ble_eq_true rfl⟩ (va_recv hK hP (ci := 1) (q0 := 1) rfl rfl) rfl hl.1 rfl (Nat.le_of_ble_eq_true rfl) dX2_gainOfAll_44 ⟨(Nat.zero_le _), (Nat.zero_le _)⟩ ?_
        refine W.eq (g2 := F0 m 47 ls [.int (b2i (comesX su fa ((kd i)) (wf i 2) o)), .int (sm (gnX su fa wf kd o) i)]) rfl ?_
        refine lv_if_eq (tgt := 59) hx hb dX2_gainOfAll_47 (by decide) (fun c_2 => ?_) (fun c_2 => ?_)
        · refine lv_aload hx hb dX2_gainOfAll_59 (lv_at hl 0 rfl) ?_
          refine va_get (D := D) (ci := 2) (v := .int (wf i 3)) (C := RX1) (T := TX1) (N := 6) hx hb hts inlX1 hown hK (hG i hlt).1 0 rfl rfl 3 (by decide) (hts (Cond.fieldLink RX2 121 "TavernDice$Wager" "stake" "I") mw_15_9) (fun _ h9 => h9) rfl dX2_gainOfAll_61 ?_
          refine lv_iadd hx hb dX2_gainOfAll_64 ?_
          refine lv_rwi (y := sm (gnX su fa wf kd o) (i + 1)) (by show _ = sm _ i + gnX su fa wf kd o i; unfold gnX; rw [(b2i_eq0 _).mp c_2]; rfl) ?_
          refine lv_istore_n (lv' := [(2, .int (sm (gnX su fa wf kd o) (i + 1))), (4, .ref (wa i)), (0, .ref (ad 0)), (1, .int (nI o)), (3, .int (nI i))]) hx hb dX2_gainOfAll_65 rfl hl (by decide) rfl (fun ls hl => ?_)
          refine lv_iinc (v := nI (i + 1)) (lv' := [(3, .int (nI (i + 1))), (2, .int (sm (gnX su fa wf kd o) (i + 1))), (4, .ref (wa i)), (0, .ref (ad 0)), (1, .int (nI o))]) hx hb dX2_gainOfAll_66 hl (k := 4) rfl (nI_1 i) (by decide) rfl (fun ls hl => ?_)
          refine lv_goto (tgt := 4) hx hb dX2_gainOfAll_69 (by decide) ?_
          exact ih4 (i + 1) ls (by omega) (by omega) (lv_sub hl [3, 4, 1, 0] rfl)
        · refine lv_aload hx hb dX2_gainOfAll_50 (lv_at hl 0 rfl) ?_
          refine va_get (D := D) (ci := 2) (v := .int (wf i 4)) (C := RX1) (T := TX1) (N := 6) hx hb hts inlX1 hown hK (hG i hlt).1 0 rfl rfl 4 (by decide) (hts (Cond.fieldLink RX2 140 "TavernDice$Wager" "brings" "I") mw_17_6) (fun _ h9 => h9) rfl dX2_gainOfAll_52 ?_
          refine lv_ineg hx hb dX2_gainOfAll_55 ?_
          refine lv_goto (tgt := 64) hx hb dX2_gainOfAll_56 (by decide) ?_
          refine lv_iadd hx hb dX2_gainOfAll_64 ?_
          refine lv_rwi (y := sm (gnX su fa wf kd o) (i + 1)) (by show _ = sm _ i + gnX su fa wf kd o i; unfold gnX; rw [if_pos ((b2i_ne0 _).mp c_2)]) ?_
          refine lv_istore_n (lv' := [(2, .int (sm (gnX su fa wf kd o) (i + 1))), (4, .ref (wa i)), (0, .ref (ad 0)), (1, .int (nI o)), (3, .int (nI i))]) hx hb dX2_gainOfAll_65 rfl hl (by decide) rfl (fun ls hl => ?_)
          refine lv_iinc (v := nI (i + 1)) (lv' := [(3, .int (nI (i + 1))), (2, .int (sm (gnX su fa wf kd o) (i + 1))), (4, .ref (wa i)), (0, .ref (ad 0)), (1, .int (nI o))]) hx hb dX2_gainOfAll_66 hl (k := 4) rfl (nI_1 i) (by decide) rfl (fun ls hl => ?_)
          refine lv_goto (tgt := 4) hx hb dX2_gainOfAll_69 (by decide) ?_
          exact ih4 (i + 1) ls (by omega) (by omega) (lv_sub hl [3, 4, 1, 0] rfl)
  exact loop4 (n + 1) 0 ls (Nat.zero_le _) (by omega) (lv_sub hl [2, 3, 1, 0] rfl)
set_option maxHeartbeats 4000000 in
set_option maxRecDepth 100000 in
theorem c_gainOfAllOverOutcomes (l : Launch) (D : va_G) (cs : Nat → ClassId) (H : Heap) {ad : Nat → Nat} {bank rnds cnt mcn : Int32} {N n cap : Nat} {su fa pu : Nat → Int32} {rf : Nat → Option Nat} {wa : Nat → Nat} {wf : Nat → Nat → Int32} {kd : Nat → Nat} (RR : RX D cs H ad bank rnds cnt mcn N n cap su fa pu rf wa wf kd) : Rd l D (Ty cs) 4 yX2_gainOfAllOverOutcomes cX2_gainOfAllOverOutcomes 3 (some .int) H [.ref (ad 0)] (some (.int (sm (goX N wf) n))) := by
  refine rd_ent (by decide) (Nat.le_of_ble_eq_true rfl) ?_
  intro p e s m below meth c ls hx hb hr hml hown hts hlocks hl hH hK
  have hl : lv_has ls 3 [(0, .ref (ad 0))] := hl
  have RR0 := RR
  obtain ⟨hP, hG, hN1, hN, hn, hcap⟩ := RR
  refine lv_iconst (v := sm (goX N wf) 0) hx hb dX2_gainOfAllOverOutcomes_0 (by first | decide | rfl) ?_
  refine lv_istore_n (lv' := [(1, .int (sm (goX N wf) 0)), (0, .ref (ad 0))]) hx hb dX2_gainOfAllOverOutcomes_1 rfl hl (by decide) rfl (fun ls hl => ?_)
  refine lv_iconst (v := nI 0) hx hb dX2_gainOfAllOverOutcomes_2 (by first | decide | rfl) ?_
  refine lv_istore_n (lv' := [(2, .int (nI 0)), (1, .int (sm (goX N wf) 0)), (0, .ref (ad 0))]) hx hb dX2_gainOfAllOverOutcomes_3 rfl hl (by decide) rfl (fun ls hl => ?_)
  have loop4 : ∀ (n9 : Nat) (i : Nat) (ls : Array Slot), i ≤ n → n + 1 ≤ i + n9 → lv_has ls 3 [(0, .ref (ad 0)), (1, .int (sm (goX N wf) i)), (2, .int (nI i))] → RdW p l e 4 s m [.ref (ad 0)] below meth c H (some (.int (sm (goX N wf) n))) (F0 m 4 ls []) := by
    intro n9
    induction n9 with
    | zero => intro i  ls hi hf hl; exact absurd hf (by omega)
    | succ n9 ih4 =>
      intro i  ls hi hf hl
      refine lv_iload_n hx hb dX2_gainOfAllOverOutcomes_4 rfl (lv_at hl 2 rfl) ?_
      refine lv_aload_n hx hb dX2_gainOfAllOverOutcomes_5 rfl (lv_at hl 0 rfl) ?_
      refine va_get (D := D) (ci := 3) (v := .ref (ad 2)) (C := RX2) (T := TX2) (N := 5) hx hb hts inlX2 hown hK hP 0 rfl rfl 1 (by decide) (hts (Cond.fieldLink RX2 19 "TavernDice" "wagers" "Ljava/util/ArrayList;") mw_1_21) (fun _ h9 => h9) rfl dX2_gainOfAllOverOutcomes_6 ?_
      refine rdV (As := []) (rest := [.int (nI i)]) (b := ad 2) ⟨hx, hb, hml, hown, hts⟩ hK 0 (c_size l D cs H (hP.sub [4] rfl)) (gin_v mw_11_21 mw_11_22 mw_11_23 mw_1_20 mw_12_0) (by decide +kernel) ⟨Nat.le_of_ble_eq_true rfl, Nat.le_of_ble_eq_true rfl⟩ (va_recv hK hP (ci := 0) (q0 := 4) rfl rfl) rfl hl.1 rfl (Nat.le_of_ble_eq_true rfl) dX2_gainOfAllOverOutcomes_9 ⟨(Nat.zero_le _), (Nat.zero_le _)⟩ ?_
      refine W.eq (g2 := F0 m 12 ls [.int (nI n), .int (nI i)]) rfl ?_
      refine lv_icmp_ge (tgt := 39) hx hb dX2_gainOfAllOverOutcomes_12 (by decide) (fun c_1 => ?_) (fun c_1 => ?_)
      · refine lv_iload_n hx hb dX2_gainOfAllOverOutcomes_39 rfl (lv_at hl 1 rfl) ?_
        exact rd_iret hH hx hb hr hlocks (rv (by rw [show i = n from (by have g := (nI_leI (by omega) (by omega)).mp c_1; omega)])) dX2_gainOfAllOverOutcomes_40
      · have hlt : i < n := by
          rcases Nat.lt_or_ge i n with q | q
          · exact q
          · exact absurd (nI_le q (by omega)) c_1
        refine lv_iload_n hx hb dX2_gainOfAllOverOutcomes_15 rfl (lv_at hl 1 rfl) ?_
        refine lv_aload_n hx hb dX2_gainOfAllOverOutcomes_16 rfl (lv_at hl 0 rfl) ?_
        refine lv_aload_n hx hb dX2_gainOfAllOverOutcomes_17 rfl (lv_at hl 0 rfl) ?_
        refine va_get (D := D) (ci := 3) (v := .ref (ad 2)) (C := RX2) (T := TX2) (N := 5) hx hb hts inlX2 hown hK hP 0 rfl rfl 1 (by decide) (hts (Cond.fieldLink RX2 19 "TavernDice" "wagers" "Ljava/util/ArrayList;") mw_1_21) (fun _ h9 => h9) rfl dX2_gainOfAllOverOutcomes_18 ?_
        refine lv_iload_n hx hb dX2_gainOfAllOverOutcomes_21 rfl (lv_at hl 2 rfl) ?_
        refine rdV (As := [.int (nI i)]) (rest := [.ref (ad 0), .int (sm (goX N wf) i)]) (b := ad 2) ⟨hx, hb, hml, hown, hts⟩ hK 1 (c_get l D cs H (hP.sub [4] rfl) (hG i hlt).2.1 i hlt (hG i hlt).2.2.2.2.2 (by omega) (by omega) (hG i hlt).2.2.1) (gin_v mw_17_7 mw_17_8 mw_17_9 mw_1_20 mw_17_10) (by decide +kernel) ⟨Nat.le_of_ble_eq_true rfl, Nat.le_of_ble_eq_true rfl⟩ (va_recv hK hP (ci := 0) (q0 := 4) rfl rfl) rfl hl.1 rfl (Nat.le_of_ble_eq_true rfl) dX2_gainOfAllOverOutcomes_22 ⟨(Nat.zero_le _), (Nat.zero_le _)⟩ ?_
        refine W.eq (g2 := F0 m 25 ls [.ref (wa i), .ref (ad 0), .int (sm (goX N wf) i)]) rfl ?_
        refine va_castSelf hx hb hown (hts (Cond.classLink RX2 98 "TavernDice$Wager") mw_15_7) (va_recv hK (hG i hlt).1 (ci := 2) (q0 := 0) rfl rfl) dX2_gainOfAllOverOutcomes_25 ?_
        refine rdV (As := [.ref (wa i)]) (rest := [.int (sm (goX N wf) i)]) (b := ad 0) ⟨hx, hb, hml, hown, hts⟩ hK 1 (c_gainOverOutcomes l D cs H RR0 i hlt) (gin_v mw_22_4 mw_22_5 mw_22_6 mw_1_2 mw_22_7) (by decide +kernel) ⟨Nat.le_of_ble_eq_true rfl, Nat.le_of_ble_eq_true rfl⟩ (va_recv hK hP (ci := 3) (q0 := 0) rfl rfl) rfl hl.1 rfl (Nat.le_of_ble_eq_true rfl) dX2_gainOfAllOverOutcomes_28 ⟨(Nat.zero_le _), (Nat.zero_le _)⟩ ?_
        refine W.eq (g2 := F0 m 31 ls [.int (goX N wf i), .int (sm (goX N wf) i)]) rfl ?_
        refine lv_iadd hx hb dX2_gainOfAllOverOutcomes_31 ?_
        refine lv_rwi (y := sm (goX N wf) (i + 1)) (rfl) ?_
        refine lv_istore_n (lv' := [(1, .int (sm (goX N wf) (i + 1))), (0, .ref (ad 0)), (2, .int (nI i))]) hx hb dX2_gainOfAllOverOutcomes_32 rfl hl (by decide) rfl (fun ls hl => ?_)
        refine lv_iinc (v := nI (i + 1)) (lv' := [(2, .int (nI (i + 1))), (1, .int (sm (goX N wf) (i + 1))), (0, .ref (ad 0))]) hx hb dX2_gainOfAllOverOutcomes_33 hl (k := 2) rfl (nI_1 i) (by decide) rfl (fun ls hl => ?_)
        refine lv_goto (tgt := 4) hx hb dX2_gainOfAllOverOutcomes_36 (by decide) ?_
        exact ih4 (i + 1) ls (by omega) (by omega) (lv_sub hl [2, 1, 0] rfl)
  exact loop4 (n + 1) 0 ls (Nat.zero_le _) (by omega) (lv_sub hl [2, 1, 0] rfl)
set_option maxHeartbeats 4000000 in
set_option maxRecDepth 100000 in
theorem c_staked (l : Launch) (D : va_G) (cs : Nat → ClassId) (H : Heap) {ad : Nat → Nat} {bank rnds cnt mcn : Int32} {N n cap : Nat} {su fa pu : Nat → Int32} {rf : Nat → Option Nat} {wa : Nat → Nat} {wf : Nat → Nat → Int32} {kd : Nat → Nat} (RR : RX D cs H ad bank rnds cnt mcn N n cap su fa pu rf wa wf kd) : Rd l D (Ty cs) 4 yX2_staked cX2_staked 3 (some .int) H [.ref (ad 0)] (some (.int (sm (fun i => wf i 3) n))) := by
  refine rd_ent (by decide) (Nat.le_of_ble_eq_true rfl) ?_
  intro p e s m below meth c ls hx hb hr hml hown hts hlocks hl hH hK
  have hl : lv_has ls 3 [(0, .ref (ad 0))] := hl
  have RR0 := RR
  obtain ⟨hP, hG, hN1, hN, hn, hcap⟩ := RR
  refine lv_iconst (v := sm (fun i => wf i 3) 0) hx hb dX2_staked_0 (by first | decide | rfl) ?_
  refine lv_istore_n (lv' := [(1, .int (sm (fun i => wf i 3) 0)), (0, .ref (ad 0))]) hx hb dX2_staked_1 rfl hl (by decide) rfl (fun ls hl => ?_)
  refine lv_iconst (v := nI 0) hx hb dX2_staked_2 (by first | decide | rfl) ?_
  refine lv_istore_n (lv' := [(2, .int (nI 0)), (1, .int (sm (fun i => wf i 3) 0)), (0, .ref (ad 0))]) hx hb dX2_staked_3 rfl hl (by decide) rfl (fun ls hl => ?_)
  have loop4 : ∀ (n9 : Nat) (i : Nat) (ls : Array Slot), i ≤ n → n + 1 ≤ i + n9 → lv_has ls 3 [(0, .ref (ad 0)), (1, .int (sm (fun i => wf i 3) i)), (2, .int (nI i))] → RdW p l e 4 s m [.ref (ad 0)] below meth c H (some (.int (sm (fun i => wf i 3) n))) (F0 m 4 ls []) := by
    intro n9
    induction n9 with
    | zero => intro i  ls hi hf hl; exact absurd hf (by omega)
    | succ n9 ih4 =>
      intro i  ls hi hf hl
      refine lv_iload_n hx hb dX2_staked_4 rfl (lv_at hl 2 rfl) ?_
      refine lv_aload_n hx hb dX2_staked_5 rfl (lv_at hl 0 rfl) ?_
      refine va_get (D := D) (ci := 3) (v := .ref (ad 2)) (C := RX2) (T := TX2) (N := 5) hx hb hts inlX2 hown hK hP 0 rfl rfl 1 (by decide) (hts (Cond.fieldLink RX2 19 "TavernDice" "wagers" "Ljava/util/ArrayList;") mw_1_21) (fun _ h9 => h9) rfl dX2_staked_6 ?_
      refine rdV (As := []) (rest := [.int (nI i)]) (b := ad 2) ⟨hx, hb, hml, hown, hts⟩ hK 0 (c_size l D cs H (hP.sub [4] rfl)) (gin_v mw_11_21 mw_11_22 mw_11_23 mw_1_20 mw_12_0) (by decide +kernel) ⟨Nat.le_of_ble_eq_true rfl, Nat.le_of_ble_eq_true rfl⟩ (va_recv hK hP (ci := 0) (q0 := 4) rfl rfl) rfl hl.1 rfl (Nat.le_of_ble_eq_true rfl) dX2_staked_9 ⟨(Nat.zero_le _), (Nat.zero_le _)⟩ ?_
      refine W.eq (g2 := F0 m 12 ls [.int (nI n), .int (nI i)]) rfl ?_
      refine lv_icmp_ge (tgt := 38) hx hb dX2_staked_12 (by decide) (fun c_1 => ?_) (fun c_1 => ?_)
      · refine lv_iload_n hx hb dX2_staked_38 rfl (lv_at hl 1 rfl) ?_
        exact rd_iret hH hx hb hr hlocks (rv (by rw [show i = n from (by have g := (nI_leI (by omega) (by omega)).mp c_1; omega)])) dX2_staked_39
      · have hlt : i < n := by
          rcases Nat.lt_or_ge i n with q | q
          · exact q
          · exact absurd (nI_le q (by omega)) c_1
        refine lv_iload_n hx hb dX2_staked_15 rfl (lv_at hl 1 rfl) ?_
        refine lv_aload_n hx hb dX2_staked_16 rfl (lv_at hl 0 rfl) ?_
        refine va_get (D := D) (ci := 3) (v := .ref (ad 2)) (C := RX2) (T := TX2) (N := 5) hx hb hts inlX2 hown hK hP 0 rfl rfl 1 (by decide) (hts (Cond.fieldLink RX2 19 "TavernDice" "wagers" "Ljava/util/ArrayList;") mw_1_21) (fun _ h9 => h9) rfl dX2_staked_17 ?_
        refine lv_iload_n hx hb dX2_staked_20 rfl (lv_at hl 2 rfl) ?_
        refine rdV (As := [.int (nI i)]) (rest := [.int (sm (fun i => wf i 3) i)]) (b := ad 2) ⟨hx, hb, hml, hown, hts⟩ hK 1 (c_get l D cs H (hP.sub [4] rfl) (hG i hlt).2.1 i hlt (hG i hlt).2.2.2.2.2 (by omega) (by omega) (hG i hlt).2.2.1) (gin_v mw_17_7 mw_17_8 mw_17_9 mw_1_20 mw_17_10) (by decide +kernel) ⟨Nat.le_of_ble_eq_true rfl, Nat.le_of_ble_eq_true rfl⟩ (va_recv hK hP (ci := 0) (q0 := 4) rfl rfl) rfl hl.1 rfl (Nat.le_of_ble_eq_true rfl) dX2_staked_21 ⟨(Nat.zero_le _), (Nat.zero_le _)⟩ ?_
        refine W.eq (g2 := F0 m 24 ls [.ref (wa i), .int (sm (fun i => wf i 3) i)]) rfl ?_
        refine va_castSelf hx hb hown (hts (Cond.classLink RX2 98 "TavernDice$Wager") mw_15_7) (va_recv hK (hG i hlt).1 (ci := 2) (q0 := 0) rfl rfl) dX2_staked_24 ?_
        refine va_get (D := D) (ci := 2) (v := .int (wf i 3)) (C := RX1) (T := TX1) (N := 6) hx hb hts inlX1 hown hK (hG i hlt).1 0 rfl rfl 3 (by decide) (hts (Cond.fieldLink RX2 121 "TavernDice$Wager" "stake" "I") mw_15_9) (fun _ h9 => h9) rfl dX2_staked_27 ?_
        refine lv_iadd hx hb dX2_staked_30 ?_
        refine lv_rwi (y := sm (fun i => wf i 3) (i + 1)) (rfl) ?_
        refine lv_istore_n (lv' := [(1, .int (sm (fun i => wf i 3) (i + 1))), (0, .ref (ad 0)), (2, .int (nI i))]) hx hb dX2_staked_31 rfl hl (by decide) rfl (fun ls hl => ?_)
        refine lv_iinc (v := nI (i + 1)) (lv' := [(2, .int (nI (i + 1))), (1, .int (sm (fun i => wf i 3) (i + 1))), (0, .ref (ad 0))]) hx hb dX2_staked_32 hl (k := 2) rfl (nI_1 i) (by decide) rfl (fun ls hl => ?_)
        refine lv_goto (tgt := 4) hx hb dX2_staked_35 (by decide) ?_
        exact ih4 (i + 1) ls (by omega) (by omega) (lv_sub hl [2, 1, 0] rfl)
  exact loop4 (n + 1) 0 ls (Nat.zero_le _) (by omega) (lv_sub hl [2, 1, 0] rfl)
set_option maxHeartbeats 4000000 in
set_option maxRecDepth 100000 in
theorem c_purseBehind (l : Launch) (D : va_G) (cs : Nat → ClassId) (H : Heap) {ad : Nat → Nat} {bank rnds cnt mcn : Int32} {N n cap : Nat} {su fa pu : Nat → Int32} {rf : Nat → Option Nat} {wa : Nat → Nat} {wf : Nat → Nat → Int32} {kd : Nat → Nat} (RR : RX D cs H ad bank rnds cnt mcn N n cap su fa pu rf wa wf kd) (p9 : Nat) (hp9 : p9 < 6) (o : Nat) (ho : o < 1728) : Rd l D (Ty cs) 4 yX2_purseBehind cX2_purseBehind 6 (some .int) H [.ref (ad 0), .int (nI p9), .int (nI o)] (some (.int (behX su fa pu wf kd (nI p9) p9 o n))) := by
  refine rd_ent (by decide) (Nat.le_of_ble_eq_true rfl) ?_
  intro p e s m below meth c ls hx hb hr hml hown hts hlocks hl hH hK
  have hl : lv_has ls 6 [(0, .ref (ad 0)), (1, .int (nI p9)), (2, .int (nI o))] := hl
  have RR0 := RR
  obtain ⟨hP, hG, hN1, hN, hn, hcap⟩ := RR
  refine lv_aload_n hx hb dX2_purseBehind_0 rfl (lv_at hl 0 rfl) ?_
  refine va_get (D := D) (ci := 3) (v := .ref (ad 3)) (C := RX2) (T := TX2) (N := 5) hx hb hts inlX2 hown hK hP 0 rfl rfl 2 (by decide) (hts (Cond.fieldLink RX2 23 "TavernDice" "purses" "[I") mw_1_23) (fun _ h9 => h9) rfl dX2_purseBehind_1 ?_
  refine lv_iload_n hx hb dX2_purseBehind_4 rfl (lv_at hl 1 rfl) ?_
  refine va_iald hx hb hK hP 5 0 rfl rfl (vp_in_nI hp9 (by omega)) dX2_purseBehind_5 ?_
  refine lv_rwi (y := behX su fa pu wf kd (nI p9) p9 o 0) (congrArg pu (nI_clamp (by omega))) ?_
  refine lv_istore_n (lv' := [(3, .int (behX su fa pu wf kd (nI p9) p9 o 0)), (0, .ref (ad 0)), (1, .int (nI p9)), (2, .int (nI o))]) hx hb dX2_purseBehind_6 rfl hl (by decide) rfl (fun ls hl => ?_)
  refine lv_iconst (v := nI 0) hx hb dX2_purseBehind_7 (by first | decide | rfl) ?_
  refine lv_istore (lv' := [(4, .int (nI 0)), (3, .int (behX su fa pu wf kd (nI p9) p9 o 0)), (0, .ref (ad 0)), (1, .int (nI p9)), (2, .int (nI o))]) hx hb dX2_purseBehind_8 hl (by decide) rfl (fun ls hl => ?_)
  have loop10 : ∀ (n9 : Nat) (i : Nat) (ls : Array Slot), i ≤ n → n + 1 ≤ i + n9 → lv_has ls 6 [(0, .ref (ad 0)), (1, .int (nI p9)), (2, .int (nI o)), (3, .int (behX su fa pu wf kd (nI p9) p9 o i)), (4, .int (nI i))] → RdW p l e 4 s m [.ref (ad 0), .int (nI p9), .int (nI o)] below meth c H (some (.int (behX su fa pu wf kd (nI p9) p9 o n))) (F0 m 10 ls []) := by
    intro n9
    induction n9 with
    | zero => intro i  ls hi hf hl; exact absurd hf (by omega)
    | succ n9 ih10 =>
      intro i  ls hi hf hl
      refine lv_iload hx hb dX2_purseBehind_10 (lv_at hl 4 rfl) ?_
      refine lv_aload_n hx hb dX2_purseBehind_12 rfl (lv_at hl 0 rfl) ?_
      refine va_get (D := D) (ci := 3) (v := .ref (ad 2)) (C := RX2) (T := TX2) (N := 5) hx hb hts inlX2 hown hK hP 0 rfl rfl 1 (by decide) (hts (Cond.fieldLink RX2 19 "TavernDice" "wagers" "Ljava/util/ArrayList;") mw_1_21) (fun _ h9 => h9) rfl dX2_purseBehind_13 ?_
      refine rdV (As := []) (rest := [.int (nI i)]) (b := ad 2) ⟨hx, hb, hml, hown, hts⟩ hK 0 (c_size l D cs H (hP.sub [4] rfl)) (gin_v mw_11_21 mw_11_22 mw_11_23 mw_1_20 mw_12_0) (by decide +kernel) ⟨Nat.le_of_ble_eq_true rfl, Nat.le_of_ble_eq_true rfl⟩ (va_recv hK hP (ci := 0) (q0 := 4) rfl rfl) rfl hl.1 rfl (Nat.le_of_ble_eq_true rfl) dX2_purseBehind_16 ⟨(Nat.zero_le _), (Nat.zero_le _)⟩ ?_
      refine W.eq (g2 := F0 m 19 ls [.int (nI n), .int (nI i)]) rfl ?_
      refine lv_icmp_ge (tgt := 86) hx hb dX2_purseBehind_19 (by decide) (fun c_1 => ?_) (fun c_1 => ?_)
      · refine lv_iload_n hx hb dX2_purseBehind_86 rfl (lv_at hl 3 rfl) ?_
        exact rd_iret hH hx hb hr hlocks (rv (by rw [show i = n from (by have g := (nI_leI (by omega) (by omega)).mp c_1; omega)])) dX2_purseBehind_87
      · have hlt : i < n := by
          rcases Nat.lt_or_ge i n with q | q
          · exact q
          · exact absurd (nI_le q (by omega)) c_1
        refine lv_aload_n hx hb dX2_purseBehind_22 rfl (lv_at hl 0 rfl) ?_
        refine va_get (D := D) (ci := 3) (v := .ref (ad 2)) (C := RX2) (T := TX2) (N := 5) hx hb hts inlX2 hown hK hP 0 rfl rfl 1 (by decide) (hts (Cond.fieldLink RX2 19 "TavernDice" "wagers" "Ljava/util/ArrayList;") mw_1_21) (fun _ h9 => h9) rfl dX2_purseBehind_23 ?_
        refine lv_iload hx hb dX2_purseBehind_26 (lv_at hl 4 rfl) ?_
        refine rdV (As := [.int (nI i)]) (rest := []) (b := ad 2) ⟨hx, hb, hml, hown, hts⟩ hK 1 (c_get l D cs H (hP.sub [4] rfl) (hG i hlt).2.1 i hlt (hG i hlt).2.2.2.2.2 (by omega) (by omega) (hG i hlt).2.2.1) (gin_v mw_17_7 mw_17_8 mw_17_9 mw_1_20 mw_17_10) (by decide +kernel) ⟨Nat.le_of_ble_eq_true rfl, Nat.le_of_ble_eq_true rfl⟩ (va_recv hK hP (ci := 0) (q0 := 4) rfl rfl) rfl hl.1 rfl (Nat.le_of_ble_eq_true rfl) dX2_purseBehind_28 ⟨(Nat.zero_le _), (Nat.zero_le _)⟩ ?_
        refine W.eq (g2 := F0 m 31 ls [.ref (wa i)]) rfl ?_
        refine va_castSelf hx hb hown (hts (Cond.classLink RX2 98 "TavernDice$Wager") mw_15_7) (va_recv hK (hG i hlt).1 (ci := 2) (q0 := 0) rfl rfl) dX2_purseBehind_31 ?_
        refine lv_astore (lv' := [(5, .ref (wa i)), (0, .ref (ad 0)), (1, .int (nI p9)), (2, .int (nI o)), (3, .int (behX su fa pu wf kd (nI p9) p9 o i)), (4, .int (nI i))]) hx hb dX2_purseBehind_34 hl (by decide) rfl (fun ls hl => ?_)
        refine lv_aload hx hb dX2_purseBehind_36 (lv_at hl 0 rfl) ?_
        refine va_get (D := D) (ci := 2) (v := .int (wf i 0)) (C := RX1) (T := TX1) (N := 6) hx hb hts inlX1 hown hK (hG i hlt).1 0 rfl rfl 0 (by decide) (hts (Cond.fieldLink RX2 118 "TavernDice$Wager" "patron" "I") mw_15_8) (fun _ h9 => h9) rfl dX2_purseBehind_38 ?_
        refine lv_iload_n hx hb dX2_purseBehind_41 rfl (lv_at hl 2 rfl) ?_
        refine lv_icmp_ne (tgt := 80) hx hb dX2_purseBehind_42 (by decide) (fun c_2 => ?_) (fun c_2 => ?_)
        · have hl : lv_has ls 6 [(5, .ref (wa i)), (0, .ref (ad 0)), (1, .int (nI p9)), (2, .int (nI o)), (3, .int (behX su fa pu wf kd (nI p9) p9 o (i + 1))), (4, .int (nI i))] := by rw [show behX su fa pu wf kd (nI p9) p9 o (i + 1) = behX su fa pu wf kd (nI p9) p9 o i from if_neg (fun z => c_2 z.1)]; exact hl
          refine lv_iinc (v := nI (i + 1)) (lv' := [(4, .int (nI (i + 1))), (5, .ref (wa i)), (0, .ref (ad 0)), (1, .int (nI p9)), (2, .int (nI o)), (3, .int (behX su fa pu wf kd (nI p9) p9 o (i + 1)))]) hx hb dX2_purseBehind_80 hl (k := 5) rfl (nI_1 i) (by decide) rfl (fun ls hl => ?_)
          refine lv_goto (tgt := 10) hx hb dX2_purseBehind_83 (by decide) ?_
          exact ih10 (i + 1) ls (by omega) (by omega) (lv_sub hl [2, 3, 4, 5, 0] rfl)
        · refine lv_aload_n hx hb dX2_purseBehind_45 rfl (lv_at hl 1 rfl) ?_
          refine va_get (D := D) (ci := 3) (v := .ref (ad 1)) (C := RX2) (T := TX2) (N := 5) hx hb hts inlX2 hown hK hP 0 rfl rfl 0 (by decide) (hts (Cond.fieldLink RX2 12 "TavernDice" "dice" "LTavernDice$Dice;") mw_1_17) (fun _ h9 => h9) rfl dX2_purseBehind_46 ?_
          refine lv_aload hx hb dX2_purseBehind_49 (lv_at hl 0 rfl) ?_
          refine va_get (D := D) (ci := 2) (v := .int (wf i 1)) (C := RX1) (T := TX1) (N := 6) hx hb hts inlX1 hown hK (hG i hlt).1 0 rfl rfl 1 (by decide) (hts (Cond.fieldLink RX2 232 "TavernDice$Wager" "kind" "I") mw_17_4) (fun _ h9 => h9) rfl dX2_purseBehind_51 ?_
          refine lv_rwi (y := nI (kd i)) ((hG i hlt).2.2.2.1) ?_
          refine lv_aload hx hb dX2_purseBehind_54 (lv_at hl 0 rfl) ?_
          refine va_get (D := D) (ci := 2) (v := .int (wf i 2)) (C := RX1) (T := TX1) (N := 6) hx hb hts inlX1 hown hK (hG i hlt).1 0 rfl rfl 2 (by decide) (hts (Cond.fieldLink RX2 235 "TavernDice$Wager" "number" "I") mw_17_5) (fun _ h9 => h9) rfl dX2_purseBehind_56 ?_
          refine lv_iload_n hx hb dX2_purseBehind_59 rfl (lv_at hl 3 rfl) ?_
          refine rdV (As := [.int (nI (kd i)), .int (wf i 2), .int (nI o)]) (rest := []) (b := ad 1) ⟨hx, hb, hml, hown, hts⟩ hK 3 (c_comes l D cs H (hP.sub [1, 2, 3] rfl) ((kd i)) ((hG i hlt).2.2.2.2.1) (wf i 2) o (by omega)) (gin_v mw_17_15 mw_9_5 mw_9_6 mw_1_16 mw_9_7) (by decide +kernel) ⟨Nat.le_of_ble_eq_true rfl, Nat.le_of_ble_eq_true rfl⟩ (va_recv hK hP (ci := 1) (q0 := 1) rfl rfl) rfl hl.1 rfl (Nat.le_of_ble_eq_true rfl) dX2_purseBehind_60 ⟨(Nat.zero_le _), (Nat.zero_le _)⟩ ?_
          refine W.eq (g2 := F0 m 63 ls [.int (b2i (comesX su fa ((kd i)) (wf i 2) o))]) rfl ?_
          refine lv_if_eq (tgt := 80) hx hb dX2_purseBehind_63 (by decide) (fun c_3 => ?_) (fun c_3 => ?_)
          · have hl : lv_has ls 6 [(5, .ref (wa i)), (0, .ref (ad 0)), (1, .int (nI p9)), (2, .int (nI o)), (3, .int (behX su fa pu wf kd (nI p9) p9 o (i + 1))), (4, .int (nI i))] := by rw [show behX su fa pu wf kd (nI p9) p9 o (i + 1) = behX su fa pu wf kd (nI p9) p9 o i from if_neg (fun z => by have g := (b2i_eq0 _).mp c_3; rw [g] at z; exact absurd z.2 (by decide))]; exact hl
            refine lv_iinc (v := nI (i + 1)) (lv' := [(4, .int (nI (i + 1))), (5, .ref (wa i)), (0, .ref (ad 0)), (1, .int (nI p9)), (2, .int (nI o)), (3, .int (behX su fa pu wf kd (nI p9) p9 o (i + 1)))]) hx hb dX2_purseBehind_80 hl (k := 5) rfl (nI_1 i) (by decide) rfl (fun ls hl => ?_)
            refine lv_goto (tgt := 10) hx hb dX2_purseBehind_83 (by decide) ?_
            exact ih10 (i + 1) ls (by omega) (by omega) (lv_sub hl [2, 3, 4, 5, 0] rfl)
          · refine lv_iload_n hx hb dX2_purseBehind_66 rfl (lv_at hl 4 rfl) ?_
            refine lv_aload hx hb dX2_purseBehind_67 (lv_at hl 0 rfl) ?_
            refine va_get (D := D) (ci := 2) (v := .int (wf i 3)) (C := RX1) (T := TX1) (N := 6) hx hb hts inlX1 hown hK (hG i hlt).1 0 rfl rfl 3 (by decide) (hts (Cond.fieldLink RX2 121 "TavernDice$Wager" "stake" "I") mw_15_9) (fun _ h9 => h9) rfl dX2_purseBehind_69 ?_
            refine lv_aload hx hb dX2_purseBehind_72 (lv_at hl 0 rfl) ?_
            refine va_get (D := D) (ci := 2) (v := .int (wf i 4)) (C := RX1) (T := TX1) (N := 6) hx hb hts inlX1 hown hK (hG i hlt).1 0 rfl rfl 4 (by decide) (hts (Cond.fieldLink RX2 140 "TavernDice$Wager" "brings" "I") mw_17_6) (fun _ h9 => h9) rfl dX2_purseBehind_74 ?_
            refine lv_iadd hx hb dX2_purseBehind_77 ?_
            refine lv_iadd hx hb dX2_purseBehind_78 ?_
            refine lv_rwi (y := behX su fa pu wf kd (nI p9) p9 o (i + 1)) ((if_pos ⟨c_2, (b2i_ne0 _).mp c_3⟩).symm) ?_
            refine lv_istore_n (lv' := [(3, .int (behX su fa pu wf kd (nI p9) p9 o (i + 1))), (5, .ref (wa i)), (0, .ref (ad 0)), (1, .int (nI p9)), (2, .int (nI o)), (4, .int (nI i))]) hx hb dX2_purseBehind_79 rfl hl (by decide) rfl (fun ls hl => ?_)
            refine lv_iinc (v := nI (i + 1)) (lv' := [(4, .int (nI (i + 1))), (3, .int (behX su fa pu wf kd (nI p9) p9 o (i + 1))), (5, .ref (wa i)), (0, .ref (ad 0)), (1, .int (nI p9)), (2, .int (nI o))]) hx hb dX2_purseBehind_80 hl (k := 5) rfl (nI_1 i) (by decide) rfl (fun ls hl => ?_)
            refine lv_goto (tgt := 10) hx hb dX2_purseBehind_83 (by decide) ?_
            exact ih10 (i + 1) ls (by omega) (by omega) (lv_sub hl [3, 4, 5, 1, 0] rfl)
  exact loop10 (n + 1) 0 ls (Nat.zero_le _) (by omega) (lv_sub hl [2, 3, 4, 1, 0] rfl)
set_option maxHeartbeats 4000000 in
set_option maxRecDepth 100000 in
theorem c_lowestTop (l : Launch) (D : va_G) (cs : Nat → ClassId) (H : Heap) {ad : Nat → Nat} {bank rnds cnt mcn : Int32} {N n cap : Nat} {su fa pu : Nat → Int32} {rf : Nat → Option Nat} {wa : Nat → Nat} {wf : Nat → Nat → Int32} {kd : Nat → Nat} (RR : RX D cs H ad bank rnds cnt mcn N n cap su fa pu rf wa wf kd) (g9 : Int32) : Rd l D (Ty cs) 2 yX2_lowestTop cX2_lowestTop 2 (some .int) H [.ref (ad 0), .int g9] (some (.int (g9 / cdX g9 (nI N)))) := by
  refine rd_ent (by decide) (Nat.le_of_ble_eq_true rfl) ?_
  intro p e s m below meth c ls hx hb hr hml hown hts hlocks hl hH hK
  have hl : lv_has ls 2 [(0, .ref (ad 0)), (1, .int g9)] := hl
  have RR0 := RR
  obtain ⟨hP, hG, hN1, hN, hn, hcap⟩ := RR
  refine lv_iload_n hx hb dX2_lowestTop_0 rfl (lv_at hl 1 rfl) ?_
  refine lv_iload_n hx hb dX2_lowestTop_1 rfl (lv_at hl 1 rfl) ?_
  refine lv_aload_n hx hb dX2_lowestTop_2 rfl (lv_at hl 0 rfl) ?_
  refine va_get (D := D) (ci := 3) (v := .ref (ad 1)) (C := RX2) (T := TX2) (N := 5) hx hb hts inlX2 hown hK hP 0 rfl rfl 0 (by decide) (hts (Cond.fieldLink RX2 12 "TavernDice" "dice" "LTavernDice$Dice;") mw_1_17) (fun _ h9 => h9) rfl dX2_lowestTop_3 ?_
  refine va_get (D := D) (ci := 1) (v := .int (nI N)) (C := RX0) (T := TX0) (N := 4) hx hb hts inlX0 hown hK hP 1 rfl rfl 3 (by decide) (hts (Cond.fieldLink RX2 58 "TavernDice$Dice" "outcomes" "I") mw_4_22) (fun _ h9 => h9) rfl dX2_lowestTop_6 ?_
  refine rdS (As := [.int g9, .int (nI N)]) (rest := [.int g9]) ⟨hx, hb, hml, hown, hts⟩ hK 2 (c_commonDivisor l D cs H g9 (nI N)) (gin_s mw_22_17 mw_22_18 mw_1_2 mw_22_19) (by decide +kernel) ⟨Nat.le_of_ble_eq_true rfl, Nat.le_of_ble_eq_true rfl⟩ rfl hl.1 rfl (Nat.le_of_ble_eq_true rfl) dX2_lowestTop_9 ⟨(Nat.zero_le _), (Nat.zero_le _)⟩ ?_
  refine W.eq (g2 := F0 m 12 ls [.int (cdX g9 (nI N)), .int g9]) rfl ?_
  refine lv_idiv hx hb dX2_lowestTop_12 (cdX_ne _ _) ?_
  exact rd_iret hH hx hb hr hlocks (rfl) dX2_lowestTop_13
set_option maxHeartbeats 4000000 in
set_option maxRecDepth 100000 in
theorem c_lowestBottom (l : Launch) (D : va_G) (cs : Nat → ClassId) (H : Heap) {ad : Nat → Nat} {bank rnds cnt mcn : Int32} {N n cap : Nat} {su fa pu : Nat → Int32} {rf : Nat → Option Nat} {wa : Nat → Nat} {wf : Nat → Nat → Int32} {kd : Nat → Nat} (RR : RX D cs H ad bank rnds cnt mcn N n cap su fa pu rf wa wf kd) (g9 : Int32) : Rd l D (Ty cs) 2 yX2_lowestBottom cX2_lowestBottom 2 (some .int) H [.ref (ad 0), .int g9] (some (.int (nI N / cdX g9 (nI N)))) := by
  refine rd_ent (by decide) (Nat.le_of_ble_eq_true rfl) ?_
  intro p e s m below meth c ls hx hb hr hml hown hts hlocks hl hH hK
  have hl : lv_has ls 2 [(0, .ref (ad 0)), (1, .int g9)] := hl
  have RR0 := RR
  obtain ⟨hP, hG, hN1, hN, hn, hcap⟩ := RR
  refine lv_aload_n hx hb dX2_lowestBottom_0 rfl (lv_at hl 0 rfl) ?_
  refine va_get (D := D) (ci := 3) (v := .ref (ad 1)) (C := RX2) (T := TX2) (N := 5) hx hb hts inlX2 hown hK hP 0 rfl rfl 0 (by decide) (hts (Cond.fieldLink RX2 12 "TavernDice" "dice" "LTavernDice$Dice;") mw_1_17) (fun _ h9 => h9) rfl dX2_lowestBottom_1 ?_
  refine va_get (D := D) (ci := 1) (v := .int (nI N)) (C := RX0) (T := TX0) (N := 4) hx hb hts inlX0 hown hK hP 1 rfl rfl 3 (by decide) (hts (Cond.fieldLink RX2 58 "TavernDice$Dice" "outcomes" "I") mw_4_22) (fun _ h9 => h9) rfl dX2_lowestBottom_4 ?_
  refine lv_iload_n hx hb dX2_lowestBottom_7 rfl (lv_at hl 1 rfl) ?_
  refine lv_aload_n hx hb dX2_lowestBottom_8 rfl (lv_at hl 0 rfl) ?_
  refine va_get (D := D) (ci := 3) (v := .ref (ad 1)) (C := RX2) (T := TX2) (N := 5) hx hb hts inlX2 hown hK hP 0 rfl rfl 0 (by decide) (hts (Cond.fieldLink RX2 12 "TavernDice" "dice" "LTavernDice$Dice;") mw_1_17) (fun _ h9 => h9) rfl dX2_lowestBottom_9 ?_
  refine va_get (D := D) (ci := 1) (v := .int (nI N)) (C := RX0) (T := TX0) (N := 4) hx hb hts inlX0 hown hK hP 1 rfl rfl 3 (by decide) (hts (Cond.fieldLink RX2 58 "TavernDice$Dice" "outcomes" "I") mw_4_22) (fun _ h9 => h9) rfl dX2_lowestBottom_12 ?_
  refine rdS (As := [.int g9, .int (nI N)]) (rest := [.int (nI N)]) ⟨hx, hb, hml, hown, hts⟩ hK 2 (c_commonDivisor l D cs H g9 (nI N)) (gin_s mw_22_17 mw_22_18 mw_1_2 mw_22_19) (by decide +kernel) ⟨Nat.le_of_ble_eq_true rfl, Nat.le_of_ble_eq_true rfl⟩ rfl hl.1 rfl (Nat.le_of_ble_eq_true rfl) dX2_lowestBottom_15 ⟨(Nat.zero_le _), (Nat.zero_le _)⟩ ?_
  refine W.eq (g2 := F0 m 18 ls [.int (cdX g9 (nI N)), .int (nI N)]) rfl ?_
  refine lv_idiv hx hb dX2_lowestBottom_18 (cdX_ne _ _) ?_
  exact rd_iret hH hx hb hr hlocks (rfl) dX2_lowestBottom_19
set_option maxHeartbeats 4000000 in
set_option maxRecDepth 100000 in
theorem c_worstOutcome (l : Launch) (D : va_G) (cs : Nat → ClassId) (H : Heap) {ad : Nat → Nat} {bank rnds cnt mcn : Int32} {N n cap : Nat} {su fa pu : Nat → Int32} {rf : Nat → Option Nat} {wa : Nat → Nat} {wf : Nat → Nat → Int32} {kd : Nat → Nat} (RR : RX D cs H ad bank rnds cnt mcn N n cap su fa pu rf wa wf kd) : Rd l D (Ty cs) 5 yX2_worstOutcome cX2_worstOutcome 5 (some .int) H [.ref (ad 0)] (some (.int (nI (wst (fun o => sm (gnX su fa wf kd o) n) N)))) := by
  refine rd_ent (by decide) (Nat.le_of_ble_eq_true rfl) ?_
  intro p e s m below meth c ls hx hb hr hml hown hts hlocks hl hH hK
  have hl : lv_has ls 5 [(0, .ref (ad 0))] := hl
  have RR0 := RR
  obtain ⟨hP, hG, hN1, hN, hn, hcap⟩ := RR
  refine lv_iconst (v := nI (wst (fun o => sm (gnX su fa wf kd o) n) 1)) hx hb dX2_worstOutcome_0 (by rw [wst_1]; decide) ?_
  refine lv_istore_n (lv' := [(1, .int (nI (wst (fun o => sm (gnX su fa wf kd o) n) 1))), (0, .ref (ad 0))]) hx hb dX2_worstOutcome_1 rfl hl (by decide) rfl (fun ls hl => ?_)
  refine lv_aload_n hx hb dX2_worstOutcome_2 rfl (lv_at hl 1 rfl) ?_
  refine lv_iconst (v := nI 0) hx hb dX2_worstOutcome_3 (by first | decide | rfl) ?_
  refine rdV (As := [.int (nI 0)]) (rest := []) (b := ad 0) ⟨hx, hb, hml, hown, hts⟩ hK 1 (c_gainOfAll l D cs H RR0 0 (by omega)) (gin_v mw_17_0 mw_17_1 mw_17_2 mw_1_2 mw_17_3) (by decide +kernel) ⟨Nat.le_of_ble_eq_true rfl, Nat.le_of_ble_eq_true rfl⟩ (va_recv hK hP (ci := 3) (q0 := 0) rfl rfl) rfl hl.1 rfl (Nat.le_of_ble_eq_true rfl) dX2_worstOutcome_4 ⟨(Nat.zero_le _), (Nat.zero_le _)⟩ ?_
  refine W.eq (g2 := F0 m 7 ls [.int (sm (gnX su fa wf kd 0) n)]) rfl ?_
  refine lv_rwi (y := (fun o => sm (gnX su fa wf kd o) n) (wst (fun o => sm (gnX su fa wf kd o) n) 1)) (by rw [wst_1]) ?_
  refine lv_istore_n (lv' := [(2, .int ((fun o => sm (gnX su fa wf kd o) n) (wst (fun o => sm (gnX su fa wf kd o) n) 1))), (1, .int (nI (wst (fun o => sm (gnX su fa wf kd o) n) 1))), (0, .ref (ad 0))]) hx hb dX2_worstOutcome_7 rfl hl (by decide) rfl (fun ls hl => ?_)
  refine lv_iconst (v := nI 1) hx hb dX2_worstOutcome_8 (by first | decide | rfl) ?_
  refine lv_istore_n (lv' := [(3, .int (nI 1)), (2, .int ((fun o => sm (gnX su fa wf kd o) n) (wst (fun o => sm (gnX su fa wf kd o) n) 1))), (1, .int (nI (wst (fun o => sm (gnX su fa wf kd o) n) 1))), (0, .ref (ad 0))]) hx hb dX2_worstOutcome_9 rfl hl (by decide) rfl (fun ls hl => ?_)
  have loop10 : ∀ (n9 : Nat) (i : Nat) (ls : Array Slot), i ≤ N → N + 1 ≤ i + n9 → 1 ≤ i → lv_has ls 5 [(0, .ref (ad 0)), (1, .int (nI (wst (fun o => sm (gnX su fa wf kd o) n) i))), (2, .int ((fun o => sm (gnX su fa wf kd o) n) (wst (fun o => sm (gnX su fa wf kd o) n) i))), (3, .int (nI i))] → RdW p l e 5 s m [.ref (ad 0)] below meth c H (some (.int (nI (wst (fun o => sm (gnX su fa wf kd o) n) N)))) (F0 m 10 ls []) := by
    intro n9
    induction n9 with
    | zero => intro i  ls hi hf h1 hl; exact absurd hf (by omega)
    | succ n9 ih10 =>
      intro i  ls hi hf h1 hl
      refine lv_iload_n hx hb dX2_worstOutcome_10 rfl (lv_at hl 3 rfl) ?_
      refine lv_aload_n hx hb dX2_worstOutcome_11 rfl (lv_at hl 0 rfl) ?_
      refine va_get (D := D) (ci := 3) (v := .ref (ad 1)) (C := RX2) (T := TX2) (N := 5) hx hb hts inlX2 hown hK hP 0 rfl rfl 0 (by decide) (hts (Cond.fieldLink RX2 12 "TavernDice" "dice" "LTavernDice$Dice;") mw_1_17) (fun _ h9 => h9) rfl dX2_worstOutcome_12 ?_
      refine va_get (D := D) (ci := 1) (v := .int (nI N)) (C := RX0) (T := TX0) (N := 4) hx hb hts inlX0 hown hK hP 1 rfl rfl 3 (by decide) (hts (Cond.fieldLink RX2 58 "TavernDice$Dice" "outcomes" "I") mw_4_22) (fun _ h9 => h9) rfl dX2_worstOutcome_15 ?_
      refine lv_icmp_ge (tgt := 45) hx hb dX2_worstOutcome_18 (by decide) (fun c_1 => ?_) (fun c_1 => ?_)
      · refine lv_iload_n hx hb dX2_worstOutcome_45 rfl (lv_at hl 1 rfl) ?_
        exact rd_iret hH hx hb hr hlocks (rv (by rw [show i = N from (by have g := (nI_leI (by omega) (by omega)).mp c_1; omega)])) dX2_worstOutcome_46
      · have hlt : i < N := by
          rcases Nat.lt_or_ge i N with q | q
          · exact q
          · exact absurd (nI_le q (by omega)) c_1
        refine lv_aload_n hx hb dX2_worstOutcome_21 rfl (lv_at hl 0 rfl) ?_
        refine lv_iload_n hx hb dX2_worstOutcome_22 rfl (lv_at hl 3 rfl) ?_
        refine rdV (As := [.int (nI i)]) (rest := []) (b := ad 0) ⟨hx, hb, hml, hown, hts⟩ hK 1 (c_gainOfAll l D cs H RR0 i (by omega)) (gin_v mw_17_0 mw_17_1 mw_17_2 mw_1_2 mw_17_3) (by decide +kernel) ⟨Nat.le_of_ble_eq_true rfl, Nat.le_of_ble_eq_true rfl⟩ (va_recv hK hP (ci := 3) (q0 := 0) rfl rfl) rfl hl.1 rfl (Nat.le_of_ble_eq_true rfl) dX2_worstOutcome_23 ⟨(Nat.zero_le _), (Nat.zero_le _)⟩ ?_
        refine W.eq (g2 := F0 m 26 ls [.int (sm (gnX su fa wf kd i) n)]) rfl ?_
        refine lv_rwi (y := (fun o => sm (gnX su fa wf kd o) n) i) (rfl) ?_
        refine lv_istore (lv' := [(4, .int ((fun o => sm (gnX su fa wf kd o) n) i)), (0, .ref (ad 0)), (1, .int (nI (wst (fun o => sm (gnX su fa wf kd o) n) i))), (2, .int ((fun o => sm (gnX su fa wf kd o) n) (wst (fun o => sm (gnX su fa wf kd o) n) i))), (3, .int (nI i))]) hx hb dX2_worstOutcome_26 hl (by decide) rfl (fun ls hl => ?_)
        refine lv_iload hx hb dX2_worstOutcome_28 (lv_at hl 0 rfl) ?_
        refine lv_iload_n hx hb dX2_worstOutcome_30 rfl (lv_at hl 3 rfl) ?_
        refine lv_icmp_ge (tgt := 39) hx hb dX2_worstOutcome_31 (by decide) (fun c_2 => ?_) (fun c_2 => ?_)
        · have hl : lv_has ls 5 [(4, .int ((fun o => sm (gnX su fa wf kd o) n) i)), (0, .ref (ad 0)), (1, .int (nI (wst (fun o => sm (gnX su fa wf kd o) n) (i + 1)))), (2, .int ((fun o => sm (gnX su fa wf kd o) n) (wst (fun o => sm (gnX su fa wf kd o) n) (i + 1)))), (3, .int (nI i))] := by rw [show wst (fun o => sm (gnX su fa wf kd o) n) (i + 1) = wst (fun o => sm (gnX su fa wf kd o) n) i from if_neg (fun z => absurd (fa_trans z c_2) Int32.lt_irrefl)]; exact hl
          refine lv_iinc (v := nI (i + 1)) (lv' := [(3, .int (nI (i + 1))), (4, .int ((fun o => sm (gnX su fa wf kd o) n) i)), (0, .ref (ad 0)), (1, .int (nI (wst (fun o => sm (gnX su fa wf kd o) n) (i + 1)))), (2, .int ((fun o => sm (gnX su fa wf kd o) n) (wst (fun o => sm (gnX su fa wf kd o) n) (i + 1))))]) hx hb dX2_worstOutcome_39 hl (k := 4) rfl (nI_1 i) (by decide) rfl (fun ls hl => ?_)
          refine lv_goto (tgt := 10) hx hb dX2_worstOutcome_42 (by decide) ?_
          exact ih10 (i + 1) ls (by omega) (by omega) (by omega) (lv_sub hl [2, 3, 4, 0] rfl)
        · refine lv_iload hx hb dX2_worstOutcome_34 (lv_at hl 0 rfl) ?_
          refine lv_istore_n (lv' := [(2, .int ((fun o => sm (gnX su fa wf kd o) n) i)), (4, .int ((fun o => sm (gnX su fa wf kd o) n) i)), (0, .ref (ad 0)), (1, .int (nI (wst (fun o => sm (gnX su fa wf kd o) n) i))), (3, .int (nI i))]) hx hb dX2_worstOutcome_36 rfl hl (by decide) rfl (fun ls hl => ?_)
          refine lv_iload_n hx hb dX2_worstOutcome_37 rfl (lv_at hl 4 rfl) ?_
          refine lv_istore_n (lv' := [(1, .int (nI i)), (2, .int ((fun o => sm (gnX su fa wf kd o) n) i)), (4, .int ((fun o => sm (gnX su fa wf kd o) n) i)), (0, .ref (ad 0)), (3, .int (nI i))]) hx hb dX2_worstOutcome_38 rfl hl (by decide) rfl (fun ls hl => ?_)
          have hl : lv_has ls 5 [(1, .int (nI (wst (fun o => sm (gnX su fa wf kd o) n) (i + 1)))), (2, .int ((fun o => sm (gnX su fa wf kd o) n) (wst (fun o => sm (gnX su fa wf kd o) n) (i + 1)))), (4, .int ((fun o => sm (gnX su fa wf kd o) n) i)), (0, .ref (ad 0)), (3, .int (nI i))] := by rw [show wst (fun o => sm (gnX su fa wf kd o) n) (i + 1) = i from if_pos (fa_of_nle c_2)]; exact hl
          refine lv_iinc (v := nI (i + 1)) (lv' := [(3, .int (nI (i + 1))), (1, .int (nI (wst (fun o => sm (gnX su fa wf kd o) n) (i + 1)))), (2, .int ((fun o => sm (gnX su fa wf kd o) n) (wst (fun o => sm (gnX su fa wf kd o) n) (i + 1)))), (4, .int ((fun o => sm (gnX su fa wf kd o) n) i)), (0, .ref (ad 0))]) hx hb dX2_worstOutcome_39 hl (k := 4) rfl (nI_1 i) (by decide) rfl (fun ls hl => ?_)
          refine lv_goto (tgt := 10) hx hb dX2_worstOutcome_42 (by decide) ?_
          exact ih10 (i + 1) ls (by omega) (by omega) (by omega) (lv_sub hl [4, 1, 2, 0] rfl)
  exact loop10 N 1 ls hN1 (by omega) (Nat.le_refl 1) (lv_sub hl [3, 2, 1, 0] rfl)
end
