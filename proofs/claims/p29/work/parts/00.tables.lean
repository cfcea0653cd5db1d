section MG0x0
-- ===== PART A: goes FIRST, ahead of the names: the tables' words, and 'selects' of the private methods out of them =====
/-- a private method of a class that the tables say can be made, by its rows of tables_1 -/
def lw_okq (q : MethodName × Nat) : Prop := (q.1.cls ≠ "java/lang/invoke/MethodHandle" ∧ q.1.cls ≠ "java/lang/invoke/VarHandle") ∧ Cond.instantiable q.1.cls q.2 ∈ tables_1 ∧ Cond.privateMethod q.1 ∈ tables_1 ∧ Cond.instanceMethod q.1 ∈ tables_1
theorem lw_p0 : lw_okq (⟨"CookedLaw$Tokens", "cutOne", "(LCookedLaw$Tape;II)I"⟩, 4) := ⟨⟨by decide +kernel, by decide +kernel⟩, List.mem_of_getElem? (i := 51) (by decide +kernel), List.mem_of_getElem? (i := 540) (by decide +kernel), List.mem_of_getElem? (i := 541) (by decide +kernel)⟩
theorem lw_p1 : lw_okq (⟨"CookedLaw$Tokens", "cutLetters", "(LCookedLaw$Tape;II)I"⟩, 4) := ⟨⟨by decide +kernel, by decide +kernel⟩, List.mem_of_getElem? (i := 51) (by decide +kernel), List.mem_of_getElem? (i := 544) (by decide +kernel), List.mem_of_getElem? (i := 545) (by decide +kernel)⟩
theorem lw_p2 : lw_okq (⟨"CookedLaw$Tokens", "kindOf", "(J)I"⟩, 4) := ⟨⟨by decide +kernel, by decide +kernel⟩, List.mem_of_getElem? (i := 51) (by decide +kernel), List.mem_of_getElem? (i := 548) (by decide +kernel), List.mem_of_getElem? (i := 549) (by decide +kernel)⟩
theorem lw_p3 : lw_okq (⟨"CookedLaw$Tokens", "set", "(IIJ)V"⟩, 4) := ⟨⟨by decide +kernel, by decide +kernel⟩, List.mem_of_getElem? (i := 51) (by decide +kernel), List.mem_of_getElem? (i := 552) (by decide +kernel), List.mem_of_getElem? (i := 553) (by decide +kernel)⟩
theorem lw_p4 : lw_okq (⟨"CookedLaw$Tokens", "cutDigits", "(LCookedLaw$Tape;II)I"⟩, 4) := ⟨⟨by decide +kernel, by decide +kernel⟩, List.mem_of_getElem? (i := 51) (by decide +kernel), List.mem_of_getElem? (i := 556) (by decide +kernel), List.mem_of_getElem? (i := 557) (by decide +kernel)⟩
theorem lw_p5 : lw_okq (⟨"CookedLaw$Reader", "is", "(I)Z"⟩, 12) := ⟨⟨by decide +kernel, by decide +kernel⟩, List.mem_of_getElem? (i := 45) (by decide +kernel), List.mem_of_getElem? (i := 576) (by decide +kernel), List.mem_of_getElem? (i := 577) (by decide +kernel)⟩
theorem lw_p6 : lw_okq (⟨"CookedLaw$Reader", "takeFood", "(LCookedLaw$Land;)V"⟩, 12) := ⟨⟨by decide +kernel, by decide +kernel⟩, List.mem_of_getElem? (i := 45) (by decide +kernel), List.mem_of_getElem? (i := 583) (by decide +kernel), List.mem_of_getElem? (i := 584) (by decide +kernel)⟩
theorem lw_p7 : lw_okq (⟨"CookedLaw$Reader", "stop", "(I)V"⟩, 12) := ⟨⟨by decide +kernel, by decide +kernel⟩, List.mem_of_getElem? (i := 45) (by decide +kernel), List.mem_of_getElem? (i := 587) (by decide +kernel), List.mem_of_getElem? (i := 588) (by decide +kernel)⟩
theorem lw_p8 : lw_okq (⟨"CookedLaw$Reader", "take", "()V"⟩, 12) := ⟨⟨by decide +kernel, by decide +kernel⟩, List.mem_of_getElem? (i := 45) (by decide +kernel), List.mem_of_getElem? (i := 591) (by decide +kernel), List.mem_of_getElem? (i := 592) (by decide +kernel)⟩
theorem lw_p9 : lw_okq (⟨"CookedLaw$Reader", "takeNewName", "(I)V"⟩, 12) := ⟨⟨by decide +kernel, by decide +kernel⟩, List.mem_of_getElem? (i := 45) (by decide +kernel), List.mem_of_getElem? (i := 595) (by decide +kernel), List.mem_of_getElem? (i := 596) (by decide +kernel)⟩
theorem lw_p10 : lw_okq (⟨"CookedLaw$Reader", "indexOf", "(J)I"⟩, 12) := ⟨⟨by decide +kernel, by decide +kernel⟩, List.mem_of_getElem? (i := 45) (by decide +kernel), List.mem_of_getElem? (i := 603) (by decide +kernel), List.mem_of_getElem? (i := 604) (by decide +kernel)⟩
theorem lw_p11 : lw_okq (⟨"CookedLaw$Reader", "stopLate", "(I)V"⟩, 12) := ⟨⟨by decide +kernel, by decide +kernel⟩, List.mem_of_getElem? (i := 45) (by decide +kernel), List.mem_of_getElem? (i := 607) (by decide +kernel), List.mem_of_getElem? (i := 608) (by decide +kernel)⟩
theorem lw_p12 : lw_okq (⟨"CookedLaw$Reader", "need", "(I)V"⟩, 12) := ⟨⟨by decide +kernel, by decide +kernel⟩, List.mem_of_getElem? (i := 45) (by decide +kernel), List.mem_of_getElem? (i := 611) (by decide +kernel), List.mem_of_getElem? (i := 612) (by decide +kernel)⟩
theorem lw_p13 : lw_okq (⟨"CookedLaw$Reader", "takeInt", "(I)I"⟩, 12) := ⟨⟨by decide +kernel, by decide +kernel⟩, List.mem_of_getElem? (i := 45) (by decide +kernel), List.mem_of_getElem? (i := 615) (by decide +kernel), List.mem_of_getElem? (i := 616) (by decide +kernel)⟩
theorem lw_p14 : lw_okq (⟨"CookedLaw$Reader", "takeDish", "(LCookedLaw$Land;)V"⟩, 12) := ⟨⟨by decide +kernel, by decide +kernel⟩, List.mem_of_getElem? (i := 45) (by decide +kernel), List.mem_of_getElem? (i := 620) (by decide +kernel), List.mem_of_getElem? (i := 621) (by decide +kernel)⟩
theorem lw_p15 : lw_okq (⟨"CookedLaw$Reader", "takeIngredient", "(LCookedLaw$Land;I)V"⟩, 12) := ⟨⟨by decide +kernel, by decide +kernel⟩, List.mem_of_getElem? (i := 45) (by decide +kernel), List.mem_of_getElem? (i := 624) (by decide +kernel), List.mem_of_getElem? (i := 625) (by decide +kernel)⟩
def lw_privs_1 : List (MethodName × Nat) := [(⟨"CookedLaw$Tokens", "cutOne", "(LCookedLaw$Tape;II)I"⟩, 4), (⟨"CookedLaw$Tokens", "cutLetters", "(LCookedLaw$Tape;II)I"⟩, 4), (⟨"CookedLaw$Tokens", "kindOf", "(J)I"⟩, 4), (⟨"CookedLaw$Tokens", "set", "(IIJ)V"⟩, 4), (⟨"CookedLaw$Tokens", "cutDigits", "(LCookedLaw$Tape;II)I"⟩, 4), (⟨"CookedLaw$Reader", "is", "(I)Z"⟩, 12), (⟨"CookedLaw$Reader", "takeFood", "(LCookedLaw$Land;)V"⟩, 12), (⟨"CookedLaw$Reader", "stop", "(I)V"⟩, 12), (⟨"CookedLaw$Reader", "take", "()V"⟩, 12), (⟨"CookedLaw$Reader", "takeNewName", "(I)V"⟩, 12), (⟨"CookedLaw$Reader", "indexOf", "(J)I"⟩, 12), (⟨"CookedLaw$Reader", "stopLate", "(I)V"⟩, 12), (⟨"CookedLaw$Reader", "need", "(I)V"⟩, 12), (⟨"CookedLaw$Reader", "takeInt", "(I)I"⟩, 12), (⟨"CookedLaw$Reader", "takeDish", "(LCookedLaw$Land;)V"⟩, 12), (⟨"CookedLaw$Reader", "takeIngredient", "(LCookedLaw$Land;I)V"⟩, 12)]
theorem lw_r1 : ∀ q ∈ lw_privs_1, lw_okq q := List.forall_mem_cons.mpr ⟨lw_p0, List.forall_mem_cons.mpr ⟨lw_p1, List.forall_mem_cons.mpr ⟨lw_p2, List.forall_mem_cons.mpr ⟨lw_p3, List.forall_mem_cons.mpr ⟨lw_p4, List.forall_mem_cons.mpr ⟨lw_p5, List.forall_mem_cons.mpr ⟨lw_p6, List.forall_mem_cons.mpr ⟨lw_p7, List.forall_mem_cons.mpr ⟨lw_p8, List.forall_mem_cons.mpr ⟨lw_p9, List.forall_mem_cons.mpr ⟨lw_p10, List.forall_mem_cons.mpr ⟨lw_p11, List.forall_mem_cons.mpr ⟨lw_p12, List.forall_mem_cons.mpr ⟨lw_p13, List.forall_mem_cons.mpr ⟨lw_p14, List.forall_mem_cons.mpr ⟨lw_p15, fun _ h => absurd h List.not_mem_nil⟩⟩⟩⟩⟩⟩⟩⟩⟩⟩⟩⟩⟩⟩⟩⟩
theorem lw_p16 : lw_okq (⟨"CookedLaw$Reader", "takeGuest", "(LCookedLaw$Land;)V"⟩, 12) := ⟨⟨by decide +kernel, by decide +kernel⟩, List.mem_of_getElem? (i := 45) (by decide +kernel), List.mem_of_getElem? (i := 633) (by decide +kernel), List.mem_of_getElem? (i := 634) (by decide +kernel)⟩
theorem lw_p17 : lw_okq (⟨"CookedLaw$Reader", "takeDeed", "(LCookedLaw$Land;)V"⟩, 12) := ⟨⟨by decide +kernel, by decide +kernel⟩, List.mem_of_getElem? (i := 45) (by decide +kernel), List.mem_of_getElem? (i := 637) (by decide +kernel), List.mem_of_getElem? (i := 638) (by decide +kernel)⟩
theorem lw_p18 : lw_okq (⟨"CookedLaw$Reader", "takeLaw", "(LCookedLaw$Law;)V"⟩, 12) := ⟨⟨by decide +kernel, by decide +kernel⟩, List.mem_of_getElem? (i := 45) (by decide +kernel), List.mem_of_getElem? (i := 641) (by decide +kernel), List.mem_of_getElem? (i := 642) (by decide +kernel)⟩
theorem lw_p19 : lw_okq (⟨"CookedLaw$Reader", "takeSum", "(LCookedLaw$Law;)V"⟩, 12) := ⟨⟨by decide +kernel, by decide +kernel⟩, List.mem_of_getElem? (i := 45) (by decide +kernel), List.mem_of_getElem? (i := 646) (by decide +kernel), List.mem_of_getElem? (i := 647) (by decide +kernel)⟩
theorem lw_p20 : lw_okq (⟨"CookedLaw$Reader", "takeUnit", "(LCookedLaw$Law;)Z"⟩, 12) := ⟨⟨by decide +kernel, by decide +kernel⟩, List.mem_of_getElem? (i := 45) (by decide +kernel), List.mem_of_getElem? (i := 650) (by decide +kernel), List.mem_of_getElem? (i := 651) (by decide +kernel)⟩
theorem lw_p21 : lw_okq (⟨"CookedLaw$Reader", "holdSign", "(I)V"⟩, 12) := ⟨⟨by decide +kernel, by decide +kernel⟩, List.mem_of_getElem? (i := 45) (by decide +kernel), List.mem_of_getElem? (i := 654) (by decide +kernel), List.mem_of_getElem? (i := 655) (by decide +kernel)⟩
theorem lw_p22 : lw_okq (⟨"CookedLaw$Reader", "takeSign", "(LCookedLaw$Law;)V"⟩, 12) := ⟨⟨by decide +kernel, by decide +kernel⟩, List.mem_of_getElem? (i := 45) (by decide +kernel), List.mem_of_getElem? (i := 668) (by decide +kernel), List.mem_of_getElem? (i := 669) (by decide +kernel)⟩
theorem lw_p23 : lw_okq (⟨"CookedLaw$Reader", "layHeld", "(LCookedLaw$Law;I)V"⟩, 12) := ⟨⟨by decide +kernel, by decide +kernel⟩, List.mem_of_getElem? (i := 45) (by decide +kernel), List.mem_of_getElem? (i := 672) (by decide +kernel), List.mem_of_getElem? (i := 673) (by decide +kernel)⟩
theorem lw_p24 : lw_okq (⟨"CookedLaw$Reader", "takeClose", "(LCookedLaw$Law;)V"⟩, 12) := ⟨⟨by decide +kernel, by decide +kernel⟩, List.mem_of_getElem? (i := 45) (by decide +kernel), List.mem_of_getElem? (i := 676) (by decide +kernel), List.mem_of_getElem? (i := 677) (by decide +kernel)⟩
theorem lw_p25 : lw_okq (⟨"CookedLaw$Reader", "takeSeed", "(LCookedLaw$Land;)V"⟩, 12) := ⟨⟨by decide +kernel, by decide +kernel⟩, List.mem_of_getElem? (i := 45) (by decide +kernel), List.mem_of_getElem? (i := 690) (by decide +kernel), List.mem_of_getElem? (i := 691) (by decide +kernel)⟩
theorem lw_p26 : lw_okq (⟨"CookedLaw", "beginDraft", "()V"⟩, 12) := ⟨⟨by decide +kernel, by decide +kernel⟩, List.mem_of_getElem? (i := 21) (by decide +kernel), List.mem_of_getElem? (i := 698) (by decide +kernel), List.mem_of_getElem? (i := 699) (by decide +kernel)⟩
theorem lw_p27 : lw_okq (⟨"CookedLaw", "guestsFreeTo", "(I)I"⟩, 12) := ⟨⟨by decide +kernel, by decide +kernel⟩, List.mem_of_getElem? (i := 21) (by decide +kernel), List.mem_of_getElem? (i := 818) (by decide +kernel), List.mem_of_getElem? (i := 819) (by decide +kernel)⟩
theorem lw_p28 : lw_okq (⟨"CookedLaw$PotSearch", "fillFrom", "(LCookedLaw$State;II)V"⟩, 11) := ⟨⟨by decide +kernel, by decide +kernel⟩, List.mem_of_getElem? (i := 398) (by decide +kernel), List.mem_of_getElem? (i := 918) (by decide +kernel), List.mem_of_getElem? (i := 919) (by decide +kernel)⟩
theorem lw_p29 : lw_okq (⟨"CookedLaw$PotSearch", "weigh", "(LCookedLaw$Land;)V"⟩, 11) := ⟨⟨by decide +kernel, by decide +kernel⟩, List.mem_of_getElem? (i := 398) (by decide +kernel), List.mem_of_getElem? (i := 924) (by decide +kernel), List.mem_of_getElem? (i := 925) (by decide +kernel)⟩
theorem lw_p30 : lw_okq (⟨"CookedLaw$PotSearch", "tryHeats", "(LCookedLaw$Land;I)V"⟩, 11) := ⟨⟨by decide +kernel, by decide +kernel⟩, List.mem_of_getElem? (i := 398) (by decide +kernel), List.mem_of_getElem? (i := 930) (by decide +kernel), List.mem_of_getElem? (i := 931) (by decide +kernel)⟩
theorem lw_p31 : lw_okq (⟨"CookedLaw$PotSearch", "isEnough", "(LCookedLaw$Land;II)Z"⟩, 11) := ⟨⟨by decide +kernel, by decide +kernel⟩, List.mem_of_getElem? (i := 398) (by decide +kernel), List.mem_of_getElem? (i := 934) (by decide +kernel), List.mem_of_getElem? (i := 935) (by decide +kernel)⟩
def lw_privs_2 : List (MethodName × Nat) := [(⟨"CookedLaw$Reader", "takeGuest", "(LCookedLaw$Land;)V"⟩, 12), (⟨"CookedLaw$Reader", "takeDeed", "(LCookedLaw$Land;)V"⟩, 12), (⟨"CookedLaw$Reader", "takeLaw", "(LCookedLaw$Law;)V"⟩, 12), (⟨"CookedLaw$Reader", "takeSum", "(LCookedLaw$Law;)V"⟩, 12), (⟨"CookedLaw$Reader", "takeUnit", "(LCookedLaw$Law;)Z"⟩, 12), (⟨"CookedLaw$Reader", "holdSign", "(I)V"⟩, 12), (⟨"CookedLaw$Reader", "takeSign", "(LCookedLaw$Law;)V"⟩, 12), (⟨"CookedLaw$Reader", "layHeld", "(LCookedLaw$Law;I)V"⟩, 12), (⟨"CookedLaw$Reader", "takeClose", "(LCookedLaw$Law;)V"⟩, 12), (⟨"CookedLaw$Reader", "takeSeed", "(LCookedLaw$Land;)V"⟩, 12), (⟨"CookedLaw", "beginDraft", "()V"⟩, 12), (⟨"CookedLaw", "guestsFreeTo", "(I)I"⟩, 12), (⟨"CookedLaw$PotSearch", "fillFrom", "(LCookedLaw$State;II)V"⟩, 11), (⟨"CookedLaw$PotSearch", "weigh", "(LCookedLaw$Land;)V"⟩, 11), (⟨"CookedLaw$PotSearch", "tryHeats", "(LCookedLaw$Land;I)V"⟩, 11), (⟨"CookedLaw$PotSearch", "isEnough", "(LCookedLaw$Land;II)Z"⟩, 11)]
theorem lw_r2 : ∀ q ∈ lw_privs_2, lw_okq q := List.forall_mem_cons.mpr ⟨lw_p16, List.forall_mem_cons.mpr ⟨lw_p17, List.forall_mem_cons.mpr ⟨lw_p18, List.forall_mem_cons.mpr ⟨lw_p19, List.forall_mem_cons.mpr ⟨lw_p20, List.forall_mem_cons.mpr ⟨lw_p21, List.forall_mem_cons.mpr ⟨lw_p22, List.forall_mem_cons.mpr ⟨lw_p23, List.forall_mem_cons.mpr ⟨lw_p24, List.forall_mem_cons.mpr ⟨lw_p25, List.forall_mem_cons.mpr ⟨lw_p26, List.forall_mem_cons.mpr ⟨lw_p27, List.forall_mem_cons.mpr ⟨lw_p28, List.forall_mem_cons.mpr ⟨lw_p29, List.forall_mem_cons.mpr ⟨lw_p30, List.forall_mem_cons.mpr ⟨lw_p31, fun _ h => absurd h List.not_mem_nil⟩⟩⟩⟩⟩⟩⟩⟩⟩⟩⟩⟩⟩⟩⟩⟩
theorem lw_p32 : lw_okq (⟨"CookedLaw$PotSearch", "stepDown", "(LCookedLaw$State;)V"⟩, 11) := ⟨⟨by decide +kernel, by decide +kernel⟩, List.mem_of_getElem? (i := 398) (by decide +kernel), List.mem_of_getElem? (i := 940) (by decide +kernel), List.mem_of_getElem? (i := 941) (by decide +kernel)⟩
theorem lw_p33 : lw_okq (⟨"CookedLaw", "changeBy", "(II)I"⟩, 12) := ⟨⟨by decide +kernel, by decide +kernel⟩, List.mem_of_getElem? (i := 21) (by decide +kernel), List.mem_of_getElem? (i := 948) (by decide +kernel), List.mem_of_getElem? (i := 949) (by decide +kernel)⟩
theorem lw_p34 : lw_okq (⟨"CookedLaw", "freestDish", "(I)I"⟩, 12) := ⟨⟨by decide +kernel, by decide +kernel⟩, List.mem_of_getElem? (i := 21) (by decide +kernel), List.mem_of_getElem? (i := 959) (by decide +kernel), List.mem_of_getElem? (i := 960) (by decide +kernel)⟩
theorem lw_p35 : lw_okq (⟨"CookedLaw", "freeBehind", "(II)I"⟩, 12) := ⟨⟨by decide +kernel, by decide +kernel⟩, List.mem_of_getElem? (i := 21) (by decide +kernel), List.mem_of_getElem? (i := 963) (by decide +kernel), List.mem_of_getElem? (i := 964) (by decide +kernel)⟩
theorem lw_p36 : lw_okq (⟨"CookedLaw$MenuSearch", "lookUnfed", "(LCookedLaw$Land;LCookedLaw$State;II)V"⟩, 5) := ⟨⟨by decide +kernel, by decide +kernel⟩, List.mem_of_getElem? (i := 441) (by decide +kernel), List.mem_of_getElem? (i := 997) (by decide +kernel), List.mem_of_getElem? (i := 998) (by decide +kernel)⟩
theorem lw_p37 : lw_okq (⟨"CookedLaw$MenuSearch", "lookFed", "(LCookedLaw$Land;IIII)V"⟩, 5) := ⟨⟨by decide +kernel, by decide +kernel⟩, List.mem_of_getElem? (i := 441) (by decide +kernel), List.mem_of_getElem? (i := 1002) (by decide +kernel), List.mem_of_getElem? (i := 1003) (by decide +kernel)⟩
theorem lw_p38 : lw_okq (⟨"CookedLaw$MenuSearch", "mealsIfAllFree", "(I)I"⟩, 5) := ⟨⟨by decide +kernel, by decide +kernel⟩, List.mem_of_getElem? (i := 441) (by decide +kernel), List.mem_of_getElem? (i := 1011) (by decide +kernel), List.mem_of_getElem? (i := 1012) (by decide +kernel)⟩
theorem lw_p39 : lw_okq (⟨"CookedLaw$MenuSearch", "isFree", "(III)Z"⟩, 5) := ⟨⟨by decide +kernel, by decide +kernel⟩, List.mem_of_getElem? (i := 441) (by decide +kernel), List.mem_of_getElem? (i := 1016) (by decide +kernel), List.mem_of_getElem? (i := 1017) (by decide +kernel)⟩
theorem lw_p40 : lw_okq (⟨"CookedLaw$MenuSearch", "step", "(II)Z"⟩, 5) := ⟨⟨by decide +kernel, by decide +kernel⟩, List.mem_of_getElem? (i := 441) (by decide +kernel), List.mem_of_getElem? (i := 1021) (by decide +kernel), List.mem_of_getElem? (i := 1022) (by decide +kernel)⟩
theorem lw_p41 : lw_okq (⟨"CookedLaw$Told", "lay", "(LCookedLaw$Land;II)Z"⟩, 9) := ⟨⟨by decide +kernel, by decide +kernel⟩, List.mem_of_getElem? (i := 362) (by decide +kernel), List.mem_of_getElem? (i := 1069) (by decide +kernel), List.mem_of_getElem? (i := 1070) (by decide +kernel)⟩
theorem lw_p42 : lw_okq (⟨"CookedLaw$Told", "isAsKnown", "(LCookedLaw$Land;II)Z"⟩, 9) := ⟨⟨by decide +kernel, by decide +kernel⟩, List.mem_of_getElem? (i := 362) (by decide +kernel), List.mem_of_getElem? (i := 1077) (by decide +kernel), List.mem_of_getElem? (i := 1078) (by decide +kernel)⟩
theorem lw_p43 : lw_okq (⟨"CookedLaw$Told", "forceOf", "(LCookedLaw$Land;IIII)I"⟩, 9) := ⟨⟨by decide +kernel, by decide +kernel⟩, List.mem_of_getElem? (i := 362) (by decide +kernel), List.mem_of_getElem? (i := 1082) (by decide +kernel), List.mem_of_getElem? (i := 1083) (by decide +kernel)⟩
theorem lw_p44 : lw_okq (⟨"CookedLaw$Told", "mostAlike", "(LCookedLaw$Land;III)I"⟩, 9) := ⟨⟨by decide +kernel, by decide +kernel⟩, List.mem_of_getElem? (i := 362) (by decide +kernel), List.mem_of_getElem? (i := 1103) (by decide +kernel), List.mem_of_getElem? (i := 1104) (by decide +kernel)⟩
theorem lw_p45 : lw_okq (⟨"CookedLawModel", "plain", "(I)V"⟩, 71) := ⟨⟨by decide +kernel, by decide +kernel⟩, List.mem_of_getElem? (i := 1140) (by decide +kernel), List.mem_of_getElem? (i := 1146) (by decide +kernel), List.mem_of_getElem? (i := 1147) (by decide +kernel)⟩
theorem lw_p46 : lw_okq (⟨"CookedLawModel", "begins", "()V"⟩, 71) := ⟨⟨by decide +kernel, by decide +kernel⟩, List.mem_of_getElem? (i := 1140) (by decide +kernel), List.mem_of_getElem? (i := 1157) (by decide +kernel), List.mem_of_getElem? (i := 1158) (by decide +kernel)⟩
theorem lw_p47 : lw_okq (⟨"CookedLawModel", "keepsRow", "()V"⟩, 71) := ⟨⟨by decide +kernel, by decide +kernel⟩, List.mem_of_getElem? (i := 1140) (by decide +kernel), List.mem_of_getElem? (i := 1161) (by decide +kernel), List.mem_of_getElem? (i := 1162) (by decide +kernel)⟩
def lw_privs_3 : List (MethodName × Nat) := [(⟨"CookedLaw$PotSearch", "stepDown", "(LCookedLaw$State;)V"⟩, 11), (⟨"CookedLaw", "changeBy", "(II)I"⟩, 12), (⟨"CookedLaw", "freestDish", "(I)I"⟩, 12), (⟨"CookedLaw", "freeBehind", "(II)I"⟩, 12), (⟨"CookedLaw$MenuSearch", "lookUnfed", "(LCookedLaw$Land;LCookedLaw$State;II)V"⟩, 5), (⟨"CookedLaw$MenuSearch", "lookFed", "(LCookedLaw$Land;IIII)V"⟩, 5), (⟨"CookedLaw$MenuSearch", "mealsIfAllFree", "(I)I"⟩, 5), (⟨"CookedLaw$MenuSearch", "isFree", "(III)Z"⟩, 5), (⟨"CookedLaw$MenuSearch", "step", "(II)Z"⟩, 5), (⟨"CookedLaw$Told", "lay", "(LCookedLaw$Land;II)Z"⟩, 9), (⟨"CookedLaw$Told", "isAsKnown", "(LCookedLaw$Land;II)Z"⟩, 9), (⟨"CookedLaw$Told", "forceOf", "(LCookedLaw$Land;IIII)I"⟩, 9), (⟨"CookedLaw$Told", "mostAlike", "(LCookedLaw$Land;III)I"⟩, 9), (⟨"CookedLawModel", "plain", "(I)V"⟩, 71), (⟨"CookedLawModel", "begins", "()V"⟩, 71), (⟨"CookedLawModel", "keepsRow", "()V"⟩, 71)]
theorem lw_r3 : ∀ q ∈ lw_privs_3, lw_okq q := List.forall_mem_cons.mpr ⟨lw_p32, List.forall_mem_cons.mpr ⟨lw_p33, List.forall_mem_cons.mpr ⟨lw_p34, List.forall_mem_cons.mpr ⟨lw_p35, List.forall_mem_cons.mpr ⟨lw_p36, List.forall_mem_cons.mpr ⟨lw_p37, List.forall_mem_cons.mpr ⟨lw_p38, List.forall_mem_cons.mpr ⟨lw_p39, List.forall_mem_cons.mpr ⟨lw_p40, List.forall_mem_cons.mpr ⟨lw_p41, List.forall_mem_cons.mpr ⟨lw_p42, List.forall_mem_cons.mpr ⟨lw_p43, List.forall_mem_cons.mpr ⟨lw_p44, List.forall_mem_cons.mpr ⟨lw_p45, List.forall_mem_cons.mpr ⟨lw_p46, List.forall_mem_cons.mpr ⟨lw_p47, fun _ h => absurd h List.not_mem_nil⟩⟩⟩⟩⟩⟩⟩⟩⟩⟩⟩⟩⟩⟩⟩⟩
theorem lw_p48 : lw_okq (⟨"CookedLawModel", "put", "(I)V"⟩, 71) := ⟨⟨by decide +kernel, by decide +kernel⟩, List.mem_of_getElem? (i := 1140) (by decide +kernel), List.mem_of_getElem? (i := 1382) (by decide +kernel), List.mem_of_getElem? (i := 1383) (by decide +kernel)⟩
theorem lw_p49 : lw_okq (⟨"CookedLawModel", "cut", "()V"⟩, 71) := ⟨⟨by decide +kernel, by decide +kernel⟩, List.mem_of_getElem? (i := 1140) (by decide +kernel), List.mem_of_getElem? (i := 1394) (by decide +kernel), List.mem_of_getElem? (i := 1395) (by decide +kernel)⟩
theorem lw_p50 : lw_okq (⟨"CookedLawModel", "byteAt", "(I)I"⟩, 71) := ⟨⟨by decide +kernel, by decide +kernel⟩, List.mem_of_getElem? (i := 1140) (by decide +kernel), List.mem_of_getElem? (i := 1398) (by decide +kernel), List.mem_of_getElem? (i := 1399) (by decide +kernel)⟩
theorem lw_p51 : lw_okq (⟨"CookedLawModel", "token", "(IIIJ)V"⟩, 71) := ⟨⟨by decide +kernel, by decide +kernel⟩, List.mem_of_getElem? (i := 1140) (by decide +kernel), List.mem_of_getElem? (i := 1402) (by decide +kernel), List.mem_of_getElem? (i := 1403) (by decide +kernel)⟩
theorem lw_p52 : lw_okq (⟨"CookedLawModel", "sign", "(III)I"⟩, 71) := ⟨⟨by decide +kernel, by decide +kernel⟩, List.mem_of_getElem? (i := 1140) (by decide +kernel), List.mem_of_getElem? (i := 1412) (by decide +kernel), List.mem_of_getElem? (i := 1413) (by decide +kernel)⟩
theorem lw_p53 : lw_okq (⟨"CookedLawModel", "is", "(I)Z"⟩, 71) := ⟨⟨by decide +kernel, by decide +kernel⟩, List.mem_of_getElem? (i := 1140) (by decide +kernel), List.mem_of_getElem? (i := 1416) (by decide +kernel), List.mem_of_getElem? (i := 1417) (by decide +kernel)⟩
theorem lw_p54 : lw_okq (⟨"CookedLawModel", "tellOne", "()V"⟩, 71) := ⟨⟨by decide +kernel, by decide +kernel⟩, List.mem_of_getElem? (i := 1140) (by decide +kernel), List.mem_of_getElem? (i := 1420) (by decide +kernel), List.mem_of_getElem? (i := 1421) (by decide +kernel)⟩
theorem lw_p55 : lw_okq (⟨"CookedLawModel", "roomFor", "(II)V"⟩, 71) := ⟨⟨by decide +kernel, by decide +kernel⟩, List.mem_of_getElem? (i := 1140) (by decide +kernel), List.mem_of_getElem? (i := 1424) (by decide +kernel), List.mem_of_getElem? (i := 1425) (by decide +kernel)⟩
theorem lw_p56 : lw_okq (⟨"CookedLawModel", "fail", "(I)V"⟩, 71) := ⟨⟨by decide +kernel, by decide +kernel⟩, List.mem_of_getElem? (i := 1140) (by decide +kernel), List.mem_of_getElem? (i := 1428) (by decide +kernel), List.mem_of_getElem? (i := 1429) (by decide +kernel)⟩
theorem lw_p57 : lw_okq (⟨"CookedLawModel", "goesOn", "()V"⟩, 71) := ⟨⟨by decide +kernel, by decide +kernel⟩, List.mem_of_getElem? (i := 1140) (by decide +kernel), List.mem_of_getElem? (i := 1432) (by decide +kernel), List.mem_of_getElem? (i := 1433) (by decide +kernel)⟩
theorem lw_p58 : lw_okq (⟨"CookedLawModel", "tellFood", "()V"⟩, 71) := ⟨⟨by decide +kernel, by decide +kernel⟩, List.mem_of_getElem? (i := 1140) (by decide +kernel), List.mem_of_getElem? (i := 1436) (by decide +kernel), List.mem_of_getElem? (i := 1437) (by decide +kernel)⟩
theorem lw_p59 : lw_okq (⟨"CookedLawModel", "named", "()I"⟩, 71) := ⟨⟨by decide +kernel, by decide +kernel⟩, List.mem_of_getElem? (i := 1140) (by decide +kernel), List.mem_of_getElem? (i := 1440) (by decide +kernel), List.mem_of_getElem? (i := 1441) (by decide +kernel)⟩
theorem lw_p60 : lw_okq (⟨"CookedLawModel", "must", "(I)V"⟩, 71) := ⟨⟨by decide +kernel, by decide +kernel⟩, List.mem_of_getElem? (i := 1140) (by decide +kernel), List.mem_of_getElem? (i := 1444) (by decide +kernel), List.mem_of_getElem? (i := 1445) (by decide +kernel)⟩
theorem lw_p61 : lw_okq (⟨"CookedLawModel", "wrong", "(II)V"⟩, 71) := ⟨⟨by decide +kernel, by decide +kernel⟩, List.mem_of_getElem? (i := 1140) (by decide +kernel), List.mem_of_getElem? (i := 1448) (by decide +kernel), List.mem_of_getElem? (i := 1449) (by decide +kernel)⟩
theorem lw_p62 : lw_okq (⟨"CookedLawModel", "bounded", "(II)I"⟩, 71) := ⟨⟨by decide +kernel, by decide +kernel⟩, List.mem_of_getElem? (i := 1140) (by decide +kernel), List.mem_of_getElem? (i := 1452) (by decide +kernel), List.mem_of_getElem? (i := 1453) (by decide +kernel)⟩
theorem lw_p63 : lw_okq (⟨"CookedLawModel", "ends", "(II)V"⟩, 71) := ⟨⟨by decide +kernel, by decide +kernel⟩, List.mem_of_getElem? (i := 1140) (by decide +kernel), List.mem_of_getElem? (i := 1456) (by decide +kernel), List.mem_of_getElem? (i := 1457) (by decide +kernel)⟩
def lw_privs_4 : List (MethodName × Nat) := [(⟨"CookedLawModel", "put", "(I)V"⟩, 71), (⟨"CookedLawModel", "cut", "()V"⟩, 71), (⟨"CookedLawModel", "byteAt", "(I)I"⟩, 71), (⟨"CookedLawModel", "token", "(IIIJ)V"⟩, 71), (⟨"CookedLawModel", "sign", "(III)I"⟩, 71), (⟨"CookedLawModel", "is", "(I)Z"⟩, 71), (⟨"CookedLawModel", "tellOne", "()V"⟩, 71), (⟨"CookedLawModel", "roomFor", "(II)V"⟩, 71), (⟨"CookedLawModel", "fail", "(I)V"⟩, 71), (⟨"CookedLawModel", "goesOn", "()V"⟩, 71), (⟨"CookedLawModel", "tellFood", "()V"⟩, 71), (⟨"CookedLawModel", "named", "()I"⟩, 71), (⟨"CookedLawModel", "must", "(I)V"⟩, 71), (⟨"CookedLawModel", "wrong", "(II)V"⟩, 71), (⟨"CookedLawModel", "bounded", "(II)I"⟩, 71), (⟨"CookedLawModel", "ends", "(II)V"⟩, 71)]
theorem lw_r4 : ∀ q ∈ lw_privs_4, lw_okq q := List.forall_mem_cons.mpr ⟨lw_p48, List.forall_mem_cons.mpr ⟨lw_p49, List.forall_mem_cons.mpr ⟨lw_p50, List.forall_mem_cons.mpr ⟨lw_p51, List.forall_mem_cons.mpr ⟨lw_p52, List.forall_mem_cons.mpr ⟨lw_p53, List.forall_mem_cons.mpr ⟨lw_p54, List.forall_mem_cons.mpr ⟨lw_p55, List.forall_mem_cons.mpr ⟨lw_p56, List.forall_mem_cons.mpr ⟨lw_p57, List.forall_mem_cons.mpr ⟨lw_p58, List.forall_mem_cons.mpr ⟨lw_p59, List.forall_mem_cons.mpr ⟨lw_p60, List.forall_mem_cons.mpr ⟨lw_p61, List.forall_mem_cons.mpr ⟨lw_p62, List.forall_mem_cons.mpr ⟨lw_p63, fun _ h => absurd h List.not_mem_nil⟩⟩⟩⟩⟩⟩⟩⟩⟩⟩⟩⟩⟩⟩⟩⟩
theorem lw_p64 : lw_okq (⟨"CookedLawModel", "tellDish", "()V"⟩, 71) := ⟨⟨by decide +kernel, by decide +kernel⟩, List.mem_of_getElem? (i := 1140) (by decide +kernel), List.mem_of_getElem? (i := 1460) (by decide +kernel), List.mem_of_getElem? (i := 1461) (by decide +kernel)⟩
theorem lw_p65 : lw_okq (⟨"CookedLawModel", "knownFood", "()I"⟩, 71) := ⟨⟨by decide +kernel, by decide +kernel⟩, List.mem_of_getElem? (i := 1140) (by decide +kernel), List.mem_of_getElem? (i := 1464) (by decide +kernel), List.mem_of_getElem? (i := 1465) (by decide +kernel)⟩
theorem lw_p66 : lw_okq (⟨"CookedLawModel", "tellLaw", "(I)V"⟩, 71) := ⟨⟨by decide +kernel, by decide +kernel⟩, List.mem_of_getElem? (i := 1140) (by decide +kernel), List.mem_of_getElem? (i := 1468) (by decide +kernel), List.mem_of_getElem? (i := 1469) (by decide +kernel)⟩
theorem lw_p67 : lw_okq (⟨"CookedLawModel", "expression", "()V"⟩, 71) := ⟨⟨by decide +kernel, by decide +kernel⟩, List.mem_of_getElem? (i := 1140) (by decide +kernel), List.mem_of_getElem? (i := 1472) (by decide +kernel), List.mem_of_getElem? (i := 1473) (by decide +kernel)⟩
theorem lw_p68 : lw_okq (⟨"CookedLawModel", "unit", "()V"⟩, 71) := ⟨⟨by decide +kernel, by decide +kernel⟩, List.mem_of_getElem? (i := 1140) (by decide +kernel), List.mem_of_getElem? (i := 1476) (by decide +kernel), List.mem_of_getElem? (i := 1477) (by decide +kernel)⟩
theorem lw_p69 : lw_okq (⟨"CookedLawModel", "emit", "(II)V"⟩, 71) := ⟨⟨by decide +kernel, by decide +kernel⟩, List.mem_of_getElem? (i := 1140) (by decide +kernel), List.mem_of_getElem? (i := 1480) (by decide +kernel), List.mem_of_getElem? (i := 1481) (by decide +kernel)⟩
theorem lw_p70 : lw_okq (⟨"CookedLawModel", "comesOut", "(Z)V"⟩, 71) := ⟨⟨by decide +kernel, by decide +kernel⟩, List.mem_of_getElem? (i := 1140) (by decide +kernel), List.mem_of_getElem? (i := 1484) (by decide +kernel), List.mem_of_getElem? (i := 1485) (by decide +kernel)⟩
theorem lw_p71 : lw_okq (⟨"CookedLawModel", "term", "()V"⟩, 71) := ⟨⟨by decide +kernel, by decide +kernel⟩, List.mem_of_getElem? (i := 1140) (by decide +kernel), List.mem_of_getElem? (i := 1488) (by decide +kernel), List.mem_of_getElem? (i := 1489) (by decide +kernel)⟩
theorem lw_p72 : lw_okq (⟨"CookedLawModel", "isFood", "(I)Z"⟩, 71) := ⟨⟨by decide +kernel, by decide +kernel⟩, List.mem_of_getElem? (i := 1140) (by decide +kernel), List.mem_of_getElem? (i := 1500) (by decide +kernel), List.mem_of_getElem? (i := 1501) (by decide +kernel)⟩
theorem lw_p73 : lw_okq (⟨"CookedLawModel", "isDish", "(I)Z"⟩, 71) := ⟨⟨by decide +kernel, by decide +kernel⟩, List.mem_of_getElem? (i := 1140) (by decide +kernel), List.mem_of_getElem? (i := 1511) (by decide +kernel), List.mem_of_getElem? (i := 1512) (by decide +kernel)⟩
theorem lw_p74 : lw_okq (⟨"CookedLawModel", "copies", "()V"⟩, 71) := ⟨⟨by decide +kernel, by decide +kernel⟩, List.mem_of_getElem? (i := 1140) (by decide +kernel), List.mem_of_getElem? (i := 1515) (by decide +kernel), List.mem_of_getElem? (i := 1516) (by decide +kernel)⟩
theorem lw_p75 : lw_okq (⟨"CookedLawModel", "fillsPot", "(I)V"⟩, 71) := ⟨⟨by decide +kernel, by decide +kernel⟩, List.mem_of_getElem? (i := 1140) (by decide +kernel), List.mem_of_getElem? (i := 1519) (by decide +kernel), List.mem_of_getElem? (i := 1520) (by decide +kernel)⟩
theorem lw_p76 : lw_okq (⟨"CookedLawModel", "potMany", "()I"⟩, 71) := ⟨⟨by decide +kernel, by decide +kernel⟩, List.mem_of_getElem? (i := 1140) (by decide +kernel), List.mem_of_getElem? (i := 1523) (by decide +kernel), List.mem_of_getElem? (i := 1524) (by decide +kernel)⟩
theorem lw_p77 : lw_okq (⟨"CookedLawModel", "potPrice", "()I"⟩, 71) := ⟨⟨by decide +kernel, by decide +kernel⟩, List.mem_of_getElem? (i := 1140) (by decide +kernel), List.mem_of_getElem? (i := 1527) (by decide +kernel), List.mem_of_getElem? (i := 1528) (by decide +kernel)⟩
theorem lw_p78 : lw_okq (⟨"CookedLawModel", "forceBy", "(II)I"⟩, 71) := ⟨⟨by decide +kernel, by decide +kernel⟩, List.mem_of_getElem? (i := 1140) (by decide +kernel), List.mem_of_getElem? (i := 1531) (by decide +kernel), List.mem_of_getElem? (i := 1532) (by decide +kernel)⟩
theorem lw_p79 : lw_okq (⟨"CookedLawModel", "looks", "()V"⟩, 71) := ⟨⟨by decide +kernel, by decide +kernel⟩, List.mem_of_getElem? (i := 1140) (by decide +kernel), List.mem_of_getElem? (i := 1535) (by decide +kernel), List.mem_of_getElem? (i := 1536) (by decide +kernel)⟩
def lw_privs_5 : List (MethodName × Nat) := [(⟨"CookedLawModel", "tellDish", "()V"⟩, 71), (⟨"CookedLawModel", "knownFood", "()I"⟩, 71), (⟨"CookedLawModel", "tellLaw", "(I)V"⟩, 71), (⟨"CookedLawModel", "expression", "()V"⟩, 71), (⟨"CookedLawModel", "unit", "()V"⟩, 71), (⟨"CookedLawModel", "emit", "(II)V"⟩, 71), (⟨"CookedLawModel", "comesOut", "(Z)V"⟩, 71), (⟨"CookedLawModel", "term", "()V"⟩, 71), (⟨"CookedLawModel", "isFood", "(I)Z"⟩, 71), (⟨"CookedLawModel", "isDish", "(I)Z"⟩, 71), (⟨"CookedLawModel", "copies", "()V"⟩, 71), (⟨"CookedLawModel", "fillsPot", "(I)V"⟩, 71), (⟨"CookedLawModel", "potMany", "()I"⟩, 71), (⟨"CookedLawModel", "potPrice", "()I"⟩, 71), (⟨"CookedLawModel", "forceBy", "(II)I"⟩, 71), (⟨"CookedLawModel", "looks", "()V"⟩, 71)]
theorem lw_r5 : ∀ q ∈ lw_privs_5, lw_okq q := List.forall_mem_cons.mpr ⟨lw_p64, List.forall_mem_cons.mpr ⟨lw_p65, List.forall_mem_cons.mpr ⟨lw_p66, List.forall_mem_cons.mpr ⟨lw_p67, List.forall_mem_cons.mpr ⟨lw_p68, List.forall_mem_cons.mpr ⟨lw_p69, List.forall_mem_cons.mpr ⟨lw_p70, List.forall_mem_cons.mpr ⟨lw_p71, List.forall_mem_cons.mpr ⟨lw_p72, List.forall_mem_cons.mpr ⟨lw_p73, List.forall_mem_cons.mpr ⟨lw_p74, List.forall_mem_cons.mpr ⟨lw_p75, List.forall_mem_cons.mpr ⟨lw_p76, List.forall_mem_cons.mpr ⟨lw_p77, List.forall_mem_cons.mpr ⟨lw_p78, List.forall_mem_cons.mpr ⟨lw_p79, fun _ h => absurd h List.not_mem_nil⟩⟩⟩⟩⟩⟩⟩⟩⟩⟩⟩⟩⟩⟩⟩⟩
theorem lw_p80 : lw_okq (⟨"CookedLawModel", "asks", "(IIII)I"⟩, 71) := ⟨⟨by decide +kernel, by decide +kernel⟩, List.mem_of_getElem? (i := 1140) (by decide +kernel), List.mem_of_getElem? (i := 1539) (by decide +kernel), List.mem_of_getElem? (i := 1540) (by decide +kernel)⟩
theorem lw_p81 : lw_okq (⟨"CookedLawModel", "lawTells", "(I)I"⟩, 71) := ⟨⟨by decide +kernel, by decide +kernel⟩, List.mem_of_getElem? (i := 1140) (by decide +kernel), List.mem_of_getElem? (i := 1543) (by decide +kernel), List.mem_of_getElem? (i := 1544) (by decide +kernel)⟩
theorem lw_p82 : lw_okq (⟨"CookedLawModel", "termOf", "(II)I"⟩, 71) := ⟨⟨by decide +kernel, by decide +kernel⟩, List.mem_of_getElem? (i := 1140) (by decide +kernel), List.mem_of_getElem? (i := 1547) (by decide +kernel), List.mem_of_getElem? (i := 1548) (by decide +kernel)⟩
theorem lw_p83 : lw_okq (⟨"CookedLawModel", "isGuest", "(I)Z"⟩, 71) := ⟨⟨by decide +kernel, by decide +kernel⟩, List.mem_of_getElem? (i := 1140) (by decide +kernel), List.mem_of_getElem? (i := 1562) (by decide +kernel), List.mem_of_getElem? (i := 1563) (by decide +kernel)⟩
theorem lw_p84 : lw_okq (⟨"CookedLawModel", "boundNow", "(II)I"⟩, 71) := ⟨⟨by decide +kernel, by decide +kernel⟩, List.mem_of_getElem? (i := 1140) (by decide +kernel), List.mem_of_getElem? (i := 1566) (by decide +kernel), List.mem_of_getElem? (i := 1567) (by decide +kernel)⟩
theorem lw_p85 : lw_okq (⟨"CookedLawModel", "boundBy", "(IIII)I"⟩, 71) := ⟨⟨by decide +kernel, by decide +kernel⟩, List.mem_of_getElem? (i := 1140) (by decide +kernel), List.mem_of_getElem? (i := 1570) (by decide +kernel), List.mem_of_getElem? (i := 1571) (by decide +kernel)⟩
theorem lw_p86 : lw_okq (⟨"CookedLawModel", "isDeed", "(I)Z"⟩, 71) := ⟨⟨by decide +kernel, by decide +kernel⟩, List.mem_of_getElem? (i := 1140) (by decide +kernel), List.mem_of_getElem? (i := 1578) (by decide +kernel), List.mem_of_getElem? (i := 1579) (by decide +kernel)⟩
theorem lw_p87 : lw_okq (⟨"CookedLawModel", "isFree", "(II)Z"⟩, 71) := ⟨⟨by decide +kernel, by decide +kernel⟩, List.mem_of_getElem? (i := 1140) (by decide +kernel), List.mem_of_getElem? (i := 1582) (by decide +kernel), List.mem_of_getElem? (i := 1583) (by decide +kernel)⟩
theorem lw_p88 : lw_okq (⟨"CookedLawModel", "isInStore", "(I)Z"⟩, 71) := ⟨⟨by decide +kernel, by decide +kernel⟩, List.mem_of_getElem? (i := 1140) (by decide +kernel), List.mem_of_getElem? (i := 1590) (by decide +kernel), List.mem_of_getElem? (i := 1591) (by decide +kernel)⟩
theorem lw_p89 : lw_okq (⟨"CookedLawModel", "cooks", "(I)I"⟩, 71) := ⟨⟨by decide +kernel, by decide +kernel⟩, List.mem_of_getElem? (i := 1140) (by decide +kernel), List.mem_of_getElem? (i := 1594) (by decide +kernel), List.mem_of_getElem? (i := 1595) (by decide +kernel)⟩
theorem lw_p90 : lw_okq (⟨"CookedLawModel", "lotOf", "(II)I"⟩, 71) := ⟨⟨by decide +kernel, by decide +kernel⟩, List.mem_of_getElem? (i := 1140) (by decide +kernel), List.mem_of_getElem? (i := 1598) (by decide +kernel), List.mem_of_getElem? (i := 1599) (by decide +kernel)⟩
theorem lw_p91 : lw_okq (⟨"CookedLawModel", "records", "()V"⟩, 71) := ⟨⟨by decide +kernel, by decide +kernel⟩, List.mem_of_getElem? (i := 1140) (by decide +kernel), List.mem_of_getElem? (i := 1606) (by decide +kernel), List.mem_of_getElem? (i := 1607) (by decide +kernel)⟩
theorem lw_p92 : lw_okq (⟨"CookedLawModel", "freeBits", "(I)I"⟩, 71) := ⟨⟨by decide +kernel, by decide +kernel⟩, List.mem_of_getElem? (i := 1140) (by decide +kernel), List.mem_of_getElem? (i := 1614) (by decide +kernel), List.mem_of_getElem? (i := 1615) (by decide +kernel)⟩
theorem lw_p93 : lw_okq (⟨"CookedLawModel", "goes", "(I)V"⟩, 71) := ⟨⟨by decide +kernel, by decide +kernel⟩, List.mem_of_getElem? (i := 1140) (by decide +kernel), List.mem_of_getElem? (i := 1622) (by decide +kernel), List.mem_of_getElem? (i := 1623) (by decide +kernel)⟩
theorem lw_p94 : lw_okq (⟨"CookedLawModel", "dayGoes", "()V"⟩, 71) := ⟨⟨by decide +kernel, by decide +kernel⟩, List.mem_of_getElem? (i := 1140) (by decide +kernel), List.mem_of_getElem? (i := 1626) (by decide +kernel), List.mem_of_getElem? (i := 1627) (by decide +kernel)⟩
theorem lw_p95 : lw_okq (⟨"CookedLawModel", "isPot", "(I)Z"⟩, 71) := ⟨⟨by decide +kernel, by decide +kernel⟩, List.mem_of_getElem? (i := 1140) (by decide +kernel), List.mem_of_getElem? (i := 1641) (by decide +kernel), List.mem_of_getElem? (i := 1642) (by decide +kernel)⟩
def lw_privs_6 : List (MethodName × Nat) := [(⟨"CookedLawModel", "asks", "(IIII)I"⟩, 71), (⟨"CookedLawModel", "lawTells", "(I)I"⟩, 71), (⟨"CookedLawModel", "termOf", "(II)I"⟩, 71), (⟨"CookedLawModel", "isGuest", "(I)Z"⟩, 71), (⟨"CookedLawModel", "boundNow", "(II)I"⟩, 71), (⟨"CookedLawModel", "boundBy", "(IIII)I"⟩, 71), (⟨"CookedLawModel", "isDeed", "(I)Z"⟩, 71), (⟨"CookedLawModel", "isFree", "(II)Z"⟩, 71), (⟨"CookedLawModel", "isInStore", "(I)Z"⟩, 71), (⟨"CookedLawModel", "cooks", "(I)I"⟩, 71), (⟨"CookedLawModel", "lotOf", "(II)I"⟩, 71), (⟨"CookedLawModel", "records", "()V"⟩, 71), (⟨"CookedLawModel", "freeBits", "(I)I"⟩, 71), (⟨"CookedLawModel", "goes", "(I)V"⟩, 71), (⟨"CookedLawModel", "dayGoes", "()V"⟩, 71), (⟨"CookedLawModel", "isPot", "(I)Z"⟩, 71)]
theorem lw_r6 : ∀ q ∈ lw_privs_6, lw_okq q := List.forall_mem_cons.mpr ⟨lw_p80, List.forall_mem_cons.mpr ⟨lw_p81, List.forall_mem_cons.mpr ⟨lw_p82, List.forall_mem_cons.mpr ⟨lw_p83, List.forall_mem_cons.mpr ⟨lw_p84, List.forall_mem_cons.mpr ⟨lw_p85, List.forall_mem_cons.mpr ⟨lw_p86, List.forall_mem_cons.mpr ⟨lw_p87, List.forall_mem_cons.mpr ⟨lw_p88, List.forall_mem_cons.mpr ⟨lw_p89, List.forall_mem_cons.mpr ⟨lw_p90, List.forall_mem_cons.mpr ⟨lw_p91, List.forall_mem_cons.mpr ⟨lw_p92, List.forall_mem_cons.mpr ⟨lw_p93, List.forall_mem_cons.mpr ⟨lw_p94, List.forall_mem_cons.mpr ⟨lw_p95, fun _ h => absurd h List.not_mem_nil⟩⟩⟩⟩⟩⟩⟩⟩⟩⟩⟩⟩⟩⟩⟩⟩
theorem lw_p96 : lw_okq (⟨"CookedLawModel", "potAt", "(III)I"⟩, 71) := ⟨⟨by decide +kernel, by decide +kernel⟩, List.mem_of_getElem? (i := 1140) (by decide +kernel), List.mem_of_getElem? (i := 1645) (by decide +kernel), List.mem_of_getElem? (i := 1646) (by decide +kernel)⟩
theorem lw_p97 : lw_okq (⟨"CookedLawModel", "isBetter", "(I)Z"⟩, 71) := ⟨⟨by decide +kernel, by decide +kernel⟩, List.mem_of_getElem? (i := 1140) (by decide +kernel), List.mem_of_getElem? (i := 1649) (by decide +kernel), List.mem_of_getElem? (i := 1650) (by decide +kernel)⟩
theorem lw_p98 : lw_okq (⟨"CookedLawModel", "freestOf", "(I)I"⟩, 71) := ⟨⟨by decide +kernel, by decide +kernel⟩, List.mem_of_getElem? (i := 1140) (by decide +kernel), List.mem_of_getElem? (i := 1664) (by decide +kernel), List.mem_of_getElem? (i := 1665) (by decide +kernel)⟩
theorem lw_p99 : lw_okq (⟨"CookedLawModel", "eatsDish", "(II)V"⟩, 71) := ⟨⟨by decide +kernel, by decide +kernel⟩, List.mem_of_getElem? (i := 1140) (by decide +kernel), List.mem_of_getElem? (i := 1668) (by decide +kernel), List.mem_of_getElem? (i := 1669) (by decide +kernel)⟩
theorem lw_p100 : lw_okq (⟨"CookedLawModel", "mealsBy", "(IIII)I"⟩, 71) := ⟨⟨by decide +kernel, by decide +kernel⟩, List.mem_of_getElem? (i := 1140) (by decide +kernel), List.mem_of_getElem? (i := 1690) (by decide +kernel), List.mem_of_getElem? (i := 1691) (by decide +kernel)⟩
theorem lw_p101 : lw_okq (⟨"CookedLawModel", "isWay", "(II)Z"⟩, 71) := ⟨⟨by decide +kernel, by decide +kernel⟩, List.mem_of_getElem? (i := 1140) (by decide +kernel), List.mem_of_getElem? (i := 1729) (by decide +kernel), List.mem_of_getElem? (i := 1730) (by decide +kernel)⟩
theorem lw_p102 : lw_okq (⟨"CookedLawModel", "fillsWay", "(I)Z"⟩, 71) := ⟨⟨by decide +kernel, by decide +kernel⟩, List.mem_of_getElem? (i := 1140) (by decide +kernel), List.mem_of_getElem? (i := 1733) (by decide +kernel), List.mem_of_getElem? (i := 1734) (by decide +kernel)⟩
theorem lw_p103 : lw_okq (⟨"CookedLawModel", "isAsKnown", "(I)Z"⟩, 71) := ⟨⟨by decide +kernel, by decide +kernel⟩, List.mem_of_getElem? (i := 1140) (by decide +kernel), List.mem_of_getElem? (i := 1737) (by decide +kernel), List.mem_of_getElem? (i := 1738) (by decide +kernel)⟩
def lw_privs_7 : List (MethodName × Nat) := [(⟨"CookedLawModel", "potAt", "(III)I"⟩, 71), (⟨"CookedLawModel", "isBetter", "(I)Z"⟩, 71), (⟨"CookedLawModel", "freestOf", "(I)I"⟩, 71), (⟨"CookedLawModel", "eatsDish", "(II)V"⟩, 71), (⟨"CookedLawModel", "mealsBy", "(IIII)I"⟩, 71), (⟨"CookedLawModel", "isWay", "(II)Z"⟩, 71), (⟨"CookedLawModel", "fillsWay", "(I)Z"⟩, 71), (⟨"CookedLawModel", "isAsKnown", "(I)Z"⟩, 71)]
theorem lw_r7 : ∀ q ∈ lw_privs_7, lw_okq q := List.forall_mem_cons.mpr ⟨lw_p96, List.forall_mem_cons.mpr ⟨lw_p97, List.forall_mem_cons.mpr ⟨lw_p98, List.forall_mem_cons.mpr ⟨lw_p99, List.forall_mem_cons.mpr ⟨lw_p100, List.forall_mem_cons.mpr ⟨lw_p101, List.forall_mem_cons.mpr ⟨lw_p102, List.forall_mem_cons.mpr ⟨lw_p103, fun _ h => absurd h List.not_mem_nil⟩⟩⟩⟩⟩⟩⟩⟩
def lw_privs : List (MethodName × Nat) := lw_privs_1 ++ (lw_privs_2 ++ (lw_privs_3 ++ (lw_privs_4 ++ (lw_privs_5 ++ (lw_privs_6 ++ (lw_privs_7))))))
def lw_tbl : List Cond := k2_sels lw_privs ++ tables_1
theorem lw_privs_ok : ∀ q ∈ lw_privs, lw_okq q := by
  show ∀ q ∈ lw_privs_1 ++ (lw_privs_2 ++ (lw_privs_3 ++ (lw_privs_4 ++ (lw_privs_5 ++ (lw_privs_6 ++ (lw_privs_7)))))), lw_okq q
  exact List.forall_mem_append.mpr ⟨lw_r1, List.forall_mem_append.mpr ⟨lw_r2, List.forall_mem_append.mpr ⟨lw_r3, List.forall_mem_append.mpr ⟨lw_r4, List.forall_mem_append.mpr ⟨lw_r5, List.forall_mem_append.mpr ⟨lw_r6, lw_r7⟩⟩⟩⟩⟩⟩
end MG0x0
section MG0x1
def T_Main : u_T := fun k => match k with
  | 0 => ("CookedLaw", "tape", "LCookedLaw$Tape;", true)
  | 1 => ("CookedLaw", "reader", "LCookedLaw$Reader;", true)
  | 2 => ("CookedLaw", "land", "LCookedLaw$Land;", false)
  | 3 => ("CookedLaw", "draft", "LCookedLaw$Land;", false)
  | 4 => ("CookedLaw", "now", "LCookedLaw$State;", true)
  | 5 => ("CookedLaw", "trial", "LCookedLaw$State;", true)
  | 6 => ("CookedLaw", "past", "LCookedLaw$Past;", true)
  | 7 => ("CookedLaw", "slots", "LCookedLaw$Slots;", true)
  | 8 => ("CookedLaw", "told", "LCookedLaw$Told;", true)
  | 9 => ("CookedLaw", "pots", "LCookedLaw$PotSearch;", true)
  | 10 => ("CookedLaw", "menus", "LCookedLaw$MenuSearch;", true)
  | _ => ("CookedLaw", "faultPlace", "I", false)
def ty_Main : Nat → FieldType := fun k => match k with
  | 0 => .object "CookedLaw$Tape"
  | 1 => .object "CookedLaw$Reader"
  | 2 => .object "CookedLaw$Land"
  | 3 => .object "CookedLaw$Land"
  | 4 => .object "CookedLaw$State"
  | 5 => .object "CookedLaw$State"
  | 6 => .object "CookedLaw$Past"
  | 7 => .object "CookedLaw$Slots"
  | 8 => .object "CookedLaw$Told"
  | 9 => .object "CookedLaw$PotSearch"
  | 10 => .object "CookedLaw$MenuSearch"
  | _ => .int
theorem nm_Main : ∀ a, a < 12 → ∀ b, b < 12 → a ≠ b → (T_Main a).2.1 ≠ (T_Main b).2.1 := by decide +kernel
theorem tyk_Main : ∀ k, k < 12 → parseFieldDescriptor (T_Main k).2.2.1 = some (ty_Main k) := by decide +kernel
theorem in_Main : ∀ w ∈ u_ws "CookedLaw" T_Main 12, w ∈ lw_tbl ∧ goodWord w = true := by decide +kernel
def T_Tape : u_T := fun k => match k with
  | 0 => ("CookedLaw$Tape", "bytes", "[I", true)
  | _ => ("CookedLaw$Tape", "length", "I", false)
def ty_Tape : Nat → FieldType := fun k => match k with
  | 0 => .array .int
  | _ => .int
theorem nm_Tape : ∀ a, a < 2 → ∀ b, b < 2 → a ≠ b → (T_Tape a).2.1 ≠ (T_Tape b).2.1 := by decide +kernel
theorem tyk_Tape : ∀ k, k < 2 → parseFieldDescriptor (T_Tape k).2.2.1 = some (ty_Tape k) := by decide +kernel
theorem in_Tape : ∀ w ∈ u_ws "CookedLaw$Tape" T_Tape 2, w ∈ lw_tbl ∧ goodWord w = true := by decide +kernel
def T_Reader : u_T := fun k => match k with
  | 0 => ("CookedLaw$Reader", "tokens", "LCookedLaw$Tokens;", true)
  | 1 => ("CookedLaw$Reader", "next", "I", false)
  | 2 => ("CookedLaw$Reader", "fault", "I", false)
  | 3 => ("CookedLaw$Reader", "faultAt", "I", false)
  | 4 => ("CookedLaw$Reader", "lateFault", "I", false)
  | 5 => ("CookedLaw$Reader", "lateAt", "I", false)
  | 6 => ("CookedLaw$Reader", "names", "[J", true)
  | 7 => ("CookedLaw$Reader", "foodOfName", "[I", true)
  | 8 => ("CookedLaw$Reader", "nameCount", "I", false)
  | 9 => ("CookedLaw$Reader", "held", "[I", true)
  | 10 => ("CookedLaw$Reader", "heldCount", "I", false)
  | _ => ("CookedLaw$Reader", "open", "I", false)
def ty_Reader : Nat → FieldType := fun k => match k with
  | 0 => .object "CookedLaw$Tokens"
  | 1 => .int
  | 2 => .int
  | 3 => .int
  | 4 => .int
  | 5 => .int
  | 6 => .array .long
  | 7 => .array .int
  | 8 => .int
  | 9 => .array .int
  | 10 => .int
  | _ => .int
theorem nm_Reader : ∀ a, a < 12 → ∀ b, b < 12 → a ≠ b → (T_Reader a).2.1 ≠ (T_Reader b).2.1 := by decide +kernel
theorem tyk_Reader : ∀ k, k < 12 → parseFieldDescriptor (T_Reader k).2.2.1 = some (ty_Reader k) := by decide +kernel
theorem in_Reader : ∀ w ∈ u_ws "CookedLaw$Reader" T_Reader 12, w ∈ lw_tbl ∧ goodWord w = true := by decide +kernel
def T_Tokens : u_T := fun k => match k with
  | 0 => ("CookedLaw$Tokens", "words", "[J", true)
  | 1 => ("CookedLaw$Tokens", "kinds", "[I", true)
  | 2 => ("CookedLaw$Tokens", "places", "[I", true)
  | _ => ("CookedLaw$Tokens", "values", "[J", true)
def ty_Tokens : Nat → FieldType := fun k => match k with
  | 0 => .array .long
  | 1 => .array .int
  | 2 => .array .int
  | _ => .array .long
theorem nm_Tokens : ∀ a, a < 4 → ∀ b, b < 4 → a ≠ b → (T_Tokens a).2.1 ≠ (T_Tokens b).2.1 := by decide +kernel
theorem tyk_Tokens : ∀ k, k < 4 → parseFieldDescriptor (T_Tokens k).2.2.1 = some (ty_Tokens k) := by decide +kernel
theorem in_Tokens : ∀ w ∈ u_ws "CookedLaw$Tokens" T_Tokens 4, w ∈ lw_tbl ∧ goodWord w = true := by decide +kernel
def T_Land : u_T := fun k => match k with
  | 0 => ("CookedLaw$Land", "foods", "I", false)
  | 1 => ("CookedLaw$Land", "dishes", "I", false)
  | 2 => ("CookedLaw$Land", "guests", "I", false)
  | 3 => ("CookedLaw$Land", "deeds", "I", false)
  | 4 => ("CookedLaw$Land", "seed", "I", false)
  | 5 => ("CookedLaw$Land", "stock", "[I", true)
  | 6 => ("CookedLaw$Land", "price", "[I", true)
  | 7 => ("CookedLaw$Land", "brings", "[I", true)
  | 8 => ("CookedLaw$Land", "heat", "[I", true)
  | 9 => ("CookedLaw$Land", "recipes", "[I", true)
  | 10 => ("CookedLaw$Land", "palate", "[I", true)
  | 11 => ("CookedLaw$Land", "deedForce", "[I", true)
  | 12 => ("CookedLaw$Land", "deedLimit", "[I", true)
  | 13 => ("CookedLaw$Land", "force", "LCookedLaw$Law;", true)
  | 14 => ("CookedLaw$Land", "binds", "LCookedLaw$Law;", true)
  | 15 => ("CookedLaw$Land", "fills", "LCookedLaw$Law;", true)
  | 16 => ("CookedLaw$Land", "slips", "LCookedLaw$Law;", true)
  | _ => ("CookedLaw$Land", "eaten", "[I", true)
def ty_Land : Nat → FieldType := fun k => match k with
  | 0 => .int
  | 1 => .int
  | 2 => .int
  | 3 => .int
  | 4 => .int
  | 5 => .array .int
  | 6 => .array .int
  | 7 => .array .int
  | 8 => .array .int
  | 9 => .array .int
  | 10 => .array .int
  | 11 => .array .int
  | 12 => .array .int
  | 13 => .object "CookedLaw$Law"
  | 14 => .object "CookedLaw$Law"
  | 15 => .object "CookedLaw$Law"
  | 16 => .object "CookedLaw$Law"
  | _ => .array .int
theorem nm_Land : ∀ a, a < 18 → ∀ b, b < 18 → a ≠ b → (T_Land a).2.1 ≠ (T_Land b).2.1 := by decide +kernel
theorem tyk_Land : ∀ k, k < 18 → parseFieldDescriptor (T_Land k).2.2.1 = some (ty_Land k) := by decide +kernel
theorem in_Land : ∀ w ∈ u_ws "CookedLaw$Land" T_Land 18, w ∈ lw_tbl ∧ goodWord w = true := by decide +kernel
def T_Law : u_T := fun k => match k with
  | 0 => ("CookedLaw$Law", "code", "[I", true)
  | 1 => ("CookedLaw$Law", "length", "I", false)
  | 2 => ("CookedLaw$Law", "vars", "[I", true)
  | _ => ("CookedLaw$Law", "stack", "[I", true)
def ty_Law : Nat → FieldType := fun k => match k with
  | 0 => .array .int
  | 1 => .int
  | 2 => .array .int
  | _ => .array .int
theorem nm_Law : ∀ a, a < 4 → ∀ b, b < 4 → a ≠ b → (T_Law a).2.1 ≠ (T_Law b).2.1 := by decide +kernel
theorem tyk_Law : ∀ k, k < 4 → parseFieldDescriptor (T_Law k).2.2.1 = some (ty_Law k) := by decide +kernel
theorem in_Law : ∀ w ∈ u_ws "CookedLaw$Law" T_Law 4, w ∈ lw_tbl ∧ goodWord w = true := by decide +kernel
def T_State : u_T := fun k => match k with
  | 0 => ("CookedLaw$State", "day", "I", false)
  | 1 => ("CookedLaw$State", "paid", "I", false)
  | 2 => ("CookedLaw$State", "cooked", "I", false)
  | 3 => ("CookedLaw$State", "served", "I", false)
  | 4 => ("CookedLaw$State", "servedForces", "[I", true)
  | 5 => ("CookedLaw$State", "stock", "[I", true)
  | 6 => ("CookedLaw$State", "cookedOf", "[I", true)
  | 7 => ("CookedLaw$State", "meals", "[I", true)
  | 8 => ("CookedLaw$State", "ateOn", "[I", true)
  | _ => ("CookedLaw$State", "ate", "[I", true)
def ty_State : Nat → FieldType := fun k => match k with
  | 0 => .int
  | 1 => .int
  | 2 => .int
  | 3 => .int
  | 4 => .array .int
  | 5 => .array .int
  | 6 => .array .int
  | 7 => .array .int
  | 8 => .array .int
  | _ => .array .int
theorem nm_State : ∀ a, a < 10 → ∀ b, b < 10 → a ≠ b → (T_State a).2.1 ≠ (T_State b).2.1 := by decide +kernel
theorem tyk_State : ∀ k, k < 10 → parseFieldDescriptor (T_State k).2.2.1 = some (ty_State k) := by decide +kernel
theorem in_State : ∀ w ∈ u_ws "CookedLaw$State" T_State 10, w ∈ lw_tbl ∧ goodWord w = true := by decide +kernel
def T_Past : u_T := fun k => match k with
  | 0 => ("CookedLaw$Past", "states", "[LCookedLaw$State;", true)
  | 1 => ("CookedLaw$Past", "next", "I", false)
  | _ => ("CookedLaw$Past", "size", "I", false)
def ty_Past : Nat → FieldType := fun k => match k with
  | 0 => .array (.object "CookedLaw$State")
  | 1 => .int
  | _ => .int
theorem nm_Past : ∀ a, a < 3 → ∀ b, b < 3 → a ≠ b → (T_Past a).2.1 ≠ (T_Past b).2.1 := by decide +kernel
theorem tyk_Past : ∀ k, k < 3 → parseFieldDescriptor (T_Past k).2.2.1 = some (ty_Past k) := by decide +kernel
theorem in_Past : ∀ w ∈ u_ws "CookedLaw$Past" T_Past 3, w ∈ lw_tbl ∧ goodWord w = true := by decide +kernel
def T_Slots : u_T := fun k => match k with
  | 0 => ("CookedLaw$Slots", "states", "[LCookedLaw$State;", true)
  | _ => ("CookedLaw$Slots", "fullBits", "I", false)
def ty_Slots : Nat → FieldType := fun k => match k with
  | 0 => .array (.object "CookedLaw$State")
  | _ => .int
theorem nm_Slots : ∀ a, a < 2 → ∀ b, b < 2 → a ≠ b → (T_Slots a).2.1 ≠ (T_Slots b).2.1 := by decide +kernel
theorem tyk_Slots : ∀ k, k < 2 → parseFieldDescriptor (T_Slots k).2.2.1 = some (ty_Slots k) := by decide +kernel
theorem in_Slots : ∀ w ∈ u_ws "CookedLaw$Slots" T_Slots 2, w ∈ lw_tbl ∧ goodWord w = true := by decide +kernel
def T_Told : u_T := fun k => match k with
  | 0 => ("CookedLaw$Told", "forces", "[I", true)
  | 1 => ("CookedLaw$Told", "heats", "[I", true)
  | 2 => ("CookedLaw$Told", "were", "[I", true)
  | 3 => ("CookedLaw$Told", "size", "I", false)
  | 4 => ("CookedLaw$Told", "dishOf", "[I", true)
  | 5 => ("CookedLaw$Told", "manyOf", "[I", true)
  | 6 => ("CookedLaw$Told", "sums", "[I", true)
  | 7 => ("CookedLaw$Told", "left", "I", false)
  | _ => ("CookedLaw$Told", "tally", "[I", true)
def ty_Told : Nat → FieldType := fun k => match k with
  | 0 => .array .int
  | 1 => .array .int
  | 2 => .array .int
  | 3 => .int
  | 4 => .array .int
  | 5 => .array .int
  | 6 => .array .int
  | 7 => .int
  | _ => .array .int
theorem nm_Told : ∀ a, a < 9 → ∀ b, b < 9 → a ≠ b → (T_Told a).2.1 ≠ (T_Told b).2.1 := by decide +kernel
theorem tyk_Told : ∀ k, k < 9 → parseFieldDescriptor (T_Told k).2.2.1 = some (ty_Told k) := by decide +kernel
theorem in_Told : ∀ w ∈ u_ws "CookedLaw$Told" T_Told 9, w ∈ lw_tbl ∧ goodWord w = true := by decide +kernel
def T_PotSearch : u_T := fun k => match k with
  | 0 => ("CookedLaw$PotSearch", "least", "[I", true)
  | 1 => ("CookedLaw$PotSearch", "amounts", "[I", true)
  | 2 => ("CookedLaw$PotSearch", "sums", "[I", true)
  | 3 => ("CookedLaw$PotSearch", "many", "I", false)
  | 4 => ("CookedLaw$PotSearch", "price", "I", false)
  | 5 => ("CookedLaw$PotSearch", "best", "[I", true)
  | 6 => ("CookedLaw$PotSearch", "bestPrice", "I", false)
  | 7 => ("CookedLaw$PotSearch", "bestMany", "I", false)
  | 8 => ("CookedLaw$PotSearch", "bestHeat", "I", false)
  | 9 => ("CookedLaw$PotSearch", "found", "Z", false)
  | _ => ("CookedLaw$PotSearch", "heats", "I", false)
def ty_PotSearch : Nat → FieldType := fun k => match k with
  | 0 => .array .int
  | 1 => .array .int
  | 2 => .array .int
  | 3 => .int
  | 4 => .int
  | 5 => .array .int
  | 6 => .int
  | 7 => .int
  | 8 => .int
  | 9 => .boolean
  | _ => .int
theorem nm_PotSearch : ∀ a, a < 11 → ∀ b, b < 11 → a ≠ b → (T_PotSearch a).2.1 ≠ (T_PotSearch b).2.1 := by decide +kernel
theorem tyk_PotSearch : ∀ k, k < 11 → parseFieldDescriptor (T_PotSearch k).2.2.1 = some (ty_PotSearch k) := by decide +kernel
theorem in_PotSearch : ∀ w ∈ u_ws "CookedLaw$PotSearch" T_PotSearch 11, w ∈ lw_tbl ∧ goodWord w = true := by decide +kernel
def T_MenuSearch : u_T := fun k => match k with
  | 0 => ("CookedLaw$MenuSearch", "unfed", "[Z", true)
  | 1 => ("CookedLaw$MenuSearch", "fed", "[Z", true)
  | 2 => ("CookedLaw$MenuSearch", "choices", "[I", true)
  | 3 => ("CookedLaw$MenuSearch", "best", "[I", true)
  | _ => ("CookedLaw$MenuSearch", "fewest", "I", false)
def ty_MenuSearch : Nat → FieldType := fun k => match k with
  | 0 => .array .boolean
  | 1 => .array .boolean
  | 2 => .array .int
  | 3 => .array .int
  | _ => .int
theorem nm_MenuSearch : ∀ a, a < 5 → ∀ b, b < 5 → a ≠ b → (T_MenuSearch a).2.1 ≠ (T_MenuSearch b).2.1 := by decide +kernel
theorem tyk_MenuSearch : ∀ k, k < 5 → parseFieldDescriptor (T_MenuSearch k).2.2.1 = some (ty_MenuSearch k) := by decide +kernel
theorem in_MenuSearch : ∀ w ∈ u_ws "CookedLaw$MenuSearch" T_MenuSearch 5, w ∈ lw_tbl ∧ goodWord w = true := by decide +kernel
def T_Mod : u_T := fun k => match k with
  | 0 => ("CookedLawModel", "thrown", "I", false)
  | 1 => ("CookedLawModel", "tape", "[B", true)
  | 2 => ("CookedLawModel", "taped", "I", false)
  | 3 => ("CookedLawModel", "text", "[B", true)
  | 4 => ("CookedLawModel", "size", "I", false)
  | 5 => ("CookedLawModel", "tKind", "[I", true)
  | 6 => ("CookedLawModel", "tPlace", "[I", true)
  | 7 => ("CookedLawModel", "tValue", "[I", true)
  | 8 => ("CookedLawModel", "tName", "[J", true)
  | 9 => ("CookedLawModel", "keys", "[J", true)
  | 10 => ("CookedLawModel", "tokens", "I", false)
  | 11 => ("CookedLawModel", "t", "I", false)
  | 12 => ("CookedLawModel", "open", "I", false)
  | 13 => ("CookedLawModel", "fault", "I", false)
  | 14 => ("CookedLawModel", "faultPlace", "I", false)
  | 15 => ("CookedLawModel", "worst", "I", false)
  | 16 => ("CookedLawModel", "worstPlace", "I", false)
  | 17 => ("CookedLawModel", "place", "I", false)
  | 18 => ("CookedLawModel", "live", "I", false)
  | 19 => ("CookedLawModel", "side", "I", false)
  | 20 => ("CookedLawModel", "names", "I", false)
  | 21 => ("CookedLawModel", "nameOf", "[J", true)
  | 22 => ("CookedLawModel", "nameAt", "[I", true)
  | 23 => ("CookedLawModel", "foods", "[I", true)
  | 24 => ("CookedLawModel", "stockTold", "[I", true)
  | 25 => ("CookedLawModel", "priceOf", "[I", true)
  | 26 => ("CookedLawModel", "bringsOf", "[I", true)
  | 27 => ("CookedLawModel", "dishes", "[I", true)
  | 28 => ("CookedLawModel", "heatOf", "[I", true)
  | 29 => ("CookedLawModel", "amountOf", "[I", true)
  | 30 => ("CookedLawModel", "guests", "[I", true)
  | 31 => ("CookedLawModel", "palateOf", "[I", true)
  | 32 => ("CookedLawModel", "deeds", "[I", true)
  | 33 => ("CookedLawModel", "forceOf", "[I", true)
  | 34 => ("CookedLawModel", "limitOf", "[I", true)
  | 35 => ("CookedLawModel", "seed", "[I", true)
  | 36 => ("CookedLawModel", "lawFirst", "[I", true)
  | 37 => ("CookedLawModel", "lawLast", "[I", true)
  | 38 => ("CookedLawModel", "branches", "I", false)
  | 39 => ("CookedLawModel", "hasTest", "[Z", true)
  | 40 => ("CookedLawModel", "testFrom", "[I", true)
  | 41 => ("CookedLawModel", "testMid", "[I", true)
  | 42 => ("CookedLawModel", "testTo", "[I", true)
  | 43 => ("CookedLawModel", "termTo", "[I", true)
  | 44 => ("CookedLawModel", "codes", "I", false)
  | 45 => ("CookedLawModel", "code", "[I", true)
  | 46 => ("CookedLawModel", "codeInt", "[I", true)
  | 47 => ("CookedLawModel", "waits", "[I", true)
  | 48 => ("CookedLawModel", "waiting", "I", false)
  | 49 => ("CookedLawModel", "variables", "[I", true)
  | 50 => ("CookedLawModel", "pile", "[I", true)
  | 51 => ("CookedLawModel", "isBroken", "Z", false)
  | 52 => ("CookedLawModel", "now", "[I", true)
  | 53 => ("CookedLawModel", "row", "[I", true)
  | 54 => ("CookedLawModel", "lots", "I", false)
  | 55 => ("CookedLawModel", "potOf", "[I", true)
  | 56 => ("CookedLawModel", "stockThen", "[I", true)
  | 57 => ("CookedLawModel", "undos", "I", false)
  | 58 => ("CookedLawModel", "history", "[I", true)
  | 59 => ("CookedLawModel", "potWay", "I", false)
  | 60 => ("CookedLawModel", "potLeast", "I", false)
  | 61 => ("CookedLawModel", "potFew", "I", false)
  | 62 => ("CookedLawModel", "potHeat", "I", false)
  | 63 => ("CookedLawModel", "freestMany", "I", false)
  | 64 => ("CookedLawModel", "tolds", "I", false)
  | 65 => ("CookedLawModel", "toldForce", "[I", true)
  | 66 => ("CookedLawModel", "toldHeat", "[I", true)
  | 67 => ("CookedLawModel", "toldIs", "[I", true)
  | 68 => ("CookedLawModel", "waysBy", "[I", true)
  | 69 => ("CookedLawModel", "isHeld", "[Z", true)
  | _ => ("CookedLawModel", "heldRows", "[I", true)
def ty_Mod : Nat → FieldType := fun k => match k with
  | 0 => .int
  | 1 => .array .byte
  | 2 => .int
  | 3 => .array .byte
  | 4 => .int
  | 5 => .array .int
  | 6 => .array .int
  | 7 => .array .int
  | 8 => .array .long
  | 9 => .array .long
  | 10 => .int
  | 11 => .int
  | 12 => .int
  | 13 => .int
  | 14 => .int
  | 15 => .int
  | 16 => .int
  | 17 => .int
  | 18 => .int
  | 19 => .int
  | 20 => .int
  | 21 => .array .long
  | 22 => .array .int
  | 23 => .array .int
  | 24 => .array .int
  | 25 => .array .int
  | 26 => .array .int
  | 27 => .array .int
  | 28 => .array .int
  | 29 => .array .int
  | 30 => .array .int
  | 31 => .array .int
  | 32 => .array .int
  | 33 => .array .int
  | 34 => .array .int
  | 35 => .array .int
  | 36 => .array .int
  | 37 => .array .int
  | 38 => .int
  | 39 => .array .boolean
  | 40 => .array .int
  | 41 => .array .int
  | 42 => .array .int
  | 43 => .array .int
  | 44 => .int
  | 45 => .array .int
  | 46 => .array .int
  | 47 => .array .int
  | 48 => .int
  | 49 => .array .int
  | 50 => .array .int
  | 51 => .boolean
  | 52 => .array .int
  | 53 => .array .int
  | 54 => .int
  | 55 => .array .int
  | 56 => .array .int
  | 57 => .int
  | 58 => .array .int
  | 59 => .int
  | 60 => .int
  | 61 => .int
  | 62 => .int
  | 63 => .int
  | 64 => .int
  | 65 => .array .int
  | 66 => .array .int
  | 67 => .array .int
  | 68 => .array .int
  | 69 => .array .boolean
  | _ => .array .int
theorem nm_Mod : ∀ a, a < 71 → ∀ b, b < 71 → a ≠ b → (T_Mod a).2.1 ≠ (T_Mod b).2.1 := by decide +kernel
theorem tyk_Mod : ∀ k, k < 71 → parseFieldDescriptor (T_Mod k).2.2.1 = some (ty_Mod k) := by decide +kernel
theorem in_Mod : ∀ w ∈ u_ws "CookedLawModel" T_Mod 71, w ∈ lw_tbl ∧ goodWord w = true := by decide +kernel
def cls : List vw_C := [("CookedLaw", T_Main, 12), ("CookedLaw$Tape", T_Tape, 2), ("CookedLaw$Reader", T_Reader, 12), ("CookedLaw$Tokens", T_Tokens, 4), ("CookedLaw$Land", T_Land, 18), ("CookedLaw$Law", T_Law, 4), ("CookedLaw$State", T_State, 10), ("CookedLaw$Past", T_Past, 3), ("CookedLaw$Slots", T_Slots, 2), ("CookedLaw$Told", T_Told, 9), ("CookedLaw$PotSearch", T_PotSearch, 11), ("CookedLaw$MenuSearch", T_MenuSearch, 5), ("CookedLawModel", T_Mod, 71)]
def fks : Nat → List (Nat × Nat) := fun ci => match ci with
  | 0 => [(1, 0), (1, 1), (1, 2), (1, 3), (1, 4), (1, 5), (1, 6), (1, 7), (1, 8), (1, 9), (1, 10), (0, 11)]
  | 1 => [(1, 0), (0, 1)]
  | 2 => [(1, 0), (0, 1), (0, 2), (0, 3), (0, 4), (0, 5), (1, 6), (1, 7), (0, 8), (1, 9), (0, 10), (0, 11)]
  | 3 => [(1, 0), (1, 1), (1, 2), (1, 3)]
  | 4 => [(0, 0), (0, 1), (0, 2), (0, 3), (0, 4), (1, 5), (1, 6), (1, 7), (1, 8), (1, 9), (1, 10), (1, 11), (1, 12), (1, 13), (1, 14), (1, 15), (1, 16), (1, 17)]
  | 5 => [(1, 0), (0, 1), (1, 2), (1, 3)]
  | 6 => [(0, 0), (0, 1), (0, 2), (0, 3), (1, 4), (1, 5), (1, 6), (1, 7), (1, 8), (1, 9)]
  | 7 => [(1, 0), (0, 1), (0, 2)]
  | 8 => [(1, 0), (0, 1)]
  | 9 => [(1, 0), (1, 1), (1, 2), (0, 3), (1, 4), (1, 5), (1, 6), (0, 7), (1, 8)]
  | 10 => [(1, 0), (1, 1), (1, 2), (0, 3), (0, 4), (1, 5), (0, 6), (0, 7), (0, 8), (2, 9), (0, 10)]
  | 11 => [(1, 0), (1, 1), (1, 2), (1, 3), (0, 4)]
  | _ => [(0, 0), (1, 1), (0, 2), (1, 3), (0, 4), (1, 5), (1, 6), (1, 7), (1, 8), (1, 9), (0, 10), (0, 11), (0, 12), (0, 13), (0, 14), (0, 15), (0, 16), (0, 17), (0, 18), (0, 19), (0, 20), (1, 21), (1, 22), (1, 23), (1, 24), (1, 25), (1, 26), (1, 27), (1, 28), (1, 29), (1, 30), (1, 31), (1, 32), (1, 33), (1, 34), (1, 35), (1, 36), (1, 37), (0, 38), (1, 39), (1, 40), (1, 41), (1, 42), (1, 43), (0, 44), (1, 45), (1, 46), (1, 47), (0, 48), (1, 49), (1, 50), (2, 51), (1, 52), (1, 53), (0, 54), (1, 55), (1, 56), (0, 57), (1, 58), (0, 59), (0, 60), (0, 61), (0, 62), (0, 63), (0, 64), (1, 65), (1, 66), (1, 67), (1, 68), (1, 69), (1, 70)]
def shl : List (Nat × Nat) := [(0,0), (0,1), (1,2000), (0,2), (0,3), (4,21), (1,401), (1,401), (4,401), (4,21), (1,21), (1,32), (0,4), (1,6), (1,6), (1,18), (1,5), (1,30), (1,4), (1,6), (1,6), (0,5), (1,400), (1,9), (1,32), (0,5), (1,400), (1,9), (1,32), (0,5), (1,400), (1,9), (1,32), (0,5), (1,400), (1,9), (1,32), (1,3), (0,4), (1,6), (1,6), (1,18), (1,5), (1,30), (1,4), (1,6), (1,6), (0,5), (1,400), (1,9), (1,32), (0,5), (1,400), (1,9), (1,32), (0,5), (1,400), (1,9), (1,32), (0,5), (1,400), (1,9), (1,32), (1,3), (0,6), (1,3), (1,6), (1,5), (1,4), (1,4), (1,12), (0,6), (1,3), (1,6), (1,5), (1,4), (1,4), (1,12), (0,7), (5,40), (0,6), (1,3), (1,6), (1,5), (1,4), (1,4), (1,12), (0,6), (1,3), (1,6), (1,5), (1,4), (1,4), (1,12), (0,6), (1,3), (1,6), (1,5), (1,4), (1,4), (1,12), (0,6), (1,3), (1,6), (1,5), (1,4), (1,4), (1,12), (0,6), (1,3), (1,6), (1,5), (1,4), (1,4), (1,12), (0,6), (1,3), (1,6), (1,5), (1,4), (1,4), (1,12), (0,6), (1,3), (1,6), (1,5), (1,4), (1,4), (1,12), (0,6), (1,3), (1,6), (1,5), (1,4), (1,4), (1,12), (0,6), (1,3), (1,6), (1,5), (1,4), (1,4), (1,12), (0,6), (1,3), (1,6), (1,5), (1,4), (1,4), (1,12), (0,6), (1,3), (1,6), (1,5), (1,4), (1,4), (1,12), (0,6), (1,3), (1,6), (1,5), (1,4), (1,4), (1,12), (0,6), (1,3), (1,6), (1,5), (1,4), (1,4), (1,12), (0,6), (1,3), (1,6), (1,5), (1,4), (1,4), (1,12), (0,6), (1,3), (1,6), (1,5), (1,4), (1,4), (1,12), (0,6), (1,3), (1,6), (1,5), (1,4), (1,4), (1,12), (0,6), (1,3), (1,6), (1,5), (1,4), (1,4), (1,12), (0,6), (1,3), (1,6), (1,5), (1,4), (1,4), (1,12), (0,6), (1,3), (1,6), (1,5), (1,4), (1,4), (1,12), (0,6), (1,3), (1,6), (1,5), (1,4), (1,4), (1,12), (0,6), (1,3), (1,6), (1,5), (1,4), (1,4), (1,12), (0,6), (1,3), (1,6), (1,5), (1,4), (1,4), (1,12), (0,6), (1,3), (1,6), (1,5), (1,4), (1,4), (1,12), (0,6), (1,3), (1,6), (1,5), (1,4), (1,4), (1,12), (0,6), (1,3), (1,6), (1,5), (1,4), (1,4), (1,12), (0,6), (1,3), (1,6), (1,5), (1,4), (1,4), (1,12), (0,6), (1,3), (1,6), (1,5), (1,4), (1,4), (1,12), (0,6), (1,3), (1,6), (1,5), (1,4), (1,4), (1,12), (0,6), (1,3), (1,6), (1,5), (1,4), (1,4), (1,12), (0,6), (1,3), (1,6), (1,5), (1,4), (1,4), (1,12), (0,6), (1,3), (1,6), (1,5), (1,4), (1,4), (1,12), (0,6), (1,3), (1,6), (1,5), (1,4), (1,4), (1,12), (0,6), (1,3), (1,6), (1,5), (1,4), (1,4), (1,12), (0,6), (1,3), (1,6), (1,5), (1,4), (1,4), (1,12), (0,6), (1,3), (1,6), (1,5), (1,4), (1,4), (1,12), (0,6), (1,3), (1,6), (1,5), (1,4), (1,4), (1,12), (0,6), (1,3), (1,6), (1,5), (1,4), (1,4), (1,12), (0,6), (1,3), (1,6), (1,5), (1,4), (1,4), (1,12), (0,6), (1,3), (1,6), (1,5), (1,4), (1,4), (1,12), (0,6), (1,3), (1,6), (1,5), (1,4), (1,4), (1,12), (0,8), (5,3), (0,6), (1,3), (1,6), (1,5), (1,4), (1,4), (1,12), (0,6), (1,3), (1,6), (1,5), (1,4), (1,4), (1,12), (0,6), (1,3), (1,6), (1,5), (1,4), (1,4), (1,12), (0,9), (1,20), (1,20), (1,20), (1,65), (1,65), (1,195), (1,100), (0,10), (1,3), (1,6), (1,3), (1,6), (0,11), (3,4), (3,80), (1,4), (1,4), (0,12), (2,2000), (2,2000), (1,403), (1,403), (1,403), (4,403), (4,21), (4,21), (1,21), (1,2), (1,12), (1,12), (1,36), (1,2), (1,10), (1,60), (1,2), (1,8), (1,2), (1,12), (1,12), (1,2), (1,8), (1,8), (3,260), (1,260), (1,260), (1,260), (1,260), (1,840), (1,840), (1,64), (1,9), (1,400), (1,38), (1,38), (1,6), (1,6), (1,1520), (1,20), (1,20), (1,20), (1,3000), (3,3), (1,114)]
def SH (a : Nat) : Nat × Nat := shl.getD a (9, 0)
def y_Main_init : MethodName × ByteArray × Nat × Option FieldType × Nat := (⟨"CookedLaw", "<init>", "()V"⟩, prog_1_method_1_code, 1, none, 6)
def y_Main_feed : MethodName × ByteArray × Nat × Option FieldType × Nat := (⟨"CookedLaw", "feed", "(IIIII)I"⟩, prog_1_method_2_code, 6, (some .int), 2)
def y_Main_back : MethodName × ByteArray × Nat × Option FieldType × Nat := (⟨"CookedLaw", "back", "(I)I"⟩, prog_1_method_3_code, 2, (some .int), 0)
def y_Main_read : MethodName × ByteArray × Nat × Option FieldType × Nat := (⟨"CookedLaw", "read", "()I"⟩, prog_1_method_4_code, 2, (some .int), 6)
def y_Main_beginDraft : MethodName × ByteArray × Nat × Option FieldType × Nat := (⟨"CookedLaw", "beginDraft", "()V"⟩, prog_1_method_5_code, 2, none, 2)
def y_Main_place : MethodName × ByteArray × Nat × Option FieldType × Nat := (⟨"CookedLaw", "place", "()I"⟩, prog_1_method_6_code, 1, (some .int), 0)
def y_Main_food : MethodName × ByteArray × Nat × Option FieldType × Nat := (⟨"CookedLaw", "food", "(II)I"⟩, prog_1_method_7_code, 3, (some .int), 2)
def y_Main_dish : MethodName × ByteArray × Nat × Option FieldType × Nat := (⟨"CookedLaw", "dish", "(II)I"⟩, prog_1_method_8_code, 3, (some .int), 4)
def y_Main_amount : MethodName × ByteArray × Nat × Option FieldType × Nat := (⟨"CookedLaw", "amount", "(II)I"⟩, prog_1_method_9_code, 3, (some .int), 2)
def y_Main_guest : MethodName × ByteArray × Nat × Option FieldType × Nat := (⟨"CookedLaw", "guest", "(II)I"⟩, prog_1_method_10_code, 3, (some .int), 4)
def y_Main_deed : MethodName × ByteArray × Nat × Option FieldType × Nat := (⟨"CookedLaw", "deed", "(II)I"⟩, prog_1_method_11_code, 3, (some .int), 6)
def y_Main_guestsFreeTo : MethodName × ByteArray × Nat × Option FieldType × Nat := (⟨"CookedLaw", "guestsFreeTo", "(I)I"⟩, prog_1_method_12_code, 4, (some .int), 5)
def y_Main_cook : MethodName × ByteArray × Nat × Option FieldType × Nat := (⟨"CookedLaw", "cook", "(I)I"⟩, prog_1_method_13_code, 2, (some .int), 6)
def y_Main_eat : MethodName × ByteArray × Nat × Option FieldType × Nat := (⟨"CookedLaw", "eat", "(I)I"⟩, prog_1_method_14_code, 2, (some .int), 5)
def y_Main_days : MethodName × ByteArray × Nat × Option FieldType × Nat := (⟨"CookedLaw", "days", "(I)I"⟩, prog_1_method_15_code, 2, (some .int), 4)
def y_Main_undo : MethodName × ByteArray × Nat × Option FieldType × Nat := (⟨"CookedLaw", "undo", "()Z"⟩, prog_1_method_16_code, 1, (some .boolean), 3)
def y_Main_pot : MethodName × ByteArray × Nat × Option FieldType × Nat := (⟨"CookedLaw", "pot", "(IIII)I"⟩, prog_1_method_17_code, 5, (some .int), 6)
def y_Main_pinch : MethodName × ByteArray × Nat × Option FieldType × Nat := (⟨"CookedLaw", "pinch", "(II)I"⟩, prog_1_method_18_code, 7, (some .int), 5)
def y_Main_changeBy : MethodName × ByteArray × Nat × Option FieldType × Nat := (⟨"CookedLaw", "changeBy", "(II)I"⟩, prog_1_method_19_code, 7, (some .int), 4)
def y_Main_freest : MethodName × ByteArray × Nat × Option FieldType × Nat := (⟨"CookedLaw", "freest", "(II)I"⟩, prog_1_method_20_code, 4, (some .int), 7)
def y_Main_freestDish : MethodName × ByteArray × Nat × Option FieldType × Nat := (⟨"CookedLaw", "freestDish", "(I)I"⟩, prog_1_method_21_code, 6, (some .int), 6)
def y_Main_freeBehind : MethodName × ByteArray × Nat × Option FieldType × Nat := (⟨"CookedLaw", "freeBehind", "(II)I"⟩, prog_1_method_22_code, 3, (some .int), 5)
def y_Main_supper : MethodName × ByteArray × Nat × Option FieldType × Nat := (⟨"CookedLaw", "supper", "()I"⟩, prog_1_method_23_code, 3, (some .int), 7)
def y_Main_feud : MethodName × ByteArray × Nat × Option FieldType × Nat := (⟨"CookedLaw", "feud", "(III)I"⟩, prog_1_method_24_code, 7, (some .int), 6)
def y_Main_menu : MethodName × ByteArray × Nat × Option FieldType × Nat := (⟨"CookedLaw", "menu", "(IIII)I"⟩, prog_1_method_25_code, 6, (some .int), 7)
def y_Main_often : MethodName × ByteArray × Nat × Option FieldType × Nat := (⟨"CookedLaw", "often", "(I)I"⟩, prog_1_method_26_code, 3, (some .int), 6)
def y_Main_hunger : MethodName × ByteArray × Nat × Option FieldType × Nat := (⟨"CookedLaw", "hunger", "(II)I"⟩, prog_1_method_27_code, 5, (some .int), 4)
def y_Main_stockIn : MethodName × ByteArray × Nat × Option FieldType × Nat := (⟨"CookedLaw", "stockIn", "(II)I"⟩, prog_1_method_28_code, 3, (some .int), 4)
def y_Main_boundIn : MethodName × ByteArray × Nat × Option FieldType × Nat := (⟨"CookedLaw", "boundIn", "(III)I"⟩, prog_1_method_29_code, 4, (some .int), 4)
def y_Main_year : MethodName × ByteArray × Nat × Option FieldType × Nat := (⟨"CookedLaw", "year", "(IIII)I"⟩, prog_1_method_30_code, 8, (some .int), 5)
def y_Main_tell : MethodName × ByteArray × Nat × Option FieldType × Nat := (⟨"CookedLaw", "tell", "(III)I"⟩, prog_1_method_31_code, 4, (some .int), 2)
def y_Main_forget : MethodName × ByteArray × Nat × Option FieldType × Nat := (⟨"CookedLaw", "forget", "()I"⟩, prog_1_method_32_code, 2, (some .int), 1)
def y_Main_blame : MethodName × ByteArray × Nat × Option FieldType × Nat := (⟨"CookedLaw", "blame", "(I)I"⟩, prog_1_method_33_code, 2, (some .int), 6)
def y_Main_sure : MethodName × ByteArray × Nat × Option FieldType × Nat := (⟨"CookedLaw", "sure", "(I)I"⟩, prog_1_method_34_code, 2, (some .int), 6)
def y_Main_taste : MethodName × ByteArray × Nat × Option FieldType × Nat := (⟨"CookedLaw", "taste", "(I)I"⟩, prog_1_method_35_code, 2, (some .int), 6)
def y_Main_hold : MethodName × ByteArray × Nat × Option FieldType × Nat := (⟨"CookedLaw", "hold", "(I)Z"⟩, prog_1_method_36_code, 2, (some .boolean), 3)
def y_Main_restore : MethodName × ByteArray × Nat × Option FieldType × Nat := (⟨"CookedLaw", "restore", "(I)Z"⟩, prog_1_method_37_code, 2, (some .boolean), 3)
def y_Main_count : MethodName × ByteArray × Nat × Option FieldType × Nat := (⟨"CookedLaw", "count", "(I)I"⟩, prog_1_method_38_code, 2, (some .int), 2)
def y_Main_isOne : MethodName × ByteArray × Nat × Option FieldType × Nat := (⟨"CookedLaw", "isOne", "(II)Z"⟩, prog_1_method_39_code, 2, (some .boolean), 0)
def y_Main_hasBit : MethodName × ByteArray × Nat × Option FieldType × Nat := (⟨"CookedLaw", "hasBit", "(II)Z"⟩, prog_1_method_40_code, 2, (some .boolean), 0)
def y_Main_within : MethodName × ByteArray × Nat × Option FieldType × Nat := (⟨"CookedLaw", "within", "(III)I"⟩, prog_1_method_41_code, 3, (some .int), 1)
def y_Main_at : MethodName × ByteArray × Nat × Option FieldType × Nat := (⟨"CookedLaw", "at", "([II)I"⟩, prog_1_method_42_code, 2, (some .int), 0)
def y_Main_put : MethodName × ByteArray × Nat × Option FieldType × Nat := (⟨"CookedLaw", "put", "([III)V"⟩, prog_1_method_43_code, 3, none, 0)
def y_Main_copyRow : MethodName × ByteArray × Nat × Option FieldType × Nat := (⟨"CookedLaw", "copyRow", "([I[I)V"⟩, prog_1_method_44_code, 3, none, 0)
def y_Main_wipe : MethodName × ByteArray × Nat × Option FieldType × Nat := (⟨"CookedLaw", "wipe", "([I)V"⟩, prog_1_method_45_code, 2, none, 0)
def y_Mod_init : MethodName × ByteArray × Nat × Option FieldType × Nat := (⟨"CookedLawModel", "<init>", "()V"⟩, prog_14_method_2_code, 1, none, 2)
def y_Mod_feed : MethodName × ByteArray × Nat × Option FieldType × Nat := (⟨"CookedLawModel", "feed", "(IIIII)I"⟩, prog_14_method_3_code, 6, (some .int), 1)
def y_Mod_put : MethodName × ByteArray × Nat × Option FieldType × Nat := (⟨"CookedLawModel", "put", "(I)V"⟩, prog_14_method_4_code, 3, none, 0)
def y_Mod_back : MethodName × ByteArray × Nat × Option FieldType × Nat := (⟨"CookedLawModel", "back", "(I)I"⟩, prog_14_method_5_code, 2, (some .int), 0)
def y_Mod_byteAt : MethodName × ByteArray × Nat × Option FieldType × Nat := (⟨"CookedLawModel", "byteAt", "(I)I"⟩, prog_14_method_6_code, 2, (some .int), 0)
def y_Mod_isDigit : MethodName × ByteArray × Nat × Option FieldType × Nat := (⟨"CookedLawModel", "isDigit", "(I)Z"⟩, prog_14_method_7_code, 1, (some .boolean), 0)
def y_Mod_isLetter : MethodName × ByteArray × Nat × Option FieldType × Nat := (⟨"CookedLawModel", "isLetter", "(I)Z"⟩, prog_14_method_8_code, 1, (some .boolean), 0)
def y_Mod_appends : MethodName × ByteArray × Nat × Option FieldType × Nat := (⟨"CookedLawModel", "appends", "(JI)J"⟩, prog_14_method_9_code, 3, (some .long), 0)
def y_Mod_word : MethodName × ByteArray × Nat × Option FieldType × Nat := (⟨"CookedLawModel", "word", "(IIIIIII)J"⟩, prog_14_method_10_code, 7, (some .long), 1)
def y_Mod_token : MethodName × ByteArray × Nat × Option FieldType × Nat := (⟨"CookedLawModel", "token", "(IIIJ)V"⟩, prog_14_method_11_code, 6, none, 0)
def y_Mod_cut : MethodName × ByteArray × Nat × Option FieldType × Nat := (⟨"CookedLawModel", "cut", "()V"⟩, prog_14_method_12_code, 8, none, 2)
def y_Mod_sign : MethodName × ByteArray × Nat × Option FieldType × Nat := (⟨"CookedLawModel", "sign", "(III)I"⟩, prog_14_method_13_code, 5, (some .int), 1)
def y_Mod_is : MethodName × ByteArray × Nat × Option FieldType × Nat := (⟨"CookedLawModel", "is", "(I)Z"⟩, prog_14_method_14_code, 2, (some .boolean), 0)
def y_Mod_fail : MethodName × ByteArray × Nat × Option FieldType × Nat := (⟨"CookedLawModel", "fail", "(I)V"⟩, prog_14_method_15_code, 2, none, 0)
def y_Mod_wrong : MethodName × ByteArray × Nat × Option FieldType × Nat := (⟨"CookedLawModel", "wrong", "(II)V"⟩, prog_14_method_16_code, 4, none, 0)
def y_Mod_goesOn : MethodName × ByteArray × Nat × Option FieldType × Nat := (⟨"CookedLawModel", "goesOn", "()V"⟩, prog_14_method_17_code, 1, none, 1)
def y_Mod_must : MethodName × ByteArray × Nat × Option FieldType × Nat := (⟨"CookedLawModel", "must", "(I)V"⟩, prog_14_method_18_code, 2, none, 2)
def y_Mod_plain : MethodName × ByteArray × Nat × Option FieldType × Nat := (⟨"CookedLawModel", "plain", "(I)V"⟩, prog_14_method_19_code, 3, none, 0)
def y_Mod_read : MethodName × ByteArray × Nat × Option FieldType × Nat := (⟨"CookedLawModel", "read", "()I"⟩, prog_14_method_20_code, 2, (some .int), 7)
def y_Mod_place : MethodName × ByteArray × Nat × Option FieldType × Nat := (⟨"CookedLawModel", "place", "()I"⟩, prog_14_method_21_code, 1, (some .int), 0)
def y_Mod_roomFor : MethodName × ByteArray × Nat × Option FieldType × Nat := (⟨"CookedLawModel", "roomFor", "(II)V"⟩, prog_14_method_22_code, 3, none, 2)
def y_Mod_tellOne : MethodName × ByteArray × Nat × Option FieldType × Nat := (⟨"CookedLawModel", "tellOne", "()V"⟩, prog_14_method_23_code, 2, none, 6)
def y_Mod_named : MethodName × ByteArray × Nat × Option FieldType × Nat := (⟨"CookedLawModel", "named", "()I"⟩, prog_14_method_24_code, 3, (some .int), 3)
def y_Mod_ends : MethodName × ByteArray × Nat × Option FieldType × Nat := (⟨"CookedLawModel", "ends", "(II)V"⟩, prog_14_method_25_code, 3, none, 3)
def y_Mod_knownFood : MethodName × ByteArray × Nat × Option FieldType × Nat := (⟨"CookedLawModel", "knownFood", "()I"⟩, prog_14_method_26_code, 3, (some .int), 3)
def y_Mod_bounded : MethodName × ByteArray × Nat × Option FieldType × Nat := (⟨"CookedLawModel", "bounded", "(II)I"⟩, prog_14_method_27_code, 4, (some .int), 2)
def y_Mod_tellFood : MethodName × ByteArray × Nat × Option FieldType × Nat := (⟨"CookedLawModel", "tellFood", "()V"⟩, prog_14_method_28_code, 4, none, 4)
def y_Mod_tellDish : MethodName × ByteArray × Nat × Option FieldType × Nat := (⟨"CookedLawModel", "tellDish", "()V"⟩, prog_14_method_29_code, 5, none, 4)
def y_Mod_tellLaw : MethodName × ByteArray × Nat × Option FieldType × Nat := (⟨"CookedLawModel", "tellLaw", "(I)V"⟩, prog_14_method_30_code, 4, none, 5)
def y_Mod_term : MethodName × ByteArray × Nat × Option FieldType × Nat := (⟨"CookedLawModel", "term", "()V"⟩, prog_14_method_31_code, 1, none, 4)
def y_Mod_emit : MethodName × ByteArray × Nat × Option FieldType × Nat := (⟨"CookedLawModel", "emit", "(II)V"⟩, prog_14_method_32_code, 3, none, 0)
def y_Mod_comesOut : MethodName × ByteArray × Nat × Option FieldType × Nat := (⟨"CookedLawModel", "comesOut", "(Z)V"⟩, prog_14_method_33_code, 3, none, 1)
def y_Mod_expression : MethodName × ByteArray × Nat × Option FieldType × Nat := (⟨"CookedLawModel", "expression", "()V"⟩, prog_14_method_34_code, 3, none, 3)
def y_Mod_unit : MethodName × ByteArray × Nat × Option FieldType × Nat := (⟨"CookedLawModel", "unit", "()V"⟩, prog_14_method_35_code, 1, none, 2)
def y_Mod_termOf : MethodName × ByteArray × Nat × Option FieldType × Nat := (⟨"CookedLawModel", "termOf", "(II)I"⟩, prog_14_method_36_code, 8, (some .int), 0)
def y_Mod_in : MethodName × ByteArray × Nat × Option FieldType × Nat := (⟨"CookedLawModel", "in", "(III)Z"⟩, prog_14_method_37_code, 3, (some .boolean), 0)
def y_Mod_held : MethodName × ByteArray × Nat × Option FieldType × Nat := (⟨"CookedLawModel", "held", "(III)I"⟩, prog_14_method_38_code, 3, (some .int), 0)
def y_Mod_bits : MethodName × ByteArray × Nat × Option FieldType × Nat := (⟨"CookedLawModel", "bits", "(I)I"⟩, prog_14_method_39_code, 3, (some .int), 0)
def y_Mod_isFood : MethodName × ByteArray × Nat × Option FieldType × Nat := (⟨"CookedLawModel", "isFood", "(I)Z"⟩, prog_14_method_40_code, 2, (some .boolean), 1)
def y_Mod_isDish : MethodName × ByteArray × Nat × Option FieldType × Nat := (⟨"CookedLawModel", "isDish", "(I)Z"⟩, prog_14_method_41_code, 2, (some .boolean), 1)
def y_Mod_isGuest : MethodName × ByteArray × Nat × Option FieldType × Nat := (⟨"CookedLawModel", "isGuest", "(I)Z"⟩, prog_14_method_42_code, 2, (some .boolean), 1)
def y_Mod_isDeed : MethodName × ByteArray × Nat × Option FieldType × Nat := (⟨"CookedLawModel", "isDeed", "(I)Z"⟩, prog_14_method_43_code, 2, (some .boolean), 1)
def y_Mod_begins : MethodName × ByteArray × Nat × Option FieldType × Nat := (⟨"CookedLawModel", "begins", "()V"⟩, prog_14_method_44_code, 2, none, 0)
def y_Mod_keepsRow : MethodName × ByteArray × Nat × Option FieldType × Nat := (⟨"CookedLawModel", "keepsRow", "()V"⟩, prog_14_method_45_code, 2, none, 0)
def y_Mod_copies : MethodName × ByteArray × Nat × Option FieldType × Nat := (⟨"CookedLawModel", "copies", "()V"⟩, prog_14_method_46_code, 2, none, 0)
def y_Mod_mixed : MethodName × ByteArray × Nat × Option FieldType × Nat := (⟨"CookedLawModel", "mixed", "(II)I"⟩, prog_14_method_47_code, 3, (some .int), 0)
def y_Mod_lotOf : MethodName × ByteArray × Nat × Option FieldType × Nat := (⟨"CookedLawModel", "lotOf", "(II)I"⟩, prog_14_method_48_code, 3, (some .int), 1)
def y_Mod_looks : MethodName × ByteArray × Nat × Option FieldType × Nat := (⟨"CookedLawModel", "looks", "()V"⟩, prog_14_method_49_code, 2, none, 0)
def y_Mod_asks : MethodName × ByteArray × Nat × Option FieldType × Nat := (⟨"CookedLawModel", "asks", "(IIII)I"⟩, prog_14_method_50_code, 7, (some .int), 2)
def y_Mod_lawTells : MethodName × ByteArray × Nat × Option FieldType × Nat := (⟨"CookedLawModel", "lawTells", "(I)I"⟩, prog_14_method_51_code, 5, (some .int), 1)
def y_Mod_fillsPot : MethodName × ByteArray × Nat × Option FieldType × Nat := (⟨"CookedLawModel", "fillsPot", "(I)V"⟩, prog_14_method_52_code, 3, none, 0)
def y_Mod_potMany : MethodName × ByteArray × Nat × Option FieldType × Nat := (⟨"CookedLawModel", "potMany", "()I"⟩, prog_14_method_53_code, 3, (some .int), 0)
def y_Mod_potPrice : MethodName × ByteArray × Nat × Option FieldType × Nat := (⟨"CookedLawModel", "potPrice", "()I"⟩, prog_14_method_54_code, 3, (some .int), 0)
def y_Mod_forceBy : MethodName × ByteArray × Nat × Option FieldType × Nat := (⟨"CookedLawModel", "forceBy", "(II)I"⟩, prog_14_method_55_code, 5, (some .int), 3)
def y_Mod_boundBy : MethodName × ByteArray × Nat × Option FieldType × Nat := (⟨"CookedLawModel", "boundBy", "(IIII)I"⟩, prog_14_method_56_code, 5, (some .int), 3)
def y_Mod_boundNow : MethodName × ByteArray × Nat × Option FieldType × Nat := (⟨"CookedLawModel", "boundNow", "(II)I"⟩, prog_14_method_57_code, 3, (some .int), 4)
def y_Mod_isFree : MethodName × ByteArray × Nat × Option FieldType × Nat := (⟨"CookedLawModel", "isFree", "(II)Z"⟩, prog_14_method_58_code, 3, (some .boolean), 5)
def y_Mod_freeBits : MethodName × ByteArray × Nat × Option FieldType × Nat := (⟨"CookedLawModel", "freeBits", "(I)I"⟩, prog_14_method_59_code, 4, (some .int), 6)
def y_Mod_eatsDish : MethodName × ByteArray × Nat × Option FieldType × Nat := (⟨"CookedLawModel", "eatsDish", "(II)V"⟩, prog_14_method_60_code, 4, none, 4)
def y_Mod_isInStore : MethodName × ByteArray × Nat × Option FieldType × Nat := (⟨"CookedLawModel", "isInStore", "(I)Z"⟩, prog_14_method_61_code, 3, (some .boolean), 1)
def y_Mod_cooks : MethodName × ByteArray × Nat × Option FieldType × Nat := (⟨"CookedLawModel", "cooks", "(I)I"⟩, prog_14_method_62_code, 5, (some .int), 4)
def y_Mod_dayGoes : MethodName × ByteArray × Nat × Option FieldType × Nat := (⟨"CookedLawModel", "dayGoes", "()V"⟩, prog_14_method_63_code, 2, none, 3)
def y_Mod_goes : MethodName × ByteArray × Nat × Option FieldType × Nat := (⟨"CookedLawModel", "goes", "(I)V"⟩, prog_14_method_64_code, 3, none, 4)
def y_Mod_food : MethodName × ByteArray × Nat × Option FieldType × Nat := (⟨"CookedLawModel", "food", "(II)I"⟩, prog_14_method_65_code, 3, (some .int), 2)
def y_Mod_dish : MethodName × ByteArray × Nat × Option FieldType × Nat := (⟨"CookedLawModel", "dish", "(II)I"⟩, prog_14_method_66_code, 3, (some .int), 4)
def y_Mod_amount : MethodName × ByteArray × Nat × Option FieldType × Nat := (⟨"CookedLawModel", "amount", "(II)I"⟩, prog_14_method_67_code, 3, (some .int), 2)
def y_Mod_guest : MethodName × ByteArray × Nat × Option FieldType × Nat := (⟨"CookedLawModel", "guest", "(II)I"⟩, prog_14_method_68_code, 3, (some .int), 5)
def y_Mod_deed : MethodName × ByteArray × Nat × Option FieldType × Nat := (⟨"CookedLawModel", "deed", "(II)I"⟩, prog_14_method_69_code, 5, (some .int), 6)
def y_Mod_records : MethodName × ByteArray × Nat × Option FieldType × Nat := (⟨"CookedLawModel", "records", "()V"⟩, prog_14_method_70_code, 2, none, 1)
def y_Mod_cook : MethodName × ByteArray × Nat × Option FieldType × Nat := (⟨"CookedLawModel", "cook", "(I)I"⟩, prog_14_method_71_code, 3, (some .int), 5)
def y_Mod_eat : MethodName × ByteArray × Nat × Option FieldType × Nat := (⟨"CookedLawModel", "eat", "(I)I"⟩, prog_14_method_72_code, 3, (some .int), 7)
def y_Mod_days : MethodName × ByteArray × Nat × Option FieldType × Nat := (⟨"CookedLawModel", "days", "(I)I"⟩, prog_14_method_73_code, 2, (some .int), 5)
def y_Mod_undo : MethodName × ByteArray × Nat × Option FieldType × Nat := (⟨"CookedLawModel", "undo", "()Z"⟩, prog_14_method_74_code, 2, (some .boolean), 0)
def y_Mod_sevens : MethodName × ByteArray × Nat × Option FieldType × Nat := (⟨"CookedLawModel", "sevens", "(I)I"⟩, prog_14_method_75_code, 3, (some .int), 0)
def y_Mod_isPot : MethodName × ByteArray × Nat × Option FieldType × Nat := (⟨"CookedLawModel", "isPot", "(I)Z"⟩, prog_14_method_76_code, 3, (some .boolean), 1)
def y_Mod_potAt : MethodName × ByteArray × Nat × Option FieldType × Nat := (⟨"CookedLawModel", "potAt", "(III)I"⟩, prog_14_method_77_code, 5, (some .int), 4)
def y_Mod_isBetter : MethodName × ByteArray × Nat × Option FieldType × Nat := (⟨"CookedLawModel", "isBetter", "(I)Z"⟩, prog_14_method_78_code, 2, (some .boolean), 1)
def y_Mod_pot : MethodName × ByteArray × Nat × Option FieldType × Nat := (⟨"CookedLawModel", "pot", "(IIII)I"⟩, prog_14_method_79_code, 7, (some .int), 5)
def y_Mod_off : MethodName × ByteArray × Nat × Option FieldType × Nat := (⟨"CookedLawModel", "off", "(II)I"⟩, prog_14_method_80_code, 2, (some .int), 0)
def y_Mod_pinch : MethodName × ByteArray × Nat × Option FieldType × Nat := (⟨"CookedLawModel", "pinch", "(II)I"⟩, prog_14_method_81_code, 10, (some .int), 4)
def y_Mod_freestOf : MethodName × ByteArray × Nat × Option FieldType × Nat := (⟨"CookedLawModel", "freestOf", "(I)I"⟩, prog_14_method_82_code, 5, (some .int), 7)
def y_Mod_freest : MethodName × ByteArray × Nat × Option FieldType × Nat := (⟨"CookedLawModel", "freest", "(II)I"⟩, prog_14_method_83_code, 4, (some .int), 8)
def y_Mod_supper : MethodName × ByteArray × Nat × Option FieldType × Nat := (⟨"CookedLawModel", "supper", "()I"⟩, prog_14_method_84_code, 3, (some .int), 8)
def y_Mod_feud : MethodName × ByteArray × Nat × Option FieldType × Nat := (⟨"CookedLawModel", "feud", "(III)I"⟩, prog_14_method_85_code, 6, (some .int), 6)
def y_Mod_sixes : MethodName × ByteArray × Nat × Option FieldType × Nat := (⟨"CookedLawModel", "sixes", "(I)I"⟩, prog_14_method_86_code, 3, (some .int), 0)
def y_Mod_mealsBy : MethodName × ByteArray × Nat × Option FieldType × Nat := (⟨"CookedLawModel", "mealsBy", "(IIII)I"⟩, prog_14_method_87_code, 8, (some .int), 7)
def y_Mod_menu : MethodName × ByteArray × Nat × Option FieldType × Nat := (⟨"CookedLawModel", "menu", "(IIII)I"⟩, prog_14_method_88_code, 9, (some .int), 8)
def y_Mod_often : MethodName × ByteArray × Nat × Option FieldType × Nat := (⟨"CookedLawModel", "often", "(I)I"⟩, prog_14_method_89_code, 4, (some .int), 2)
def y_Mod_hunger : MethodName × ByteArray × Nat × Option FieldType × Nat := (⟨"CookedLawModel", "hunger", "(II)I"⟩, prog_14_method_90_code, 4, (some .int), 6)
def y_Mod_isLong : MethodName × ByteArray × Nat × Option FieldType × Nat := (⟨"CookedLawModel", "isLong", "(I)Z"⟩, prog_14_method_91_code, 1, (some .boolean), 1)
def y_Mod_stockIn : MethodName × ByteArray × Nat × Option FieldType × Nat := (⟨"CookedLawModel", "stockIn", "(II)I"⟩, prog_14_method_92_code, 3, (some .int), 5)
def y_Mod_boundIn : MethodName × ByteArray × Nat × Option FieldType × Nat := (⟨"CookedLawModel", "boundIn", "(III)I"⟩, prog_14_method_93_code, 4, (some .int), 5)
def y_Mod_year : MethodName × ByteArray × Nat × Option FieldType × Nat := (⟨"CookedLawModel", "year", "(IIII)I"⟩, prog_14_method_94_code, 7, (some .int), 5)
def y_Mod_tell : MethodName × ByteArray × Nat × Option FieldType × Nat := (⟨"CookedLawModel", "tell", "(III)I"⟩, prog_14_method_95_code, 4, (some .int), 1)
def y_Mod_forget : MethodName × ByteArray × Nat × Option FieldType × Nat := (⟨"CookedLawModel", "forget", "()I"⟩, prog_14_method_96_code, 2, (some .int), 0)
def y_Mod_fillsWay : MethodName × ByteArray × Nat × Option FieldType × Nat := (⟨"CookedLawModel", "fillsWay", "(I)Z"⟩, prog_14_method_97_code, 4, (some .boolean), 2)
def y_Mod_isAsKnown : MethodName × ByteArray × Nat × Option FieldType × Nat := (⟨"CookedLawModel", "isAsKnown", "(I)Z"⟩, prog_14_method_98_code, 3, (some .boolean), 4)
def y_Mod_isWay : MethodName × ByteArray × Nat × Option FieldType × Nat := (⟨"CookedLawModel", "isWay", "(II)Z"⟩, prog_14_method_99_code, 3, (some .boolean), 5)
def y_Mod_blame : MethodName × ByteArray × Nat × Option FieldType × Nat := (⟨"CookedLawModel", "blame", "(I)I"⟩, prog_14_method_100_code, 4, (some .int), 6)
def y_Mod_sure : MethodName × ByteArray × Nat × Option FieldType × Nat := (⟨"CookedLawModel", "sure", "(I)I"⟩, prog_14_method_101_code, 4, (some .int), 6)
def y_Mod_taste : MethodName × ByteArray × Nat × Option FieldType × Nat := (⟨"CookedLawModel", "taste", "(I)I"⟩, prog_14_method_102_code, 8, (some .int), 6)
def y_Mod_hold : MethodName × ByteArray × Nat × Option FieldType × Nat := (⟨"CookedLawModel", "hold", "(I)Z"⟩, prog_14_method_103_code, 3, (some .boolean), 1)
def y_Mod_restore : MethodName × ByteArray × Nat × Option FieldType × Nat := (⟨"CookedLawModel", "restore", "(I)Z"⟩, prog_14_method_104_code, 3, (some .boolean), 1)
def y_Mod_count : MethodName × ByteArray × Nat × Option FieldType × Nat := (⟨"CookedLawModel", "count", "(I)I"⟩, prog_14_method_105_code, 2, (some .int), 0)
def y_Land_init : MethodName × ByteArray × Nat × Option FieldType × Nat := (⟨"CookedLaw$Land", "<init>", "()V"⟩, prog_2_method_1_code, 1, none, 2)
def y_Land_clear : MethodName × ByteArray × Nat × Option FieldType × Nat := (⟨"CookedLaw$Land", "clear", "()V"⟩, prog_2_method_2_code, 1, none, 1)
def y_Land_broughtBy : MethodName × ByteArray × Nat × Option FieldType × Nat := (⟨"CookedLaw$Land", "broughtBy", "(II)I"⟩, prog_2_method_3_code, 3, (some .int), 1)
def y_Land_inDish : MethodName × ByteArray × Nat × Option FieldType × Nat := (⟨"CookedLaw$Land", "inDish", "(II)I"⟩, prog_2_method_4_code, 3, (some .int), 1)
def y_Land_manyIn : MethodName × ByteArray × Nat × Option FieldType × Nat := (⟨"CookedLaw$Land", "manyIn", "(I)I"⟩, prog_2_method_5_code, 4, (some .int), 2)
def y_Land_priceOf : MethodName × ByteArray × Nat × Option FieldType × Nat := (⟨"CookedLaw$Land", "priceOf", "(I)I"⟩, prog_2_method_6_code, 4, (some .int), 2)
def y_Land_sumOf : MethodName × ByteArray × Nat × Option FieldType × Nat := (⟨"CookedLaw$Land", "sumOf", "(II)I"⟩, prog_2_method_7_code, 5, (some .int), 2)
def y_Land_potForce : MethodName × ByteArray × Nat × Option FieldType × Nat := (⟨"CookedLaw$Land", "potForce", "(IIIII)I"⟩, prog_2_method_8_code, 6, (some .int), 2)
def y_Land_dishForce : MethodName × ByteArray × Nat × Option FieldType × Nat := (⟨"CookedLaw$Land", "dishForce", "(IIII)I"⟩, prog_2_method_9_code, 7, (some .int), 3)
def y_Land_boundBy : MethodName × ByteArray × Nat × Option FieldType × Nat := (⟨"CookedLaw$Land", "boundBy", "(IIIII)I"⟩, prog_2_method_10_code, 6, (some .int), 2)
def y_Land_freeUnder : MethodName × ByteArray × Nat × Option FieldType × Nat := (⟨"CookedLaw$Land", "freeUnder", "(II)I"⟩, prog_2_method_11_code, 5, (some .int), 1)
def y_Land_freeByDish : MethodName × ByteArray × Nat × Option FieldType × Nat := (⟨"CookedLaw$Land", "freeByDish", "(IIII)I"⟩, prog_2_method_12_code, 7, (some .int), 4)
def y_Land_fillOf : MethodName × ByteArray × Nat × Option FieldType × Nat := (⟨"CookedLaw$Land", "fillOf", "(III)I"⟩, prog_2_method_13_code, 4, (some .int), 2)
def y_Land_slipsOf : MethodName × ByteArray × Nat × Option FieldType × Nat := (⟨"CookedLaw$Land", "slipsOf", "(II)I"⟩, prog_2_method_14_code, 3, (some .int), 3)
def y_Land_lot : MethodName × ByteArray × Nat × Option FieldType × Nat := (⟨"CookedLaw$Land", "lot", "(III)I"⟩, prog_2_method_15_code, 4, (some .int), 1)
def y_Land_stirred : MethodName × ByteArray × Nat × Option FieldType × Nat := (⟨"CookedLaw$Land", "stirred", "(II)I"⟩, prog_2_method_16_code, 3, (some .int), 0)
def y_Law_init : MethodName × ByteArray × Nat × Option FieldType × Nat := (⟨"CookedLaw$Law", "<init>", "()V"⟩, prog_3_method_1_code, 1, none, 1)
def y_Law_clear : MethodName × ByteArray × Nat × Option FieldType × Nat := (⟨"CookedLaw$Law", "clear", "()V"⟩, prog_3_method_2_code, 1, none, 0)
def y_Law_isTold : MethodName × ByteArray × Nat × Option FieldType × Nat := (⟨"CookedLaw$Law", "isTold", "()Z"⟩, prog_3_method_3_code, 1, (some .boolean), 0)
def y_Law_looksAt : MethodName × ByteArray × Nat × Option FieldType × Nat := (⟨"CookedLaw$Law", "looksAt", "(I)Z"⟩, prog_3_method_4_code, 3, (some .boolean), 0)
def y_Law_let : MethodName × ByteArray × Nat × Option FieldType × Nat := (⟨"CookedLaw$Law", "let", "(II)V"⟩, prog_3_method_5_code, 3, none, 1)
def y_Law_add : MethodName × ByteArray × Nat × Option FieldType × Nat := (⟨"CookedLaw$Law", "add", "(I)V"⟩, prog_3_method_6_code, 2, none, 0)
def y_Law_openIf : MethodName × ByteArray × Nat × Option FieldType × Nat := (⟨"CookedLaw$Law", "openIf", "()I"⟩, prog_3_method_7_code, 1, (some .int), 1)
def y_Law_closeIf : MethodName × ByteArray × Nat × Option FieldType × Nat := (⟨"CookedLaw$Law", "closeIf", "(I)V"⟩, prog_3_method_8_code, 2, none, 1)
def y_Law_value : MethodName × ByteArray × Nat × Option FieldType × Nat := (⟨"CookedLaw$Law", "value", "()I"⟩, prog_3_method_9_code, 7, (some .int), 1)
def y_Law_reckon : MethodName × ByteArray × Nat × Option FieldType × Nat := (⟨"CookedLaw$Law", "reckon", "(III)I"⟩, prog_3_method_10_code, 3, (some .int), 0)
def y_MenuSearch_init : MethodName × ByteArray × Nat × Option FieldType × Nat := (⟨"CookedLaw$MenuSearch", "<init>", "()V"⟩, prog_4_method_1_code, 1, none, 1)
def y_MenuSearch_find : MethodName × ByteArray × Nat × Option FieldType × Nat := (⟨"CookedLaw$MenuSearch", "find", "(LCookedLaw$Land;LCookedLaw$State;III)Z"⟩, prog_4_method_2_code, 8, (some .boolean), 6)
def y_MenuSearch_lookUnfed : MethodName × ByteArray × Nat × Option FieldType × Nat := (⟨"CookedLaw$MenuSearch", "lookUnfed", "(LCookedLaw$Land;LCookedLaw$State;II)V"⟩, prog_4_method_3_code, 6, none, 5)
def y_MenuSearch_lookFed : MethodName × ByteArray × Nat × Option FieldType × Nat := (⟨"CookedLaw$MenuSearch", "lookFed", "(LCookedLaw$Land;IIII)V"⟩, prog_4_method_4_code, 11, none, 5)
def y_MenuSearch_indexOf : MethodName × ByteArray × Nat × Option FieldType × Nat := (⟨"CookedLaw$MenuSearch", "indexOf", "(III)I"⟩, prog_4_method_5_code, 3, (some .int), 0)
def y_MenuSearch_isFree : MethodName × ByteArray × Nat × Option FieldType × Nat := (⟨"CookedLaw$MenuSearch", "isFree", "(III)Z"⟩, prog_4_method_6_code, 5, (some .boolean), 1)
def y_MenuSearch_mealsIfAllFree : MethodName × ByteArray × Nat × Option FieldType × Nat := (⟨"CookedLaw$MenuSearch", "mealsIfAllFree", "(I)I"⟩, prog_4_method_7_code, 7, (some .int), 2)
def y_MenuSearch_step : MethodName × ByteArray × Nat × Option FieldType × Nat := (⟨"CookedLaw$MenuSearch", "step", "(II)Z"⟩, prog_4_method_8_code, 5, (some .boolean), 1)
def y_Past_init : MethodName × ByteArray × Nat × Option FieldType × Nat := (⟨"CookedLaw$Past", "<init>", "()V"⟩, prog_5_method_1_code, 2, none, 2)
def y_Past_clear : MethodName × ByteArray × Nat × Option FieldType × Nat := (⟨"CookedLaw$Past", "clear", "()V"⟩, prog_5_method_2_code, 1, none, 0)
def y_Past_keep : MethodName × ByteArray × Nat × Option FieldType × Nat := (⟨"CookedLaw$Past", "keep", "(LCookedLaw$State;)V"⟩, prog_5_method_3_code, 2, none, 2)
def y_Past_takeBack : MethodName × ByteArray × Nat × Option FieldType × Nat := (⟨"CookedLaw$Past", "takeBack", "(LCookedLaw$State;)Z"⟩, prog_5_method_4_code, 3, (some .boolean), 2)
def y_PotSearch_init : MethodName × ByteArray × Nat × Option FieldType × Nat := (⟨"CookedLaw$PotSearch", "<init>", "()V"⟩, prog_6_method_1_code, 1, none, 1)
def y_PotSearch_find : MethodName × ByteArray × Nat × Option FieldType × Nat := (⟨"CookedLaw$PotSearch", "find", "(LCookedLaw$Land;LCookedLaw$State;III)Z"⟩, prog_6_method_2_code, 7, (some .boolean), 5)
def y_PotSearch_fillFrom : MethodName × ByteArray × Nat × Option FieldType × Nat := (⟨"CookedLaw$PotSearch", "fillFrom", "(LCookedLaw$State;II)V"⟩, prog_6_method_3_code, 7, none, 1)
def y_PotSearch_stepDown : MethodName × ByteArray × Nat × Option FieldType × Nat := (⟨"CookedLaw$PotSearch", "stepDown", "(LCookedLaw$State;)V"⟩, prog_6_method_4_code, 4, none, 2)
def y_PotSearch_weigh : MethodName × ByteArray × Nat × Option FieldType × Nat := (⟨"CookedLaw$PotSearch", "weigh", "(LCookedLaw$Land;)V"⟩, prog_6_method_5_code, 5, none, 2)
def y_PotSearch_tryHeats : MethodName × ByteArray × Nat × Option FieldType × Nat := (⟨"CookedLaw$PotSearch", "tryHeats", "(LCookedLaw$Land;I)V"⟩, prog_6_method_6_code, 6, none, 4)
def y_PotSearch_isEnough : MethodName × ByteArray × Nat × Option FieldType × Nat := (⟨"CookedLaw$PotSearch", "isEnough", "(LCookedLaw$Land;II)Z"⟩, prog_6_method_7_code, 6, (some .boolean), 3)
def y_Reader_init : MethodName × ByteArray × Nat × Option FieldType × Nat := (⟨"CookedLaw$Reader", "<init>", "()V"⟩, prog_7_method_1_code, 1, none, 5)
def y_Reader_parse : MethodName × ByteArray × Nat × Option FieldType × Nat := (⟨"CookedLaw$Reader", "parse", "(LCookedLaw$Tape;LCookedLaw$Land;)I"⟩, prog_7_method_2_code, 4, (some .int), 5)
def y_Reader_placeOfFault : MethodName × ByteArray × Nat × Option FieldType × Nat := (⟨"CookedLaw$Reader", "placeOfFault", "()I"⟩, prog_7_method_3_code, 1, (some .int), 1)
def y_Reader_is : MethodName × ByteArray × Nat × Option FieldType × Nat := (⟨"CookedLaw$Reader", "is", "(I)Z"⟩, prog_7_method_4_code, 2, (some .boolean), 1)
def y_Reader_stop : MethodName × ByteArray × Nat × Option FieldType × Nat := (⟨"CookedLaw$Reader", "stop", "(I)V"⟩, prog_7_method_5_code, 2, none, 0)
def y_Reader_stopLate : MethodName × ByteArray × Nat × Option FieldType × Nat := (⟨"CookedLaw$Reader", "stopLate", "(I)V"⟩, prog_7_method_6_code, 2, none, 0)
def y_Reader_take : MethodName × ByteArray × Nat × Option FieldType × Nat := (⟨"CookedLaw$Reader", "take", "()V"⟩, prog_7_method_7_code, 1, none, 1)
def y_Reader_need : MethodName × ByteArray × Nat × Option FieldType × Nat := (⟨"CookedLaw$Reader", "need", "(I)V"⟩, prog_7_method_8_code, 2, none, 2)
def y_Reader_takeInt : MethodName × ByteArray × Nat × Option FieldType × Nat := (⟨"CookedLaw$Reader", "takeInt", "(I)I"⟩, prog_7_method_9_code, 3, (some .int), 3)
def y_Reader_takeNewName : MethodName × ByteArray × Nat × Option FieldType × Nat := (⟨"CookedLaw$Reader", "takeNewName", "(I)V"⟩, prog_7_method_10_code, 4, none, 3)
def y_Reader_indexOf : MethodName × ByteArray × Nat × Option FieldType × Nat := (⟨"CookedLaw$Reader", "indexOf", "(J)I"⟩, prog_7_method_11_code, 4, (some .int), 0)
def y_Reader_takeFood : MethodName × ByteArray × Nat × Option FieldType × Nat := (⟨"CookedLaw$Reader", "takeFood", "(LCookedLaw$Land;)V"⟩, prog_7_method_12_code, 4, none, 4)
def y_Reader_takeDish : MethodName × ByteArray × Nat × Option FieldType × Nat := (⟨"CookedLaw$Reader", "takeDish", "(LCookedLaw$Land;)V"⟩, prog_7_method_13_code, 4, none, 4)
def y_Reader_takeIngredient : MethodName × ByteArray × Nat × Option FieldType × Nat := (⟨"CookedLaw$Reader", "takeIngredient", "(LCookedLaw$Land;I)V"⟩, prog_7_method_14_code, 5, none, 3)
def y_Reader_takeGuest : MethodName × ByteArray × Nat × Option FieldType × Nat := (⟨"CookedLaw$Reader", "takeGuest", "(LCookedLaw$Land;)V"⟩, prog_7_method_15_code, 3, none, 4)
def y_Reader_takeDeed : MethodName × ByteArray × Nat × Option FieldType × Nat := (⟨"CookedLaw$Reader", "takeDeed", "(LCookedLaw$Land;)V"⟩, prog_7_method_16_code, 3, none, 4)
def y_Reader_takeSeed : MethodName × ByteArray × Nat × Option FieldType × Nat := (⟨"CookedLaw$Reader", "takeSeed", "(LCookedLaw$Land;)V"⟩, prog_7_method_17_code, 2, none, 4)
def y_Reader_takeLaw : MethodName × ByteArray × Nat × Option FieldType × Nat := (⟨"CookedLaw$Reader", "takeLaw", "(LCookedLaw$Law;)V"⟩, prog_7_method_18_code, 4, none, 4)
def y_Reader_takeSum : MethodName × ByteArray × Nat × Option FieldType × Nat := (⟨"CookedLaw$Reader", "takeSum", "(LCookedLaw$Law;)V"⟩, prog_7_method_19_code, 4, none, 3)
def y_Reader_takeUnit : MethodName × ByteArray × Nat × Option FieldType × Nat := (⟨"CookedLaw$Reader", "takeUnit", "(LCookedLaw$Law;)Z"⟩, prog_7_method_20_code, 3, (some .boolean), 2)
def y_Reader_takeSign : MethodName × ByteArray × Nat × Option FieldType × Nat := (⟨"CookedLaw$Reader", "takeSign", "(LCookedLaw$Law;)V"⟩, prog_7_method_21_code, 3, none, 2)
def y_Reader_takeClose : MethodName × ByteArray × Nat × Option FieldType × Nat := (⟨"CookedLaw$Reader", "takeClose", "(LCookedLaw$Law;)V"⟩, prog_7_method_22_code, 2, none, 2)
def y_Reader_holdSign : MethodName × ByteArray × Nat × Option FieldType × Nat := (⟨"CookedLaw$Reader", "holdSign", "(I)V"⟩, prog_7_method_23_code, 2, none, 1)
def y_Reader_layHeld : MethodName × ByteArray × Nat × Option FieldType × Nat := (⟨"CookedLaw$Reader", "layHeld", "(LCookedLaw$Law;I)V"⟩, prog_7_method_24_code, 3, none, 1)
def y_Reader_rank : MethodName × ByteArray × Nat × Option FieldType × Nat := (⟨"CookedLaw$Reader", "rank", "(I)I"⟩, prog_7_method_25_code, 1, (some .int), 0)
def y_Slots_init : MethodName × ByteArray × Nat × Option FieldType × Nat := (⟨"CookedLaw$Slots", "<init>", "()V"⟩, prog_8_method_1_code, 2, none, 2)
def y_Slots_clear : MethodName × ByteArray × Nat × Option FieldType × Nat := (⟨"CookedLaw$Slots", "clear", "()V"⟩, prog_8_method_2_code, 1, none, 0)
def y_Slots_keep : MethodName × ByteArray × Nat × Option FieldType × Nat := (⟨"CookedLaw$Slots", "keep", "(ILCookedLaw$State;)Z"⟩, prog_8_method_3_code, 3, (some .boolean), 2)
def y_Slots_bring : MethodName × ByteArray × Nat × Option FieldType × Nat := (⟨"CookedLaw$Slots", "bring", "(ILCookedLaw$State;)Z"⟩, prog_8_method_4_code, 3, (some .boolean), 2)
def y_Slots_full : MethodName × ByteArray × Nat × Option FieldType × Nat := (⟨"CookedLaw$Slots", "full", "()I"⟩, prog_8_method_5_code, 1, (some .int), 1)
def y_State_init : MethodName × ByteArray × Nat × Option FieldType × Nat := (⟨"CookedLaw$State", "<init>", "()V"⟩, prog_9_method_1_code, 1, none, 1)
def y_State_begin : MethodName × ByteArray × Nat × Option FieldType × Nat := (⟨"CookedLaw$State", "begin", "(LCookedLaw$Land;)V"⟩, prog_9_method_2_code, 3, none, 1)
def y_State_copyFrom : MethodName × ByteArray × Nat × Option FieldType × Nat := (⟨"CookedLaw$State", "copyFrom", "(LCookedLaw$State;)V"⟩, prog_9_method_3_code, 2, none, 1)
def y_State_inStore : MethodName × ByteArray × Nat × Option FieldType × Nat := (⟨"CookedLaw$State", "inStore", "(LCookedLaw$Land;I)Z"⟩, prog_9_method_4_code, 4, (some .boolean), 2)
def y_State_slipInto : MethodName × ByteArray × Nat × Option FieldType × Nat := (⟨"CookedLaw$State", "slipInto", "(LCookedLaw$Land;II)I"⟩, prog_9_method_5_code, 6, (some .int), 4)
def y_State_cookOne : MethodName × ByteArray × Nat × Option FieldType × Nat := (⟨"CookedLaw$State", "cookOne", "(LCookedLaw$Land;I)I"⟩, prog_9_method_6_code, 6, (some .int), 5)
def y_State_eatServed : MethodName × ByteArray × Nat × Option FieldType × Nat := (⟨"CookedLaw$State", "eatServed", "(I)V"⟩, prog_9_method_7_code, 3, none, 1)
def y_State_passDays : MethodName × ByteArray × Nat × Option FieldType × Nat := (⟨"CookedLaw$State", "passDays", "(LCookedLaw$Land;I)V"⟩, prog_9_method_8_code, 6, none, 3)
def y_State_hasEaten : MethodName × ByteArray × Nat × Option FieldType × Nat := (⟨"CookedLaw$State", "hasEaten", "(I)Z"⟩, prog_9_method_9_code, 2, (some .boolean), 1)
def y_State_agoOf : MethodName × ByteArray × Nat × Option FieldType × Nat := (⟨"CookedLaw$State", "agoOf", "(I)I"⟩, prog_9_method_10_code, 2, (some .int), 1)
def y_State_boundOf : MethodName × ByteArray × Nat × Option FieldType × Nat := (⟨"CookedLaw$State", "boundOf", "(LCookedLaw$Land;III)I"⟩, prog_9_method_11_code, 5, (some .int), 3)
def y_State_freeOf : MethodName × ByteArray × Nat × Option FieldType × Nat := (⟨"CookedLaw$State", "freeOf", "(LCookedLaw$Land;II)I"⟩, prog_9_method_12_code, 6, (some .int), 4)
def y_State_allMeals : MethodName × ByteArray × Nat × Option FieldType × Nat := (⟨"CookedLaw$State", "allMeals", "()I"⟩, prog_9_method_13_code, 3, (some .int), 1)
def y_Tape_init : MethodName × ByteArray × Nat × Option FieldType × Nat := (⟨"CookedLaw$Tape", "<init>", "()V"⟩, prog_10_method_1_code, 1, none, 1)
def y_Tape_write : MethodName × ByteArray × Nat × Option FieldType × Nat := (⟨"CookedLaw$Tape", "write", "(I)V"⟩, prog_10_method_2_code, 3, none, 1)
def y_Tape_byteAt : MethodName × ByteArray × Nat × Option FieldType × Nat := (⟨"CookedLaw$Tape", "byteAt", "(I)I"⟩, prog_10_method_3_code, 2, (some .int), 0)
def y_Tokens_init : MethodName × ByteArray × Nat × Option FieldType × Nat := (⟨"CookedLaw$Tokens", "<init>", "()V"⟩, prog_11_method_1_code, 4, none, 4)
def y_Tokens_withLetter : MethodName × ByteArray × Nat × Option FieldType × Nat := (⟨"CookedLaw$Tokens", "withLetter", "(JI)J"⟩, prog_11_method_2_code, 3, (some .long), 0)
def y_Tokens_cut : MethodName × ByteArray × Nat × Option FieldType × Nat := (⟨"CookedLaw$Tokens", "cut", "(LCookedLaw$Tape;)V"⟩, prog_11_method_3_code, 5, none, 3)
def y_Tokens_behindBlanks : MethodName × ByteArray × Nat × Option FieldType × Nat := (⟨"CookedLaw$Tokens", "behindBlanks", "(LCookedLaw$Tape;I)I"⟩, prog_11_method_4_code, 3, (some .int), 1)
def y_Tokens_isBlank : MethodName × ByteArray × Nat × Option FieldType × Nat := (⟨"CookedLaw$Tokens", "isBlank", "(I)Z"⟩, prog_11_method_5_code, 1, (some .boolean), 0)
def y_Tokens_cutOne : MethodName × ByteArray × Nat × Option FieldType × Nat := (⟨"CookedLaw$Tokens", "cutOne", "(LCookedLaw$Tape;II)I"⟩, prog_11_method_6_code, 5, (some .int), 2)
def y_Tokens_isSign : MethodName × ByteArray × Nat × Option FieldType × Nat := (⟨"CookedLaw$Tokens", "isSign", "(I)Z"⟩, prog_11_method_7_code, 1, (some .boolean), 0)
def y_Tokens_cutLetters : MethodName × ByteArray × Nat × Option FieldType × Nat := (⟨"CookedLaw$Tokens", "cutLetters", "(LCookedLaw$Tape;II)I"⟩, prog_11_method_8_code, 7, (some .int), 1)
def y_Tokens_kindOf : MethodName × ByteArray × Nat × Option FieldType × Nat := (⟨"CookedLaw$Tokens", "kindOf", "(J)I"⟩, prog_11_method_9_code, 4, (some .int), 0)
def y_Tokens_cutDigits : MethodName × ByteArray × Nat × Option FieldType × Nat := (⟨"CookedLaw$Tokens", "cutDigits", "(LCookedLaw$Tape;II)I"⟩, prog_11_method_10_code, 7, (some .int), 1)
def y_Tokens_set : MethodName × ByteArray × Nat × Option FieldType × Nat := (⟨"CookedLaw$Tokens", "set", "(IIJ)V"⟩, prog_11_method_11_code, 5, none, 0)
def y_Tokens_valueAt : MethodName × ByteArray × Nat × Option FieldType × Nat := (⟨"CookedLaw$Tokens", "valueAt", "(I)J"⟩, prog_11_method_12_code, 2, (some .long), 0)
def y_Told_init : MethodName × ByteArray × Nat × Option FieldType × Nat := (⟨"CookedLaw$Told", "<init>", "()V"⟩, prog_12_method_1_code, 1, none, 1)
def y_Told_clear : MethodName × ByteArray × Nat × Option FieldType × Nat := (⟨"CookedLaw$Told", "clear", "()V"⟩, prog_12_method_2_code, 1, none, 0)
def y_Told_add : MethodName × ByteArray × Nat × Option FieldType × Nat := (⟨"CookedLaw$Told", "add", "(III)I"⟩, prog_12_method_3_code, 4, (some .int), 1)
def y_Told_gather : MethodName × ByteArray × Nat × Option FieldType × Nat := (⟨"CookedLaw$Told", "gather", "(LCookedLaw$Land;II)V"⟩, prog_12_method_4_code, 6, none, 5)
def y_Told_lay : MethodName × ByteArray × Nat × Option FieldType × Nat := (⟨"CookedLaw$Told", "lay", "(LCookedLaw$Land;II)Z"⟩, prog_12_method_5_code, 9, (some .boolean), 3)
def y_Told_isAsKnown : MethodName × ByteArray × Nat × Option FieldType × Nat := (⟨"CookedLaw$Told", "isAsKnown", "(LCookedLaw$Land;II)Z"⟩, prog_12_method_6_code, 5, (some .boolean), 4)
def y_Told_forceOf : MethodName × ByteArray × Nat × Option FieldType × Nat := (⟨"CookedLaw$Told", "forceOf", "(LCookedLaw$Land;IIII)I"⟩, prog_12_method_7_code, 6, (some .int), 3)
def y_Told_onlyDish : MethodName × ByteArray × Nat × Option FieldType × Nat := (⟨"CookedLaw$Told", "onlyDish", "()I"⟩, prog_12_method_8_code, 2, (some .int), 1)
def y_Told_nextTaste : MethodName × ByteArray × Nat × Option FieldType × Nat := (⟨"CookedLaw$Told", "nextTaste", "(LCookedLaw$Land;I)I"⟩, prog_12_method_9_code, 8, (some .int), 5)
def y_Told_mostAlike : MethodName × ByteArray × Nat × Option FieldType × Nat := (⟨"CookedLaw$Told", "mostAlike", "(LCookedLaw$Land;III)I"⟩, prog_12_method_10_code, 9, (some .int), 4)
def y_Int_bitCount : MethodName × ByteArray × Nat × Option FieldType × Nat := (⟨"java/lang/Integer", "bitCount", "(I)I"⟩, prog_15_method_49_code, 1, (some .int), 0)
end MG0x1
section MG0x2
/-! The picture: ints M, longs L, references R, by (cell, place); a cell's place in the heap is b + cell. -/
abbrev gM : Type := Nat → Nat → Int32
abbrev gL : Type := Nat → Nat → Int64
abbrev gR : Type := Nat → Nat → Option Nat
abbrev gY : Type := MethodName × ByteArray × Nat × Option FieldType × Nat
def uM (M : gM) (a i : Nat) (x : Int32) : gM := fun c => if c = a then upd (M a) i x else M c
def uL (L : gL) (a i : Nat) (x : Int64) : gL := fun c => if c = a then vp_updL (L a) i x else L c
def uR (R : gR) (a i : Nat) (x : Option Nat) : gR := fun c => if c = a then va_up (R a) i x else R c
theorem uM_at (M : gM) (a i : Nat) (x : Int32) (c j : Nat) : uM M a i x c j = if c = a ∧ j = i then x else M c j := by
  unfold uM
  by_cases h : c = a
  · subst h
    by_cases h2 : j = i
    · simp [upd, h2]
    · simp [upd, h2]
  · simp [h]
theorem uL_at (L : gL) (a i : Nat) (x : Int64) (c j : Nat) : uL L a i x c j = if c = a ∧ j = i then x else L c j := by
  unfold uL
  by_cases h : c = a
  · subst h
    by_cases h2 : j = i
    · simp [vp_updL, h2]
    · simp [vp_updL, h2]
  · simp [h]
theorem uR_at (R : gR) (a i : Nat) (x : Option Nat) (c j : Nat) : uR R a i x c j = if c = a ∧ j = i then x else R c j := by
  unfold uR
  by_cases h : c = a
  · subst h
    by_cases h2 : j = i
    · simp [va_up, h2]
    · simp [va_up, h2]
  · simp [h]
theorem uM_row (M : gM) (a i : Nat) (x : Int32) : uM M a i x a = upd (M a) i x := if_pos rfl
theorem uM_ne (M : gM) {a c : Nat} (i : Nat) (x : Int32) (h : c ≠ a) : uM M a i x c = M c := if_neg h
theorem uL_row (L : gL) (a i : Nat) (x : Int64) : uL L a i x a = vp_updL (L a) i x := if_pos rfl
theorem uL_ne (L : gL) {a c : Nat} (i : Nat) (x : Int64) (h : c ≠ a) : uL L a i x c = L c := if_neg h
theorem uR_row (R : gR) (a i : Nat) (x : Option Nat) : uR R a i x a = va_up (R a) i x := if_pos rfl
theorem uR_ne (R : gR) {a c : Nat} (i : Nat) (x : Option Nat) (h : c ≠ a) : uR R a i x c = R c := if_neg h
def b01 (x : Int32) : Int32 := if x = 0 then 0 else 1
theorem b01_01 (x : Int32) : b01 x = 0 ∨ b01 x = 1 := by
  unfold b01
  split
  · exact Or.inl rfl
  · exact Or.inr rfl
def cv (b : Nat) : Value → Value
  | .ref a => .ref (b + a)
  | v => v
theorem cv_cat (b : Nat) (v : Value) : (cv b v).category = v.category := by cases v <;> rfl
def fvl (b : Nat) (M : gM) (R : gR) (a : Nat) (q : Nat × Nat) : Value := match q.1 with
  | 0 => .int (M a q.2)
  | 2 => .int (b01 (M a q.2))
  | _ => va_rf ((R a q.2).map (fun x => b + x))
def ent (cA : Nat → ClassId) (b : Nat) (M : gM) (L : gL) (R : gR) (a : Nat) : va_E := match SH a with
  | (0, ci) => .inr (ci, (fks ci).map (fvl b M R a))
  | (1, n) => .inl (cA 0, n, .inl (M a))
  | (2, n) => .inl (cA 1, n, .inl (M a))
  | (3, n) => .inl (cA 2, n, .inl (M a))
  | (4, n) => .inl (cA 3, n, .inr (.inl (L a)))
  | (_, n) => .inl (cA 4, n, .inr (.inr (.inr (.inr (fun j => (R a j).map (fun x => b + x))))))
def Wd (cA : Nat → ClassId) (b n : Nat) (M : gM) (L : gL) (R : gR) : va_W := (List.range n).map (fun a => (b + a, ent cA b M L R a))
theorem wd_at {cA : Nat → ClassId} {b n a : Nat} {M : gM} {L : gL} {R : gR} (h : a < n) : (Wd cA b n M L R)[a]? = some (b + a, ent cA b M L R a) := by
  simp [Wd, h]
theorem wd_get {cA : Nat → ClassId} {b n k : Nat} {M : gM} {L : gL} {R : gR} {q : Nat × va_E} (h : (Wd cA b n M L R)[k]? = some q) : k < n ∧ q = (b + k, ent cA b M L R k) := by
  have hk : k < n := by
    have := (List.getElem?_eq_some_iff.mp h).1
    simpa [Wd] using this
  rw [wd_at hk] at h
  exact ⟨hk, (Option.some.inj h).symm⟩
theorem wd_set {cA : Nat → ClassId} {b n a : Nat} {M M' : gM} {L L' : gL} {R R' : gR} (h : a < n) (ho : ∀ c, c ≠ a → ent cA b M' L' R' c = ent cA b M L R c) :
    (Wd cA b n M L R).set a (b + a, ent cA b M' L' R' a) = Wd cA b n M' L' R' := by
  apply List.ext_getElem?
  intro i
  rw [List.getElem?_set]
  by_cases hi : i < n
  · rw [wd_at hi]
    by_cases ha : a = i
    · subst ha
      simp [Wd, h]
    · rw [if_neg ha, wd_at hi, ho i (fun q => ha q.symm)]
  · have e1 : (Wd cA b n M' L' R')[i]? = none := by simp [Wd]; omega
    have e2 : (Wd cA b n M L R)[i]? = none := by simp [Wd]; omega
    have ha : a ≠ i := by omega
    rw [e1, if_neg ha, e2]
theorem wd_snoc {cA : Nat → ClassId} {b n : Nat} {M : gM} {L : gL} {R : gR} : Wd cA b (n + 1) M L R = Wd cA b n M L R ++ [(b + n, ent cA b M L R n)] := by
  simp [Wd, List.range_succ]
theorem wd_D {cA : Nat → ClassId} {b n : Nat} {M : gM} {L : gL} {R : gR} : va_D (fun q => b ≤ q) (Wd cA b n M L R) := by
  refine ⟨fun i j p q hi hj e => ?_, fun k q hk => ?_⟩
  · obtain ⟨-, rfl⟩ := wd_get hi
    obtain ⟨-, rfl⟩ := wd_get hj
    have e' : b + i = b + j := e
    omega
  · obtain ⟨-, rfl⟩ := wd_get hk
    exact Nat.le_add_right _ _
def tys (cA : Nat → ClassId) : List (ClassId × FieldType) := [(cA 0, .int), (cA 1, .byte), (cA 2, .boolean), (cA 3, .long), (cA 4, .object "CookedLaw$State")]
def gtb : List Cond := lw_tbl.filter goodWord
theorem gtb_of {w : Cond} (h : w ∈ lw_tbl) (g : goodWord w = true) : w ∈ gtb := List.mem_filter.mpr ⟨h, g⟩
def isNest : Cond → Bool
  | .fieldLinkNest .. => true
  | .methodLinkNest .. => true
  | _ => false
def gK (D : va_G) (cA : Nat → ClassId) (s : State) : Prop := va_K D cls (tys cA) s ∧ (∀ w ∈ tables_1, isNest w = true → va_Nw w s) ∧ va_AO "CookedLaw$State" s
theorem gK.same {D : va_G} {cA : Nat → ClassId} {u U : State} (h : u.vm = U.vm) (k : gK D cA u) : gK D cA U := by
  refine ⟨va_K.moved (by rw [h]; exact Vm.Alike.refl _) k.1, fun w hw hn => ?_, va_AO.moved (by rw [h]; exact Vm.Alike.refl _) k.2.2⟩
  refine va_Nw.same ?_ h (k.2.1 w hw hn)
  cases w <;> first | rfl | (exfalso; simp [isNest] at hn)
theorem gK.warm {D : va_G} {cA : Nat → ClassId} {s U : State} (h : s.WarmedH U.vm) (k : gK D cA s) : gK D cA U := by
  refine ⟨va_K.moved h.alike k.1, fun w hw hn => ?_, va_AO.moved h.alike k.2.2⟩
  have hq := k.2.1 w hw hn
  cases w with
  | fieldLinkNest a i b n d h' => exact va_Nw.warmF h hq
  | methodLinkNest a i x h' => exact va_Nw.warmM h hq
  | _ => exfalso; simp [isNest] at hn
def jsB : List (List Int32) := [[102, 111, 111, 100, 32, 100, 105, 115, 104, 32, 103, 117, 101, 115, 116, 32, 100, 101, 101, 100, 32, 102, 111, 114, 99, 101, 32, 98, 105, 110, 100, 115, 32, 102, 105, 108, 108, 115, 32, 115, 108, 105, 112, 115, 32, 115, 101, 101, 100, 32, 105, 102, 32, 116, 104, 101, 110, 32, 101, 108, 115, 101, 32, 115, 117, 109, 32, 104, 101, 97, 116, 32, 107, 105, 110, 100, 32, 109, 97, 110, 121, 32, 100, 97, 121, 32, 112, 97, 108, 97, 116, 101, 32, 97, 103, 111, 32, 115, 116, 111, 99, 107, 32, 112, 114, 105, 99, 101]]
def gO (b : Nat) (U : State) (H : Heap) : Prop := ∃ adK adV : Nat → Nat, vk_S 1 [108] jsB adK adV (fun q => b ≤ q) U H ∧ vk_R "CookedLaw$Tokens" 25 "food dish guest deed force binds fills slips seed if then else sum heat kind many day palate ago stock price" (adK 0) U ∧ va_Z "java/lang/String" "COMPACT_STRINGS" "Z" (.int 1) (fun q => b ≤ q) U H ∧ va_Zq "jdk/internal/util/Preconditions" "SIOOBE_FORMATTER" "Ljava/util/function/BiFunction;" (fun q => b ≤ q) U H
theorem gO.warm {b : Nat} {s U : State} {H : Heap} (h : s.WarmedH U.vm) (g : gO b s H) : gO b U H := by
  obtain ⟨adK, adV, g1, g2, g3, g4⟩ := g
  exact ⟨adK, adV, g1.moved h.alike, vk_R.warm h g2, g3.moved h.alike, g4.moved h.alike⟩
theorem gO.same {b : Nat} {u U : State} {H : Heap} (h : U.vm = u.vm) (g : gO b u H) : gO b U H := by
  obtain ⟨adK, adV, g1, g2, g3, g4⟩ := g
  have hv : u.vm.Alike U.vm := by rw [h]; exact Vm.Alike.refl _
  exact ⟨adK, adV, g1.moved hv, vk_R.same h g2, g3.moved hv, g4.moved hv⟩
theorem gO.kept {b : Nat} {U : State} {H H1 : Heap} (g : gO b U H) (hq : ∀ a : Nat, a < H.size → ¬ b ≤ a → H1[a]? = H[a]?) : gO b U H1 := by
  obtain ⟨adK, adV, g1, g2, g3, g4⟩ := g
  exact ⟨adK, adV, g1.kept hq, g2, g3.kept hq, g4.kept hq⟩
def rmd (h mc ms : Nat) : Room := { frames := h, cells := mc, slots := ms, locals := 40 * h }
def gW (Y : gY) : List Cond := Cond.code Y.1 Y.2.1 Y.2.2.1 Y.2.2.2.1 :: gtb
def gP (b n : Nat) (D : va_G) (cA : Nat → ClassId) (M : gM) (L : gL) (R : gR) (args : List Value) : Array Value → State → Prop := fun v U =>
  v = (args.map (cv b)).toArray ∧ U.heap.size = b + n ∧ va_P D cls (Wd cA b n M L R) U.heap ∧ gK D cA U ∧ gO b U U.heap
def gQ (b : Nat) (D : va_G) (cA : Nat → ClassId) (n : Nat) (Q : Option Value → gM → gL → gR → Prop) : Array Value → State → Outcome → State → Prop := fun _ st oc t =>
  (∃ (r : Option Value) (M : gM) (L : gL) (R : gR), oc = .returned (r.map (cv b)) ∧ Q r M L R ∧ va_P D cls (Wd cA b n M L R) t.heap) ∧ va_F (fun q => b ≤ q) st t
/-- a method's contract: from the picture it returns, and Q holds of its answer and the picture behind it; E: cells and slots that it makes, and how many cells there are then -/
def Tm (l : Launch) (Y : gY) (E : Nat × Nat × Nat) (n : Nat) (args : List Value) (M : gM) (L : gL) (R : gR) (Q : Option Value → gM → gL → gR → Prop) : Prop :=
  ∀ (b : Nat) (D : va_G) (cA : Nat → ClassId), Met l Y.1 (gW Y) (rmd Y.2.2.2.2 E.1 E.2.1) (gP b n D cA M L R args) (gQ b D cA E.2.2 Q) E.1 E.2.1 (fun q => b ≤ q)
def Cx (l : Launch) (Y : gY) (b : Nat) (D : va_G) (cA : Nat → ClassId) (p : Program) (s : State) (m : MethodId) (args : Array Value) (meth : Method) (c : Code) : Prop :=
  p.tables.exec = Jvm.exec ∧ c.code = Y.2.1 ∧ meth.sig.returnType = Y.2.2.2.1 ∧ meth.locks = false ∧ c.maxLocals = Y.2.2.1 ∧ s.vm.findClass Y.1.cls = some m.cls ∧ meth.name = Y.1.name ∧ (∀ w ∈ gW Y, w.before args s = true) ∧ gK D cA s ∧ b ≤ s.heap.size ∧ gO b s s.heap
/-- from here on in a method: k cells of z slots have been made, n cells are there -/
def Wp (l : Launch) (Y : gY) (E : Nat × Nat × Nat) (n k z pc : Nat) (lv : List (Nat × Value)) (st : List Value) (M : gM) (L : gL) (R : gR) (Q : Option Value → gM → gL → gR → Prop) : Prop :=
  ∀ (b : Nat) (D : va_G) (cA : Nat → ClassId) (p : Program) (e : Env) (s : State) (m : MethodId) (args : Array Value) (below : List Frame) (meth : Method) (c : Code) (H : Heap) (locs : List Loc) (ls : Array Slot),
    Cx l Y b D cA p s m args meth c → s.heap.size + k = b + n → va_P D cls (Wd cA b n M L R) H → va_S (fun q => b ≤ q) s.heap H locs → lv_has ls Y.2.2.1 (lv.map (fun q => (q.1, cv b q.2))) →
    W p l e (rmd Y.2.2.2.2 E.1 E.2.1) s m args below meth c H locs k z (MQ below (gQ b D cA E.2.2 Q) args s E.1 E.2.1 (fun q => b ≤ q)) (F0 m pc ls (st.map (cv b)))
theorem Tm.imp {l : Launch} {Y : gY} {E : Nat × Nat × Nat} {n : Nat} {args : List Value} {M : gM} {L : gL} {R : gR} {Q Q' : Option Value → gM → gL → gR → Prop} (h : Tm l Y E n args M L R Q) (f : ∀ r M' L' R', Q r M' L' R' → Q' r M' L' R') : Tm l Y E n args M L R Q' := by
  intro b D cA p e ha hc hk s m as below hf happ hP hK
  obtain ⟨t, o, h1, h2, h3, ⟨⟨r, M', L', R', g1, g2, g4⟩, hF⟩, h5⟩ := h b D cA p e ha hc hk s m as below hf happ hP hK
  exact ⟨t, o, h1, h2, h3, ⟨⟨r, M', L', R', g1, f _ _ _ _ g2, g4⟩, hF⟩, h5⟩
theorem cv_args (b : Nat) (vs : List Value) : ∀ i : Nat, lv_args i (vs.map (cv b)) = (lv_args i vs).map (fun q => (q.1, cv b q.2)) := by
  induction vs with
  | nil => intro i; rfl
  | cons v vs ih =>
    intro i
    show (i, cv b v) :: lv_args (if (cv b v).category = 2 then i + 2 else i + 1) (vs.map (cv b)) = _
    rw [cv_cat, ih]
    rfl
theorem cv_sl (b : Nat) (vs : List Value) : (lg_sl (vs.map (cv b))).length = (lg_sl vs).length := by
  induction vs with
  | nil => rfl
  | cons v vs ih =>
    have e1 : ∀ (w : Value) (ws : List Value), (lg_sl (w :: ws)).length = (if w.category = 2 then 2 else 1) + (lg_sl ws).length := by
      intro w ws
      simp only [lg_sl, List.flatMap_cons, List.length_append]
      split <;> rfl
    rw [List.map_cons, e1, e1, cv_cat, ih]
theorem Tm.of {l : Launch} {Y : gY} {E : Nat × Nat × Nat} {n : Nat} {args : List Value} {M : gM} {L : gL} {R : gR} {Q : Option Value → gM → gL → gR → Prop} (hy : plainName Y.1.cls = true) (hn : (lg_sl args).length ≤ Y.2.2.1)
    (h : Wp l Y E n 0 0 0 (lv_args 0 args) [] M L R Q) : Tm l Y E n args M L R Q := by
  intro b D cA
  refine Met.ofW (cc := Y.2.1) (maxL := Y.2.2.1) (ret := Y.2.2.2.1) hy rfl ?_
  intro p e s m as below meth c s₁ B hml hv
  obtain ⟨rfl, hsz, hP, hK, hO⟩ := hv
  have hts := atoms_spec (ws := gW Y) B.pre
  have hl := lv_entry (args.map (cv b)) (n := Y.2.2.1) (by rw [cv_sl]; exact hn)
  rw [lg_entry_eq]
  rw [cv_args] at hl
  exact h b D cA p e s m _ below meth c s.heap [] _ ⟨B.exec, B.bytes, B.returns, B.notSynchronized, hml, findClass_of_methodNamed B.named, (name_of_methodNamed B.named B.method).1, hts, hK, by omega, hO⟩ hsz hP va_S.rf hl
def sto (lv : List (Nat × Value)) (i : Nat) (v : Value) : List (Nat × Value) := (i, v) :: lv.filter (fun q => !(q.1 == i) && !(q.1 + 1 == i && q.2.category == 2))
def sto2 (lv : List (Nat × Value)) (i : Nat) (v : Value) : List (Nat × Value) := (i, v) :: lv.filter (fun q => !(q.1 == i) && (!(q.1 == i + 1) && !(q.1 + 1 == i && q.2.category == 2)))
theorem sto_cv (b : Nat) (lv : List (Nat × Value)) (i : Nat) (v : Value) : (i, cv b v) :: (lv.map (fun q => (q.1, cv b q.2))).filter (fun q => !(q.1 == i) && !(q.1 + 1 == i && q.2.category == 2)) = (sto lv i v).map (fun q => (q.1, cv b q.2)) := by
  simp only [sto, List.map_cons, List.filter_map]
  congr 2
  apply List.filter_congr
  intro q _
  simp [Function.comp, cv_cat]
theorem sto2_cv (b : Nat) (lv : List (Nat × Value)) (i : Nat) (v : Value) : (i, cv b v) :: (lv.map (fun q => (q.1, cv b q.2))).filter (fun q => !(q.1 == i) && (!(q.1 == i + 1) && !(q.1 + 1 == i && q.2.category == 2))) = (sto2 lv i v).map (fun q => (q.1, cv b q.2)) := by
  simp only [sto2, List.map_cons, List.filter_map]
  congr 2
  apply List.filter_congr
  intro q _
  simp [Function.comp, cv_cat]
theorem pick_cv (b : Nat) (lv : List (Nat × Value)) (ks : List Nat) : lv_pick (lv.map (fun q => (q.1, cv b q.2))) ks = (lv_pick lv ks).map (fun q => (q.1, cv b q.2)) := by
  unfold lv_pick
  induction ks with
  | nil => rfl
  | cons k ks ih =>
    simp only [List.filterMap_cons, List.getElem?_map]
    cases lv[k]? with
    | none => simpa using ih
    | some q => simpa using ih
theorem lv_cvat {ls : Array Slot} {nL b : Nat} {lv : List (Nat × Value)} (h : lv_has ls nL (lv.map (fun q => (q.1, cv b q.2)))) {j i : Nat} {v : Value} (hv : lv[j]? = some (i, v)) : ls[i]? = some (.val (cv b v)) :=
  h.2.2 (i, cv b v) (List.mem_map.mpr ⟨(i, v), List.mem_of_getElem? hv, rfl⟩)
section RULES
variable {l : Launch} {Y : gY} {E : Nat × Nat × Nat} {n k z pc pc1 : Nat} {lv lv' : List (Nat × Value)} {st : List Value} {M : gM} {L : gL} {R : gR} {Q : Option Value → gM → gL → gR → Prop}
theorem Wp.loc (ks : List Nat) (h : lv_pick lv ks = lv') (kk : Wp l Y E n k z pc lv' st M L R Q) : Wp l Y E n k z pc lv st M L R Q := by
  intro b D cA p e s m args below meth c H locs ls C hz hP hS hl
  exact kk b D cA p e s m args below meth c H locs ls C hz hP hS (lv_sub hl ks (by rw [pick_cv, h]))
theorem g_iconst {q : Int} {v : Int32} (hd : decode Y.2.1 pc = .ok (.iconst q, 1)) (hp : pc + 1 = pc1) (hv : Int32.ofInt q = v) (kk : Wp l Y E n k z pc1 lv (.int v :: st) M L R Q) : Wp l Y E n k z pc lv (st) M L R Q := by
  subst hp
  intro b D cA p e s m args below meth c H locs ls C hz hP hS hl
  exact lv_iconst C.1 C.2.1 hd hv (kk b D cA p e s m args below meth c H locs ls C hz hP hS hl)
theorem g_bipush {q : Int} {v : Int32} (hd : decode Y.2.1 pc = .ok (.bipush q, 2)) (hp : pc + 2 = pc1) (hv : (Int8.ofInt q).toInt32 = v) (kk : Wp l Y E n k z pc1 lv (.int v :: st) M L R Q) : Wp l Y E n k z pc lv (st) M L R Q := by
  subst hp
  intro b D cA p e s m args below meth c H locs ls C hz hP hS hl
  exact lv_bipush C.1 C.2.1 hd hv (kk b D cA p e s m args below meth c H locs ls C hz hP hS hl)
theorem g_sipush {q : Int} {v : Int32} (hd : decode Y.2.1 pc = .ok (.sipush q, 3)) (hp : pc + 3 = pc1) (hv : (Int16.ofInt q).toInt32 = v) (kk : Wp l Y E n k z pc1 lv (.int v :: st) M L R Q) : Wp l Y E n k z pc lv (st) M L R Q := by
  subst hp
  intro b D cA p e s m args below meth c H locs ls C hz hP hS hl
  exact lv_sipush C.1 C.2.1 hd hv (kk b D cA p e s m args below meth c H locs ls C hz hP hS hl)
theorem g_lconst {q : Fin 2} {v : Int64} (hd : decode Y.2.1 pc = .ok (.lconst q, 1)) (hp : pc + 1 = pc1) (hv : Int64.ofNat (q : Nat) = v) (kk : Wp l Y E n k z pc1 lv (.long v :: st) M L R Q) : Wp l Y E n k z pc lv (st) M L R Q := by
  subst hp
  intro b D cA p e s m args below meth c H locs ls C hz hP hS hl
  exact lv_lconst C.1 C.2.1 hd hv (kk b D cA p e s m args below meth c H locs ls C hz hP hS hl)
theorem g_ldc {i : Nat} {v : Int32} (hd : decode Y.2.1 pc = .ok (.ldc i, 2)) (hp : pc + 2 = pc1) (hw : Cond.constant Y.1.cls i v ∈ gtb) (kk : Wp l Y E n k z pc1 lv (.int v :: st) M L R Q) : Wp l Y E n k z pc lv (st) M L R Q := by
  subst hp
  intro b D cA p e s m args below meth c H locs ls C hz hP hS hl
  exact lv_ldc C.1 C.2.1 C.2.2.2.2.2.1 (C.2.2.2.2.2.2.2.1 _ (List.mem_cons_of_mem _ hw)) hd (kk b D cA p e s m args below meth c H locs ls C hz hP hS hl)
theorem g_ldcw {i : Nat} {v : Int32} (hd : decode Y.2.1 pc = .ok (.ldc_w i, 3)) (hp : pc + 3 = pc1) (hw : Cond.constant Y.1.cls i v ∈ gtb) (kk : Wp l Y E n k z pc1 lv (.int v :: st) M L R Q) : Wp l Y E n k z pc lv (st) M L R Q := by
  subst hp
  intro b D cA p e s m args below meth c H locs ls C hz hP hS hl
  exact lv_ldcw C.1 C.2.1 C.2.2.2.2.2.1 (C.2.2.2.2.2.2.2.1 _ (List.mem_cons_of_mem _ hw)) hd (kk b D cA p e s m args below meth c H locs ls C hz hP hS hl)
theorem g_ldc2 {i : Nat} {v : Int64} (hd : decode Y.2.1 pc = .ok (.ldc2_w i, 3)) (hp : pc + 3 = pc1) (hw : Cond.constantLong Y.1.cls i v ∈ gtb) (kk : Wp l Y E n k z pc1 lv (.long v :: st) M L R Q) : Wp l Y E n k z pc lv (st) M L R Q := by
  subst hp
  intro b D cA p e s m args below meth c H locs ls C hz hP hS hl
  exact lv_ldc2 C.1 C.2.1 C.2.2.2.2.2.1 (C.2.2.2.2.2.2.2.1 _ (List.mem_cons_of_mem _ hw)) hd (kk b D cA p e s m args below meth c H locs ls C hz hP hS hl)
theorem g_iload_n {q : Fin 4} {x : Int32} (hd : decode Y.2.1 pc = .ok (.iload_n q, 1)) (hp : pc + 1 = pc1) (j : Nat) (hv : lv[j]? = some ((q : Nat), .int x)) (kk : Wp l Y E n k z pc1 lv (.int x :: st) M L R Q) : Wp l Y E n k z pc lv (st) M L R Q := by
  subst hp
  intro b D cA p e s m args below meth c H locs ls C hz hP hS hl
  exact lv_iload_n C.1 C.2.1 hd rfl (lv_cvat hl hv) (kk b D cA p e s m args below meth c H locs ls C hz hP hS hl)
theorem g_iload {i : Nat} {x : Int32} (hd : decode Y.2.1 pc = .ok (.iload i, 2)) (hp : pc + 2 = pc1) (j : Nat) (hv : lv[j]? = some (i, .int x)) (kk : Wp l Y E n k z pc1 lv (.int x :: st) M L R Q) : Wp l Y E n k z pc lv (st) M L R Q := by
  subst hp
  intro b D cA p e s m args below meth c H locs ls C hz hP hS hl
  exact lv_iload C.1 C.2.1 hd (lv_cvat hl hv) (kk b D cA p e s m args below meth c H locs ls C hz hP hS hl)
theorem g_lload_n {q : Fin 4} {x : Int64} (hd : decode Y.2.1 pc = .ok (.lload_n q, 1)) (hp : pc + 1 = pc1) (j : Nat) (hv : lv[j]? = some ((q : Nat), .long x)) (kk : Wp l Y E n k z pc1 lv (.long x :: st) M L R Q) : Wp l Y E n k z pc lv (st) M L R Q := by
  subst hp
  intro b D cA p e s m args below meth c H locs ls C hz hP hS hl
  exact lv_lload_n C.1 C.2.1 hd rfl (lv_cvat hl hv) (kk b D cA p e s m args below meth c H locs ls C hz hP hS hl)
theorem g_lload {i : Nat} {x : Int64} (hd : decode Y.2.1 pc = .ok (.lload i, 2)) (hp : pc + 2 = pc1) (j : Nat) (hv : lv[j]? = some (i, .long x)) (kk : Wp l Y E n k z pc1 lv (.long x :: st) M L R Q) : Wp l Y E n k z pc lv (st) M L R Q := by
  subst hp
  intro b D cA p e s m args below meth c H locs ls C hz hP hS hl
  exact lv_lload C.1 C.2.1 hd (lv_cvat hl hv) (kk b D cA p e s m args below meth c H locs ls C hz hP hS hl)
theorem g_aload_n {q : Fin 4} {x : Nat} (hd : decode Y.2.1 pc = .ok (.aload_n q, 1)) (hp : pc + 1 = pc1) (j : Nat) (hv : lv[j]? = some ((q : Nat), .ref x)) (kk : Wp l Y E n k z pc1 lv (.ref x :: st) M L R Q) : Wp l Y E n k z pc lv (st) M L R Q := by
  subst hp
  intro b D cA p e s m args below meth c H locs ls C hz hP hS hl
  exact lv_aload_n C.1 C.2.1 hd rfl (lv_cvat hl hv) (kk b D cA p e s m args below meth c H locs ls C hz hP hS hl)
theorem g_aload {i : Nat} {x : Nat} (hd : decode Y.2.1 pc = .ok (.aload i, 2)) (hp : pc + 2 = pc1) (j : Nat) (hv : lv[j]? = some (i, .ref x)) (kk : Wp l Y E n k z pc1 lv (.ref x :: st) M L R Q) : Wp l Y E n k z pc lv (st) M L R Q := by
  subst hp
  intro b D cA p e s m args below meth c H locs ls C hz hP hS hl
  exact lv_aload C.1 C.2.1 hd (lv_cvat hl hv) (kk b D cA p e s m args below meth c H locs ls C hz hP hS hl)
theorem g_istore_n {q : Fin 4} {i : Nat} {x : Int32} (hd : decode Y.2.1 pc = .ok (.istore_n q, 1)) (hp : pc + 1 = pc1) (hq : (q : Nat) = i) (hn : i < Y.2.2.1) (ks : List Nat) (hs : lv_pick (sto lv i (.int x)) ks = lv') (kk : Wp l Y E n k z pc1 lv' st M L R Q) : Wp l Y E n k z pc lv (.int x :: st) M L R Q := by
  subst hp
  intro b D cA p e s m args below meth c H locs ls C hz hP hS hl
  refine lv_istore_n C.1 C.2.1 hd hq hl hn (sto_cv b lv i (.int x)) (fun ls2 hl2 => ?_)
  exact kk b D cA p e s m args below meth c H locs ls2 C hz hP hS (lv_sub hl2 ks (by rw [pick_cv, hs]))
theorem g_istore {i : Nat} {x : Int32} (hd : decode Y.2.1 pc = .ok (.istore i, 2)) (hp : pc + 2 = pc1) (hn : i < Y.2.2.1) (ks : List Nat) (hs : lv_pick (sto lv i (.int x)) ks = lv') (kk : Wp l Y E n k z pc1 lv' st M L R Q) : Wp l Y E n k z pc lv (.int x :: st) M L R Q := by
  subst hp
  intro b D cA p e s m args below meth c H locs ls C hz hP hS hl
  refine lv_istore C.1 C.2.1 hd hl hn (sto_cv b lv i (.int x)) (fun ls2 hl2 => ?_)
  exact kk b D cA p e s m args below meth c H locs ls2 C hz hP hS (lv_sub hl2 ks (by rw [pick_cv, hs]))
theorem g_lstore_n {q : Fin 4} {i : Nat} {x : Int64} (hd : decode Y.2.1 pc = .ok (.lstore_n q, 1)) (hp : pc + 1 = pc1) (hq : (q : Nat) = i) (hn : i + 1 < Y.2.2.1) (ks : List Nat) (hs : lv_pick (sto2 lv i (.long x)) ks = lv') (kk : Wp l Y E n k z pc1 lv' st M L R Q) : Wp l Y E n k z pc lv (.long x :: st) M L R Q := by
  subst hp
  intro b D cA p e s m args below meth c H locs ls C hz hP hS hl
  refine lv_lstore_n C.1 C.2.1 hd hq hl hn (sto2_cv b lv i (.long x)) (fun ls2 hl2 => ?_)
  exact kk b D cA p e s m args below meth c H locs ls2 C hz hP hS (lv_sub hl2 ks (by rw [pick_cv, hs]))
theorem g_lstore {i : Nat} {x : Int64} (hd : decode Y.2.1 pc = .ok (.lstore i, 2)) (hp : pc + 2 = pc1) (hn : i + 1 < Y.2.2.1) (ks : List Nat) (hs : lv_pick (sto2 lv i (.long x)) ks = lv') (kk : Wp l Y E n k z pc1 lv' st M L R Q) : Wp l Y E n k z pc lv (.long x :: st) M L R Q := by
  subst hp
  intro b D cA p e s m args below meth c H locs ls C hz hP hS hl
  refine lv_lstore C.1 C.2.1 hd hl hn (sto2_cv b lv i (.long x)) (fun ls2 hl2 => ?_)
  exact kk b D cA p e s m args below meth c H locs ls2 C hz hP hS (lv_sub hl2 ks (by rw [pick_cv, hs]))
theorem g_astore_n {q : Fin 4} {i : Nat} {x : Nat} (hd : decode Y.2.1 pc = .ok (.astore_n q, 1)) (hp : pc + 1 = pc1) (hq : (q : Nat) = i) (hn : i < Y.2.2.1) (ks : List Nat) (hs : lv_pick (sto lv i (.ref x)) ks = lv') (kk : Wp l Y E n k z pc1 lv' st M L R Q) : Wp l Y E n k z pc lv (.ref x :: st) M L R Q := by
  subst hp
  intro b D cA p e s m args below meth c H locs ls C hz hP hS hl
  refine lv_astore_n C.1 C.2.1 hd hq hl hn (sto_cv b lv i (.ref x)) (fun ls2 hl2 => ?_)
  exact kk b D cA p e s m args below meth c H locs ls2 C hz hP hS (lv_sub hl2 ks (by rw [pick_cv, hs]))
theorem g_astore {i : Nat} {x : Nat} (hd : decode Y.2.1 pc = .ok (.astore i, 2)) (hp : pc + 2 = pc1) (hn : i < Y.2.2.1) (ks : List Nat) (hs : lv_pick (sto lv i (.ref x)) ks = lv') (kk : Wp l Y E n k z pc1 lv' st M L R Q) : Wp l Y E n k z pc lv (.ref x :: st) M L R Q := by
  subst hp
  intro b D cA p e s m args below meth c H locs ls C hz hP hS hl
  refine lv_astore C.1 C.2.1 hd hl hn (sto_cv b lv i (.ref x)) (fun ls2 hl2 => ?_)
  exact kk b D cA p e s m args below meth c H locs ls2 C hz hP hS (lv_sub hl2 ks (by rw [pick_cv, hs]))
theorem g_iinc {i : Nat} {q : Int} {x v : Int32} (hd : decode Y.2.1 pc = .ok (.iinc i q, 3)) (hp : pc + 3 = pc1) (j : Nat) (hv : lv[j]? = some (i, .int x)) (hx : x + Int32.ofInt q = v) (hn : i < Y.2.2.1) (ks : List Nat) (hs : lv_pick (sto lv i (.int v)) ks = lv') (kk : Wp l Y E n k z pc1 lv' st M L R Q) : Wp l Y E n k z pc lv st M L R Q := by
  subst hp
  intro b D cA p e s m args below meth c H locs ls C hz hP hS hl
  refine lv_iinc C.1 C.2.1 hd hl (k := j) (x := x) (by rw [List.getElem?_map, hv]; rfl) hx hn (sto_cv b lv i (.int v)) (fun ls2 hl2 => ?_)
  exact kk b D cA p e s m args below meth c H locs ls2 C hz hP hS (lv_sub hl2 ks (by rw [pick_cv, hs]))
theorem g_iadd {x y : Int32} (hd : decode Y.2.1 pc = .ok (.iadd, 1)) (hp : pc + 1 = pc1)  (kk : Wp l Y E n k z pc1 lv (.int (x + y) :: st) M L R Q) : Wp l Y E n k z pc lv (.int y :: .int x :: st) M L R Q := by
  subst hp
  intro b D cA p e s m args below meth c H locs ls C hz hP hS hl
  exact lv_iadd C.1 C.2.1 hd (kk b D cA p e s m args below meth c H locs ls C hz hP hS hl)
theorem g_isub {x y : Int32} (hd : decode Y.2.1 pc = .ok (.isub, 1)) (hp : pc + 1 = pc1)  (kk : Wp l Y E n k z pc1 lv (.int (x - y) :: st) M L R Q) : Wp l Y E n k z pc lv (.int y :: .int x :: st) M L R Q := by
  subst hp
  intro b D cA p e s m args below meth c H locs ls C hz hP hS hl
  exact lv_isub C.1 C.2.1 hd (kk b D cA p e s m args below meth c H locs ls C hz hP hS hl)
theorem g_imul {x y : Int32} (hd : decode Y.2.1 pc = .ok (.imul, 1)) (hp : pc + 1 = pc1)  (kk : Wp l Y E n k z pc1 lv (.int (x * y) :: st) M L R Q) : Wp l Y E n k z pc lv (.int y :: .int x :: st) M L R Q := by
  subst hp
  intro b D cA p e s m args below meth c H locs ls C hz hP hS hl
  exact lv_imul C.1 C.2.1 hd (kk b D cA p e s m args below meth c H locs ls C hz hP hS hl)
theorem g_iand {x y : Int32} (hd : decode Y.2.1 pc = .ok (.iand, 1)) (hp : pc + 1 = pc1)  (kk : Wp l Y E n k z pc1 lv (.int (x &&& y) :: st) M L R Q) : Wp l Y E n k z pc lv (.int y :: .int x :: st) M L R Q := by
  subst hp
  intro b D cA p e s m args below meth c H locs ls C hz hP hS hl
  exact lv_iand C.1 C.2.1 hd (kk b D cA p e s m args below meth c H locs ls C hz hP hS hl)
theorem g_ior {x y : Int32} (hd : decode Y.2.1 pc = .ok (.ior, 1)) (hp : pc + 1 = pc1)  (kk : Wp l Y E n k z pc1 lv (.int (x ||| y) :: st) M L R Q) : Wp l Y E n k z pc lv (.int y :: .int x :: st) M L R Q := by
  subst hp
  intro b D cA p e s m args below meth c H locs ls C hz hP hS hl
  exact lv_ior C.1 C.2.1 hd (kk b D cA p e s m args below meth c H locs ls C hz hP hS hl)
theorem g_ixor {x y : Int32} (hd : decode Y.2.1 pc = .ok (.ixor, 1)) (hp : pc + 1 = pc1)  (kk : Wp l Y E n k z pc1 lv (.int (x ^^^ y) :: st) M L R Q) : Wp l Y E n k z pc lv (.int y :: .int x :: st) M L R Q := by
  subst hp
  intro b D cA p e s m args below meth c H locs ls C hz hP hS hl
  exact lv_ixor C.1 C.2.1 hd (kk b D cA p e s m args below meth c H locs ls C hz hP hS hl)
theorem g_ishl {x y : Int32} (hd : decode Y.2.1 pc = .ok (.ishl, 1)) (hp : pc + 1 = pc1)  (kk : Wp l Y E n k z pc1 lv (.int (x <<< (y &&& 31)) :: st) M L R Q) : Wp l Y E n k z pc lv (.int y :: .int x :: st) M L R Q := by
  subst hp
  intro b D cA p e s m args below meth c H locs ls C hz hP hS hl
  exact lv_ishl C.1 C.2.1 hd (kk b D cA p e s m args below meth c H locs ls C hz hP hS hl)
theorem g_ishr {x y : Int32} (hd : decode Y.2.1 pc = .ok (.ishr, 1)) (hp : pc + 1 = pc1)  (kk : Wp l Y E n k z pc1 lv (.int (x >>> (y &&& 31)) :: st) M L R Q) : Wp l Y E n k z pc lv (.int y :: .int x :: st) M L R Q := by
  subst hp
  intro b D cA p e s m args below meth c H locs ls C hz hP hS hl
  exact lv_ishr C.1 C.2.1 hd (kk b D cA p e s m args below meth c H locs ls C hz hP hS hl)
theorem g_idiv {x y : Int32} (hd : decode Y.2.1 pc = .ok (.idiv, 1)) (hp : pc + 1 = pc1) (hne : ¬ y = 0) (kk : Wp l Y E n k z pc1 lv (.int (x / y) :: st) M L R Q) : Wp l Y E n k z pc lv (.int y :: .int x :: st) M L R Q := by
  subst hp
  intro b D cA p e s m args below meth c H locs ls C hz hP hS hl
  exact lv_idiv C.1 C.2.1 hd hne (kk b D cA p e s m args below meth c H locs ls C hz hP hS hl)
theorem g_irem {x y : Int32} (hd : decode Y.2.1 pc = .ok (.irem, 1)) (hp : pc + 1 = pc1) (hne : ¬ y = 0) (kk : Wp l Y E n k z pc1 lv (.int (x - x / y * y) :: st) M L R Q) : Wp l Y E n k z pc lv (.int y :: .int x :: st) M L R Q := by
  subst hp
  intro b D cA p e s m args below meth c H locs ls C hz hP hS hl
  exact lv_irem C.1 C.2.1 hd hne (kk b D cA p e s m args below meth c H locs ls C hz hP hS hl)
theorem g_iushr {x y : Int32} (hd : decode Y.2.1 pc = .ok (.iushr, 1)) (hp : pc + 1 = pc1)  (kk : Wp l Y E n k z pc1 lv (.int ((x.toUInt32 >>> (y.toUInt32 &&& Int32.toUInt32 31)).toInt32) :: st) M L R Q) : Wp l Y E n k z pc lv (.int y :: .int x :: st) M L R Q := by
  subst hp
  intro b D cA p e s m args below meth c H locs ls C hz hP hS hl
  exact lv_iushr C.1 C.2.1 hd rfl (kk b D cA p e s m args below meth c H locs ls C hz hP hS hl)
theorem g_ladd {x y : Int64} (hd : decode Y.2.1 pc = .ok (.ladd, 1)) (hp : pc + 1 = pc1)  (kk : Wp l Y E n k z pc1 lv (.long (x + y) :: st) M L R Q) : Wp l Y E n k z pc lv (.long y :: .long x :: st) M L R Q := by
  subst hp
  intro b D cA p e s m args below meth c H locs ls C hz hP hS hl
  exact lv_ladd C.1 C.2.1 hd (kk b D cA p e s m args below meth c H locs ls C hz hP hS hl)
theorem g_lmul {x y : Int64} (hd : decode Y.2.1 pc = .ok (.lmul, 1)) (hp : pc + 1 = pc1)  (kk : Wp l Y E n k z pc1 lv (.long (x * y) :: st) M L R Q) : Wp l Y E n k z pc lv (.long y :: .long x :: st) M L R Q := by
  subst hp
  intro b D cA p e s m args below meth c H locs ls C hz hP hS hl
  exact lv_lmul C.1 C.2.1 hd (kk b D cA p e s m args below meth c H locs ls C hz hP hS hl)
theorem g_i2l {x : Int32} (hd : decode Y.2.1 pc = .ok (.i2l, 1)) (hp : pc + 1 = pc1)  (kk : Wp l Y E n k z pc1 lv (.long x.toInt64 :: st) M L R Q) : Wp l Y E n k z pc lv (.int x :: st) M L R Q := by
  subst hp
  intro b D cA p e s m args below meth c H locs ls C hz hP hS hl
  exact lv_i2l C.1 C.2.1 hd rfl (kk b D cA p e s m args below meth c H locs ls C hz hP hS hl)
theorem g_l2i {x : Int64} (hd : decode Y.2.1 pc = .ok (.l2i, 1)) (hp : pc + 1 = pc1)  (kk : Wp l Y E n k z pc1 lv (.int x.toInt32 :: st) M L R Q) : Wp l Y E n k z pc lv (.long x :: st) M L R Q := by
  subst hp
  intro b D cA p e s m args below meth c H locs ls C hz hP hS hl
  exact lv_l2i C.1 C.2.1 hd rfl (kk b D cA p e s m args below meth c H locs ls C hz hP hS hl)
theorem g_i2b {x : Int32} (hd : decode Y.2.1 pc = .ok (.i2b, 1)) (hp : pc + 1 = pc1)  (kk : Wp l Y E n k z pc1 lv (.int x.toInt8.toInt32 :: st) M L R Q) : Wp l Y E n k z pc lv (.int x :: st) M L R Q := by
  subst hp
  intro b D cA p e s m args below meth c H locs ls C hz hP hS hl
  exact lv_i2b C.1 C.2.1 hd rfl (kk b D cA p e s m args below meth c H locs ls C hz hP hS hl)
theorem g_dup {v : Value} (hd : decode Y.2.1 pc = .ok (.dup, 1)) (hp : pc + 1 = pc1) (hc : v.category = 1) (kk : Wp l Y E n k z pc1 lv (v :: v :: st) M L R Q) : Wp l Y E n k z pc lv (v :: st) M L R Q := by
  subst hp
  intro b D cA p e s m args below meth c H locs ls C hz hP hS hl
  exact lv_dup C.1 C.2.1 hd (by rw [cv_cat]; exact hc) (kk b D cA p e s m args below meth c H locs ls C hz hP hS hl)
theorem g_pop {v : Value} (hd : decode Y.2.1 pc = .ok (.pop, 1)) (hp : pc + 1 = pc1) (hc : v.category = 1) (kk : Wp l Y E n k z pc1 lv (st) M L R Q) : Wp l Y E n k z pc lv (v :: st) M L R Q := by
  subst hp
  intro b D cA p e s m args below meth c H locs ls C hz hP hS hl
  exact lv_pop C.1 C.2.1 hd (by rw [cv_cat]; exact hc) (kk b D cA p e s m args below meth c H locs ls C hz hP hS hl)
theorem g_dup2 {v w : Value} (hd : decode Y.2.1 pc = .ok (.dup2, 1)) (hp : pc + 1 = pc1) (hc : v.category = 1) (hw : w.category = 1) (kk : Wp l Y E n k z pc1 lv (v :: w :: v :: w :: st) M L R Q) : Wp l Y E n k z pc lv (v :: w :: st) M L R Q := by
  subst hp
  intro b D cA p e s m args below meth c H locs ls C hz hP hS hl
  exact lv_dup2_11 C.1 C.2.1 hd (by rw [cv_cat]; exact hc) (by rw [cv_cat]; exact hw) (kk b D cA p e s m args below meth c H locs ls C hz hP hS hl)
theorem g_if_eq {x : Int32} {off : Int} {tgt : Nat} (hd : decode Y.2.1 pc = .ok (.ifCond .eq off, 3)) (ht : (pc : Int) + off = (tgt : Int)) (hp : pc + 3 = pc1) (kt : x = 0 → Wp l Y E n k z tgt lv st M L R Q) (kf : ¬ x = 0 → Wp l Y E n k z pc1 lv st M L R Q) : Wp l Y E n k z pc lv (.int x :: st) M L R Q := by
  subst hp
  intro b D cA p e s m args below meth c H locs ls C hz hP hS hl
  exact lv_if_eq C.1 C.2.1 hd ht (fun h => kt h b D cA p e s m args below meth c H locs ls C hz hP hS hl) (fun h => kf h b D cA p e s m args below meth c H locs ls C hz hP hS hl)
theorem g_icmp_eq {x y : Int32} {off : Int} {tgt : Nat} (hd : decode Y.2.1 pc = .ok (.if_icmp .eq off, 3)) (ht : (pc : Int) + off = (tgt : Int)) (hp : pc + 3 = pc1) (kt : x = y → Wp l Y E n k z tgt lv st M L R Q) (kf : ¬ x = y → Wp l Y E n k z pc1 lv st M L R Q) : Wp l Y E n k z pc lv (.int y :: .int x :: st) M L R Q := by
  subst hp
  intro b D cA p e s m args below meth c H locs ls C hz hP hS hl
  exact lv_icmp_eq C.1 C.2.1 hd ht (fun h => kt h b D cA p e s m args below meth c H locs ls C hz hP hS hl) (fun h => kf h b D cA p e s m args below meth c H locs ls C hz hP hS hl)
theorem g_if_ne {x : Int32} {off : Int} {tgt : Nat} (hd : decode Y.2.1 pc = .ok (.ifCond .ne off, 3)) (ht : (pc : Int) + off = (tgt : Int)) (hp : pc + 3 = pc1) (kt : ¬ x = 0 → Wp l Y E n k z tgt lv st M L R Q) (kf : x = 0 → Wp l Y E n k z pc1 lv st M L R Q) : Wp l Y E n k z pc lv (.int x :: st) M L R Q := by
  subst hp
  intro b D cA p e s m args below meth c H locs ls C hz hP hS hl
  exact lv_if_ne C.1 C.2.1 hd ht (fun h => kt h b D cA p e s m args below meth c H locs ls C hz hP hS hl) (fun h => kf h b D cA p e s m args below meth c H locs ls C hz hP hS hl)
theorem g_icmp_ne {x y : Int32} {off : Int} {tgt : Nat} (hd : decode Y.2.1 pc = .ok (.if_icmp .ne off, 3)) (ht : (pc : Int) + off = (tgt : Int)) (hp : pc + 3 = pc1) (kt : ¬ x = y → Wp l Y E n k z tgt lv st M L R Q) (kf : x = y → Wp l Y E n k z pc1 lv st M L R Q) : Wp l Y E n k z pc lv (.int y :: .int x :: st) M L R Q := by
  subst hp
  intro b D cA p e s m args below meth c H locs ls C hz hP hS hl
  exact lv_icmp_ne C.1 C.2.1 hd ht (fun h => kt h b D cA p e s m args below meth c H locs ls C hz hP hS hl) (fun h => kf h b D cA p e s m args below meth c H locs ls C hz hP hS hl)
theorem g_if_lt {x : Int32} {off : Int} {tgt : Nat} (hd : decode Y.2.1 pc = .ok (.ifCond .lt off, 3)) (ht : (pc : Int) + off = (tgt : Int)) (hp : pc + 3 = pc1) (kt : x < 0 → Wp l Y E n k z tgt lv st M L R Q) (kf : ¬ x < 0 → Wp l Y E n k z pc1 lv st M L R Q) : Wp l Y E n k z pc lv (.int x :: st) M L R Q := by
  subst hp
  intro b D cA p e s m args below meth c H locs ls C hz hP hS hl
  exact lv_if_lt C.1 C.2.1 hd ht (fun h => kt h b D cA p e s m args below meth c H locs ls C hz hP hS hl) (fun h => kf h b D cA p e s m args below meth c H locs ls C hz hP hS hl)
theorem g_icmp_lt {x y : Int32} {off : Int} {tgt : Nat} (hd : decode Y.2.1 pc = .ok (.if_icmp .lt off, 3)) (ht : (pc : Int) + off = (tgt : Int)) (hp : pc + 3 = pc1) (kt : x < y → Wp l Y E n k z tgt lv st M L R Q) (kf : ¬ x < y → Wp l Y E n k z pc1 lv st M L R Q) : Wp l Y E n k z pc lv (.int y :: .int x :: st) M L R Q := by
  subst hp
  intro b D cA p e s m args below meth c H locs ls C hz hP hS hl
  exact lv_icmp_lt C.1 C.2.1 hd ht (fun h => kt h b D cA p e s m args below meth c H locs ls C hz hP hS hl) (fun h => kf h b D cA p e s m args below meth c H locs ls C hz hP hS hl)
theorem g_if_ge {x : Int32} {off : Int} {tgt : Nat} (hd : decode Y.2.1 pc = .ok (.ifCond .ge off, 3)) (ht : (pc : Int) + off = (tgt : Int)) (hp : pc + 3 = pc1) (kt : 0 ≤ x → Wp l Y E n k z tgt lv st M L R Q) (kf : ¬ 0 ≤ x → Wp l Y E n k z pc1 lv st M L R Q) : Wp l Y E n k z pc lv (.int x :: st) M L R Q := by
  subst hp
  intro b D cA p e s m args below meth c H locs ls C hz hP hS hl
  exact lv_if_ge C.1 C.2.1 hd ht (fun h => kt h b D cA p e s m args below meth c H locs ls C hz hP hS hl) (fun h => kf h b D cA p e s m args below meth c H locs ls C hz hP hS hl)
theorem g_icmp_ge {x y : Int32} {off : Int} {tgt : Nat} (hd : decode Y.2.1 pc = .ok (.if_icmp .ge off, 3)) (ht : (pc : Int) + off = (tgt : Int)) (hp : pc + 3 = pc1) (kt : y ≤ x → Wp l Y E n k z tgt lv st M L R Q) (kf : ¬ y ≤ x → Wp l Y E n k z pc1 lv st M L R Q) : Wp l Y E n k z pc lv (.int y :: .int x :: st) M L R Q := by
  subst hp
  intro b D cA p e s m args below meth c H locs ls C hz hP hS hl
  exact lv_icmp_ge C.1 C.2.1 hd ht (fun h => kt h b D cA p e s m args below meth c H locs ls C hz hP hS hl) (fun h => kf h b D cA p e s m args below meth c H locs ls C hz hP hS hl)
theorem g_if_gt {x : Int32} {off : Int} {tgt : Nat} (hd : decode Y.2.1 pc = .ok (.ifCond .gt off, 3)) (ht : (pc : Int) + off = (tgt : Int)) (hp : pc + 3 = pc1) (kt : 0 < x → Wp l Y E n k z tgt lv st M L R Q) (kf : ¬ 0 < x → Wp l Y E n k z pc1 lv st M L R Q) : Wp l Y E n k z pc lv (.int x :: st) M L R Q := by
  subst hp
  intro b D cA p e s m args below meth c H locs ls C hz hP hS hl
  exact lv_if_gt C.1 C.2.1 hd ht (fun h => kt h b D cA p e s m args below meth c H locs ls C hz hP hS hl) (fun h => kf h b D cA p e s m args below meth c H locs ls C hz hP hS hl)
theorem g_icmp_gt {x y : Int32} {off : Int} {tgt : Nat} (hd : decode Y.2.1 pc = .ok (.if_icmp .gt off, 3)) (ht : (pc : Int) + off = (tgt : Int)) (hp : pc + 3 = pc1) (kt : y < x → Wp l Y E n k z tgt lv st M L R Q) (kf : ¬ y < x → Wp l Y E n k z pc1 lv st M L R Q) : Wp l Y E n k z pc lv (.int y :: .int x :: st) M L R Q := by
  subst hp
  intro b D cA p e s m args below meth c H locs ls C hz hP hS hl
  exact lv_icmp_gt C.1 C.2.1 hd ht (fun h => kt h b D cA p e s m args below meth c H locs ls C hz hP hS hl) (fun h => kf h b D cA p e s m args below meth c H locs ls C hz hP hS hl)
theorem g_if_le {x : Int32} {off : Int} {tgt : Nat} (hd : decode Y.2.1 pc = .ok (.ifCond .le off, 3)) (ht : (pc : Int) + off = (tgt : Int)) (hp : pc + 3 = pc1) (kt : x ≤ 0 → Wp l Y E n k z tgt lv st M L R Q) (kf : ¬ x ≤ 0 → Wp l Y E n k z pc1 lv st M L R Q) : Wp l Y E n k z pc lv (.int x :: st) M L R Q := by
  subst hp
  intro b D cA p e s m args below meth c H locs ls C hz hP hS hl
  exact lv_if_le C.1 C.2.1 hd ht (fun h => kt h b D cA p e s m args below meth c H locs ls C hz hP hS hl) (fun h => kf h b D cA p e s m args below meth c H locs ls C hz hP hS hl)
theorem g_icmp_le {x y : Int32} {off : Int} {tgt : Nat} (hd : decode Y.2.1 pc = .ok (.if_icmp .le off, 3)) (ht : (pc : Int) + off = (tgt : Int)) (hp : pc + 3 = pc1) (kt : x ≤ y → Wp l Y E n k z tgt lv st M L R Q) (kf : ¬ x ≤ y → Wp l Y E n k z pc1 lv st M L R Q) : Wp l Y E n k z pc lv (.int y :: .int x :: st) M L R Q := by
  subst hp
  intro b D cA p e s m args below meth c H locs ls C hz hP hS hl
  exact lv_icmp_le C.1 C.2.1 hd ht (fun h => kt h b D cA p e s m args below meth c H locs ls C hz hP hS hl) (fun h => kf h b D cA p e s m args below meth c H locs ls C hz hP hS hl)
theorem g_goto {off : Int} {tgt : Nat} (hd : decode Y.2.1 pc = .ok (.goto off, 3)) (ht : (pc : Int) + off = (tgt : Int)) (kk : Wp l Y E n k z tgt lv st M L R Q) : Wp l Y E n k z pc lv st M L R Q := by
  intro b D cA p e s m args below meth c H locs ls C hz hP hS hl
  exact lv_goto C.1 C.2.1 hd ht (kk b D cA p e s m args below meth c H locs ls C hz hP hS hl)

end RULES
/-! fields and arrays -/
def fOk (own : String) (index ci k kd : Nat) (fin : Bool) : Prop := ∃ (C : String) (T : u_T) (N : Nat), cls[ci]? = some (C, T, N) ∧ (∀ w ∈ u_ws C T N, w ∈ gtb) ∧ k < N ∧ (fks ci)[k]? = some (kd, k) ∧ (T k).1 = C ∧ (T k).2.2.2 = fin ∧
  ((Cond.fieldLink own index C (T k).2.1 (T k).2.2.1 ∈ gtb) ∨ ∃ host, Cond.fieldLinkNest own index C (T k).2.1 (T k).2.2.1 host ∈ tables_1)
def pOk (ci k : Nat) (v : Value) : Prop := ∃ (C : String) (T : u_T) (N : Nat) (ty0 : Nat → FieldType), cls[ci]? = some (C, T, N) ∧ (∀ j, j < N → parseFieldDescriptor (T j).2.2.1 = some (ty0 j)) ∧ (∀ a, a < N → ∀ b, b < N → a ≠ b → (T a).2.1 ≠ (T b).2.1) ∧ (fks ci).length = N ∧ (∀ (j : Nat) (q : Nat × Nat), (fks ci)[j]? = some q → q.2 = j) ∧
  narrow (ty0 k) v = v ∧ fits (ty0 k) v = true
theorem ent_obj {cA : Nat → ClassId} {b a ci : Nat} {M : gM} {L : gL} {R : gR} (hs : SH a = (0, ci)) : ent cA b M L R a = .inr (ci, (fks ci).map (fvl b M R a)) := by
  unfold ent; rw [hs]; rfl
theorem ent_1 {cA : Nat → ClassId} {b a N : Nat} {M : gM} {L : gL} {R : gR} (hs : SH a = (1, N)) : ent cA b M L R a = .inl (cA 0, N, .inl (M a)) := by
  unfold ent; rw [hs]; rfl
theorem ent_2 {cA : Nat → ClassId} {b a N : Nat} {M : gM} {L : gL} {R : gR} (hs : SH a = (2, N)) : ent cA b M L R a = .inl (cA 1, N, .inl (M a)) := by
  unfold ent; rw [hs]; rfl
theorem ent_3 {cA : Nat → ClassId} {b a N : Nat} {M : gM} {L : gL} {R : gR} (hs : SH a = (3, N)) : ent cA b M L R a = .inl (cA 2, N, .inl (M a)) := by
  unfold ent; rw [hs]; rfl
theorem ent_4 {cA : Nat → ClassId} {b a N : Nat} {M : gM} {L : gL} {R : gR} (hs : SH a = (4, N)) : ent cA b M L R a = .inl (cA 3, N, .inr (.inl (L a))) := by
  unfold ent; rw [hs]; rfl
theorem ent_5 {cA : Nat → ClassId} {b a N : Nat} {M : gM} {L : gL} {R : gR} (hs : SH a = (5, N)) : ent cA b M L R a = .inl (cA 4, N, .inr (.inr (.inr (.inr (fun j => (R a j).map (fun x => b + x)))))) := by
  unfold ent; rw [hs]; rfl
theorem ent_neM {cA : Nat → ClassId} {b a c i : Nat} {x : Int32} {M : gM} {L : gL} {R : gR} (h : c ≠ a) : ent cA b (uM M a i x) L R c = ent cA b M L R c := by
  have e : fvl b (uM M a i x) R c = fvl b M R c := by
    funext q; unfold fvl; rw [uM_ne M i x h]
  unfold ent
  rw [e, uM_ne M i x h]
theorem ent_neL {cA : Nat → ClassId} {b a c i : Nat} {x : Int64} {M : gM} {L : gL} {R : gR} (h : c ≠ a) : ent cA b M (uL L a i x) R c = ent cA b M L R c := by
  unfold ent
  rw [uL_ne L i x h]
theorem ent_neR {cA : Nat → ClassId} {b a c i : Nat} {x : Option Nat} {M : gM} {L : gL} {R : gR} (h : c ≠ a) : ent cA b M L (uR R a i x) c = ent cA b M L R c := by
  have e : fvl b M (uR R a i x) c = fvl b M R c := by
    funext q; unfold fvl; rw [uR_ne R i x h]
  unfold ent
  rw [e, uR_ne R i x h]
theorem fset_gen {ci k kd : Nat} {f g : Nat × Nat → Value} {v : Value} (hk : (fks ci)[k]? = some (kd, k)) (hj : ∀ (j : Nat) (q : Nat × Nat), (fks ci)[j]? = some q → q.2 = j) (hv : g (kd, k) = v) (ho : ∀ q : Nat × Nat, q.2 ≠ k → g q = f q) : ((fks ci).map f).set k v = (fks ci).map g := by
  apply List.ext_getElem?
  intro i
  rw [List.getElem?_set, List.getElem?_map, List.getElem?_map]
  by_cases h : k = i
  · subst h
    have hlt : k < (fks ci).length := (List.getElem?_eq_some_iff.mp hk).1
    rw [if_pos rfl, if_pos (by simpa using hlt), hk]
    simp [hv]
  · rw [if_neg h]
    cases hq : (fks ci)[i]? with
    | none => rfl
    | some q =>
      have := hj i q hq
      simp only [Option.map_some]
      rw [ho q (by omega)]
section RULES2
variable {l : Launch} {Y : gY} {E : Nat × Nat × Nat} {n k z pc pc1 : Nat} {lv lv' : List (Nat × Value)} {st : List Value} {M : gM} {L : gL} {R : gR} {Q : Option Value → gM → gL → gR → Prop}
theorem g_getAny {a ci j kd idx : Nat} {v : Value} (hd : decode Y.2.1 pc = .ok (.getfield idx, 3)) (hp : pc + 3 = pc1) (hf : ∃ fin, fOk Y.1.cls idx ci j kd fin) (hs : SH a = (0, ci)) (ha : a < n) (hv : ∀ b, fvl b M R a (kd, j) = cv b v) (kk : Wp l Y E n k z pc1 lv (v :: st) M L R Q) : Wp l Y E n k z pc lv (.ref a :: st) M L R Q := by
  subst hp
  intro b D cA p e s m args below meth c H locs ls C hz hP hS hl
  have kk := kk b D cA p e s m args below meth c H locs ls C hz hP hS hl
  obtain ⟨hx, hb, hr, hlk, hml, hown, hnm, hts, hK, hbs, hO⟩ := C
  obtain ⟨fin, Cn, T, N, hc, hin, hk, hkd, hdc, hfn, hlink⟩ := hf
  have he : (Wd cA b n M L R)[a]? = some (b + a, .inr (ci, (fks ci).map (fvl b M R a))) := by rw [wd_at ha, ent_obj hs]
  have hvv : ((fks ci).map (fvl b M R a))[j]? = some (cv b v) := by rw [List.getElem?_map, hkd]; exact congrArg some (hv b)
  rcases hlink with h1 | ⟨host, h1⟩
  · exact va_get (D := D) hx hb hts (fun w hw => List.mem_cons_of_mem _ (hin w hw)) hown hK.1 hP a he hc j hk (hts _ (List.mem_cons_of_mem _ h1)) (fun x h9 => by rw [← hdc]; exact h9) hvv hd kk
  · exact va_getN (D := D) hx hb hts (fun w hw => List.mem_cons_of_mem _ (hin w hw)) hown hK.1 hP a he hc j hk (va_Nw.use rfl (hK.2.1 _ h1 rfl)) (fun x h9 => by rw [← hdc]; exact h9) hvv hd kk
theorem g_geti {a ci j idx : Nat} (hd : decode Y.2.1 pc = .ok (.getfield idx, 3)) (hp : pc + 3 = pc1) (hf : ∃ fin, fOk Y.1.cls idx ci j 0 fin) (hs : SH a = (0, ci)) (ha : a < n) (kk : Wp l Y E n k z pc1 lv (.int (M a j) :: st) M L R Q) : Wp l Y E n k z pc lv (.ref a :: st) M L R Q :=
  g_getAny hd hp hf hs ha (fun b => rfl) kk
theorem g_getz {a ci j idx : Nat} (hd : decode Y.2.1 pc = .ok (.getfield idx, 3)) (hp : pc + 3 = pc1) (hf : ∃ fin, fOk Y.1.cls idx ci j 2 fin) (hs : SH a = (0, ci)) (ha : a < n) (kk : Wp l Y E n k z pc1 lv (.int (b01 (M a j)) :: st) M L R Q) : Wp l Y E n k z pc lv (.ref a :: st) M L R Q :=
  g_getAny hd hp hf hs ha (fun b => rfl) kk
theorem g_getr {a ci j idx a' : Nat} (hd : decode Y.2.1 pc = .ok (.getfield idx, 3)) (hp : pc + 3 = pc1) (hf : ∃ fin, fOk Y.1.cls idx ci j 1 fin) (hs : SH a = (0, ci)) (ha : a < n) (hr : R a j = some a') (kk : Wp l Y E n k z pc1 lv (.ref a' :: st) M L R Q) : Wp l Y E n k z pc lv (.ref a :: st) M L R Q :=
  g_getAny hd hp hf hs ha (fun b => by show va_rf ((R a j).map _) = _; rw [hr]; rfl) kk
theorem g_putAny {a ci j kd idx : Nat} {v : Value} {M' : gM} {R' : gR} (hd : decode Y.2.1 pc = .ok (.putfield idx, 3)) (hp : pc + 3 = pc1) (hf : fOk Y.1.cls idx ci j kd false) (hq : ∀ b, pOk ci j (cv b v)) (hs : SH a = (0, ci)) (ha : a < n) (hv : ∀ b, fvl b M' R' a (kd, j) = cv b v) (ho : ∀ b (q : Nat × Nat), q.2 ≠ j → fvl b M' R' a q = fvl b M R a q) (he : ∀ cA b c, c ≠ a → ent cA b M' L R' c = ent cA b M L R c) (kk : Wp l Y E n k z pc1 lv st M' L R' Q) : Wp l Y E n k z pc lv (v :: .ref a :: st) M L R Q := by
  subst hp
  intro b D cA p e s m args below meth c H locs ls C hz hP hS hl
  have kk := fun H1 locs1 hP1 hS1 => kk b D cA p e s m args below meth c H1 locs1 ls C hz hP1 hS1 hl
  obtain ⟨hx, hb, hr, hlk, hml, hown, hnm, hts, hK, hbs, hO⟩ := C
  obtain ⟨Cn, T, N, hc, hin, hk, hkd, hdc, hfn, hlink⟩ := hf
  obtain ⟨Cn', T', N', ty0, hc', hty, hnn, hln, hjj, hnar, hfit⟩ := hq b
  cases hc.symm.trans hc'
  have he0 : (Wd cA b n M L R)[a]? = some (b + a, .inr (ci, (fks ci).map (fvl b M R a))) := by rw [wd_at ha, ent_obj hs]
  have hset : (Wd cA b n M L R).set a (b + a, .inr (ci, ((fks ci).map (fvl b M R a)).set j (cv b v))) = Wd cA b n M' L R' := by
    rw [fset_gen hkd hjj (hv b) (ho b), ← ent_obj (L := L) (cA := cA) hs]
    exact wd_set ha (fun c h => he cA b c h)
  have hlt : j < ((fks ci).map (fvl b M R a)).length := by simpa [hln] using hk
  rcases hlink with h1 | ⟨host, h1⟩
  · refine va_put (D := D) hx hb hts (fun w hw => List.mem_cons_of_mem _ (hin w hw)) ty0 hty hnn hown hK.1 hP wd_D hS a he0 hc j hk (hts _ (List.mem_cons_of_mem _ h1)) (fun x h9 => by rw [← hdc]; exact h9) hfn (hty j hk) hnar hfit hlt hd (fun H1 locs1 hP1 hD1 hS1 => ?_)
    rw [hset] at hP1
    exact kk H1 locs1 hP1 hS1
  · refine va_putN (D := D) hx hb hts (fun w hw => List.mem_cons_of_mem _ (hin w hw)) ty0 hty hnn hown hK.1 hP wd_D hS a he0 hc j hk (va_Nw.use rfl (hK.2.1 _ h1 rfl)) (fun x h9 => by rw [← hdc]; exact h9) hfn (hty j hk) hnar hfit hlt hd (fun H1 locs1 hP1 hD1 hS1 => ?_)
    rw [hset] at hP1
    exact kk H1 locs1 hP1 hS1
theorem g_putF {a ci j kd idx : Nat} {v : Value} {M' : gM} {R' : gR} (hd : decode Y.2.1 pc = .ok (.putfield idx, 3)) (hp : pc + 3 = pc1) (hin2 : Y.1.name = "<init>") (hf : ∃ (T : u_T) (N : Nat), cls[ci]? = some (Y.1.cls, T, N) ∧ (∀ w ∈ u_ws Y.1.cls T N, w ∈ gtb) ∧ j < N ∧ (fks ci)[j]? = some (kd, j) ∧ (T j).1 = Y.1.cls ∧ (T j).2.2.2 = true ∧ Cond.fieldLink Y.1.cls idx Y.1.cls (T j).2.1 (T j).2.2.1 ∈ gtb) (hq : ∀ b, pOk ci j (cv b v)) (hs : SH a = (0, ci)) (ha : a < n) (hv : ∀ b, fvl b M' R' a (kd, j) = cv b v) (ho : ∀ b (q : Nat × Nat), q.2 ≠ j → fvl b M' R' a q = fvl b M R a q) (he : ∀ cA b c, c ≠ a → ent cA b M' L R' c = ent cA b M L R c) (kk : Wp l Y E n k z pc1 lv st M' L R' Q) : Wp l Y E n k z pc lv (v :: .ref a :: st) M L R Q := by
  subst hp
  intro b D cA p e s m args below meth c H locs ls C hz hP hS hl
  have kk := fun H1 locs1 hP1 hS1 => kk b D cA p e s m args below meth c H1 locs1 ls C hz hP1 hS1 hl
  obtain ⟨hx, hb, hr, hlk, hml, hown, hnm, hts, hK, hbs, hO⟩ := C
  obtain ⟨T, N, hc, hin, hk, hkd, hdc, hfn, h1⟩ := hf
  obtain ⟨Cn', T', N', ty0, hc', hty, hnn, hln, hjj, hnar, hfit⟩ := hq b
  cases hc.symm.trans hc'
  have he0 : (Wd cA b n M L R)[a]? = some (b + a, .inr (ci, (fks ci).map (fvl b M R a))) := by rw [wd_at ha, ent_obj hs]
  have hset : (Wd cA b n M L R).set a (b + a, .inr (ci, ((fks ci).map (fvl b M R a)).set j (cv b v))) = Wd cA b n M' L R' := by
    rw [fset_gen hkd hjj (hv b) (ho b), ← ent_obj (L := L) (cA := cA) hs]
    exact wd_set ha (fun c h => he cA b c h)
  have hlt : j < ((fks ci).map (fvl b M R a)).length := by simpa [hln] using hk
  refine va_putF (D := D) hx hb hts (fun w hw => List.mem_cons_of_mem _ (hin w hw)) ty0 hty hnn hown hK.1 hP wd_D hS a he0 hc j hk (hts _ (List.mem_cons_of_mem _ h1)) (fun x h9 => by rw [← hdc]; exact h9) hfn (by rw [hnm]; exact hin2) hdc (hty j hk) hnar hfit hlt hd (fun H1 locs1 hP1 hD1 hS1 => ?_)
  rw [hset] at hP1
  exact kk H1 locs1 hP1 hS1
theorem fvl_M_self {a j b : Nat} {x : Int32} : fvl b (uM M a j x) R a (0, j) = cv b (.int x) := by
  show Value.int (uM M a j x a j) = Value.int x
  rw [uM_at, if_pos ⟨rfl, rfl⟩]
theorem fvl_M_ne {a j b : Nat} {x : Int32} (q : Nat × Nat) (h : q.2 ≠ j) : fvl b (uM M a j x) R a q = fvl b M R a q := by
  unfold fvl
  rw [uM_at, if_neg (fun g => h g.2)]
theorem fvl_R_self {a j b a' : Nat} : fvl b M (uR R a j (some a')) a (1, j) = cv b (.ref a') := by
  show va_rf ((uR R a j (some a') a j).map _) = _
  rw [uR_at, if_pos ⟨rfl, rfl⟩]
  rfl
theorem fvl_R_ne {a j b : Nat} {x : Option Nat} (q : Nat × Nat) (h : q.2 ≠ j) : fvl b M (uR R a j x) a q = fvl b M R a q := by
  unfold fvl
  rw [uR_at, if_neg (fun g => h g.2)]
theorem g_puti {a ci j idx : Nat} {x : Int32} (hd : decode Y.2.1 pc = .ok (.putfield idx, 3)) (hp : pc + 3 = pc1) (hf : fOk Y.1.cls idx ci j 0 false) (hq : pOk ci j (.int x)) (hs : SH a = (0, ci)) (ha : a < n) (kk : Wp l Y E n k z pc1 lv st (uM M a j x) L R Q) : Wp l Y E n k z pc lv (.int x :: .ref a :: st) M L R Q :=
  g_putAny hd hp hf (fun _ => hq) hs ha (fun _ => fvl_M_self) (fun _ q h => fvl_M_ne q h) (fun _ _ _ h => ent_neM h) kk
theorem g_putz {a ci j idx : Nat} {x : Int32} (hd : decode Y.2.1 pc = .ok (.putfield idx, 3)) (hp : pc + 3 = pc1) (hf : fOk Y.1.cls idx ci j 2 false) (hq : pOk ci j (.int x)) (hx : b01 x = x) (hs : SH a = (0, ci)) (ha : a < n) (kk : Wp l Y E n k z pc1 lv st (uM M a j x) L R Q) : Wp l Y E n k z pc lv (.int x :: .ref a :: st) M L R Q :=
  g_putAny hd hp hf (fun _ => hq) hs ha (fun b => by show Value.int (b01 (uM M a j x a j)) = Value.int x; rw [uM_at, if_pos ⟨rfl, rfl⟩, hx]) (fun _ q h => fvl_M_ne q h) (fun _ _ _ h => ent_neM h) kk
theorem g_putr {a ci j idx a' : Nat} (hd : decode Y.2.1 pc = .ok (.putfield idx, 3)) (hp : pc + 3 = pc1) (hf : fOk Y.1.cls idx ci j 1 false) (hq : ∀ q, pOk ci j (.ref q)) (hs : SH a = (0, ci)) (ha : a < n) (kk : Wp l Y E n k z pc1 lv st M L (uR R a j (some a')) Q) : Wp l Y E n k z pc lv (.ref a' :: .ref a :: st) M L R Q :=
  g_putAny hd hp hf (fun _ => hq _) hs ha (fun _ => fvl_R_self) (fun _ q h => fvl_R_ne q h) (fun _ _ _ h => ent_neR h) kk
/-- arrays -/
theorem g_iald {a N : Nat} {i : Int32} (hd : decode Y.2.1 pc = .ok (.iaload, 1)) (hp : pc + 1 = pc1) (hs : SH a = (1, N)) (ha : a < n) (hin : vp_in i N) (kk : Wp l Y E n k z pc1 lv (.int (M a i.toNatClampNeg) :: st) M L R Q) : Wp l Y E n k z pc lv (.int i :: .ref a :: st) M L R Q := by
  subst hp
  intro b D cA p e s m args below meth c H locs ls C hz hP hS hl
  exact va_iald (D := D) C.1 C.2.1 C.2.2.2.2.2.2.2.2.1.1 hP a 0 (by rw [wd_at ha, ent_1 hs]) rfl hin hd (kk b D cA p e s m args below meth c H locs ls C hz hP hS hl)
theorem g_bald {a N : Nat} {i : Int32} (hd : decode Y.2.1 pc = .ok (.baload, 1)) (hp : pc + 1 = pc1) (hs : SH a = (2, N)) (ha : a < n) (hin : vp_in i N) (kk : Wp l Y E n k z pc1 lv (.int (M a i.toNatClampNeg) :: st) M L R Q) : Wp l Y E n k z pc lv (.int i :: .ref a :: st) M L R Q := by
  subst hp
  intro b D cA p e s m args below meth c H locs ls C hz hP hS hl
  exact va_bald (D := D) C.1 C.2.1 C.2.2.2.2.2.2.2.2.1.1 hP a 1 (by rw [wd_at ha, ent_2 hs]) rfl hin hd (kk b D cA p e s m args below meth c H locs ls C hz hP hS hl)
theorem g_zald {a N : Nat} {i : Int32} (hd : decode Y.2.1 pc = .ok (.baload, 1)) (hp : pc + 1 = pc1) (hs : SH a = (3, N)) (ha : a < n) (hin : vp_in i N) (kk : Wp l Y E n k z pc1 lv (.int (M a i.toNatClampNeg) :: st) M L R Q) : Wp l Y E n k z pc lv (.int i :: .ref a :: st) M L R Q := by
  subst hp
  intro b D cA p e s m args below meth c H locs ls C hz hP hS hl
  exact va_zald (D := D) C.1 C.2.1 C.2.2.2.2.2.2.2.2.1.1 hP a 2 (by rw [wd_at ha, ent_3 hs]) rfl hin hd (kk b D cA p e s m args below meth c H locs ls C hz hP hS hl)
theorem g_lald {a N : Nat} {i : Int32} (hd : decode Y.2.1 pc = .ok (.laload, 1)) (hp : pc + 1 = pc1) (hs : SH a = (4, N)) (ha : a < n) (hin : vp_in i N) (kk : Wp l Y E n k z pc1 lv (.long (L a i.toNatClampNeg) :: st) M L R Q) : Wp l Y E n k z pc lv (.int i :: .ref a :: st) M L R Q := by
  subst hp
  intro b D cA p e s m args below meth c H locs ls C hz hP hS hl
  exact va_lald (D := D) C.1 C.2.1 C.2.2.2.2.2.2.2.2.1.1 hP a 3 (by rw [wd_at ha, ent_4 hs]) rfl hin hd (kk b D cA p e s m args below meth c H locs ls C hz hP hS hl)
theorem g_aald {a a' N : Nat} {i : Int32} (hd : decode Y.2.1 pc = .ok (.aaload, 1)) (hp : pc + 1 = pc1) (hs : SH a = (5, N)) (ha : a < n) (hin : vp_in i N) (hr : R a i.toNatClampNeg = some a') (kk : Wp l Y E n k z pc1 lv (.ref a' :: st) M L R Q) : Wp l Y E n k z pc lv (.int i :: .ref a :: st) M L R Q := by
  subst hp
  intro b D cA p e s m args below meth c H locs ls C hz hP hS hl
  refine va_aldq (D := D) C.1 C.2.1 C.2.2.2.2.2.2.2.2.1.1 hP a 4 (by rw [wd_at ha, ent_5 hs]) rfl hin hd ?_
  rw [hr]
  exact kk b D cA p e s m args below meth c H locs ls C hz hP hS hl
theorem g_iast {a N : Nat} {i x : Int32} (hd : decode Y.2.1 pc = .ok (.iastore, 1)) (hp : pc + 1 = pc1) (hs : SH a = (1, N)) (ha : a < n) (hin : vp_in i N) (kk : Wp l Y E n k z pc1 lv st (uM M a i.toNatClampNeg x) L R Q) : Wp l Y E n k z pc lv (.int x :: .int i :: .ref a :: st) M L R Q := by
  subst hp
  intro b D cA p e s m args below meth c H locs ls C hz hP hS hl
  refine va_iast (D := D) C.1 C.2.1 C.2.2.2.2.2.2.2.2.1.1 hP wd_D hS a 0 (by rw [wd_at ha, ent_1 hs]) rfl hin hd (fun H1 locs1 hP1 hD1 hS1 => ?_)
  rw [← uM_row, ← ent_1 (cA := cA) (b := b) (L := L) (R := R) hs, wd_set ha (fun c h => ent_neM h)] at hP1
  exact kk b D cA p e s m args below meth c H1 locs1 ls C hz hP1 hS1 hl
theorem g_bast {a N : Nat} {i x : Int32} (hd : decode Y.2.1 pc = .ok (.bastore, 1)) (hp : pc + 1 = pc1) (hs : SH a = (2, N)) (ha : a < n) (hin : vp_in i N) (kk : Wp l Y E n k z pc1 lv st (uM M a i.toNatClampNeg (vp_nar .byte x)) L R Q) : Wp l Y E n k z pc lv (.int x :: .int i :: .ref a :: st) M L R Q := by
  subst hp
  intro b D cA p e s m args below meth c H locs ls C hz hP hS hl
  refine va_bast (D := D) C.1 C.2.1 C.2.2.2.2.2.2.2.2.1.1 hP wd_D hS a 1 (by rw [wd_at ha, ent_2 hs]) rfl hin hd (fun H1 locs1 hP1 hD1 hS1 => ?_)
  rw [← uM_row, ← ent_2 (cA := cA) (b := b) (L := L) (R := R) hs, wd_set ha (fun c h => ent_neM h)] at hP1
  exact kk b D cA p e s m args below meth c H1 locs1 ls C hz hP1 hS1 hl
theorem g_zast {a N : Nat} {i x : Int32} (hd : decode Y.2.1 pc = .ok (.bastore, 1)) (hp : pc + 1 = pc1) (hs : SH a = (3, N)) (ha : a < n) (hin : vp_in i N) (kk : Wp l Y E n k z pc1 lv st (uM M a i.toNatClampNeg (vp_nar .boolean x)) L R Q) : Wp l Y E n k z pc lv (.int x :: .int i :: .ref a :: st) M L R Q := by
  subst hp
  intro b D cA p e s m args below meth c H locs ls C hz hP hS hl
  refine va_zast (D := D) C.1 C.2.1 C.2.2.2.2.2.2.2.2.1.1 hP wd_D hS a 2 (by rw [wd_at ha, ent_3 hs]) rfl hin hd (fun H1 locs1 hP1 hD1 hS1 => ?_)
  rw [← uM_row, ← ent_3 (cA := cA) (b := b) (L := L) (R := R) hs, wd_set ha (fun c h => ent_neM h)] at hP1
  exact kk b D cA p e s m args below meth c H1 locs1 ls C hz hP1 hS1 hl
theorem g_last {a N : Nat} {i : Int32} {x : Int64} (hd : decode Y.2.1 pc = .ok (.lastore, 1)) (hp : pc + 1 = pc1) (hs : SH a = (4, N)) (ha : a < n) (hin : vp_in i N) (kk : Wp l Y E n k z pc1 lv st M (uL L a i.toNatClampNeg x) R Q) : Wp l Y E n k z pc lv (.long x :: .int i :: .ref a :: st) M L R Q := by
  subst hp
  intro b D cA p e s m args below meth c H locs ls C hz hP hS hl
  refine va_last (D := D) C.1 C.2.1 C.2.2.2.2.2.2.2.2.1.1 hP wd_D hS a 3 (by rw [wd_at ha, ent_4 hs]) rfl hin hd (fun H1 locs1 hP1 hD1 hS1 => ?_)
  rw [← uL_row, ← ent_4 (cA := cA) (b := b) (M := M) (R := R) hs, wd_set ha (fun c h => ent_neL h)] at hP1
  exact kk b D cA p e s m args below meth c H1 locs1 ls C hz hP1 hS1 hl
theorem g_aast {a a' ci N : Nat} {i : Int32} {r : vw_C} (hd : decode Y.2.1 pc = .ok (.aastore, 1)) (hp : pc + 1 = pc1) (hs : SH a = (5, N)) (ha : a < n) (hin : vp_in i N) (hs' : SH a' = (0, ci)) (ha' : a' < n) (hc : cls[ci]? = some r) (hcn : r.1 = "CookedLaw$State") (kk : Wp l Y E n k z pc1 lv st M L (uR R a i.toNatClampNeg (some a')) Q) : Wp l Y E n k z pc lv (.ref a' :: .int i :: .ref a :: st) M L R Q := by
  subst hp
  intro b D cA p e s m args below meth c H locs ls C hz hP hS hl
  refine va_astq (D := D) C.1 C.2.1 C.2.2.2.2.2.2.2.2.1.1 hP wd_D hS a 4 a' ci (by rw [wd_at ha, ent_5 hs]) (by rw [hcn]; rfl) (by rw [wd_at ha', ent_obj hs']) hc hin hd (fun H1 locs1 hP1 hD1 hS1 => ?_)
  have e1 : (va_up (fun j => (R a j).map (fun x => b + x)) i.toNatClampNeg (some (b + a'))) = fun j => ((uR R a i.toNatClampNeg (some a')) a j).map (fun x => b + x) := by
    funext j
    rw [uR_row]
    unfold va_up
    split <;> rfl
  rw [e1, ← ent_5 (cA := cA) (b := b) (M := M) (L := L) hs, wd_set ha (fun c h => ent_neR h)] at hP1
  exact kk b D cA p e s m args below meth c H1 locs1 ls C hz hP1 hS1 hl
theorem g_alen {a kd N : Nat} {v : Int32} (hd : decode Y.2.1 pc = .ok (.arraylength, 1)) (hp : pc + 1 = pc1) (hs : SH a = (kd, N)) (h1 : 1 ≤ kd) (h5 : kd ≤ 5) (ha : a < n) (hv : Int32.ofNat N = v) (kk : Wp l Y E n k z pc1 lv (.int v :: st) M L R Q) : Wp l Y E n k z pc lv (.ref a :: st) M L R Q := by
  subst hp
  intro b D cA p e s m args below meth c H locs ls C hz hP hS hl
  have kk := kk b D cA p e s m args below meth c H locs ls C hz hP hS hl
  obtain rfl | rfl | rfl | rfl | rfl : kd = 1 ∨ kd = 2 ∨ kd = 3 ∨ kd = 4 ∨ kd = 5 := by omega
  · exact va_alen (D := D) C.1 C.2.1 C.2.2.2.2.2.2.2.2.1.1 hP a 0 (by rw [wd_at ha, ent_1 hs]) rfl hv hd kk
  · exact va_alen (D := D) C.1 C.2.1 C.2.2.2.2.2.2.2.2.1.1 hP a 1 (by rw [wd_at ha, ent_2 hs]) rfl hv hd kk
  · exact va_alen (D := D) C.1 C.2.1 C.2.2.2.2.2.2.2.2.1.1 hP a 2 (by rw [wd_at ha, ent_3 hs]) rfl hv hd kk
  · exact va_alen (D := D) C.1 C.2.1 C.2.2.2.2.2.2.2.2.1.1 hP a 3 (by rw [wd_at ha, ent_4 hs]) rfl hv hd kk
  · exact va_alen (D := D) C.1 C.2.1 C.2.2.2.2.2.2.2.2.1.1 hP a 4 (by rw [wd_at ha, ent_5 hs]) rfl hv hd kk
theorem g_lcmp {x y : Int64} (hd : decode Y.2.1 pc = .ok (.lcmp, 1)) (hp : pc + 1 = pc1) (kk : Wp l Y E n k z pc1 lv (.int (lg_cmp x y) :: st) M L R Q) : Wp l Y E n k z pc lv (.long y :: .long x :: st) M L R Q := by
  subst hp
  intro b D cA p e s m args below meth c H locs ls C hz hP hS hl
  exact W.lcmp C.1 C.2.1 hd (kk b D cA p e s m args below meth c H locs ls C hz hP hS hl)
theorem g_tabOut {dflt lo hi : Int} {offs : Array Int} {len : Nat} {x : Int32} {tgt : Nat} (hd : decode Y.2.1 pc = .ok (.tableswitch dflt lo hi offs, len)) (h : x.toInt < lo ∨ hi < x.toInt) (ht : (pc : Int) + dflt = (tgt : Int)) (kk : Wp l Y E n k z tgt lv st M L R Q) : Wp l Y E n k z pc lv (.int x :: st) M L R Q := by
  intro b D cA p e s m args below meth c H locs ls C hz hP hS hl
  exact lv_tableOut C.1 C.2.1 hd h ht (kk b D cA p e s m args below meth c H locs ls C hz hP hS hl)
theorem g_tabIn {dflt lo hi : Int} {offs : Array Int} {len : Nat} {x : Int32} {off : Int} {tgt : Nat} (hd : decode Y.2.1 pc = .ok (.tableswitch dflt lo hi offs, len)) (h1 : ¬ x.toInt < lo) (h2 : ¬ hi < x.toInt) (ho : offs[(x.toInt - lo).toNat]? = some off) (ht : (pc : Int) + off = (tgt : Int)) (kk : Wp l Y E n k z tgt lv st M L R Q) : Wp l Y E n k z pc lv (.int x :: st) M L R Q := by
  intro b D cA p e s m args below meth c H locs ls C hz hP hS hl
  exact lv_tableIn C.1 C.2.1 hd h1 h2 ho ht (kk b D cA p e s m args below meth c H locs ls C hz hP hS hl)
theorem g_nonnull {x : Nat} {off : Int} {tgt : Nat} (hd : decode Y.2.1 pc = .ok (.ifnonnull off, 3)) (ht : (pc : Int) + off = (tgt : Int)) (kk : Wp l Y E n k z tgt lv st M L R Q) : Wp l Y E n k z pc lv (.ref x :: st) M L R Q := by
  intro b D cA p e s m args below meth c H locs ls C hz hP hS hl
  exact lv_ifnonnull C.1 C.2.1 hd ht (kk b D cA p e s m args below meth c H locs ls C hz hP hS hl)
theorem g_null {x : Nat} {off : Int} (hd : decode Y.2.1 pc = .ok (.ifnull off, 3)) (hp : pc + 3 = pc1) (kk : Wp l Y E n k z pc1 lv st M L R Q) : Wp l Y E n k z pc lv (.ref x :: st) M L R Q := by
  subst hp
  intro b D cA p e s m args below meth c H locs ls C hz hP hS hl
  exact lv_ifnull C.1 C.2.1 hd (kk b D cA p e s m args below meth c H locs ls C hz hP hS hl)
/-- returns -/
theorem g_ireturn {x : Int32} (hr : Y.2.2.2.1 = some .int ∨ (Y.2.2.2.1 = some .boolean ∧ narrow .boolean (.int x) = .int x)) (hd : decode Y.2.1 pc = .ok (.ireturn, 1)) (hE : n = E.2.2) (kk : Q (some (.int x)) M L R) : Wp l Y E n E.1 E.2.1 pc lv [.int x] M L R Q := by
  intro b D cA p e s m args below meth c H locs ls C hz hP hS hl
  subst hE
  have hq : ∀ t : State, t.heap = H → s.WarmedH t.vm → gQ b D cA E.2.2 Q args s (.returned (some (.int x))) t := fun t ht hW => ⟨⟨some (.int x), M, L, R, rfl, kk, by rw [ht]; exact hP⟩, hS.F ht⟩
  rcases hr with hr | ⟨hr, hn⟩
  · exact W.iret C.1 C.2.1 (C.2.2.1.trans hr) hq hS.2.2 hd (hlocks := C.2.2.2.1)
  · exact W.zret C.1 C.2.1 (C.2.2.1.trans hr) hn hq hS.2.2 hd (hlocks := C.2.2.2.1)
theorem g_lreturn {x : Int64} (hr : Y.2.2.2.1 = some .long) (hd : decode Y.2.1 pc = .ok (.lreturn, 1)) (hE : n = E.2.2) (kk : Q (some (.long x)) M L R) : Wp l Y E n E.1 E.2.1 pc lv [.long x] M L R Q := by
  intro b D cA p e s m args below meth c H locs ls C hz hP hS hl
  subst hE
  exact W.lret C.1 C.2.1 (C.2.2.1.trans hr) (fun t ht hW => ⟨⟨some (.long x), M, L, R, rfl, kk, by rw [ht]; exact hP⟩, hS.F ht⟩) hS.2.2 hd (hlocks := C.2.2.2.1)
theorem g_return (hr : Y.2.2.2.1 = none) (hd : decode Y.2.1 pc = .ok (.return_, 1)) (hE : n = E.2.2) (kk : Q none M L R) : Wp l Y E n E.1 E.2.1 pc lv [] M L R Q := by
  intro b D cA p e s m args below meth c H locs ls C hz hP hS hl
  subst hE
  exact W.vret C.1 C.2.1 (C.2.2.1.trans hr) (fun t ht hW => ⟨⟨none, M, L, R, rfl, kk, by rw [ht]; exact hP⟩, hS.F ht⟩) hS.2.2 hd (hlocks := C.2.2.2.1)
end RULES2
end MG0x2
section MG0x3
/-! making cells, calls -/
abbrev psh (r : Option Value) (st : List Value) : List Value := match r with
  | some v => v :: st
  | none => st
theorem gw_good {Y Y' : gY} (h : Cond.code Y'.1 Y'.2.1 Y'.2.2.1 Y'.2.2.2.1 ∈ gtb) : GoodIn (gW Y) (gW Y') := by
  have e : ∀ w ∈ gtb, GoodIn (gW Y) [w] := fun w hw v hv => by
    rw [List.mem_singleton.mp hv]
    exact ⟨List.mem_cons_of_mem _ hw, good_of_word (List.mem_filter.mp hw).2⟩
  intro w hw
  rcases List.mem_cons.mp hw with rfl | hw
  · exact e _ h _ (List.mem_singleton.mpr rfl)
  · exact e _ hw _ (List.mem_singleton.mpr rfl)
theorem sz_of {p : Program} {l : Launch} {e : Env} {R0 : Room} {s : State} {m : MethodId} {args : Array Value} {below : List Frame} {meth : Method} {c : Code} {T : State} {locs : List Loc} {k z b n : Nat} {D : va_G} {cA : Nat → ClassId} {M : gM} {L : gL} {R : gR}
    (X : Stand p l e R0 s m args below meth c T locs k z) (hP : va_P D cls (Wd cA b n M L R) T.heap) (h0 : s.heap.size + k = b + n) (hb : b ≤ s.heap.size) (hS : va_S (fun q => b ≤ q) s.heap T.heap locs) : T.heap.size = b + n := by
  have h1 := X.heapSize
  rcases Nat.eq_zero_or_pos n with hn | hn
  · subst hn
    have h2 := hS.1
    omega
  · have h2 := (hP (n - 1) _ (wd_at (by omega))).lt
    have h3 : b + (n - 1) < T.heap.size := h2
    omega
section RULES3
variable {l : Launch} {Y : gY} {E : Nat × Nat × Nat} {n k z pc pc1 : Nat} {lv lv' : List (Nat × Value)} {st : List Value} {M : gM} {L : gL} {R : gR} {Q : Option Value → gM → gL → gR → Prop}
theorem gK_arr {D : va_G} {cA : Nat → ClassId} {s : State} (hK : gK D cA s) {j : Nat} {ty : FieldType} {cB : ClassId} (hj : (tys cA)[j]? = some (cA j, ty)) {K0 : List (ClassId × FieldType)} (h : va_K D cls (K0 ++ [(cB, ty)]) s) : cB = cA j := by
  have h1 := (hK.1.2 j _ hj).2
  have h2 := (h.2 K0.length (cB, ty) (by simp)).2
  cases ty with
  | object C =>
    obtain ⟨_, _, -, -, -, e1⟩ := h1
    obtain ⟨_, _, -, -, -, e2⟩ := h2
    exact Option.some.inj (e2.symm.trans e1)
  | _ => exact Option.some.inj (h2.symm.trans h1)
theorem wd_q {D : va_G} {cA : Nat → ClassId} {b n q : Nat} {M : gM} {L : gL} {R : gR} {x : va_E} {H : Heap} {A0 : Nat} (hP : va_P D cls (Wd cA b n M L R ++ [(q, x)]) H) (hD : va_D (fun q => b ≤ q) (Wd cA b n M L R ++ [(q, x)])) (hle : H.size ≤ A0) (h0 : A0 = b + n + 1) : q = b + n := by
  have hlen : (Wd cA b n M L R).length = n := by simp [Wd]
  have e1 : (Wd cA b n M L R ++ [(q, x)])[n]? = some (q, x) := by
    rw [List.getElem?_append_right (by omega), hlen]; simp
  have h1 := (hP n _ e1).lt
  have h1' : q < H.size := h1
  have h2 : b ≤ q := hD.2 n _ e1
  rcases Nat.lt_or_ge q (b + n) with h | h
  · exfalso
    have e2 : (Wd cA b n M L R ++ [(q, x)])[q - b]? = some (b + (q - b), ent cA b M L R (q - b)) := by
      rw [List.getElem?_append_left (by omega), wd_at (by omega)]
    have := hD.1 (q - b) n _ _ e2 e1 (by show b + (q - b) = q; omega)
    omega
  · omega
theorem g_new {ci idx N : Nat} {C : String} {T : u_T} {ty : Nat → FieldType} (hd : decode Y.2.1 pc = .ok (.new idx, 3)) (hp : pc + 3 = pc1) (hc : cls[ci]? = some (C, T, N)) (hin : ∀ w ∈ u_ws C T N, w ∈ gtb) (hty : ∀ k, k < N → parseFieldDescriptor (T k).2.2.1 = some (ty k))
    (hdf : ∀ j, j < N → defaultValue (ty j) = vp_V ((fks ci).map (fun q => match q.1 with | 0 => .int 0 | 2 => .int 0 | _ => .null)) j) (hw1 : Cond.classLink Y.1.cls idx C ∈ gtb) (hw2 : Cond.instantiable C N ∈ gtb) (hw3 : Cond.initialized C ∈ gtb) (hs : SH n = (0, ci)) (hz1 : ∀ i, M n i = 0) (hz2 : ∀ i, R n i = none)
    (h1 : k + 1 ≤ E.1) (h2 : z + N ≤ E.2.1) (kk : Wp l Y E (n + 1) (k + 1) (z + N) pc1 lv (.ref n :: st) M L R Q) : Wp l Y E n k z pc lv st M L R Q := by
  subst hp
  intro b D cA p e s m args below meth c H locs ls CX hz hP hS hl
  have kk := fun H1 locs1 hP1 hS1 => kk b D cA p e s m args below meth c H1 locs1 ls CX (by omega) hP1 hS1 hl
  obtain ⟨hx, hb, hr, hlk, hml, hown, hnm, hts, hK, hbs, hO⟩ := CX
  refine va_new (D := D) hx hb hts (fun w hw => List.mem_cons_of_mem _ (hin w hw)) ty hty hown (hts _ (List.mem_cons_of_mem _ hw1)) (hts _ (List.mem_cons_of_mem _ hw2)) (hts _ (List.mem_cons_of_mem _ hw3)) hK.1 hP wd_D hS (fun q hq => by show b ≤ q; omega) hc hdf h1 h2 hd (fun q H1 hP1 hD1 hS1 => ?_)
  intro T0 hT0 X0
  have hq : q = b + n := wd_q hP1 hD1 (by rw [← hT0]; exact X0.heapSize) (by omega)
  subst hq
  have e : (fks ci).map (fun q => match q.1 with | 0 => Value.int 0 | 2 => Value.int 0 | _ => Value.null) = (fks ci).map (fvl b M R n) := by
    apply List.map_congr_left
    intro q _
    unfold fvl
    rw [hz1, hz2]
    obtain ⟨kd, j⟩ := q
    rcases kd with _ | _ | _ | kd <;> rfl
  rw [e, ← ent_obj (L := L) (cA := cA) hs, ← wd_snoc] at hP1
  exact kk H1 locs hP1 hS1 T0 hT0 X0
theorem g_newA {N : Nat} {at0 : ArrayType} {ty : FieldType} {x : Int32} (j : Nat) (hd : decode Y.2.1 pc = .ok (.newarray at0, 2)) (hp : pc + 2 = pc1) (hty : newarray.typeOf at0 = ty) (hj : ∀ cA : Nat → ClassId, (tys cA)[j]? = some (cA j, ty)) (hw : Cond.arrayClass ty ∈ gtb) (a0 : vp_A) (ha : ∀ cA : ClassId, vp_cell cA a0 = arrV cA N (fun _ => defaultValue ty)) (he : ∀ cA b, ent cA b M L R n = .inl (cA j, a0))
    (hn : ¬ x < 0) (hN : x.toNatClampNeg = N) (hby : N * componentBytes ty ≤ 536870912) (h1 : k + 1 ≤ E.1) (h2 : z + N ≤ E.2.1) (kk : Wp l Y E (n + 1) (k + 1) (z + N) pc1 lv (.ref n :: st) M L R Q) : Wp l Y E n k z pc lv (.int x :: st) M L R Q := by
  subst hp
  intro b D cA p e s m args below meth c H locs ls CX hz hP hS hl
  have kk := fun H1 locs1 hP1 hS1 => kk b D cA p e s m args below meth c H1 locs1 ls CX (by omega) hP1 hS1 hl
  obtain ⟨hx, hb, hr, hlk, hml, hown, hnm, hts, hK, hbs, hO⟩ := CX
  refine va_newa (D := D) hx hb (by rw [hty]; exact hts _ (List.mem_cons_of_mem _ hw)) hty hK.1 hP wd_D hS (fun q hq => by show b ≤ q; omega) ha hn hN hby h1 h2 hd (fun q cB H1 hK1 hP1 hD1 hS1 => ?_)
  intro T0 hT0 X0
  have hq : q = b + n := wd_q hP1 hD1 (by rw [← hT0]; exact X0.heapSize) (by omega)
  subst hq
  rw [gK_arr hK (hj cA) hK1, ← he cA b, ← wd_snoc] at hP1
  exact kk H1 locs hP1 hS1 T0 hT0 X0
theorem g_newI {N : Nat} {x : Int32} (hd : decode Y.2.1 pc = .ok (.newarray .int, 2)) (hp : pc + 2 = pc1) (hw : Cond.arrayClass .int ∈ gtb) (hs : SH n = (1, N)) (hz : ∀ i, M n i = 0) (hn : ¬ x < 0) (hN : x.toNatClampNeg = N) (hby : N * 4 ≤ 536870912) (h1 : k + 1 ≤ E.1) (h2 : z + N ≤ E.2.1) (kk : Wp l Y E (n + 1) (k + 1) (z + N) pc1 lv (.ref n :: st) M L R Q) : Wp l Y E n k z pc lv (.int x :: st) M L R Q :=
  g_newA 0 hd hp rfl (fun _ => rfl) hw (N, .inl (fun _ => 0)) (fun _ => rfl) (fun cA b => by rw [ent_1 hs, show M n = (fun _ => 0) from funext hz]) hn hN hby h1 h2 kk
theorem g_newB {N : Nat} {x : Int32} (hd : decode Y.2.1 pc = .ok (.newarray .byte, 2)) (hp : pc + 2 = pc1) (hw : Cond.arrayClass .byte ∈ gtb) (hs : SH n = (2, N)) (hz : ∀ i, M n i = 0) (hn : ¬ x < 0) (hN : x.toNatClampNeg = N) (hby : N * 1 ≤ 536870912) (h1 : k + 1 ≤ E.1) (h2 : z + N ≤ E.2.1) (kk : Wp l Y E (n + 1) (k + 1) (z + N) pc1 lv (.ref n :: st) M L R Q) : Wp l Y E n k z pc lv (.int x :: st) M L R Q :=
  g_newA 1 hd hp rfl (fun _ => rfl) hw (N, .inl (fun _ => 0)) (fun _ => rfl) (fun cA b => by rw [ent_2 hs, show M n = (fun _ => 0) from funext hz]) hn hN hby h1 h2 kk
theorem g_newZ {N : Nat} {x : Int32} (hd : decode Y.2.1 pc = .ok (.newarray .boolean, 2)) (hp : pc + 2 = pc1) (hw : Cond.arrayClass .boolean ∈ gtb) (hs : SH n = (3, N)) (hz : ∀ i, M n i = 0) (hn : ¬ x < 0) (hN : x.toNatClampNeg = N) (hby : N * 1 ≤ 536870912) (h1 : k + 1 ≤ E.1) (h2 : z + N ≤ E.2.1) (kk : Wp l Y E (n + 1) (k + 1) (z + N) pc1 lv (.ref n :: st) M L R Q) : Wp l Y E n k z pc lv (.int x :: st) M L R Q :=
  g_newA 2 hd hp rfl (fun _ => rfl) hw (N, .inl (fun _ => 0)) (fun _ => rfl) (fun cA b => by rw [ent_3 hs, show M n = (fun _ => 0) from funext hz]) hn hN hby h1 h2 kk
theorem g_newJ {N : Nat} {x : Int32} (hd : decode Y.2.1 pc = .ok (.newarray .long, 2)) (hp : pc + 2 = pc1) (hw : Cond.arrayClass .long ∈ gtb) (hs : SH n = (4, N)) (hz : ∀ i, L n i = 0) (hn : ¬ x < 0) (hN : x.toNatClampNeg = N) (hby : N * 8 ≤ 536870912) (h1 : k + 1 ≤ E.1) (h2 : z + N ≤ E.2.1) (kk : Wp l Y E (n + 1) (k + 1) (z + N) pc1 lv (.ref n :: st) M L R Q) : Wp l Y E n k z pc lv (.int x :: st) M L R Q :=
  g_newA 3 hd hp rfl (fun _ => rfl) hw (N, .inr (.inl (fun _ => 0))) (fun _ => rfl) (fun cA b => by rw [ent_4 hs, show L n = (fun _ => 0) from funext hz]) hn hN hby h1 h2 kk
theorem g_newR {idx N : Nat} {x : Int32} (hd : decode Y.2.1 pc = .ok (.anewarray idx, 3)) (hp : pc + 3 = pc1) (hw1 : Cond.classLink Y.1.cls idx "CookedLaw$State" ∈ gtb) (hs : SH n = (5, N)) (hz0 : ∀ i, R n i = none) (hn : ¬ x < 0) (hN : x.toNatClampNeg = N) (hby : N * 4 ≤ 536870912) (h1 : k + 1 ≤ E.1) (h2 : z + N ≤ E.2.1) (kk : Wp l Y E (n + 1) (k + 1) (z + N) pc1 lv (.ref n :: st) M L R Q) : Wp l Y E n k z pc lv (.int x :: st) M L R Q := by
  subst hp
  intro b D cA p e s m args below meth c H locs ls CX hz hP hS hl
  have kk := fun H1 locs1 hP1 hS1 => kk b D cA p e s m args below meth c H1 locs1 ls CX (by omega) hP1 hS1 hl
  obtain ⟨hx, hb, hr, hlk, hml, hown, hnm, hts, hK, hbs, hO⟩ := CX
  have hov : va_AO "CookedLaw$State" s := hK.2.2
  refine va_newq (D := D) hx hb hown (hts _ (List.mem_cons_of_mem _ hw1)) hov hK.1 hP wd_D hS (fun q hq => by show b ≤ q; omega) hn hN hby h1 h2 hd (fun q cB H1 hK1 hP1 hD1 hS1 => ?_)
  intro T0 hT0 X0
  have hq : q = b + n := wd_q hP1 hD1 (by rw [← hT0]; exact X0.heapSize) (by omega)
  subst hq
  have e : (fun _ : Nat => (none : Option Nat)) = fun j => (R n j).map (fun x => b + x) := by
    funext j; rw [hz0]; rfl
  rw [gK_arr (j := 4) hK rfl hK1, e, ← ent_5 (cA := cA) (b := b) (M := M) (L := L) hs, ← wd_snoc] at hP1
  exact kk H1 locs hP1 hS1 T0 hT0 X0
theorem cats_cv (b : Nat) (st : List Value) : ((st.map (cv b)).map fun v => v.category).sum = (st.map fun v => v.category).sum := by
  rw [List.map_map]
  congr 1
  apply List.map_congr_left
  intro v _
  exact cv_cat b v
theorem g_objInit {a idx : Nat} (hd : decode Y.2.1 pc = .ok (.invokespecial idx, 3)) (hp : pc + 3 = pc1) (hw1 : Cond.methodLink Y.1.cls idx Lib.objectInit ∈ gtb) (hw2 : Cond.instanceMethod Lib.objectInit ∈ gtb) (hw3 : Cond.code Lib.objectInit ⟨#[0xb1]⟩ 1 none ∈ gtb) (hh : 1 ≤ Y.2.2.2.2) (hcat : (st.map fun v => v.category).sum ≤ 8) (kk : Wp l Y E n k z pc1 lv st M L R Q) : Wp l Y E n k z pc lv (.ref a :: st) M L R Q := by
  subst hp
  intro b D cA p e s m args below meth c H locs ls CX hz hP hS hl
  have kk := kk b D cA p e s m args below meth c H locs ls CX hz hP hS hl
  obtain ⟨hx, hb, hr, hlk, hml, hown, hnm, hts, hK, hbs, hO⟩ := CX
  refine W.objInit hx hb hown (hts _ (List.mem_cons_of_mem _ hw1)) (hts _ (List.mem_cons_of_mem _ hw2)) (hts _ (List.mem_cons_of_mem _ hw3)) rfl (by rw [hml]; exact hl.1) rfl hd hh ?_ kk
  rw [cats_cv]
  show 2 * 0 + _ + 12 ≤ 40 * _
  omega
theorem g_mmin {idx : Nat} {x y : Int32} (hd : decode Y.2.1 pc = .ok (.invokestatic idx, 3)) (hp : pc + 3 = pc1) (hw : Cond.methodLink Y.1.cls idx Lib.Math.min.name ∈ gtb ∧ Cond.static Lib.Math.min.name ∈ gtb ∧ Cond.initialized "java/lang/Math" ∈ gtb ∧ Cond.code Lib.Math.min.name Lib.Math.min.code 2 (some .int) ∈ gtb) (hh : 1 ≤ Y.2.2.2.2) (hE : k ≤ E.1 ∧ z ≤ E.2.1) (hcat : (st.map fun v => v.category).sum ≤ 8) (kk : Wp l Y E n k z pc1 lv (.int (if y < x then y else x) :: st) M L R Q) : Wp l Y E n k z pc lv (.int y :: .int x :: st) M L R Q := by
  subst hp
  intro b D cA p e s m args below meth c H locs ls CX hz hP hS hl
  have kk := kk b D cA p e s m args below meth c H locs ls CX hz hP hS hl
  obtain ⟨hx, hb, hr, hlk, hml, hown, hnm, hts, hK, hbs, hO⟩ := CX
  refine va_mmin hx hb (by rw [hml]; exact hl.1.symm) hown (hts _ (List.mem_cons_of_mem _ hw.1)) (hts _ (List.mem_cons_of_mem _ hw.2.1)) (hts _ (List.mem_cons_of_mem _ hw.2.2.1)) (hts _ (List.mem_cons_of_mem _ hw.2.2.2)) hh ?_ hE.1 hE.2 hd kk
  rw [cats_cv]
  show _ + 13 ≤ 40 * _
  omega
theorem g_mmax {idx : Nat} {x y : Int32} (hd : decode Y.2.1 pc = .ok (.invokestatic idx, 3)) (hp : pc + 3 = pc1) (hw : Cond.methodLink Y.1.cls idx Lib.Math.max.name ∈ gtb ∧ Cond.static Lib.Math.max.name ∈ gtb ∧ Cond.initialized "java/lang/Math" ∈ gtb ∧ Cond.code Lib.Math.max.name Lib.Math.max.code 2 (some .int) ∈ gtb) (hh : 1 ≤ Y.2.2.2.2) (hE : k ≤ E.1 ∧ z ≤ E.2.1) (hcat : (st.map fun v => v.category).sum ≤ 8) (kk : Wp l Y E n k z pc1 lv (.int (if x < y then y else x) :: st) M L R Q) : Wp l Y E n k z pc lv (.int y :: .int x :: st) M L R Q := by
  subst hp
  intro b D cA p e s m args below meth c H locs ls CX hz hP hS hl
  have kk := kk b D cA p e s m args below meth c H locs ls CX hz hP hS hl
  obtain ⟨hx, hb, hr, hlk, hml, hown, hnm, hts, hK, hbs, hO⟩ := CX
  refine va_mmax hx hb (by rw [hml]; exact hl.1.symm) hown (hts _ (List.mem_cons_of_mem _ hw.1)) (hts _ (List.mem_cons_of_mem _ hw.2.1)) (hts _ (List.mem_cons_of_mem _ hw.2.2.1)) (hts _ (List.mem_cons_of_mem _ hw.2.2.2)) hh ?_ hE.1 hE.2 hd kk
  rw [cats_cv]
  show _ + 13 ≤ 40 * _
  omega
theorem g_mabs {idx : Nat} {x : Int32} (hd : decode Y.2.1 pc = .ok (.invokestatic idx, 3)) (hp : pc + 3 = pc1) (hw : Cond.methodLink Y.1.cls idx Lib.Math.abs.name ∈ gtb ∧ Cond.static Lib.Math.abs.name ∈ gtb ∧ Cond.initialized "java/lang/Math" ∈ gtb ∧ Cond.code Lib.Math.abs.name Lib.Math.abs.code 1 (some .int) ∈ gtb) (hh : 1 ≤ Y.2.2.2.2) (hE : k ≤ E.1 ∧ z ≤ E.2.1) (hcat : (st.map fun v => v.category).sum ≤ 8) (kk : Wp l Y E n k z pc1 lv (.int (if 0 ≤ x then x else 0 - x) :: st) M L R Q) : Wp l Y E n k z pc lv (.int x :: st) M L R Q := by
  subst hp
  intro b D cA p e s m args below meth c H locs ls CX hz hP hS hl
  have kk := kk b D cA p e s m args below meth c H locs ls CX hz hP hS hl
  obtain ⟨hx, hb, hr, hlk, hml, hown, hnm, hts, hK, hbs, hO⟩ := CX
  refine va_mabs hx hb (by rw [hml]; exact hl.1.symm) hown (hts _ (List.mem_cons_of_mem _ hw.1)) (hts _ (List.mem_cons_of_mem _ hw.2.1)) (hts _ (List.mem_cons_of_mem _ hw.2.2.1)) (hts _ (List.mem_cons_of_mem _ hw.2.2.2)) hh ?_ hE.1 hE.2 hd kk
  rw [cats_cv]
  show _ + 13 ≤ 40 * _
  omega
/-- behind a call -/
theorem w_after {p : Program} {e : Env} {R0 : Room} {s : State} {m : MethodId} {args : Array Value} {below : List Frame} {meth : Method} {c : Code} {H : Heap} {locs : List Loc} {mc ms n2 b : Nat} {ls : Array Slot} {st0 rest : List Value} {D : va_G} {cA : Nat → ClassId} {a : Array Value} {Q2 : Option Value → gM → gL → gR → Prop} {Z : State → Prop}
    (hr : va_Run p l e R0 s m args below meth c H locs k z mc ms (F0 m pc ls st0) rest (gQ b D cA n2 Q2 a) (fun q => b ≤ q)) (hS : va_S (fun q => b ≤ q) s.heap H locs)
    (kk : ∀ (r : Option Value) (M' : gM) (L' : gL) (R' : gR) (H1 : Heap) (locs1 : List Loc), Q2 r M' L' R' → va_P D cls (Wd cA b n2 M' L' R') H1 → va_S (fun q => b ≤ q) s.heap H1 locs1 → W p l e R0 s m args below meth c H1 locs1 (k + mc) (z + ms) Z (F0 m (pc + 3) ls ((r.map (cv b)).toList ++ rest))) : W p l e R0 s m args below meth c H locs k z Z (F0 m pc ls st0) := by
  intro T hT X
  obtain ⟨v, st₀, t, T', L1, h0, X', hL, e1, e2, ⟨⟨r, M', L', R', hv, hq, hP1⟩, hz, hk⟩, hgo⟩ := hr T hT X
  cases hv
  rw [h0] at hz hk
  obtain ⟨t2, a1, b1⟩ := kk r M' L' R' T'.heap (locs ++ L1) hq (by rw [e1]; exact hP1)
    ⟨Nat.le_trans hS.1 (by rw [e1]; exact hz), fun q h1 h2 => by rw [e1, hk q (Nat.lt_of_lt_of_le h1 hS.1) h2]; exact hS.2.1 q h1 h2, fun q hq => by
      rcases List.mem_append.mp hq with h | h
      · exact hS.2.2 q h
      · exact hL q h⟩ T' rfl X'
  exact ⟨t2, hgo t2 a1, b1⟩
theorem psh_cv (b : Nat) (r : Option Value) (rest : List Value) : (r.map (cv b)).toList ++ rest.map (cv b) = (psh r rest).map (cv b) := by
  cases r <;> rfl
theorem gP_blind {b n : Nat} {D : va_G} {cA : Nat → ClassId} {args : List Value} : FrameBlind (gP b n D cA M L R args) := by
  intro a U g mk q
  obtain ⟨q1, q2, q3, q4, q5⟩ := q
  exact ⟨q1, q2, q3, gK.same (u := U) (U := U.calling g mk a) rfl q4, gO.same (u := U) (U := U.calling g mk a) rfl q5⟩
def mOk (own : String) (idx np : Nat) (Y' : gY) : Prop := (Cond.methodLink own idx Y'.1 ∈ gtb ∨ ∃ host, Cond.methodLinkNest own idx Y'.1 host ∈ tables_1) ∧ Cond.code Y'.1 Y'.2.1 Y'.2.2.1 Y'.2.2.2.1 ∈ gtb ∧ Cond.initialized Y'.1.cls ∈ gtb ∧ Y'.1.cls ≠ "java/lang/invoke/MethodHandle" ∧ Y'.1.cls ≠ "java/lang/invoke/VarHandle" ∧ (parseMethodDescriptor Y'.1.desc).map (fun d => d.parameters.length) = some np
theorem w_callS {p : Program} {e : Env} {R0 : Room} {s : State} {m : MethodId} {args : Array Value} {below : List Frame} {meth : Method} {c : Code} {H : Heap} {locs : List Loc} {b idx np nL : Nat} {ls : Array Slot} {As rest st0 : List Value} {D : va_G} {cA : Nat → ClassId} {Q2 : Option Value → gM → gL → gR → Prop} {Z : State → Prop} {Y' : gY} {E' : Nat × Nat × Nat} {own : String} {cc : ByteArray} {Ts : List Cond}
    (hx : p.tables.exec = Jvm.exec) (hb : c.code = cc) (hml : c.maxLocals = nL) (hown : s.vm.findClass own = some m.cls) (hts : ∀ w ∈ Ts, w.before args s = true) (hsub : ∀ w ∈ gtb, w ∈ Ts) (hK : gK D cA s) (hgood : GoodIn Ts (gW Y')) (hbs : b ≤ s.heap.size) (hO : gO b s s.heap)
    (hm : mOk own idx np Y') (hst : Cond.static Y'.1 ∈ gtb) (hR : Y'.2.2.2.2 + 1 ≤ R0.frames ∧ 8 + (Y'.2.2.1 + 11) + 40 * Y'.2.2.2.2 ≤ R0.locals) (hn : As.length = np) (hst0 : st0 = As.reverse ++ rest) (hcat : (rest.map fun v => v.category).sum ≤ 8) (hd : decode cc pc = .ok (.invokestatic idx, 3)) (hf : k + E'.1 ≤ R0.cells ∧ z + E'.2.1 ≤ R0.slots)
    (hls : ls.size = nL) (hz : s.heap.size + k = b + n) (hP : va_P D cls (Wd cA b n M L R) H) (hS : va_S (fun q => b ≤ q) s.heap H locs) (hT : Tm l Y' E' n As M L R Q2)
    (kk : ∀ (r : Option Value) (M' : gM) (L' : gL) (R' : gR) (H1 : Heap) (locs1 : List Loc), Q2 r M' L' R' → va_P D cls (Wd cA b E'.2.2 M' L' R') H1 → va_S (fun q => b ≤ q) s.heap H1 locs1 → W p l e R0 s m args below meth c H1 locs1 (k + E'.1) (z + E'.2.1) Z (F0 m (pc + 3) ls ((psh r rest).map (cv b)))) : W p l e R0 s m args below meth c H locs k z Z (F0 m pc ls (st0.map (cv b))) := by
  intro T0 hT0 X0
  subst hT0
  have hsz := sz_of X0 hP hz hbs hS
  obtain ⟨hl, hcode, hini, hc1, hc2, hpar⟩ := hm
  have hPc : PreS s T0.heap (gP b n D cA M L R As) (As.map (cv b)) := ⟨gP_blind, fun U hU hW => ⟨rfl, by rw [hU]; exact hsz, by rw [hU]; exact hP, hK.warm hW, by rw [hU]; exact (hO.warm hW).kept hS.2.1⟩⟩
  have hroom : 2 * (F0 m pc ls (st0.map (cv b))).monitorRoom + ((rest.map (cv b)).map fun v => v.category).sum ≤ 8 := by
    rw [cats_cv]; show 2 * 0 + _ ≤ 8; omega
  have hstk : (F0 m pc ls (st0.map (cv b))).stack = (As.map (cv b)).reverse ++ rest.map (cv b) := by
    show st0.map (cv b) = _
    rw [hst0, List.map_append, List.map_reverse]
  refine w_after (D := D) (cA := cA) (rest := rest.map (cv b)) (n2 := E'.2.2) (Q2 := Q2) (mc := E'.1) (ms := E'.2.1) (a := (As.map (cv b)).toArray) ?_ hS (fun r M' L' R' H1 locs1 g1 g2 g3 => by rw [psh_cv]; exact kk r M' L' R' H1 locs1 g1 g2 g3) T0 rfl X0
  rcases hl with hl | ⟨host, hl⟩
  · exact va_runS (Ts := Ts) ⟨hx, hb, hml, hown, hts⟩ (hT b D cA) ⟨callB_of np hts hgood rfl rfl rfl (hts _ (hsub _ hini)) (hts _ (hsub _ hl)) ⟨hc1, hc2, hpar⟩ hR, hts _ (hsub _ hst)⟩ hPc rfl (by rw [List.length_map]; exact hn) hls hstk hroom hd hf
  · exact va_runSN (Ts := Ts) ⟨hx, hb, hml, hown, hts⟩ (hT b D cA) ⟨va_cnB np hts hgood rfl rfl rfl (hK.2.1 _ hl rfl) (hts _ (hsub _ hini)) ⟨hc1, hc2, hpar⟩ hR, hts _ (hsub _ hst), trivial⟩ hPc rfl (by rw [List.length_map]; exact hn) hls hstk hroom hd hf
theorem w_callV {p : Program} {e : Env} {R0 : Room} {s : State} {m : MethodId} {args : Array Value} {below : List Frame} {meth : Method} {c : Code} {H : Heap} {locs : List Loc} {b a ci idx np nL N : Nat} {ls : Array Slot} {As rest st0 : List Value} {D : va_G} {cA : Nat → ClassId} {Q2 : Option Value → gM → gL → gR → Prop} {Z : State → Prop} {Y' : gY} {E' : Nat × Nat × Nat} {own : String} {cc : ByteArray} {Ts : List Cond} {T : u_T}
    (hx : p.tables.exec = Jvm.exec) (hb : c.code = cc) (hml : c.maxLocals = nL) (hown : s.vm.findClass own = some m.cls) (hts : ∀ w ∈ Ts, w.before args s = true) (hsub : ∀ w ∈ gtb, w ∈ Ts) (hK : gK D cA s) (hgood : GoodIn Ts (gW Y')) (hbs : b ≤ s.heap.size) (hO : gO b s s.heap)
    (hm : mOk own idx np Y') (hins : Cond.instanceMethod Y'.1 ∈ gtb) (hsel : Cond.selects Y'.1.cls Y'.1 Y'.1 ∈ gtb) (hs : SH a = (0, ci)) (ha : a < n) (hc : cls[ci]? = some (Y'.1.cls, T, N)) (hR : Y'.2.2.2.2 + 1 ≤ R0.frames ∧ 8 + (Y'.2.2.1 + 11) + 40 * Y'.2.2.2.2 ≤ R0.locals) (hn : As.length = np) (hst0 : st0 = As.reverse ++ .ref a :: rest) (hcat : (rest.map fun v => v.category).sum ≤ 8) (hd : decode cc pc = .ok (.invokevirtual idx, 3)) (hf : k + E'.1 ≤ R0.cells ∧ z + E'.2.1 ≤ R0.slots)
    (hls : ls.size = nL) (hz : s.heap.size + k = b + n) (hP : va_P D cls (Wd cA b n M L R) H) (hS : va_S (fun q => b ≤ q) s.heap H locs) (hT : Tm l Y' E' n (.ref a :: As) M L R Q2)
    (kk : ∀ (r : Option Value) (M' : gM) (L' : gL) (R' : gR) (H1 : Heap) (locs1 : List Loc), Q2 r M' L' R' → va_P D cls (Wd cA b E'.2.2 M' L' R') H1 → va_S (fun q => b ≤ q) s.heap H1 locs1 → W p l e R0 s m args below meth c H1 locs1 (k + E'.1) (z + E'.2.1) Z (F0 m (pc + 3) ls ((psh r rest).map (cv b)))) : W p l e R0 s m args below meth c H locs k z Z (F0 m pc ls (st0.map (cv b))) := by
  intro T0 hT0 X0
  subst hT0
  have hsz := sz_of X0 hP hz hbs hS
  obtain ⟨hl, hcode, hini, hc1, hc2, hpar⟩ := hm
  have hrecv := va_recv hK.1 hP hc (by rw [wd_at ha, ent_obj hs])
  have hPc : PreV s T0.heap Y'.1.cls (b + a) (gP b n D cA M L R (.ref a :: As)) (As.map (cv b)) := ⟨gP_blind, hrecv, fun U hU hW => ⟨rfl, by rw [hU]; exact hsz, by rw [hU]; exact hP, hK.warm hW, by rw [hU]; exact (hO.warm hW).kept hS.2.1⟩⟩
  have hroom : 2 * (F0 m pc ls (st0.map (cv b))).monitorRoom + ((rest.map (cv b)).map fun v => v.category).sum ≤ 8 := by
    rw [cats_cv]; show 2 * 0 + _ ≤ 8; omega
  have hstk : (F0 m pc ls (st0.map (cv b))).stack = (As.map (cv b)).reverse ++ .ref (b + a) :: rest.map (cv b) := by
    show st0.map (cv b) = _
    rw [hst0, List.map_append, List.map_reverse]
    rfl
  refine w_after (D := D) (cA := cA) (rest := rest.map (cv b)) (n2 := E'.2.2) (Q2 := Q2) (mc := E'.1) (ms := E'.2.1) (a := (Value.ref (b + a) :: As.map (cv b)).toArray) ?_ hS (fun r M' L' R' H1 locs1 g1 g2 g3 => by rw [psh_cv]; exact kk r M' L' R' H1 locs1 g1 g2 g3) T0 rfl X0
  rcases hl with hl | ⟨host, hl⟩
  · exact va_runV (Ts := Ts) (C := Y'.1.cls) ⟨hx, hb, hml, hown, hts⟩ (hT b D cA) ⟨callB_of np hts hgood rfl rfl rfl (hts _ (hsub _ hini)) (hts _ (hsub _ hl)) ⟨hc1, hc2, hpar⟩ hR, hts _ (hsub _ hins), hts _ (hsub _ hsel)⟩ hPc rfl (by rw [List.length_map]; exact hn) hls hstk hroom hd hf
  · exact va_runVN (Ts := Ts) (C := Y'.1.cls) ⟨hx, hb, hml, hown, hts⟩ (hT b D cA) ⟨va_cnB np hts hgood rfl rfl rfl (hK.2.1 _ hl rfl) (hts _ (hsub _ hini)) ⟨hc1, hc2, hpar⟩ hR, hts _ (hsub _ hins), hts _ (hsub _ hsel)⟩ hPc rfl (by rw [List.length_map]; exact hn) hls hstk hroom hd hf
theorem w_callI {p : Program} {e : Env} {R0 : Room} {s : State} {m : MethodId} {args : Array Value} {below : List Frame} {meth : Method} {c : Code} {H : Heap} {locs : List Loc} {b a idx np nL : Nat} {ls : Array Slot} {As rest st0 : List Value} {D : va_G} {cA : Nat → ClassId} {Q2 : Option Value → gM → gL → gR → Prop} {Z : State → Prop} {Y' : gY} {E' : Nat × Nat × Nat} {own : String} {cc : ByteArray} {Ts : List Cond}
    (hx : p.tables.exec = Jvm.exec) (hb : c.code = cc) (hml : c.maxLocals = nL) (hown : s.vm.findClass own = some m.cls) (hts : ∀ w ∈ Ts, w.before args s = true) (hsub : ∀ w ∈ gtb, w ∈ Ts) (hK : gK D cA s) (hgood : GoodIn Ts (gW Y')) (hbs : b ≤ s.heap.size) (hO : gO b s s.heap)
    (hm : mOk own idx np Y') (hins : Cond.instanceMethod Y'.1 ∈ gtb) (hnm : Y'.1.name = "<init>") (hrt : Y'.2.2.2.1 = none) (hR : Y'.2.2.2.2 + 1 ≤ R0.frames ∧ 8 + (Y'.2.2.1 + 11) + 40 * Y'.2.2.2.2 ≤ R0.locals) (hn : As.length = np) (hst0 : st0 = As.reverse ++ .ref a :: rest) (hcat : (rest.map fun v => v.category).sum ≤ 8) (hd : decode cc pc = .ok (.invokespecial idx, 3)) (hf : k + E'.1 ≤ R0.cells ∧ z + E'.2.1 ≤ R0.slots)
    (hls : ls.size = nL) (hz : s.heap.size + k = b + n) (hP : va_P D cls (Wd cA b n M L R) H) (hS : va_S (fun q => b ≤ q) s.heap H locs) (hT : Tm l Y' E' n (.ref a :: As) M L R Q2)
    (kk : ∀ (r : Option Value) (M' : gM) (L' : gL) (R' : gR) (H1 : Heap) (locs1 : List Loc), Q2 r M' L' R' → va_P D cls (Wd cA b E'.2.2 M' L' R') H1 → va_S (fun q => b ≤ q) s.heap H1 locs1 → W p l e R0 s m args below meth c H1 locs1 (k + E'.1) (z + E'.2.1) Z (F0 m (pc + 3) ls ((psh r rest).map (cv b)))) : W p l e R0 s m args below meth c H locs k z Z (F0 m pc ls (st0.map (cv b))) := by
  intro T0 hT0 X0
  subst hT0
  have hsz := sz_of X0 hP hz hbs hS
  obtain ⟨hl, hcode, hini, hc1, hc2, hpar⟩ := hm
  obtain ⟨y, cc', mL, rt, hh⟩ := Y'
  have hrt : rt = none := hrt
  subst hrt
  have hPc : PreS s T0.heap (gP b n D cA M L R (.ref a :: As)) (.ref (b + a) :: As.map (cv b)) := ⟨gP_blind, fun U hU hW => ⟨rfl, by rw [hU]; exact hsz, by rw [hU]; exact hP, hK.warm hW, by rw [hU]; exact (hO.warm hW).kept hS.2.1⟩⟩
  have hroom : 2 * (F0 m pc ls (st0.map (cv b))).monitorRoom + ((rest.map (cv b)).map fun v => v.category).sum ≤ 8 := by
    rw [cats_cv]; show 2 * 0 + _ ≤ 8; omega
  have hstk : (F0 m pc ls (st0.map (cv b))).stack = (As.map (cv b)).reverse ++ .ref (b + a) :: rest.map (cv b) := by
    show st0.map (cv b) = _
    rw [hst0, List.map_append, List.map_reverse]
    rfl
  refine w_after (D := D) (cA := cA) (rest := rest.map (cv b)) (n2 := E'.2.2) (Q2 := Q2) (mc := E'.1) (ms := E'.2.1) (a := (Value.ref (b + a) :: As.map (cv b)).toArray) ?_ hS (fun r M' L' R' H1 locs1 g1 g2 g3 => by rw [psh_cv]; exact kk r M' L' R' H1 locs1 g1 g2 g3) T0 rfl X0
  rcases hl with hl | ⟨host, hl⟩
  · exact va_runI (Ts := Ts) ⟨hx, hb, hml, hown, hts⟩ (hT b D cA) ⟨callB_of np hts hgood rfl rfl rfl (hts _ (hsub _ hini)) (hts _ (hsub _ hl)) ⟨hc1, hc2, hpar⟩ hR, hnm, hts _ (hsub _ hins)⟩ hPc rfl (by rw [List.length_map]; exact hn) hls hstk hroom hd hf
  · exact va_runIN (Ts := Ts) ⟨hx, hb, hml, hown, hts⟩ (hT b D cA) ⟨va_cnB np hts hgood rfl rfl rfl (hK.2.1 _ hl rfl) (hts _ (hsub _ hini)) ⟨hc1, hc2, hpar⟩ hR, hnm, hts _ (hsub _ hins)⟩ hPc rfl (by rw [List.length_map]; exact hn) hls hstk hroom hd hf
theorem g_callS {Y' : gY} {E' : Nat × Nat × Nat} {idx np : Nat} {As rest : List Value} (hd : decode Y.2.1 pc = .ok (.invokestatic idx, 3)) (hp : pc + 3 = pc1) (hm : mOk Y.1.cls idx np Y') (hst : Cond.static Y'.1 ∈ gtb) (hR : Y'.2.2.2.2 + 1 ≤ Y.2.2.2.2 ∧ 8 + (Y'.2.2.1 + 11) + 40 * Y'.2.2.2.2 ≤ 40 * Y.2.2.2.2) (hn : As.length = np) (hst0 : st = As.reverse ++ rest) (hcat : (rest.map fun v => v.category).sum ≤ 8) (hf : k + E'.1 ≤ E.1 ∧ z + E'.2.1 ≤ E.2.1) (hE : E'.2.2 = n + E'.1)
    (hT : Tm l Y' E' n As M L R (fun r M' L' R' => Wp l Y E E'.2.2 (k + E'.1) (z + E'.2.1) pc1 lv (psh r rest) M' L' R' Q)) : Wp l Y E n k z pc lv st M L R Q := by
  subst hp
  intro b D cA p e s m args below meth c H locs ls CX hz hP hS hl
  obtain ⟨hx, hb, hr, hlk, hml, hown, hnm, hts, hK, hbs, hO⟩ := id CX
  exact w_callS hx hb hml hown hts (fun w hw => List.mem_cons_of_mem _ hw) hK (gw_good hm.2.1) hbs hO hm hst hR hn hst0 hcat hd hf hl.1 hz hP hS hT
    (fun r M' L' R' H1 locs1 g1 g2 g3 => g1 b D cA p e s m args below meth c H1 locs1 ls CX (by omega) g2 g3 hl)
theorem g_callV {Y' : gY} {E' : Nat × Nat × Nat} {idx np a ci N : Nat} {T : u_T} {As rest : List Value} (hd : decode Y.2.1 pc = .ok (.invokevirtual idx, 3)) (hp : pc + 3 = pc1) (hm : mOk Y.1.cls idx np Y') (hins : Cond.instanceMethod Y'.1 ∈ gtb) (hsel : Cond.selects Y'.1.cls Y'.1 Y'.1 ∈ gtb) (hc : cls[ci]? = some (Y'.1.cls, T, N)) (hs : SH a = (0, ci)) (ha : a < n) (hR : Y'.2.2.2.2 + 1 ≤ Y.2.2.2.2 ∧ 8 + (Y'.2.2.1 + 11) + 40 * Y'.2.2.2.2 ≤ 40 * Y.2.2.2.2) (hn : As.length = np) (hst0 : st = As.reverse ++ .ref a :: rest) (hcat : (rest.map fun v => v.category).sum ≤ 8) (hf : k + E'.1 ≤ E.1 ∧ z + E'.2.1 ≤ E.2.1) (hE : E'.2.2 = n + E'.1)
    (hT : Tm l Y' E' n (.ref a :: As) M L R (fun r M' L' R' => Wp l Y E E'.2.2 (k + E'.1) (z + E'.2.1) pc1 lv (psh r rest) M' L' R' Q)) : Wp l Y E n k z pc lv st M L R Q := by
  subst hp
  intro b D cA p e s m args below meth c H locs ls CX hz hP hS hl
  obtain ⟨hx, hb, hr, hlk, hml, hown, hnm, hts, hK, hbs, hO⟩ := id CX
  exact w_callV hx hb hml hown hts (fun w hw => List.mem_cons_of_mem _ hw) hK (gw_good hm.2.1) hbs hO hm hins hsel hs ha hc hR hn hst0 hcat hd hf hl.1 hz hP hS hT
    (fun r M' L' R' H1 locs1 g1 g2 g3 => g1 b D cA p e s m args below meth c H1 locs1 ls CX (by omega) g2 g3 hl)
theorem g_callI {Y' : gY} {E' : Nat × Nat × Nat} {idx np a : Nat} {As rest : List Value} (hd : decode Y.2.1 pc = .ok (.invokespecial idx, 3)) (hp : pc + 3 = pc1) (hm : mOk Y.1.cls idx np Y') (hins : Cond.instanceMethod Y'.1 ∈ gtb) (hnm' : Y'.1.name = "<init>") (hrt : Y'.2.2.2.1 = none) (hR : Y'.2.2.2.2 + 1 ≤ Y.2.2.2.2 ∧ 8 + (Y'.2.2.1 + 11) + 40 * Y'.2.2.2.2 ≤ 40 * Y.2.2.2.2) (hn : As.length = np) (hst0 : st = As.reverse ++ .ref a :: rest) (hcat : (rest.map fun v => v.category).sum ≤ 8) (hf : k + E'.1 ≤ E.1 ∧ z + E'.2.1 ≤ E.2.1) (hE : E'.2.2 = n + E'.1)
    (hT : Tm l Y' E' n (.ref a :: As) M L R (fun r M' L' R' => Wp l Y E E'.2.2 (k + E'.1) (z + E'.2.1) pc1 lv (psh r rest) M' L' R' Q)) : Wp l Y E n k z pc lv st M L R Q := by
  subst hp
  intro b D cA p e s m args below meth c H locs ls CX hz hP hS hl
  obtain ⟨hx, hb, hr, hlk, hml, hown, hnm, hts, hK, hbs, hO⟩ := id CX
  exact w_callI hx hb hml hown hts (fun w hw => List.mem_cons_of_mem _ hw) hK (gw_good hm.2.1) hbs hO hm hins hnm' hrt hR hn hst0 hcat hd hf hl.1 hz hP hS hT
    (fun r M' L' R' H1 locs1 g1 g2 g3 => g1 b D cA p e s m args below meth c H1 locs1 ls CX (by omega) g2 g3 hl)
end RULES3
end MG0x3
section MG0x4
theorem tk_1 {w : Cond} (h : w ∈ tables_1_1) : w ∈ tables_1 := List.mem_append_left _ h
theorem gk_1 {w : Cond} (h : w ∈ tables_1_1) (g : goodWord w = true) : w ∈ gtb := gtb_of (List.mem_append_right _ (tk_1 h)) g
theorem tk_2 {w : Cond} (h : w ∈ tables_1_2) : w ∈ tables_1 := List.mem_append_right _ (List.mem_append_left _ h)
theorem gk_2 {w : Cond} (h : w ∈ tables_1_2) (g : goodWord w = true) : w ∈ gtb := gtb_of (List.mem_append_right _ (tk_2 h)) g
theorem tk_3 {w : Cond} (h : w ∈ tables_1_3) : w ∈ tables_1 := List.mem_append_right _ (List.mem_append_right _ (List.mem_append_left _ h))
theorem gk_3 {w : Cond} (h : w ∈ tables_1_3) (g : goodWord w = true) : w ∈ gtb := gtb_of (List.mem_append_right _ (tk_3 h)) g
theorem tk_4 {w : Cond} (h : w ∈ tables_1_4) : w ∈ tables_1 := List.mem_append_right _ (List.mem_append_right _ (List.mem_append_right _ (List.mem_append_left _ h)))
theorem gk_4 {w : Cond} (h : w ∈ tables_1_4) (g : goodWord w = true) : w ∈ gtb := gtb_of (List.mem_append_right _ (tk_4 h)) g
theorem tk_5 {w : Cond} (h : w ∈ tables_1_5) : w ∈ tables_1 := List.mem_append_right _ (List.mem_append_right _ (List.mem_append_right _ (List.mem_append_right _ (List.mem_append_left _ h))))
theorem gk_5 {w : Cond} (h : w ∈ tables_1_5) (g : goodWord w = true) : w ∈ gtb := gtb_of (List.mem_append_right _ (tk_5 h)) g
theorem tk_6 {w : Cond} (h : w ∈ tables_1_6) : w ∈ tables_1 := List.mem_append_right _ (List.mem_append_right _ (List.mem_append_right _ (List.mem_append_right _ (List.mem_append_right _ (List.mem_append_left _ h)))))
theorem gk_6 {w : Cond} (h : w ∈ tables_1_6) (g : goodWord w = true) : w ∈ gtb := gtb_of (List.mem_append_right _ (tk_6 h)) g
theorem tk_7 {w : Cond} (h : w ∈ tables_1_7) : w ∈ tables_1 := List.mem_append_right _ (List.mem_append_right _ (List.mem_append_right _ (List.mem_append_right _ (List.mem_append_right _ (List.mem_append_right _ (List.mem_append_left _ h))))))
theorem gk_7 {w : Cond} (h : w ∈ tables_1_7) (g : goodWord w = true) : w ∈ gtb := gtb_of (List.mem_append_right _ (tk_7 h)) g
theorem tk_8 {w : Cond} (h : w ∈ tables_1_8) : w ∈ tables_1 := List.mem_append_right _ (List.mem_append_right _ (List.mem_append_right _ (List.mem_append_right _ (List.mem_append_right _ (List.mem_append_right _ (List.mem_append_right _ (h)))))))
theorem gk_8 {w : Cond} (h : w ∈ tables_1_8) (g : goodWord w = true) : w ∈ gtb := gtb_of (List.mem_append_right _ (tk_8 h)) g
def rft : List (List Nat) := [[2,4,13,39,65,72,79,361,384,392,397,0], [3,0], [], [5,0,0,0,0,0,10,11,0,12,0,0], [6,7,8,9], [], [], [], [], [], [], [], [0,0,0,0,0,14,15,16,17,18,19,20,21,22,26,30,34,38], [], [], [], [], [], [], [], [], [23,0,24,25], [], [], [], [27,0,28,29], [], [], [], [31,0,32,33], [], [], [], [35,0,36,37], [], [], [], [], [0,0,0,0,0,40,41,42,43,44,45,46,47,48,52,56,60,64], [], [], [], [], [], [], [], [], [49,0,50,51], [], [], [], [53,0,54,55], [], [], [], [57,0,58,59], [], [], [], [61,0,62,63], [], [], [], [], [0,0,0,0,66,67,68,69,70,71], [], [], [], [], [], [], [0,0,0,0,73,74,75,76,77,78], [], [], [], [], [], [], [80,0,0], [81,88,95,102,109,116,123,130,137,144,151,158,165,172,179,186,193,200,207,214,221,228,235,242,249,256,263,270,277,284,291,298,305,312,319,326,333,340,347,354], [0,0,0,0,82,83,84,85,86,87], [], [], [], [], [], [], [0,0,0,0,89,90,91,92,93,94], [], [], [], [], [], [], [0,0,0,0,96,97,98,99,100,101], [], [], [], [], [], [], [0,0,0,0,103,104,105,106,107,108], [], [], [], [], [], [], [0,0,0,0,110,111,112,113,114,115], [], [], [], [], [], [], [0,0,0,0,117,118,119,120,121,122], [], [], [], [], [], [], [0,0,0,0,124,125,126,127,128,129], [], [], [], [], [], [], [0,0,0,0,131,132,133,134,135,136], [], [], [], [], [], [], [0,0,0,0,138,139,140,141,142,143], [], [], [], [], [], [], [0,0,0,0,145,146,147,148,149,150], [], [], [], [], [], [], [0,0,0,0,152,153,154,155,156,157], [], [], [], [], [], [], [0,0,0,0,159,160,161,162,163,164], [], [], [], [], [], [], [0,0,0,0,166,167,168,169,170,171], [], [], [], [], [], [], [0,0,0,0,173,174,175,176,177,178], [], [], [], [], [], [], [0,0,0,0,180,181,182,183,184,185], [], [], [], [], [], [], [0,0,0,0,187,188,189,190,191,192], [], [], [], [], [], [], [0,0,0,0,194,195,196,197,198,199], [], [], [], [], [], [], [0,0,0,0,201,202,203,204,205,206], [], [], [], [], [], [], [0,0,0,0,208,209,210,211,212,213], [], [], [], [], [], [], [0,0,0,0,215,216,217,218,219,220], [], [], [], [], [], [], [0,0,0,0,222,223,224,225,226,227], [], [], [], [], [], [], [0,0,0,0,229,230,231,232,233,234], [], [], [], [], [], [], [0,0,0,0,236,237,238,239,240,241], [], [], [], [], [], [], [0,0,0,0,243,244,245,246,247,248], [], [], [], [], [], [], [0,0,0,0,250,251,252,253,254,255], [], [], [], [], [], [], [0,0,0,0,257,258,259,260,261,262], [], [], [], [], [], [], [0,0,0,0,264,265,266,267,268,269], [], [], [], [], [], [], [0,0,0,0,271,272,273,274,275,276], [], [], [], [], [], [], [0,0,0,0,278,279,280,281,282,283], [], [], [], [], [], [], [0,0,0,0,285,286,287,288,289,290], [], [], [], [], [], [], [0,0,0,0,292,293,294,295,296,297], [], [], [], [], [], [], [0,0,0,0,299,300,301,302,303,304], [], [], [], [], [], [], [0,0,0,0,306,307,308,309,310,311], [], [], [], [], [], [], [0,0,0,0,313,314,315,316,317,318], [], [], [], [], [], [], [0,0,0,0,320,321,322,323,324,325], [], [], [], [], [], [], [0,0,0,0,327,328,329,330,331,332], [], [], [], [], [], [], [0,0,0,0,334,335,336,337,338,339], [], [], [], [], [], [], [0,0,0,0,341,342,343,344,345,346], [], [], [], [], [], [], [0,0,0,0,348,349,350,351,352,353], [], [], [], [], [], [], [0,0,0,0,355,356,357,358,359,360], [], [], [], [], [], [], [362,0], [363,370,377], [0,0,0,0,364,365,366,367,368,369], [], [], [], [], [], [], [0,0,0,0,371,372,373,374,375,376], [], [], [], [], [], [], [0,0,0,0,378,379,380,381,382,383], [], [], [], [], [], [], [385,386,387,0,388,389,390,0,391], [], [], [], [], [], [], [], [393,394,395,0,0,396,0,0,0,0,0], [], [], [], [], [398,399,400,401,0], [], [], [], [], [0,403,0,404,0,405,406,407,408,409,0,0,0,0,0,0,0,0,0,0,0,410,411,412,413,414,415,416,417,418,419,420,421,422,423,424,425,426,0,427,428,429,430,431,0,432,433,434,0,435,436,0,437,438,0,439,440,0,441,0,0,0,0,0,0,442,443,444,445,446,447], [], [], [], [], [], [], [], [], [], [], [], [], [], [], [], [], [], [], [], [], [], [], [], [], [], [], [], [], [], [], [], [], [], [], [], [], [], [], [], [], [], [], [], [], []]
def rfd : Nat → Option Nat := fun x => match x with
  | 0 => none
  | y + 1 => some y
def rf (ld : Nat) : gR := fun a k => if a = 0 ∧ k = 2 then some ld else if a = 0 ∧ k = 3 then some (50 - ld) else rfd ((rft.getD a []).getD k 0)
theorem sh_0 : SH 0 = (0, 0) := by decide +kernel
theorem rf_0_0 (ld : Nat) : rf ld 0 0 = some 1 := rfl
theorem rf_0_1 (ld : Nat) : rf ld 0 1 = some 3 := rfl
theorem rf_0_4 (ld : Nat) : rf ld 0 4 = some 64 := rfl
theorem rf_0_5 (ld : Nat) : rf ld 0 5 = some 71 := rfl
theorem rf_0_6 (ld : Nat) : rf ld 0 6 = some 78 := rfl
theorem rf_0_7 (ld : Nat) : rf ld 0 7 = some 360 := rfl
theorem rf_0_8 (ld : Nat) : rf ld 0 8 = some 383 := rfl
theorem rf_0_9 (ld : Nat) : rf ld 0 9 = some 391 := rfl
theorem rf_0_10 (ld : Nat) : rf ld 0 10 = some 396 := rfl
theorem sh_1 : SH 1 = (0, 1) := by decide +kernel
theorem rf_1_0 (ld : Nat) : rf ld 1 0 = some 2 := rfl
theorem sh_2 : SH 2 = (1, 2000) := by decide +kernel
theorem sh_3 : SH 3 = (0, 2) := by decide +kernel
theorem rf_3_0 (ld : Nat) : rf ld 3 0 = some 4 := rfl
theorem rf_3_6 (ld : Nat) : rf ld 3 6 = some 9 := rfl
theorem rf_3_7 (ld : Nat) : rf ld 3 7 = some 10 := rfl
theorem rf_3_9 (ld : Nat) : rf ld 3 9 = some 11 := rfl
theorem sh_4 : SH 4 = (0, 3) := by decide +kernel
theorem rf_4_0 (ld : Nat) : rf ld 4 0 = some 5 := rfl
theorem rf_4_1 (ld : Nat) : rf ld 4 1 = some 6 := rfl
theorem rf_4_2 (ld : Nat) : rf ld 4 2 = some 7 := rfl
theorem rf_4_3 (ld : Nat) : rf ld 4 3 = some 8 := rfl
theorem sh_5 : SH 5 = (4, 21) := by decide +kernel
theorem sh_6 : SH 6 = (1, 401) := by decide +kernel
theorem sh_7 : SH 7 = (1, 401) := by decide +kernel
theorem sh_8 : SH 8 = (4, 401) := by decide +kernel
theorem sh_9 : SH 9 = (4, 21) := by decide +kernel
theorem sh_10 : SH 10 = (1, 21) := by decide +kernel
theorem sh_11 : SH 11 = (1, 32) := by decide +kernel
theorem sh_78 : SH 78 = (0, 7) := by decide +kernel
theorem rf_78_0 (ld : Nat) : rf ld 78 0 = some 79 := rfl
theorem sh_79 : SH 79 = (5, 40) := by decide +kernel
theorem sh_360 : SH 360 = (0, 8) := by decide +kernel
theorem rf_360_0 (ld : Nat) : rf ld 360 0 = some 361 := rfl
theorem sh_361 : SH 361 = (5, 3) := by decide +kernel
theorem sh_383 : SH 383 = (0, 9) := by decide +kernel
theorem rf_383_0 (ld : Nat) : rf ld 383 0 = some 384 := rfl
theorem rf_383_1 (ld : Nat) : rf ld 383 1 = some 385 := rfl
theorem rf_383_2 (ld : Nat) : rf ld 383 2 = some 386 := rfl
theorem rf_383_4 (ld : Nat) : rf ld 383 4 = some 387 := rfl
theorem rf_383_5 (ld : Nat) : rf ld 383 5 = some 388 := rfl
theorem rf_383_6 (ld : Nat) : rf ld 383 6 = some 389 := rfl
theorem rf_383_8 (ld : Nat) : rf ld 383 8 = some 390 := rfl
theorem sh_384 : SH 384 = (1, 20) := by decide +kernel
theorem sh_385 : SH 385 = (1, 20) := by decide +kernel
theorem sh_386 : SH 386 = (1, 20) := by decide +kernel
theorem sh_387 : SH 387 = (1, 65) := by decide +kernel
theorem sh_388 : SH 388 = (1, 65) := by decide +kernel
theorem sh_389 : SH 389 = (1, 195) := by decide +kernel
theorem sh_390 : SH 390 = (1, 100) := by decide +kernel
theorem sh_391 : SH 391 = (0, 10) := by decide +kernel
theorem rf_391_0 (ld : Nat) : rf ld 391 0 = some 392 := rfl
theorem rf_391_1 (ld : Nat) : rf ld 391 1 = some 393 := rfl
theorem rf_391_2 (ld : Nat) : rf ld 391 2 = some 394 := rfl
theorem rf_391_5 (ld : Nat) : rf ld 391 5 = some 395 := rfl
theorem sh_392 : SH 392 = (1, 3) := by decide +kernel
theorem sh_393 : SH 393 = (1, 6) := by decide +kernel
theorem sh_394 : SH 394 = (1, 3) := by decide +kernel
theorem sh_395 : SH 395 = (1, 6) := by decide +kernel
theorem sh_396 : SH 396 = (0, 11) := by decide +kernel
theorem rf_396_0 (ld : Nat) : rf ld 396 0 = some 397 := rfl
theorem rf_396_1 (ld : Nat) : rf ld 396 1 = some 398 := rfl
theorem rf_396_2 (ld : Nat) : rf ld 396 2 = some 399 := rfl
theorem rf_396_3 (ld : Nat) : rf ld 396 3 = some 400 := rfl
theorem sh_397 : SH 397 = (3, 4) := by decide +kernel
theorem sh_398 : SH 398 = (3, 80) := by decide +kernel
theorem sh_399 : SH 399 = (1, 4) := by decide +kernel
theorem sh_400 : SH 400 = (1, 4) := by decide +kernel
theorem sh_401 : SH 401 = (0, 12) := by decide +kernel
theorem rf_401_1 (ld : Nat) : rf ld 401 1 = some 402 := rfl
theorem rf_401_3 (ld : Nat) : rf ld 401 3 = some 403 := rfl
theorem rf_401_5 (ld : Nat) : rf ld 401 5 = some 404 := rfl
theorem rf_401_6 (ld : Nat) : rf ld 401 6 = some 405 := rfl
theorem rf_401_7 (ld : Nat) : rf ld 401 7 = some 406 := rfl
theorem rf_401_8 (ld : Nat) : rf ld 401 8 = some 407 := rfl
theorem rf_401_9 (ld : Nat) : rf ld 401 9 = some 408 := rfl
theorem rf_401_21 (ld : Nat) : rf ld 401 21 = some 409 := rfl
theorem rf_401_22 (ld : Nat) : rf ld 401 22 = some 410 := rfl
theorem rf_401_23 (ld : Nat) : rf ld 401 23 = some 411 := rfl
theorem rf_401_24 (ld : Nat) : rf ld 401 24 = some 412 := rfl
theorem rf_401_25 (ld : Nat) : rf ld 401 25 = some 413 := rfl
theorem rf_401_26 (ld : Nat) : rf ld 401 26 = some 414 := rfl
theorem rf_401_27 (ld : Nat) : rf ld 401 27 = some 415 := rfl
theorem rf_401_28 (ld : Nat) : rf ld 401 28 = some 416 := rfl
theorem rf_401_29 (ld : Nat) : rf ld 401 29 = some 417 := rfl
theorem rf_401_30 (ld : Nat) : rf ld 401 30 = some 418 := rfl
theorem rf_401_31 (ld : Nat) : rf ld 401 31 = some 419 := rfl
theorem rf_401_32 (ld : Nat) : rf ld 401 32 = some 420 := rfl
theorem rf_401_33 (ld : Nat) : rf ld 401 33 = some 421 := rfl
theorem rf_401_34 (ld : Nat) : rf ld 401 34 = some 422 := rfl
theorem rf_401_35 (ld : Nat) : rf ld 401 35 = some 423 := rfl
theorem rf_401_36 (ld : Nat) : rf ld 401 36 = some 424 := rfl
theorem rf_401_37 (ld : Nat) : rf ld 401 37 = some 425 := rfl
theorem rf_401_39 (ld : Nat) : rf ld 401 39 = some 426 := rfl
theorem rf_401_40 (ld : Nat) : rf ld 401 40 = some 427 := rfl
theorem rf_401_41 (ld : Nat) : rf ld 401 41 = some 428 := rfl
theorem rf_401_42 (ld : Nat) : rf ld 401 42 = some 429 := rfl
theorem rf_401_43 (ld : Nat) : rf ld 401 43 = some 430 := rfl
theorem rf_401_45 (ld : Nat) : rf ld 401 45 = some 431 := rfl
theorem rf_401_46 (ld : Nat) : rf ld 401 46 = some 432 := rfl
theorem rf_401_47 (ld : Nat) : rf ld 401 47 = some 433 := rfl
theorem rf_401_49 (ld : Nat) : rf ld 401 49 = some 434 := rfl
theorem rf_401_50 (ld : Nat) : rf ld 401 50 = some 435 := rfl
theorem rf_401_52 (ld : Nat) : rf ld 401 52 = some 436 := rfl
theorem rf_401_53 (ld : Nat) : rf ld 401 53 = some 437 := rfl
theorem rf_401_55 (ld : Nat) : rf ld 401 55 = some 438 := rfl
theorem rf_401_56 (ld : Nat) : rf ld 401 56 = some 439 := rfl
theorem rf_401_58 (ld : Nat) : rf ld 401 58 = some 440 := rfl
theorem rf_401_65 (ld : Nat) : rf ld 401 65 = some 441 := rfl
theorem rf_401_66 (ld : Nat) : rf ld 401 66 = some 442 := rfl
theorem rf_401_67 (ld : Nat) : rf ld 401 67 = some 443 := rfl
theorem rf_401_68 (ld : Nat) : rf ld 401 68 = some 444 := rfl
theorem rf_401_69 (ld : Nat) : rf ld 401 69 = some 445 := rfl
theorem rf_401_70 (ld : Nat) : rf ld 401 70 = some 446 := rfl
theorem sh_402 : SH 402 = (2, 2000) := by decide +kernel
theorem sh_403 : SH 403 = (2, 2000) := by decide +kernel
theorem sh_404 : SH 404 = (1, 403) := by decide +kernel
theorem sh_405 : SH 405 = (1, 403) := by decide +kernel
theorem sh_406 : SH 406 = (1, 403) := by decide +kernel
theorem sh_407 : SH 407 = (4, 403) := by decide +kernel
theorem sh_408 : SH 408 = (4, 21) := by decide +kernel
theorem sh_409 : SH 409 = (4, 21) := by decide +kernel
theorem sh_410 : SH 410 = (1, 21) := by decide +kernel
theorem sh_411 : SH 411 = (1, 2) := by decide +kernel
theorem sh_412 : SH 412 = (1, 12) := by decide +kernel
theorem sh_413 : SH 413 = (1, 12) := by decide +kernel
theorem sh_414 : SH 414 = (1, 36) := by decide +kernel
theorem sh_415 : SH 415 = (1, 2) := by decide +kernel
theorem sh_416 : SH 416 = (1, 10) := by decide +kernel
theorem sh_417 : SH 417 = (1, 60) := by decide +kernel
theorem sh_418 : SH 418 = (1, 2) := by decide +kernel
theorem sh_419 : SH 419 = (1, 8) := by decide +kernel
theorem sh_420 : SH 420 = (1, 2) := by decide +kernel
theorem sh_421 : SH 421 = (1, 12) := by decide +kernel
theorem sh_422 : SH 422 = (1, 12) := by decide +kernel
theorem sh_423 : SH 423 = (1, 2) := by decide +kernel
theorem sh_424 : SH 424 = (1, 8) := by decide +kernel
theorem sh_425 : SH 425 = (1, 8) := by decide +kernel
theorem sh_426 : SH 426 = (3, 260) := by decide +kernel
theorem sh_427 : SH 427 = (1, 260) := by decide +kernel
theorem sh_428 : SH 428 = (1, 260) := by decide +kernel
theorem sh_429 : SH 429 = (1, 260) := by decide +kernel
theorem sh_430 : SH 430 = (1, 260) := by decide +kernel
theorem sh_431 : SH 431 = (1, 840) := by decide +kernel
theorem sh_432 : SH 432 = (1, 840) := by decide +kernel
theorem sh_433 : SH 433 = (1, 64) := by decide +kernel
theorem sh_434 : SH 434 = (1, 9) := by decide +kernel
theorem sh_435 : SH 435 = (1, 400) := by decide +kernel
theorem sh_436 : SH 436 = (1, 38) := by decide +kernel
theorem sh_437 : SH 437 = (1, 38) := by decide +kernel
theorem sh_438 : SH 438 = (1, 6) := by decide +kernel
theorem sh_439 : SH 439 = (1, 6) := by decide +kernel
theorem sh_440 : SH 440 = (1, 1520) := by decide +kernel
theorem sh_441 : SH 441 = (1, 20) := by decide +kernel
theorem sh_442 : SH 442 = (1, 20) := by decide +kernel
theorem sh_443 : SH 443 = (1, 20) := by decide +kernel
theorem sh_444 : SH 444 = (1, 3000) := by decide +kernel
theorem sh_445 : SH 445 = (3, 3) := by decide +kernel
theorem sh_446 : SH 446 = (1, 114) := by decide +kernel
theorem rf_0_2 (ld : Nat) : rf ld 0 2 = some ld := rfl
theorem rf_0_3 (ld : Nat) : rf ld 0 3 = some (50 - ld) := rfl
def lSt : List Nat := [64, 71, 80, 87, 94, 101, 108, 115, 122, 129, 136, 143, 150, 157, 164, 171, 178, 185, 192, 199, 206, 213, 220, 227, 234, 241, 248, 255, 262, 269, 276, 283, 290, 297, 304, 311, 318, 325, 332, 339, 346, 353, 362, 369, 376]
def isSt (x : Nat) : Prop := x ∈ lSt
theorem shSt_0 {x : Nat} (h : isSt x) : SH (x) = (0, 6) := (by decide +kernel : ∀ x ∈ lSt, SH (x) = (0, 6)) x h
theorem ltSt_0 {x : Nat} (h : isSt x) : x < 447 := (by decide +kernel : ∀ x ∈ lSt, x < 447) x h
theorem shSt_1 {x : Nat} (h : isSt x) : SH (x + 1) = (1, 3) := (by decide +kernel : ∀ x ∈ lSt, SH (x + 1) = (1, 3)) x h
theorem ltSt_1 {x : Nat} (h : isSt x) : x + 1 < 447 := (by decide +kernel : ∀ x ∈ lSt, x + 1 < 447) x h
theorem shSt_2 {x : Nat} (h : isSt x) : SH (x + 2) = (1, 6) := (by decide +kernel : ∀ x ∈ lSt, SH (x + 2) = (1, 6)) x h
theorem ltSt_2 {x : Nat} (h : isSt x) : x + 2 < 447 := (by decide +kernel : ∀ x ∈ lSt, x + 2 < 447) x h
theorem shSt_3 {x : Nat} (h : isSt x) : SH (x + 3) = (1, 5) := (by decide +kernel : ∀ x ∈ lSt, SH (x + 3) = (1, 5)) x h
theorem ltSt_3 {x : Nat} (h : isSt x) : x + 3 < 447 := (by decide +kernel : ∀ x ∈ lSt, x + 3 < 447) x h
theorem shSt_4 {x : Nat} (h : isSt x) : SH (x + 4) = (1, 4) := (by decide +kernel : ∀ x ∈ lSt, SH (x + 4) = (1, 4)) x h
theorem ltSt_4 {x : Nat} (h : isSt x) : x + 4 < 447 := (by decide +kernel : ∀ x ∈ lSt, x + 4 < 447) x h
theorem shSt_5 {x : Nat} (h : isSt x) : SH (x + 5) = (1, 4) := (by decide +kernel : ∀ x ∈ lSt, SH (x + 5) = (1, 4)) x h
theorem ltSt_5 {x : Nat} (h : isSt x) : x + 5 < 447 := (by decide +kernel : ∀ x ∈ lSt, x + 5 < 447) x h
theorem shSt_6 {x : Nat} (h : isSt x) : SH (x + 6) = (1, 12) := (by decide +kernel : ∀ x ∈ lSt, SH (x + 6) = (1, 12)) x h
theorem ltSt_6 {x : Nat} (h : isSt x) : x + 6 < 447 := (by decide +kernel : ∀ x ∈ lSt, x + 6 < 447) x h
theorem rfSt_4 {x : Nat} (ld : Nat) (h : isSt x) : rf ld x 4 = some (x + 1) := by
  have e : ∀ x ∈ lSt, x ≠ 0 ∧ rfd ((rft.getD x []).getD 4 0) = some (x + 1) := by decide +kernel
  obtain ⟨h1, h2⟩ := e x h
  unfold rf
  rw [if_neg (fun q => h1 q.1), if_neg (fun q => h1 q.1), h2]
theorem rfSt_5 {x : Nat} (ld : Nat) (h : isSt x) : rf ld x 5 = some (x + 2) := by
  have e : ∀ x ∈ lSt, x ≠ 0 ∧ rfd ((rft.getD x []).getD 5 0) = some (x + 2) := by decide +kernel
  obtain ⟨h1, h2⟩ := e x h
  unfold rf
  rw [if_neg (fun q => h1 q.1), if_neg (fun q => h1 q.1), h2]
theorem rfSt_6 {x : Nat} (ld : Nat) (h : isSt x) : rf ld x 6 = some (x + 3) := by
  have e : ∀ x ∈ lSt, x ≠ 0 ∧ rfd ((rft.getD x []).getD 6 0) = some (x + 3) := by decide +kernel
  obtain ⟨h1, h2⟩ := e x h
  unfold rf
  rw [if_neg (fun q => h1 q.1), if_neg (fun q => h1 q.1), h2]
theorem rfSt_7 {x : Nat} (ld : Nat) (h : isSt x) : rf ld x 7 = some (x + 4) := by
  have e : ∀ x ∈ lSt, x ≠ 0 ∧ rfd ((rft.getD x []).getD 7 0) = some (x + 4) := by decide +kernel
  obtain ⟨h1, h2⟩ := e x h
  unfold rf
  rw [if_neg (fun q => h1 q.1), if_neg (fun q => h1 q.1), h2]
theorem rfSt_8 {x : Nat} (ld : Nat) (h : isSt x) : rf ld x 8 = some (x + 5) := by
  have e : ∀ x ∈ lSt, x ≠ 0 ∧ rfd ((rft.getD x []).getD 8 0) = some (x + 5) := by decide +kernel
  obtain ⟨h1, h2⟩ := e x h
  unfold rf
  rw [if_neg (fun q => h1 q.1), if_neg (fun q => h1 q.1), h2]
theorem rfSt_9 {x : Nat} (ld : Nat) (h : isSt x) : rf ld x 9 = some (x + 6) := by
  have e : ∀ x ∈ lSt, x ≠ 0 ∧ rfd ((rft.getD x []).getD 9 0) = some (x + 6) := by decide +kernel
  obtain ⟨h1, h2⟩ := e x h
  unfold rf
  rw [if_neg (fun q => h1 q.1), if_neg (fun q => h1 q.1), h2]
def lLa : List Nat := [12, 38]
def isLa (x : Nat) : Prop := x ∈ lLa
theorem shLa_0 {x : Nat} (h : isLa x) : SH (x) = (0, 4) := (by decide +kernel : ∀ x ∈ lLa, SH (x) = (0, 4)) x h
theorem ltLa_0 {x : Nat} (h : isLa x) : x < 447 := (by decide +kernel : ∀ x ∈ lLa, x < 447) x h
theorem shLa_1 {x : Nat} (h : isLa x) : SH (x + 1) = (1, 6) := (by decide +kernel : ∀ x ∈ lLa, SH (x + 1) = (1, 6)) x h
theorem ltLa_1 {x : Nat} (h : isLa x) : x + 1 < 447 := (by decide +kernel : ∀ x ∈ lLa, x + 1 < 447) x h
theorem shLa_2 {x : Nat} (h : isLa x) : SH (x + 2) = (1, 6) := (by decide +kernel : ∀ x ∈ lLa, SH (x + 2) = (1, 6)) x h
theorem ltLa_2 {x : Nat} (h : isLa x) : x + 2 < 447 := (by decide +kernel : ∀ x ∈ lLa, x + 2 < 447) x h
theorem shLa_3 {x : Nat} (h : isLa x) : SH (x + 3) = (1, 18) := (by decide +kernel : ∀ x ∈ lLa, SH (x + 3) = (1, 18)) x h
theorem ltLa_3 {x : Nat} (h : isLa x) : x + 3 < 447 := (by decide +kernel : ∀ x ∈ lLa, x + 3 < 447) x h
theorem shLa_4 {x : Nat} (h : isLa x) : SH (x + 4) = (1, 5) := (by decide +kernel : ∀ x ∈ lLa, SH (x + 4) = (1, 5)) x h
theorem ltLa_4 {x : Nat} (h : isLa x) : x + 4 < 447 := (by decide +kernel : ∀ x ∈ lLa, x + 4 < 447) x h
theorem shLa_5 {x : Nat} (h : isLa x) : SH (x + 5) = (1, 30) := (by decide +kernel : ∀ x ∈ lLa, SH (x + 5) = (1, 30)) x h
theorem ltLa_5 {x : Nat} (h : isLa x) : x + 5 < 447 := (by decide +kernel : ∀ x ∈ lLa, x + 5 < 447) x h
theorem shLa_6 {x : Nat} (h : isLa x) : SH (x + 6) = (1, 4) := (by decide +kernel : ∀ x ∈ lLa, SH (x + 6) = (1, 4)) x h
theorem ltLa_6 {x : Nat} (h : isLa x) : x + 6 < 447 := (by decide +kernel : ∀ x ∈ lLa, x + 6 < 447) x h
theorem shLa_7 {x : Nat} (h : isLa x) : SH (x + 7) = (1, 6) := (by decide +kernel : ∀ x ∈ lLa, SH (x + 7) = (1, 6)) x h
theorem ltLa_7 {x : Nat} (h : isLa x) : x + 7 < 447 := (by decide +kernel : ∀ x ∈ lLa, x + 7 < 447) x h
theorem shLa_8 {x : Nat} (h : isLa x) : SH (x + 8) = (1, 6) := (by decide +kernel : ∀ x ∈ lLa, SH (x + 8) = (1, 6)) x h
theorem ltLa_8 {x : Nat} (h : isLa x) : x + 8 < 447 := (by decide +kernel : ∀ x ∈ lLa, x + 8 < 447) x h
theorem shLa_9 {x : Nat} (h : isLa x) : SH (x + 9) = (0, 5) := (by decide +kernel : ∀ x ∈ lLa, SH (x + 9) = (0, 5)) x h
theorem ltLa_9 {x : Nat} (h : isLa x) : x + 9 < 447 := (by decide +kernel : ∀ x ∈ lLa, x + 9 < 447) x h
theorem shLa_10 {x : Nat} (h : isLa x) : SH (x + 10) = (1, 400) := (by decide +kernel : ∀ x ∈ lLa, SH (x + 10) = (1, 400)) x h
theorem ltLa_10 {x : Nat} (h : isLa x) : x + 10 < 447 := (by decide +kernel : ∀ x ∈ lLa, x + 10 < 447) x h
theorem shLa_11 {x : Nat} (h : isLa x) : SH (x + 11) = (1, 9) := (by decide +kernel : ∀ x ∈ lLa, SH (x + 11) = (1, 9)) x h
theorem ltLa_11 {x : Nat} (h : isLa x) : x + 11 < 447 := (by decide +kernel : ∀ x ∈ lLa, x + 11 < 447) x h
theorem shLa_12 {x : Nat} (h : isLa x) : SH (x + 12) = (1, 32) := (by decide +kernel : ∀ x ∈ lLa, SH (x + 12) = (1, 32)) x h
theorem ltLa_12 {x : Nat} (h : isLa x) : x + 12 < 447 := (by decide +kernel : ∀ x ∈ lLa, x + 12 < 447) x h
theorem shLa_13 {x : Nat} (h : isLa x) : SH (x + 13) = (0, 5) := (by decide +kernel : ∀ x ∈ lLa, SH (x + 13) = (0, 5)) x h
theorem ltLa_13 {x : Nat} (h : isLa x) : x + 13 < 447 := (by decide +kernel : ∀ x ∈ lLa, x + 13 < 447) x h
theorem shLa_14 {x : Nat} (h : isLa x) : SH (x + 14) = (1, 400) := (by decide +kernel : ∀ x ∈ lLa, SH (x + 14) = (1, 400)) x h
theorem ltLa_14 {x : Nat} (h : isLa x) : x + 14 < 447 := (by decide +kernel : ∀ x ∈ lLa, x + 14 < 447) x h
theorem shLa_15 {x : Nat} (h : isLa x) : SH (x + 15) = (1, 9) := (by decide +kernel : ∀ x ∈ lLa, SH (x + 15) = (1, 9)) x h
theorem ltLa_15 {x : Nat} (h : isLa x) : x + 15 < 447 := (by decide +kernel : ∀ x ∈ lLa, x + 15 < 447) x h
theorem shLa_16 {x : Nat} (h : isLa x) : SH (x + 16) = (1, 32) := (by decide +kernel : ∀ x ∈ lLa, SH (x + 16) = (1, 32)) x h
theorem ltLa_16 {x : Nat} (h : isLa x) : x + 16 < 447 := (by decide +kernel : ∀ x ∈ lLa, x + 16 < 447) x h
theorem shLa_17 {x : Nat} (h : isLa x) : SH (x + 17) = (0, 5) := (by decide +kernel : ∀ x ∈ lLa, SH (x + 17) = (0, 5)) x h
theorem ltLa_17 {x : Nat} (h : isLa x) : x + 17 < 447 := (by decide +kernel : ∀ x ∈ lLa, x + 17 < 447) x h
theorem shLa_18 {x : Nat} (h : isLa x) : SH (x + 18) = (1, 400) := (by decide +kernel : ∀ x ∈ lLa, SH (x + 18) = (1, 400)) x h
theorem ltLa_18 {x : Nat} (h : isLa x) : x + 18 < 447 := (by decide +kernel : ∀ x ∈ lLa, x + 18 < 447) x h
theorem shLa_19 {x : Nat} (h : isLa x) : SH (x + 19) = (1, 9) := (by decide +kernel : ∀ x ∈ lLa, SH (x + 19) = (1, 9)) x h
theorem ltLa_19 {x : Nat} (h : isLa x) : x + 19 < 447 := (by decide +kernel : ∀ x ∈ lLa, x + 19 < 447) x h
theorem shLa_20 {x : Nat} (h : isLa x) : SH (x + 20) = (1, 32) := (by decide +kernel : ∀ x ∈ lLa, SH (x + 20) = (1, 32)) x h
theorem ltLa_20 {x : Nat} (h : isLa x) : x + 20 < 447 := (by decide +kernel : ∀ x ∈ lLa, x + 20 < 447) x h
theorem shLa_21 {x : Nat} (h : isLa x) : SH (x + 21) = (0, 5) := (by decide +kernel : ∀ x ∈ lLa, SH (x + 21) = (0, 5)) x h
theorem ltLa_21 {x : Nat} (h : isLa x) : x + 21 < 447 := (by decide +kernel : ∀ x ∈ lLa, x + 21 < 447) x h
theorem shLa_22 {x : Nat} (h : isLa x) : SH (x + 22) = (1, 400) := (by decide +kernel : ∀ x ∈ lLa, SH (x + 22) = (1, 400)) x h
theorem ltLa_22 {x : Nat} (h : isLa x) : x + 22 < 447 := (by decide +kernel : ∀ x ∈ lLa, x + 22 < 447) x h
theorem shLa_23 {x : Nat} (h : isLa x) : SH (x + 23) = (1, 9) := (by decide +kernel : ∀ x ∈ lLa, SH (x + 23) = (1, 9)) x h
theorem ltLa_23 {x : Nat} (h : isLa x) : x + 23 < 447 := (by decide +kernel : ∀ x ∈ lLa, x + 23 < 447) x h
theorem shLa_24 {x : Nat} (h : isLa x) : SH (x + 24) = (1, 32) := (by decide +kernel : ∀ x ∈ lLa, SH (x + 24) = (1, 32)) x h
theorem ltLa_24 {x : Nat} (h : isLa x) : x + 24 < 447 := (by decide +kernel : ∀ x ∈ lLa, x + 24 < 447) x h
theorem shLa_25 {x : Nat} (h : isLa x) : SH (x + 25) = (1, 3) := (by decide +kernel : ∀ x ∈ lLa, SH (x + 25) = (1, 3)) x h
theorem ltLa_25 {x : Nat} (h : isLa x) : x + 25 < 447 := (by decide +kernel : ∀ x ∈ lLa, x + 25 < 447) x h
theorem rfLa_5 {x : Nat} (ld : Nat) (h : isLa x) : rf ld x 5 = some (x + 1) := by
  have e : ∀ x ∈ lLa, x ≠ 0 ∧ rfd ((rft.getD x []).getD 5 0) = some (x + 1) := by decide +kernel
  obtain ⟨h1, h2⟩ := e x h
  unfold rf
  rw [if_neg (fun q => h1 q.1), if_neg (fun q => h1 q.1), h2]
theorem rfLa_6 {x : Nat} (ld : Nat) (h : isLa x) : rf ld x 6 = some (x + 2) := by
  have e : ∀ x ∈ lLa, x ≠ 0 ∧ rfd ((rft.getD x []).getD 6 0) = some (x + 2) := by decide +kernel
  obtain ⟨h1, h2⟩ := e x h
  unfold rf
  rw [if_neg (fun q => h1 q.1), if_neg (fun q => h1 q.1), h2]
theorem rfLa_7 {x : Nat} (ld : Nat) (h : isLa x) : rf ld x 7 = some (x + 3) := by
  have e : ∀ x ∈ lLa, x ≠ 0 ∧ rfd ((rft.getD x []).getD 7 0) = some (x + 3) := by decide +kernel
  obtain ⟨h1, h2⟩ := e x h
  unfold rf
  rw [if_neg (fun q => h1 q.1), if_neg (fun q => h1 q.1), h2]
theorem rfLa_8 {x : Nat} (ld : Nat) (h : isLa x) : rf ld x 8 = some (x + 4) := by
  have e : ∀ x ∈ lLa, x ≠ 0 ∧ rfd ((rft.getD x []).getD 8 0) = some (x + 4) := by decide +kernel
  obtain ⟨h1, h2⟩ := e x h
  unfold rf
  rw [if_neg (fun q => h1 q.1), if_neg (fun q => h1 q.1), h2]
theorem rfLa_9 {x : Nat} (ld : Nat) (h : isLa x) : rf ld x 9 = some (x + 5) := by
  have e : ∀ x ∈ lLa, x ≠ 0 ∧ rfd ((rft.getD x []).getD 9 0) = some (x + 5) := by decide +kernel
  obtain ⟨h1, h2⟩ := e x h
  unfold rf
  rw [if_neg (fun q => h1 q.1), if_neg (fun q => h1 q.1), h2]
theorem rfLa_10 {x : Nat} (ld : Nat) (h : isLa x) : rf ld x 10 = some (x + 6) := by
  have e : ∀ x ∈ lLa, x ≠ 0 ∧ rfd ((rft.getD x []).getD 10 0) = some (x + 6) := by decide +kernel
  obtain ⟨h1, h2⟩ := e x h
  unfold rf
  rw [if_neg (fun q => h1 q.1), if_neg (fun q => h1 q.1), h2]
theorem rfLa_11 {x : Nat} (ld : Nat) (h : isLa x) : rf ld x 11 = some (x + 7) := by
  have e : ∀ x ∈ lLa, x ≠ 0 ∧ rfd ((rft.getD x []).getD 11 0) = some (x + 7) := by decide +kernel
  obtain ⟨h1, h2⟩ := e x h
  unfold rf
  rw [if_neg (fun q => h1 q.1), if_neg (fun q => h1 q.1), h2]
theorem rfLa_12 {x : Nat} (ld : Nat) (h : isLa x) : rf ld x 12 = some (x + 8) := by
  have e : ∀ x ∈ lLa, x ≠ 0 ∧ rfd ((rft.getD x []).getD 12 0) = some (x + 8) := by decide +kernel
  obtain ⟨h1, h2⟩ := e x h
  unfold rf
  rw [if_neg (fun q => h1 q.1), if_neg (fun q => h1 q.1), h2]
theorem rfLa_13 {x : Nat} (ld : Nat) (h : isLa x) : rf ld x 13 = some (x + 9) := by
  have e : ∀ x ∈ lLa, x ≠ 0 ∧ rfd ((rft.getD x []).getD 13 0) = some (x + 9) := by decide +kernel
  obtain ⟨h1, h2⟩ := e x h
  unfold rf
  rw [if_neg (fun q => h1 q.1), if_neg (fun q => h1 q.1), h2]
theorem rfLa_14 {x : Nat} (ld : Nat) (h : isLa x) : rf ld x 14 = some (x + 13) := by
  have e : ∀ x ∈ lLa, x ≠ 0 ∧ rfd ((rft.getD x []).getD 14 0) = some (x + 13) := by decide +kernel
  obtain ⟨h1, h2⟩ := e x h
  unfold rf
  rw [if_neg (fun q => h1 q.1), if_neg (fun q => h1 q.1), h2]
theorem rfLa_15 {x : Nat} (ld : Nat) (h : isLa x) : rf ld x 15 = some (x + 17) := by
  have e : ∀ x ∈ lLa, x ≠ 0 ∧ rfd ((rft.getD x []).getD 15 0) = some (x + 17) := by decide +kernel
  obtain ⟨h1, h2⟩ := e x h
  unfold rf
  rw [if_neg (fun q => h1 q.1), if_neg (fun q => h1 q.1), h2]
theorem rfLa_16 {x : Nat} (ld : Nat) (h : isLa x) : rf ld x 16 = some (x + 21) := by
  have e : ∀ x ∈ lLa, x ≠ 0 ∧ rfd ((rft.getD x []).getD 16 0) = some (x + 21) := by decide +kernel
  obtain ⟨h1, h2⟩ := e x h
  unfold rf
  rw [if_neg (fun q => h1 q.1), if_neg (fun q => h1 q.1), h2]
theorem rfLa_17 {x : Nat} (ld : Nat) (h : isLa x) : rf ld x 17 = some (x + 25) := by
  have e : ∀ x ∈ lLa, x ≠ 0 ∧ rfd ((rft.getD x []).getD 17 0) = some (x + 25) := by decide +kernel
  obtain ⟨h1, h2⟩ := e x h
  unfold rf
  rw [if_neg (fun q => h1 q.1), if_neg (fun q => h1 q.1), h2]
def lLw : List Nat := [21, 25, 29, 33, 47, 51, 55, 59]
def isLw (x : Nat) : Prop := x ∈ lLw
theorem shLw_0 {x : Nat} (h : isLw x) : SH (x) = (0, 5) := (by decide +kernel : ∀ x ∈ lLw, SH (x) = (0, 5)) x h
theorem ltLw_0 {x : Nat} (h : isLw x) : x < 447 := (by decide +kernel : ∀ x ∈ lLw, x < 447) x h
theorem shLw_1 {x : Nat} (h : isLw x) : SH (x + 1) = (1, 400) := (by decide +kernel : ∀ x ∈ lLw, SH (x + 1) = (1, 400)) x h
theorem ltLw_1 {x : Nat} (h : isLw x) : x + 1 < 447 := (by decide +kernel : ∀ x ∈ lLw, x + 1 < 447) x h
theorem shLw_2 {x : Nat} (h : isLw x) : SH (x + 2) = (1, 9) := (by decide +kernel : ∀ x ∈ lLw, SH (x + 2) = (1, 9)) x h
theorem ltLw_2 {x : Nat} (h : isLw x) : x + 2 < 447 := (by decide +kernel : ∀ x ∈ lLw, x + 2 < 447) x h
theorem shLw_3 {x : Nat} (h : isLw x) : SH (x + 3) = (1, 32) := (by decide +kernel : ∀ x ∈ lLw, SH (x + 3) = (1, 32)) x h
theorem ltLw_3 {x : Nat} (h : isLw x) : x + 3 < 447 := (by decide +kernel : ∀ x ∈ lLw, x + 3 < 447) x h
theorem rfLw_0 {x : Nat} (ld : Nat) (h : isLw x) : rf ld x 0 = some (x + 1) := by
  have e : ∀ x ∈ lLw, x ≠ 0 ∧ rfd ((rft.getD x []).getD 0 0) = some (x + 1) := by decide +kernel
  obtain ⟨h1, h2⟩ := e x h
  unfold rf
  rw [if_neg (fun q => h1 q.1), if_neg (fun q => h1 q.1), h2]
theorem rfLw_2 {x : Nat} (ld : Nat) (h : isLw x) : rf ld x 2 = some (x + 2) := by
  have e : ∀ x ∈ lLw, x ≠ 0 ∧ rfd ((rft.getD x []).getD 2 0) = some (x + 2) := by decide +kernel
  obtain ⟨h1, h2⟩ := e x h
  unfold rf
  rw [if_neg (fun q => h1 q.1), if_neg (fun q => h1 q.1), h2]
theorem rfLw_3 {x : Nat} (ld : Nat) (h : isLw x) : rf ld x 3 = some (x + 3) := by
  have e : ∀ x ∈ lLw, x ≠ 0 ∧ rfd ((rft.getD x []).getD 3 0) = some (x + 3) := by decide +kernel
  obtain ⟨h1, h2⟩ := e x h
  unfold rf
  rw [if_neg (fun q => h1 q.1), if_neg (fun q => h1 q.1), h2]
theorem isSt_64 : isSt 64 := (by decide +kernel : 64 ∈ lSt)
theorem isSt_71 : isSt 71 := (by decide +kernel : 71 ∈ lSt)
theorem isLw_9 {x : Nat} (h : isLa x) : isLw (x + 9) := (by decide +kernel : ∀ x ∈ lLa, x + 9 ∈ lLw) x h
theorem isLw_13 {x : Nat} (h : isLa x) : isLw (x + 13) := (by decide +kernel : ∀ x ∈ lLa, x + 13 ∈ lLw) x h
theorem isLw_17 {x : Nat} (h : isLa x) : isLw (x + 17) := (by decide +kernel : ∀ x ∈ lLa, x + 17 ∈ lLw) x h
theorem isLw_21 {x : Nat} (h : isLa x) : isLw (x + 21) := (by decide +kernel : ∀ x ∈ lLa, x + 21 ∈ lLw) x h
theorem isLa_dr {x : Nat} (h : isLa x) : isLa (50 - x) := (by decide +kernel : ∀ x ∈ lLa, 50 - x ∈ lLa) x h
set_option maxRecDepth 100000 in
theorem fo_Main_12 : fOk "CookedLaw" 12 0 0 1 true := ⟨"CookedLaw", T_Main, 12, rfl, fun w h => gtb_of (in_Main w h).1 (in_Main w h).2, by decide, rfl, rfl, rfl, Or.inl (gk_2 (List.mem_of_getElem? (i := 225) rfl) rfl)⟩
set_option maxRecDepth 100000 in
theorem ff_Main_12 : ∃ (T : u_T) (N : Nat), cls[0]? = some ("CookedLaw", T, N) ∧ (∀ w ∈ u_ws "CookedLaw" T N, w ∈ gtb) ∧ 0 < N ∧ (fks 0)[0]? = some (1, 0) ∧ (T 0).1 = "CookedLaw" ∧ (T 0).2.2.2 = true ∧ Cond.fieldLink "CookedLaw" 12 "CookedLaw" (T 0).2.1 (T 0).2.2.1 ∈ gtb := ⟨T_Main, 12, rfl, fun w h => gtb_of (in_Main w h).1 (in_Main w h).2, by decide, rfl, rfl, rfl, (gk_2 (List.mem_of_getElem? (i := 225) rfl) rfl)⟩
set_option maxRecDepth 100000 in
theorem fo_Main_19 : fOk "CookedLaw" 19 0 1 1 true := ⟨"CookedLaw", T_Main, 12, rfl, fun w h => gtb_of (in_Main w h).1 (in_Main w h).2, by decide, rfl, rfl, rfl, Or.inl (gk_2 (List.mem_of_getElem? (i := 226) rfl) rfl)⟩
set_option maxRecDepth 100000 in
theorem ff_Main_19 : ∃ (T : u_T) (N : Nat), cls[0]? = some ("CookedLaw", T, N) ∧ (∀ w ∈ u_ws "CookedLaw" T N, w ∈ gtb) ∧ 1 < N ∧ (fks 0)[1]? = some (1, 1) ∧ (T 1).1 = "CookedLaw" ∧ (T 1).2.2.2 = true ∧ Cond.fieldLink "CookedLaw" 19 "CookedLaw" (T 1).2.1 (T 1).2.2.1 ∈ gtb := ⟨T_Main, 12, rfl, fun w h => gtb_of (in_Main w h).1 (in_Main w h).2, by decide, rfl, rfl, rfl, (gk_2 (List.mem_of_getElem? (i := 226) rfl) rfl)⟩
set_option maxRecDepth 100000 in
theorem fo_Main_26 : fOk "CookedLaw" 26 0 2 1 false := ⟨"CookedLaw", T_Main, 12, rfl, fun w h => gtb_of (in_Main w h).1 (in_Main w h).2, by decide, rfl, rfl, rfl, Or.inl (gk_2 (List.mem_of_getElem? (i := 227) rfl) rfl)⟩
set_option maxRecDepth 100000 in
theorem fo_Main_30 : fOk "CookedLaw" 30 0 3 1 false := ⟨"CookedLaw", T_Main, 12, rfl, fun w h => gtb_of (in_Main w h).1 (in_Main w h).2, by decide, rfl, rfl, rfl, Or.inl (gk_2 (List.mem_of_getElem? (i := 228) rfl) rfl)⟩
set_option maxRecDepth 100000 in
theorem fo_Main_36 : fOk "CookedLaw" 36 0 4 1 true := ⟨"CookedLaw", T_Main, 12, rfl, fun w h => gtb_of (in_Main w h).1 (in_Main w h).2, by decide, rfl, rfl, rfl, Or.inl (gk_2 (List.mem_of_getElem? (i := 229) rfl) rfl)⟩
set_option maxRecDepth 100000 in
theorem ff_Main_36 : ∃ (T : u_T) (N : Nat), cls[0]? = some ("CookedLaw", T, N) ∧ (∀ w ∈ u_ws "CookedLaw" T N, w ∈ gtb) ∧ 4 < N ∧ (fks 0)[4]? = some (1, 4) ∧ (T 4).1 = "CookedLaw" ∧ (T 4).2.2.2 = true ∧ Cond.fieldLink "CookedLaw" 36 "CookedLaw" (T 4).2.1 (T 4).2.2.1 ∈ gtb := ⟨T_Main, 12, rfl, fun w h => gtb_of (in_Main w h).1 (in_Main w h).2, by decide, rfl, rfl, rfl, (gk_2 (List.mem_of_getElem? (i := 229) rfl) rfl)⟩
set_option maxRecDepth 100000 in
theorem fo_Main_40 : fOk "CookedLaw" 40 0 5 1 true := ⟨"CookedLaw", T_Main, 12, rfl, fun w h => gtb_of (in_Main w h).1 (in_Main w h).2, by decide, rfl, rfl, rfl, Or.inl (gk_2 (List.mem_of_getElem? (i := 230) rfl) rfl)⟩
set_option maxRecDepth 100000 in
theorem ff_Main_40 : ∃ (T : u_T) (N : Nat), cls[0]? = some ("CookedLaw", T, N) ∧ (∀ w ∈ u_ws "CookedLaw" T N, w ∈ gtb) ∧ 5 < N ∧ (fks 0)[5]? = some (1, 5) ∧ (T 5).1 = "CookedLaw" ∧ (T 5).2.2.2 = true ∧ Cond.fieldLink "CookedLaw" 40 "CookedLaw" (T 5).2.1 (T 5).2.2.1 ∈ gtb := ⟨T_Main, 12, rfl, fun w h => gtb_of (in_Main w h).1 (in_Main w h).2, by decide, rfl, rfl, rfl, (gk_2 (List.mem_of_getElem? (i := 230) rfl) rfl)⟩
set_option maxRecDepth 100000 in
theorem fo_Main_46 : fOk "CookedLaw" 46 0 6 1 true := ⟨"CookedLaw", T_Main, 12, rfl, fun w h => gtb_of (in_Main w h).1 (in_Main w h).2, by decide, rfl, rfl, rfl, Or.inl (gk_2 (List.mem_of_getElem? (i := 231) rfl) rfl)⟩
set_option maxRecDepth 100000 in
theorem ff_Main_46 : ∃ (T : u_T) (N : Nat), cls[0]? = some ("CookedLaw", T, N) ∧ (∀ w ∈ u_ws "CookedLaw" T N, w ∈ gtb) ∧ 6 < N ∧ (fks 0)[6]? = some (1, 6) ∧ (T 6).1 = "CookedLaw" ∧ (T 6).2.2.2 = true ∧ Cond.fieldLink "CookedLaw" 46 "CookedLaw" (T 6).2.1 (T 6).2.2.1 ∈ gtb := ⟨T_Main, 12, rfl, fun w h => gtb_of (in_Main w h).1 (in_Main w h).2, by decide, rfl, rfl, rfl, (gk_2 (List.mem_of_getElem? (i := 231) rfl) rfl)⟩
set_option maxRecDepth 100000 in
theorem fo_Main_53 : fOk "CookedLaw" 53 0 7 1 true := ⟨"CookedLaw", T_Main, 12, rfl, fun w h => gtb_of (in_Main w h).1 (in_Main w h).2, by decide, rfl, rfl, rfl, Or.inl (gk_2 (List.mem_of_getElem? (i := 232) rfl) rfl)⟩
set_option maxRecDepth 100000 in
theorem ff_Main_53 : ∃ (T : u_T) (N : Nat), cls[0]? = some ("CookedLaw", T, N) ∧ (∀ w ∈ u_ws "CookedLaw" T N, w ∈ gtb) ∧ 7 < N ∧ (fks 0)[7]? = some (1, 7) ∧ (T 7).1 = "CookedLaw" ∧ (T 7).2.2.2 = true ∧ Cond.fieldLink "CookedLaw" 53 "CookedLaw" (T 7).2.1 (T 7).2.2.1 ∈ gtb := ⟨T_Main, 12, rfl, fun w h => gtb_of (in_Main w h).1 (in_Main w h).2, by decide, rfl, rfl, rfl, (gk_2 (List.mem_of_getElem? (i := 232) rfl) rfl)⟩
set_option maxRecDepth 100000 in
theorem fo_Main_60 : fOk "CookedLaw" 60 0 8 1 true := ⟨"CookedLaw", T_Main, 12, rfl, fun w h => gtb_of (in_Main w h).1 (in_Main w h).2, by decide, rfl, rfl, rfl, Or.inl (gk_2 (List.mem_of_getElem? (i := 233) rfl) rfl)⟩
set_option maxRecDepth 100000 in
theorem ff_Main_60 : ∃ (T : u_T) (N : Nat), cls[0]? = some ("CookedLaw", T, N) ∧ (∀ w ∈ u_ws "CookedLaw" T N, w ∈ gtb) ∧ 8 < N ∧ (fks 0)[8]? = some (1, 8) ∧ (T 8).1 = "CookedLaw" ∧ (T 8).2.2.2 = true ∧ Cond.fieldLink "CookedLaw" 60 "CookedLaw" (T 8).2.1 (T 8).2.2.1 ∈ gtb := ⟨T_Main, 12, rfl, fun w h => gtb_of (in_Main w h).1 (in_Main w h).2, by decide, rfl, rfl, rfl, (gk_2 (List.mem_of_getElem? (i := 233) rfl) rfl)⟩
set_option maxRecDepth 100000 in
theorem fo_Main_67 : fOk "CookedLaw" 67 0 9 1 true := ⟨"CookedLaw", T_Main, 12, rfl, fun w h => gtb_of (in_Main w h).1 (in_Main w h).2, by decide, rfl, rfl, rfl, Or.inl (gk_2 (List.mem_of_getElem? (i := 234) rfl) rfl)⟩
set_option maxRecDepth 100000 in
theorem ff_Main_67 : ∃ (T : u_T) (N : Nat), cls[0]? = some ("CookedLaw", T, N) ∧ (∀ w ∈ u_ws "CookedLaw" T N, w ∈ gtb) ∧ 9 < N ∧ (fks 0)[9]? = some (1, 9) ∧ (T 9).1 = "CookedLaw" ∧ (T 9).2.2.2 = true ∧ Cond.fieldLink "CookedLaw" 67 "CookedLaw" (T 9).2.1 (T 9).2.2.1 ∈ gtb := ⟨T_Main, 12, rfl, fun w h => gtb_of (in_Main w h).1 (in_Main w h).2, by decide, rfl, rfl, rfl, (gk_2 (List.mem_of_getElem? (i := 234) rfl) rfl)⟩
set_option maxRecDepth 100000 in
theorem fo_Main_74 : fOk "CookedLaw" 74 0 10 1 true := ⟨"CookedLaw", T_Main, 12, rfl, fun w h => gtb_of (in_Main w h).1 (in_Main w h).2, by decide, rfl, rfl, rfl, Or.inl (gk_2 (List.mem_of_getElem? (i := 235) rfl) rfl)⟩
set_option maxRecDepth 100000 in
theorem ff_Main_74 : ∃ (T : u_T) (N : Nat), cls[0]? = some ("CookedLaw", T, N) ∧ (∀ w ∈ u_ws "CookedLaw" T N, w ∈ gtb) ∧ 10 < N ∧ (fks 0)[10]? = some (1, 10) ∧ (T 10).1 = "CookedLaw" ∧ (T 10).2.2.2 = true ∧ Cond.fieldLink "CookedLaw" 74 "CookedLaw" (T 10).2.1 (T 10).2.2.1 ∈ gtb := ⟨T_Main, 12, rfl, fun w h => gtb_of (in_Main w h).1 (in_Main w h).2, by decide, rfl, rfl, rfl, (gk_2 (List.mem_of_getElem? (i := 235) rfl) rfl)⟩
set_option maxRecDepth 100000 in
theorem fo_Main_78 : fOk "CookedLaw" 78 0 11 0 false := ⟨"CookedLaw", T_Main, 12, rfl, fun w h => gtb_of (in_Main w h).1 (in_Main w h).2, by decide, rfl, rfl, rfl, Or.inl (gk_2 (List.mem_of_getElem? (i := 236) rfl) rfl)⟩
set_option maxRecDepth 100000 in
theorem fo_Main_82 : fOk "CookedLaw" 82 1 1 0 false := ⟨"CookedLaw$Tape", T_Tape, 2, rfl, fun w h => gtb_of (in_Tape w h).1 (in_Tape w h).2, by decide, rfl, rfl, rfl, Or.inr ⟨"CookedLaw", (tk_1 (List.mem_of_getElem? (i := 35) rfl))⟩⟩
set_option maxRecDepth 100000 in
theorem fo_Main_109 : fOk "CookedLaw" 109 4 0 0 false := ⟨"CookedLaw$Land", T_Land, 18, rfl, fun w h => gtb_of (in_Land w h).1 (in_Land w h).2, by decide, rfl, rfl, rfl, Or.inr ⟨"CookedLaw", (tk_1 (List.mem_of_getElem? (i := 191) rfl))⟩⟩
set_option maxRecDepth 100000 in
theorem fo_Main_116 : fOk "CookedLaw" 116 6 5 1 true := ⟨"CookedLaw$State", T_State, 10, rfl, fun w h => gtb_of (in_State w h).1 (in_State w h).2, by decide, rfl, rfl, rfl, Or.inr ⟨"CookedLaw", (tk_2 (List.mem_of_getElem? (i := 58) rfl))⟩⟩
set_option maxRecDepth 100000 in
theorem fo_Main_124 : fOk "CookedLaw" 124 4 6 1 true := ⟨"CookedLaw$Land", T_Land, 18, rfl, fun w h => gtb_of (in_Land w h).1 (in_Land w h).2, by decide, rfl, rfl, rfl, Or.inr ⟨"CookedLaw", (tk_1 (List.mem_of_getElem? (i := 213) rfl))⟩⟩
set_option maxRecDepth 100000 in
theorem fo_Main_131 : fOk "CookedLaw" 131 4 1 0 false := ⟨"CookedLaw$Land", T_Land, 18, rfl, fun w h => gtb_of (in_Land w h).1 (in_Land w h).2, by decide, rfl, rfl, rfl, Or.inr ⟨"CookedLaw", (tk_1 (List.mem_of_getElem? (i := 196) rfl))⟩⟩
set_option maxRecDepth 100000 in
theorem fo_Main_134 : fOk "CookedLaw" 134 4 8 1 true := ⟨"CookedLaw$Land", T_Land, 18, rfl, fun w h => gtb_of (in_Land w h).1 (in_Land w h).2, by decide, rfl, rfl, rfl, Or.inr ⟨"CookedLaw", (tk_1 (List.mem_of_getElem? (i := 218) rfl))⟩⟩
set_option maxRecDepth 100000 in
theorem fo_Main_144 : fOk "CookedLaw" 144 6 0 0 false := ⟨"CookedLaw$State", T_State, 10, rfl, fun w h => gtb_of (in_State w h).1 (in_State w h).2, by decide, rfl, rfl, rfl, Or.inr ⟨"CookedLaw", (tk_2 (List.mem_of_getElem? (i := 47) rfl))⟩⟩
set_option maxRecDepth 100000 in
theorem fo_Main_151 : fOk "CookedLaw" 151 6 6 1 true := ⟨"CookedLaw$State", T_State, 10, rfl, fun w h => gtb_of (in_State w h).1 (in_State w h).2, by decide, rfl, rfl, rfl, Or.inr ⟨"CookedLaw", (tk_2 (List.mem_of_getElem? (i := 60) rfl))⟩⟩
set_option maxRecDepth 100000 in
theorem fo_Main_157 : fOk "CookedLaw" 157 4 2 0 false := ⟨"CookedLaw$Land", T_Land, 18, rfl, fun w h => gtb_of (in_Land w h).1 (in_Land w h).2, by decide, rfl, rfl, rfl, Or.inr ⟨"CookedLaw", (tk_1 (List.mem_of_getElem? (i := 199) rfl))⟩⟩
set_option maxRecDepth 100000 in
theorem fo_Main_160 : fOk "CookedLaw" 160 4 10 1 true := ⟨"CookedLaw$Land", T_Land, 18, rfl, fun w h => gtb_of (in_Land w h).1 (in_Land w h).2, by decide, rfl, rfl, rfl, Or.inr ⟨"CookedLaw", (tk_1 (List.mem_of_getElem? (i := 223) rfl))⟩⟩
set_option maxRecDepth 100000 in
theorem fo_Main_170 : fOk "CookedLaw" 170 6 7 1 true := ⟨"CookedLaw$State", T_State, 10, rfl, fun w h => gtb_of (in_State w h).1 (in_State w h).2, by decide, rfl, rfl, rfl, Or.inr ⟨"CookedLaw", (tk_2 (List.mem_of_getElem? (i := 62) rfl))⟩⟩
set_option maxRecDepth 100000 in
theorem fo_Main_177 : fOk "CookedLaw" 177 4 3 0 false := ⟨"CookedLaw$Land", T_Land, 18, rfl, fun w h => gtb_of (in_Land w h).1 (in_Land w h).2, by decide, rfl, rfl, rfl, Or.inr ⟨"CookedLaw", (tk_1 (List.mem_of_getElem? (i := 202) rfl))⟩⟩
set_option maxRecDepth 100000 in
theorem fo_Main_180 : fOk "CookedLaw" 180 4 11 1 true := ⟨"CookedLaw$Land", T_Land, 18, rfl, fun w h => gtb_of (in_Land w h).1 (in_Land w h).2, by decide, rfl, rfl, rfl, Or.inr ⟨"CookedLaw", (tk_1 (List.mem_of_getElem? (i := 226) rfl))⟩⟩
set_option maxRecDepth 100000 in
theorem fo_Main_183 : fOk "CookedLaw" 183 4 12 1 true := ⟨"CookedLaw$Land", T_Land, 18, rfl, fun w h => gtb_of (in_Land w h).1 (in_Land w h).2, by decide, rfl, rfl, rfl, Or.inr ⟨"CookedLaw", (tk_1 (List.mem_of_getElem? (i := 229) rfl))⟩⟩
set_option maxRecDepth 100000 in
theorem fo_Main_208 : fOk "CookedLaw" 208 6 3 0 false := ⟨"CookedLaw$State", T_State, 10, rfl, fun w h => gtb_of (in_State w h).1 (in_State w h).2, by decide, rfl, rfl, rfl, Or.inr ⟨"CookedLaw", (tk_2 (List.mem_of_getElem? (i := 53) rfl))⟩⟩
set_option maxRecDepth 100000 in
theorem fo_Main_226 : fOk "CookedLaw" 226 10 6 0 false := ⟨"CookedLaw$PotSearch", T_PotSearch, 11, rfl, fun w h => gtb_of (in_PotSearch w h).1 (in_PotSearch w h).2, by decide, rfl, rfl, rfl, Or.inr ⟨"CookedLaw", (tk_2 (List.mem_of_getElem? (i := 171) rfl))⟩⟩
set_option maxRecDepth 100000 in
theorem fo_Main_229 : fOk "CookedLaw" 229 10 8 0 false := ⟨"CookedLaw$PotSearch", T_PotSearch, 11, rfl, fun w h => gtb_of (in_PotSearch w h).1 (in_PotSearch w h).2, by decide, rfl, rfl, rfl, Or.inr ⟨"CookedLaw", (tk_2 (List.mem_of_getElem? (i := 174) rfl))⟩⟩
set_option maxRecDepth 100000 in
theorem fo_Main_232 : fOk "CookedLaw" 232 10 5 1 true := ⟨"CookedLaw$PotSearch", T_PotSearch, 11, rfl, fun w h => gtb_of (in_PotSearch w h).1 (in_PotSearch w h).2, by decide, rfl, rfl, rfl, Or.inr ⟨"CookedLaw", (tk_2 (List.mem_of_getElem? (i := 169) rfl))⟩⟩
set_option maxRecDepth 100000 in
theorem fo_Main_258 : fOk "CookedLaw" 258 11 4 0 false := ⟨"CookedLaw$MenuSearch", T_MenuSearch, 5, rfl, fun w h => gtb_of (in_MenuSearch w h).1 (in_MenuSearch w h).2, by decide, rfl, rfl, rfl, Or.inr ⟨"CookedLaw", (tk_2 (List.mem_of_getElem? (i := 212) rfl))⟩⟩
set_option maxRecDepth 100000 in
theorem fo_Main_261 : fOk "CookedLaw" 261 11 3 1 true := ⟨"CookedLaw$MenuSearch", T_MenuSearch, 5, rfl, fun w h => gtb_of (in_MenuSearch w h).1 (in_MenuSearch w h).2, by decide, rfl, rfl, rfl, Or.inr ⟨"CookedLaw", (tk_2 (List.mem_of_getElem? (i := 210) rfl))⟩⟩
set_option maxRecDepth 100000 in
theorem fo_Main_265 : fOk "CookedLaw" 265 4 4 0 false := ⟨"CookedLaw$Land", T_Land, 18, rfl, fun w h => gtb_of (in_Land w h).1 (in_Land w h).2, by decide, rfl, rfl, rfl, Or.inr ⟨"CookedLaw", (tk_1 (List.mem_of_getElem? (i := 207) rfl))⟩⟩
set_option maxRecDepth 100000 in
theorem fo_Main_275 : fOk "CookedLaw" 275 9 3 0 false := ⟨"CookedLaw$Told", T_Told, 9, rfl, fun w h => gtb_of (in_Told w h).1 (in_Told w h).2, by decide, rfl, rfl, rfl, Or.inr ⟨"CookedLaw", (tk_2 (List.mem_of_getElem? (i := 131) rfl))⟩⟩
set_option maxRecDepth 100000 in
theorem fo_Main_282 : fOk "CookedLaw" 282 9 7 0 false := ⟨"CookedLaw$Told", T_Told, 9, rfl, fun w h => gtb_of (in_Told w h).1 (in_Told w h).2, by decide, rfl, rfl, rfl, Or.inr ⟨"CookedLaw", (tk_2 (List.mem_of_getElem? (i := 136) rfl))⟩⟩
set_option maxRecDepth 100000 in
theorem fo_Main_297 : fOk "CookedLaw" 297 6 1 0 false := ⟨"CookedLaw$State", T_State, 10, rfl, fun w h => gtb_of (in_State w h).1 (in_State w h).2, by decide, rfl, rfl, rfl, Or.inr ⟨"CookedLaw", (tk_2 (List.mem_of_getElem? (i := 49) rfl))⟩⟩
set_option maxRecDepth 100000 in
theorem fo_Main_300 : fOk "CookedLaw" 300 6 4 1 true := ⟨"CookedLaw$State", T_State, 10, rfl, fun w h => gtb_of (in_State w h).1 (in_State w h).2, by decide, rfl, rfl, rfl, Or.inr ⟨"CookedLaw", (tk_2 (List.mem_of_getElem? (i := 55) rfl))⟩⟩
set_option maxRecDepth 100000 in
theorem fo_Main_303 : fOk "CookedLaw" 303 7 2 0 false := ⟨"CookedLaw$Past", T_Past, 3, rfl, fun w h => gtb_of (in_Past w h).1 (in_Past w h).2, by decide, rfl, rfl, rfl, Or.inr ⟨"CookedLaw", (tk_2 (List.mem_of_getElem? (i := 98) rfl))⟩⟩
set_option maxRecDepth 100000 in
theorem fo_Main_307 : fOk "CookedLaw" 307 6 2 0 false := ⟨"CookedLaw$State", T_State, 10, rfl, fun w h => gtb_of (in_State w h).1 (in_State w h).2, by decide, rfl, rfl, rfl, Or.inr ⟨"CookedLaw", (tk_2 (List.mem_of_getElem? (i := 51) rfl))⟩⟩
set_option maxRecDepth 100000 in
theorem fo_Land_9 : fOk "CookedLaw$Land" 9 4 5 1 true := ⟨"CookedLaw$Land", T_Land, 18, rfl, fun w h => gtb_of (in_Land w h).1 (in_Land w h).2, by decide, rfl, rfl, rfl, Or.inl (gk_1 (List.mem_of_getElem? (i := 208) rfl) rfl)⟩
set_option maxRecDepth 100000 in
theorem ff_Land_9 : ∃ (T : u_T) (N : Nat), cls[4]? = some ("CookedLaw$Land", T, N) ∧ (∀ w ∈ u_ws "CookedLaw$Land" T N, w ∈ gtb) ∧ 5 < N ∧ (fks 4)[5]? = some (1, 5) ∧ (T 5).1 = "CookedLaw$Land" ∧ (T 5).2.2.2 = true ∧ Cond.fieldLink "CookedLaw$Land" 9 "CookedLaw$Land" (T 5).2.1 (T 5).2.2.1 ∈ gtb := ⟨T_Land, 18, rfl, fun w h => gtb_of (in_Land w h).1 (in_Land w h).2, by decide, rfl, rfl, rfl, (gk_1 (List.mem_of_getElem? (i := 208) rfl) rfl)⟩
set_option maxRecDepth 100000 in
theorem fo_Land_15 : fOk "CookedLaw$Land" 15 4 6 1 true := ⟨"CookedLaw$Land", T_Land, 18, rfl, fun w h => gtb_of (in_Land w h).1 (in_Land w h).2, by decide, rfl, rfl, rfl, Or.inl (gk_1 (List.mem_of_getElem? (i := 211) rfl) rfl)⟩
set_option maxRecDepth 100000 in
theorem ff_Land_15 : ∃ (T : u_T) (N : Nat), cls[4]? = some ("CookedLaw$Land", T, N) ∧ (∀ w ∈ u_ws "CookedLaw$Land" T N, w ∈ gtb) ∧ 6 < N ∧ (fks 4)[6]? = some (1, 6) ∧ (T 6).1 = "CookedLaw$Land" ∧ (T 6).2.2.2 = true ∧ Cond.fieldLink "CookedLaw$Land" 15 "CookedLaw$Land" (T 6).2.1 (T 6).2.2.1 ∈ gtb := ⟨T_Land, 18, rfl, fun w h => gtb_of (in_Land w h).1 (in_Land w h).2, by decide, rfl, rfl, rfl, (gk_1 (List.mem_of_getElem? (i := 211) rfl) rfl)⟩
set_option maxRecDepth 100000 in
theorem fo_Land_18 : fOk "CookedLaw$Land" 18 4 7 1 true := ⟨"CookedLaw$Land", T_Land, 18, rfl, fun w h => gtb_of (in_Land w h).1 (in_Land w h).2, by decide, rfl, rfl, rfl, Or.inl (gk_1 (List.mem_of_getElem? (i := 215) rfl) rfl)⟩
set_option maxRecDepth 100000 in
theorem ff_Land_18 : ∃ (T : u_T) (N : Nat), cls[4]? = some ("CookedLaw$Land", T, N) ∧ (∀ w ∈ u_ws "CookedLaw$Land" T N, w ∈ gtb) ∧ 7 < N ∧ (fks 4)[7]? = some (1, 7) ∧ (T 7).1 = "CookedLaw$Land" ∧ (T 7).2.2.2 = true ∧ Cond.fieldLink "CookedLaw$Land" 18 "CookedLaw$Land" (T 7).2.1 (T 7).2.2.1 ∈ gtb := ⟨T_Land, 18, rfl, fun w h => gtb_of (in_Land w h).1 (in_Land w h).2, by decide, rfl, rfl, rfl, (gk_1 (List.mem_of_getElem? (i := 215) rfl) rfl)⟩
set_option maxRecDepth 100000 in
theorem fo_Land_21 : fOk "CookedLaw$Land" 21 4 8 1 true := ⟨"CookedLaw$Land", T_Land, 18, rfl, fun w h => gtb_of (in_Land w h).1 (in_Land w h).2, by decide, rfl, rfl, rfl, Or.inl (gk_1 (List.mem_of_getElem? (i := 217) rfl) rfl)⟩
set_option maxRecDepth 100000 in
theorem ff_Land_21 : ∃ (T : u_T) (N : Nat), cls[4]? = some ("CookedLaw$Land", T, N) ∧ (∀ w ∈ u_ws "CookedLaw$Land" T N, w ∈ gtb) ∧ 8 < N ∧ (fks 4)[8]? = some (1, 8) ∧ (T 8).1 = "CookedLaw$Land" ∧ (T 8).2.2.2 = true ∧ Cond.fieldLink "CookedLaw$Land" 21 "CookedLaw$Land" (T 8).2.1 (T 8).2.2.1 ∈ gtb := ⟨T_Land, 18, rfl, fun w h => gtb_of (in_Land w h).1 (in_Land w h).2, by decide, rfl, rfl, rfl, (gk_1 (List.mem_of_getElem? (i := 217) rfl) rfl)⟩
set_option maxRecDepth 100000 in
theorem fo_Land_24 : fOk "CookedLaw$Land" 24 4 9 1 true := ⟨"CookedLaw$Land", T_Land, 18, rfl, fun w h => gtb_of (in_Land w h).1 (in_Land w h).2, by decide, rfl, rfl, rfl, Or.inl (gk_1 (List.mem_of_getElem? (i := 220) rfl) rfl)⟩
set_option maxRecDepth 100000 in
theorem ff_Land_24 : ∃ (T : u_T) (N : Nat), cls[4]? = some ("CookedLaw$Land", T, N) ∧ (∀ w ∈ u_ws "CookedLaw$Land" T N, w ∈ gtb) ∧ 9 < N ∧ (fks 4)[9]? = some (1, 9) ∧ (T 9).1 = "CookedLaw$Land" ∧ (T 9).2.2.2 = true ∧ Cond.fieldLink "CookedLaw$Land" 24 "CookedLaw$Land" (T 9).2.1 (T 9).2.2.1 ∈ gtb := ⟨T_Land, 18, rfl, fun w h => gtb_of (in_Land w h).1 (in_Land w h).2, by decide, rfl, rfl, rfl, (gk_1 (List.mem_of_getElem? (i := 220) rfl) rfl)⟩
set_option maxRecDepth 100000 in
theorem fo_Land_27 : fOk "CookedLaw$Land" 27 4 10 1 true := ⟨"CookedLaw$Land", T_Land, 18, rfl, fun w h => gtb_of (in_Land w h).1 (in_Land w h).2, by decide, rfl, rfl, rfl, Or.inl (gk_1 (List.mem_of_getElem? (i := 222) rfl) rfl)⟩
set_option maxRecDepth 100000 in
theorem ff_Land_27 : ∃ (T : u_T) (N : Nat), cls[4]? = some ("CookedLaw$Land", T, N) ∧ (∀ w ∈ u_ws "CookedLaw$Land" T N, w ∈ gtb) ∧ 10 < N ∧ (fks 4)[10]? = some (1, 10) ∧ (T 10).1 = "CookedLaw$Land" ∧ (T 10).2.2.2 = true ∧ Cond.fieldLink "CookedLaw$Land" 27 "CookedLaw$Land" (T 10).2.1 (T 10).2.2.1 ∈ gtb := ⟨T_Land, 18, rfl, fun w h => gtb_of (in_Land w h).1 (in_Land w h).2, by decide, rfl, rfl, rfl, (gk_1 (List.mem_of_getElem? (i := 222) rfl) rfl)⟩
set_option maxRecDepth 100000 in
theorem fo_Land_30 : fOk "CookedLaw$Land" 30 4 11 1 true := ⟨"CookedLaw$Land", T_Land, 18, rfl, fun w h => gtb_of (in_Land w h).1 (in_Land w h).2, by decide, rfl, rfl, rfl, Or.inl (gk_1 (List.mem_of_getElem? (i := 225) rfl) rfl)⟩
set_option maxRecDepth 100000 in
theorem ff_Land_30 : ∃ (T : u_T) (N : Nat), cls[4]? = some ("CookedLaw$Land", T, N) ∧ (∀ w ∈ u_ws "CookedLaw$Land" T N, w ∈ gtb) ∧ 11 < N ∧ (fks 4)[11]? = some (1, 11) ∧ (T 11).1 = "CookedLaw$Land" ∧ (T 11).2.2.2 = true ∧ Cond.fieldLink "CookedLaw$Land" 30 "CookedLaw$Land" (T 11).2.1 (T 11).2.2.1 ∈ gtb := ⟨T_Land, 18, rfl, fun w h => gtb_of (in_Land w h).1 (in_Land w h).2, by decide, rfl, rfl, rfl, (gk_1 (List.mem_of_getElem? (i := 225) rfl) rfl)⟩
set_option maxRecDepth 100000 in
theorem fo_Land_33 : fOk "CookedLaw$Land" 33 4 12 1 true := ⟨"CookedLaw$Land", T_Land, 18, rfl, fun w h => gtb_of (in_Land w h).1 (in_Land w h).2, by decide, rfl, rfl, rfl, Or.inl (gk_1 (List.mem_of_getElem? (i := 228) rfl) rfl)⟩
set_option maxRecDepth 100000 in
theorem ff_Land_33 : ∃ (T : u_T) (N : Nat), cls[4]? = some ("CookedLaw$Land", T, N) ∧ (∀ w ∈ u_ws "CookedLaw$Land" T N, w ∈ gtb) ∧ 12 < N ∧ (fks 4)[12]? = some (1, 12) ∧ (T 12).1 = "CookedLaw$Land" ∧ (T 12).2.2.2 = true ∧ Cond.fieldLink "CookedLaw$Land" 33 "CookedLaw$Land" (T 12).2.1 (T 12).2.2.1 ∈ gtb := ⟨T_Land, 18, rfl, fun w h => gtb_of (in_Land w h).1 (in_Land w h).2, by decide, rfl, rfl, rfl, (gk_1 (List.mem_of_getElem? (i := 228) rfl) rfl)⟩
set_option maxRecDepth 100000 in
theorem fo_Land_39 : fOk "CookedLaw$Land" 39 4 13 1 true := ⟨"CookedLaw$Land", T_Land, 18, rfl, fun w h => gtb_of (in_Land w h).1 (in_Land w h).2, by decide, rfl, rfl, rfl, Or.inl (gk_1 (List.mem_of_getElem? (i := 231) rfl) rfl)⟩
set_option maxRecDepth 100000 in
theorem ff_Land_39 : ∃ (T : u_T) (N : Nat), cls[4]? = some ("CookedLaw$Land", T, N) ∧ (∀ w ∈ u_ws "CookedLaw$Land" T N, w ∈ gtb) ∧ 13 < N ∧ (fks 4)[13]? = some (1, 13) ∧ (T 13).1 = "CookedLaw$Land" ∧ (T 13).2.2.2 = true ∧ Cond.fieldLink "CookedLaw$Land" 39 "CookedLaw$Land" (T 13).2.1 (T 13).2.2.1 ∈ gtb := ⟨T_Land, 18, rfl, fun w h => gtb_of (in_Land w h).1 (in_Land w h).2, by decide, rfl, rfl, rfl, (gk_1 (List.mem_of_getElem? (i := 231) rfl) rfl)⟩
set_option maxRecDepth 100000 in
theorem fo_Land_43 : fOk "CookedLaw$Land" 43 4 14 1 true := ⟨"CookedLaw$Land", T_Land, 18, rfl, fun w h => gtb_of (in_Land w h).1 (in_Land w h).2, by decide, rfl, rfl, rfl, Or.inl (gk_1 (List.mem_of_getElem? (i := 234) rfl) rfl)⟩
set_option maxRecDepth 100000 in
theorem ff_Land_43 : ∃ (T : u_T) (N : Nat), cls[4]? = some ("CookedLaw$Land", T, N) ∧ (∀ w ∈ u_ws "CookedLaw$Land" T N, w ∈ gtb) ∧ 14 < N ∧ (fks 4)[14]? = some (1, 14) ∧ (T 14).1 = "CookedLaw$Land" ∧ (T 14).2.2.2 = true ∧ Cond.fieldLink "CookedLaw$Land" 43 "CookedLaw$Land" (T 14).2.1 (T 14).2.2.1 ∈ gtb := ⟨T_Land, 18, rfl, fun w h => gtb_of (in_Land w h).1 (in_Land w h).2, by decide, rfl, rfl, rfl, (gk_1 (List.mem_of_getElem? (i := 234) rfl) rfl)⟩
set_option maxRecDepth 100000 in
theorem fo_Land_46 : fOk "CookedLaw$Land" 46 4 15 1 true := ⟨"CookedLaw$Land", T_Land, 18, rfl, fun w h => gtb_of (in_Land w h).1 (in_Land w h).2, by decide, rfl, rfl, rfl, Or.inl (gk_1 (List.mem_of_getElem? (i := 236) rfl) rfl)⟩
set_option maxRecDepth 100000 in
theorem ff_Land_46 : ∃ (T : u_T) (N : Nat), cls[4]? = some ("CookedLaw$Land", T, N) ∧ (∀ w ∈ u_ws "CookedLaw$Land" T N, w ∈ gtb) ∧ 15 < N ∧ (fks 4)[15]? = some (1, 15) ∧ (T 15).1 = "CookedLaw$Land" ∧ (T 15).2.2.2 = true ∧ Cond.fieldLink "CookedLaw$Land" 46 "CookedLaw$Land" (T 15).2.1 (T 15).2.2.1 ∈ gtb := ⟨T_Land, 18, rfl, fun w h => gtb_of (in_Land w h).1 (in_Land w h).2, by decide, rfl, rfl, rfl, (gk_1 (List.mem_of_getElem? (i := 236) rfl) rfl)⟩
set_option maxRecDepth 100000 in
theorem fo_Land_49 : fOk "CookedLaw$Land" 49 4 16 1 true := ⟨"CookedLaw$Land", T_Land, 18, rfl, fun w h => gtb_of (in_Land w h).1 (in_Land w h).2, by decide, rfl, rfl, rfl, Or.inl (gk_1 (List.mem_of_getElem? (i := 238) rfl) rfl)⟩
set_option maxRecDepth 100000 in
theorem ff_Land_49 : ∃ (T : u_T) (N : Nat), cls[4]? = some ("CookedLaw$Land", T, N) ∧ (∀ w ∈ u_ws "CookedLaw$Land" T N, w ∈ gtb) ∧ 16 < N ∧ (fks 4)[16]? = some (1, 16) ∧ (T 16).1 = "CookedLaw$Land" ∧ (T 16).2.2.2 = true ∧ Cond.fieldLink "CookedLaw$Land" 49 "CookedLaw$Land" (T 16).2.1 (T 16).2.2.1 ∈ gtb := ⟨T_Land, 18, rfl, fun w h => gtb_of (in_Land w h).1 (in_Land w h).2, by decide, rfl, rfl, rfl, (gk_1 (List.mem_of_getElem? (i := 238) rfl) rfl)⟩
set_option maxRecDepth 100000 in
theorem fo_Land_52 : fOk "CookedLaw$Land" 52 4 17 1 true := ⟨"CookedLaw$Land", T_Land, 18, rfl, fun w h => gtb_of (in_Land w h).1 (in_Land w h).2, by decide, rfl, rfl, rfl, Or.inl (gk_2 (List.mem_of_getElem? (i := 0) rfl) rfl)⟩
set_option maxRecDepth 100000 in
theorem ff_Land_52 : ∃ (T : u_T) (N : Nat), cls[4]? = some ("CookedLaw$Land", T, N) ∧ (∀ w ∈ u_ws "CookedLaw$Land" T N, w ∈ gtb) ∧ 17 < N ∧ (fks 4)[17]? = some (1, 17) ∧ (T 17).1 = "CookedLaw$Land" ∧ (T 17).2.2.2 = true ∧ Cond.fieldLink "CookedLaw$Land" 52 "CookedLaw$Land" (T 17).2.1 (T 17).2.2.1 ∈ gtb := ⟨T_Land, 18, rfl, fun w h => gtb_of (in_Land w h).1 (in_Land w h).2, by decide, rfl, rfl, rfl, (gk_2 (List.mem_of_getElem? (i := 0) rfl) rfl)⟩
set_option maxRecDepth 100000 in
theorem fo_Land_55 : fOk "CookedLaw$Land" 55 4 0 0 false := ⟨"CookedLaw$Land", T_Land, 18, rfl, fun w h => gtb_of (in_Land w h).1 (in_Land w h).2, by decide, rfl, rfl, rfl, Or.inl (gk_1 (List.mem_of_getElem? (i := 188) rfl) rfl)⟩
set_option maxRecDepth 100000 in
theorem fo_Land_59 : fOk "CookedLaw$Land" 59 4 1 0 false := ⟨"CookedLaw$Land", T_Land, 18, rfl, fun w h => gtb_of (in_Land w h).1 (in_Land w h).2, by decide, rfl, rfl, rfl, Or.inl (gk_1 (List.mem_of_getElem? (i := 193) rfl) rfl)⟩
set_option maxRecDepth 100000 in
theorem fo_Land_62 : fOk "CookedLaw$Land" 62 4 2 0 false := ⟨"CookedLaw$Land", T_Land, 18, rfl, fun w h => gtb_of (in_Land w h).1 (in_Land w h).2, by decide, rfl, rfl, rfl, Or.inl (gk_1 (List.mem_of_getElem? (i := 198) rfl) rfl)⟩
set_option maxRecDepth 100000 in
theorem fo_Land_65 : fOk "CookedLaw$Land" 65 4 3 0 false := ⟨"CookedLaw$Land", T_Land, 18, rfl, fun w h => gtb_of (in_Land w h).1 (in_Land w h).2, by decide, rfl, rfl, rfl, Or.inl (gk_1 (List.mem_of_getElem? (i := 201) rfl) rfl)⟩
set_option maxRecDepth 100000 in
theorem fo_Land_68 : fOk "CookedLaw$Land" 68 4 4 0 false := ⟨"CookedLaw$Land", T_Land, 18, rfl, fun w h => gtb_of (in_Land w h).1 (in_Land w h).2, by decide, rfl, rfl, rfl, Or.inl (gk_1 (List.mem_of_getElem? (i := 204) rfl) rfl)⟩
set_option maxRecDepth 100000 in
theorem fo_Law_11 : fOk "CookedLaw$Law" 11 5 0 1 true := ⟨"CookedLaw$Law", T_Law, 4, rfl, fun w h => gtb_of (in_Law w h).1 (in_Law w h).2, by decide, rfl, rfl, rfl, Or.inl (gk_1 (List.mem_of_getElem? (i := 175) rfl) rfl)⟩
set_option maxRecDepth 100000 in
theorem ff_Law_11 : ∃ (T : u_T) (N : Nat), cls[5]? = some ("CookedLaw$Law", T, N) ∧ (∀ w ∈ u_ws "CookedLaw$Law" T N, w ∈ gtb) ∧ 0 < N ∧ (fks 5)[0]? = some (1, 0) ∧ (T 0).1 = "CookedLaw$Law" ∧ (T 0).2.2.2 = true ∧ Cond.fieldLink "CookedLaw$Law" 11 "CookedLaw$Law" (T 0).2.1 (T 0).2.2.1 ∈ gtb := ⟨T_Law, 4, rfl, fun w h => gtb_of (in_Law w h).1 (in_Law w h).2, by decide, rfl, rfl, rfl, (gk_1 (List.mem_of_getElem? (i := 175) rfl) rfl)⟩
set_option maxRecDepth 100000 in
theorem fo_Law_15 : fOk "CookedLaw$Law" 15 5 2 1 true := ⟨"CookedLaw$Law", T_Law, 4, rfl, fun w h => gtb_of (in_Law w h).1 (in_Law w h).2, by decide, rfl, rfl, rfl, Or.inl (gk_1 (List.mem_of_getElem? (i := 177) rfl) rfl)⟩
set_option maxRecDepth 100000 in
theorem ff_Law_15 : ∃ (T : u_T) (N : Nat), cls[5]? = some ("CookedLaw$Law", T, N) ∧ (∀ w ∈ u_ws "CookedLaw$Law" T N, w ∈ gtb) ∧ 2 < N ∧ (fks 5)[2]? = some (1, 2) ∧ (T 2).1 = "CookedLaw$Law" ∧ (T 2).2.2.2 = true ∧ Cond.fieldLink "CookedLaw$Law" 15 "CookedLaw$Law" (T 2).2.1 (T 2).2.2.1 ∈ gtb := ⟨T_Law, 4, rfl, fun w h => gtb_of (in_Law w h).1 (in_Law w h).2, by decide, rfl, rfl, rfl, (gk_1 (List.mem_of_getElem? (i := 177) rfl) rfl)⟩
set_option maxRecDepth 100000 in
theorem fo_Law_18 : fOk "CookedLaw$Law" 18 5 3 1 true := ⟨"CookedLaw$Law", T_Law, 4, rfl, fun w h => gtb_of (in_Law w h).1 (in_Law w h).2, by decide, rfl, rfl, rfl, Or.inl (gk_1 (List.mem_of_getElem? (i := 178) rfl) rfl)⟩
set_option maxRecDepth 100000 in
theorem ff_Law_18 : ∃ (T : u_T) (N : Nat), cls[5]? = some ("CookedLaw$Law", T, N) ∧ (∀ w ∈ u_ws "CookedLaw$Law" T N, w ∈ gtb) ∧ 3 < N ∧ (fks 5)[3]? = some (1, 3) ∧ (T 3).1 = "CookedLaw$Law" ∧ (T 3).2.2.2 = true ∧ Cond.fieldLink "CookedLaw$Law" 18 "CookedLaw$Law" (T 3).2.1 (T 3).2.2.1 ∈ gtb := ⟨T_Law, 4, rfl, fun w h => gtb_of (in_Law w h).1 (in_Law w h).2, by decide, rfl, rfl, rfl, (gk_1 (List.mem_of_getElem? (i := 178) rfl) rfl)⟩
set_option maxRecDepth 100000 in
theorem fo_Law_21 : fOk "CookedLaw$Law" 21 5 1 0 false := ⟨"CookedLaw$Law", T_Law, 4, rfl, fun w h => gtb_of (in_Law w h).1 (in_Law w h).2, by decide, rfl, rfl, rfl, Or.inl (gk_1 (List.mem_of_getElem? (i := 176) rfl) rfl)⟩
set_option maxRecDepth 100000 in
theorem fo_MenuSearch_9 : fOk "CookedLaw$MenuSearch" 9 11 0 1 true := ⟨"CookedLaw$MenuSearch", T_MenuSearch, 5, rfl, fun w h => gtb_of (in_MenuSearch w h).1 (in_MenuSearch w h).2, by decide, rfl, rfl, rfl, Or.inl (gk_2 (List.mem_of_getElem? (i := 206) rfl) rfl)⟩
set_option maxRecDepth 100000 in
theorem ff_MenuSearch_9 : ∃ (T : u_T) (N : Nat), cls[11]? = some ("CookedLaw$MenuSearch", T, N) ∧ (∀ w ∈ u_ws "CookedLaw$MenuSearch" T N, w ∈ gtb) ∧ 0 < N ∧ (fks 11)[0]? = some (1, 0) ∧ (T 0).1 = "CookedLaw$MenuSearch" ∧ (T 0).2.2.2 = true ∧ Cond.fieldLink "CookedLaw$MenuSearch" 9 "CookedLaw$MenuSearch" (T 0).2.1 (T 0).2.2.1 ∈ gtb := ⟨T_MenuSearch, 5, rfl, fun w h => gtb_of (in_MenuSearch w h).1 (in_MenuSearch w h).2, by decide, rfl, rfl, rfl, (gk_2 (List.mem_of_getElem? (i := 206) rfl) rfl)⟩
set_option maxRecDepth 100000 in
theorem fo_MenuSearch_15 : fOk "CookedLaw$MenuSearch" 15 11 1 1 true := ⟨"CookedLaw$MenuSearch", T_MenuSearch, 5, rfl, fun w h => gtb_of (in_MenuSearch w h).1 (in_MenuSearch w h).2, by decide, rfl, rfl, rfl, Or.inl (gk_2 (List.mem_of_getElem? (i := 207) rfl) rfl)⟩
set_option maxRecDepth 100000 in
theorem ff_MenuSearch_15 : ∃ (T : u_T) (N : Nat), cls[11]? = some ("CookedLaw$MenuSearch", T, N) ∧ (∀ w ∈ u_ws "CookedLaw$MenuSearch" T N, w ∈ gtb) ∧ 1 < N ∧ (fks 11)[1]? = some (1, 1) ∧ (T 1).1 = "CookedLaw$MenuSearch" ∧ (T 1).2.2.2 = true ∧ Cond.fieldLink "CookedLaw$MenuSearch" 15 "CookedLaw$MenuSearch" (T 1).2.1 (T 1).2.2.1 ∈ gtb := ⟨T_MenuSearch, 5, rfl, fun w h => gtb_of (in_MenuSearch w h).1 (in_MenuSearch w h).2, by decide, rfl, rfl, rfl, (gk_2 (List.mem_of_getElem? (i := 207) rfl) rfl)⟩
set_option maxRecDepth 100000 in
theorem fo_MenuSearch_18 : fOk "CookedLaw$MenuSearch" 18 11 2 1 true := ⟨"CookedLaw$MenuSearch", T_MenuSearch, 5, rfl, fun w h => gtb_of (in_MenuSearch w h).1 (in_MenuSearch w h).2, by decide, rfl, rfl, rfl, Or.inl (gk_2 (List.mem_of_getElem? (i := 208) rfl) rfl)⟩
set_option maxRecDepth 100000 in
theorem ff_MenuSearch_18 : ∃ (T : u_T) (N : Nat), cls[11]? = some ("CookedLaw$MenuSearch", T, N) ∧ (∀ w ∈ u_ws "CookedLaw$MenuSearch" T N, w ∈ gtb) ∧ 2 < N ∧ (fks 11)[2]? = some (1, 2) ∧ (T 2).1 = "CookedLaw$MenuSearch" ∧ (T 2).2.2.2 = true ∧ Cond.fieldLink "CookedLaw$MenuSearch" 18 "CookedLaw$MenuSearch" (T 2).2.1 (T 2).2.2.1 ∈ gtb := ⟨T_MenuSearch, 5, rfl, fun w h => gtb_of (in_MenuSearch w h).1 (in_MenuSearch w h).2, by decide, rfl, rfl, rfl, (gk_2 (List.mem_of_getElem? (i := 208) rfl) rfl)⟩
set_option maxRecDepth 100000 in
theorem fo_MenuSearch_22 : fOk "CookedLaw$MenuSearch" 22 11 3 1 true := ⟨"CookedLaw$MenuSearch", T_MenuSearch, 5, rfl, fun w h => gtb_of (in_MenuSearch w h).1 (in_MenuSearch w h).2, by decide, rfl, rfl, rfl, Or.inl (gk_2 (List.mem_of_getElem? (i := 209) rfl) rfl)⟩
set_option maxRecDepth 100000 in
theorem ff_MenuSearch_22 : ∃ (T : u_T) (N : Nat), cls[11]? = some ("CookedLaw$MenuSearch", T, N) ∧ (∀ w ∈ u_ws "CookedLaw$MenuSearch" T N, w ∈ gtb) ∧ 3 < N ∧ (fks 11)[3]? = some (1, 3) ∧ (T 3).1 = "CookedLaw$MenuSearch" ∧ (T 3).2.2.2 = true ∧ Cond.fieldLink "CookedLaw$MenuSearch" 22 "CookedLaw$MenuSearch" (T 3).2.1 (T 3).2.2.1 ∈ gtb := ⟨T_MenuSearch, 5, rfl, fun w h => gtb_of (in_MenuSearch w h).1 (in_MenuSearch w h).2, by decide, rfl, rfl, rfl, (gk_2 (List.mem_of_getElem? (i := 209) rfl) rfl)⟩
set_option maxRecDepth 100000 in
theorem fo_MenuSearch_29 : fOk "CookedLaw$MenuSearch" 29 6 0 0 false := ⟨"CookedLaw$State", T_State, 10, rfl, fun w h => gtb_of (in_State w h).1 (in_State w h).2, by decide, rfl, rfl, rfl, Or.inr ⟨"CookedLaw", (tk_2 (List.mem_of_getElem? (i := 45) rfl))⟩⟩
set_option maxRecDepth 100000 in
theorem fo_MenuSearch_43 : fOk "CookedLaw$MenuSearch" 43 11 4 0 false := ⟨"CookedLaw$MenuSearch", T_MenuSearch, 5, rfl, fun w h => gtb_of (in_MenuSearch w h).1 (in_MenuSearch w h).2, by decide, rfl, rfl, rfl, Or.inl (gk_2 (List.mem_of_getElem? (i := 211) rfl) rfl)⟩
set_option maxRecDepth 100000 in
theorem fo_MenuSearch_54 : fOk "CookedLaw$MenuSearch" 54 4 1 0 false := ⟨"CookedLaw$Land", T_Land, 18, rfl, fun w h => gtb_of (in_Land w h).1 (in_Land w h).2, by decide, rfl, rfl, rfl, Or.inr ⟨"CookedLaw", (tk_1 (List.mem_of_getElem? (i := 194) rfl))⟩⟩
set_option maxRecDepth 100000 in
theorem fo_Past_11 : fOk "CookedLaw$Past" 11 7 0 1 true := ⟨"CookedLaw$Past", T_Past, 3, rfl, fun w h => gtb_of (in_Past w h).1 (in_Past w h).2, by decide, rfl, rfl, rfl, Or.inl (gk_2 (List.mem_of_getElem? (i := 95) rfl) rfl)⟩
set_option maxRecDepth 100000 in
theorem ff_Past_11 : ∃ (T : u_T) (N : Nat), cls[7]? = some ("CookedLaw$Past", T, N) ∧ (∀ w ∈ u_ws "CookedLaw$Past" T N, w ∈ gtb) ∧ 0 < N ∧ (fks 7)[0]? = some (1, 0) ∧ (T 0).1 = "CookedLaw$Past" ∧ (T 0).2.2.2 = true ∧ Cond.fieldLink "CookedLaw$Past" 11 "CookedLaw$Past" (T 0).2.1 (T 0).2.2.1 ∈ gtb := ⟨T_Past, 3, rfl, fun w h => gtb_of (in_Past w h).1 (in_Past w h).2, by decide, rfl, rfl, rfl, (gk_2 (List.mem_of_getElem? (i := 95) rfl) rfl)⟩
set_option maxRecDepth 100000 in
theorem fo_Past_18 : fOk "CookedLaw$Past" 18 7 1 0 false := ⟨"CookedLaw$Past", T_Past, 3, rfl, fun w h => gtb_of (in_Past w h).1 (in_Past w h).2, by decide, rfl, rfl, rfl, Or.inl (gk_2 (List.mem_of_getElem? (i := 96) rfl) rfl)⟩
set_option maxRecDepth 100000 in
theorem fo_Past_22 : fOk "CookedLaw$Past" 22 7 2 0 false := ⟨"CookedLaw$Past", T_Past, 3, rfl, fun w h => gtb_of (in_Past w h).1 (in_Past w h).2, by decide, rfl, rfl, rfl, Or.inl (gk_2 (List.mem_of_getElem? (i := 97) rfl) rfl)⟩
set_option maxRecDepth 100000 in
theorem fo_PotSearch_9 : fOk "CookedLaw$PotSearch" 9 10 0 1 true := ⟨"CookedLaw$PotSearch", T_PotSearch, 11, rfl, fun w h => gtb_of (in_PotSearch w h).1 (in_PotSearch w h).2, by decide, rfl, rfl, rfl, Or.inl (gk_2 (List.mem_of_getElem? (i := 163) rfl) rfl)⟩
set_option maxRecDepth 100000 in
theorem ff_PotSearch_9 : ∃ (T : u_T) (N : Nat), cls[10]? = some ("CookedLaw$PotSearch", T, N) ∧ (∀ w ∈ u_ws "CookedLaw$PotSearch" T N, w ∈ gtb) ∧ 0 < N ∧ (fks 10)[0]? = some (1, 0) ∧ (T 0).1 = "CookedLaw$PotSearch" ∧ (T 0).2.2.2 = true ∧ Cond.fieldLink "CookedLaw$PotSearch" 9 "CookedLaw$PotSearch" (T 0).2.1 (T 0).2.2.1 ∈ gtb := ⟨T_PotSearch, 11, rfl, fun w h => gtb_of (in_PotSearch w h).1 (in_PotSearch w h).2, by decide, rfl, rfl, rfl, (gk_2 (List.mem_of_getElem? (i := 163) rfl) rfl)⟩
set_option maxRecDepth 100000 in
theorem fo_PotSearch_15 : fOk "CookedLaw$PotSearch" 15 10 1 1 true := ⟨"CookedLaw$PotSearch", T_PotSearch, 11, rfl, fun w h => gtb_of (in_PotSearch w h).1 (in_PotSearch w h).2, by decide, rfl, rfl, rfl, Or.inl (gk_2 (List.mem_of_getElem? (i := 164) rfl) rfl)⟩
set_option maxRecDepth 100000 in
theorem ff_PotSearch_15 : ∃ (T : u_T) (N : Nat), cls[10]? = some ("CookedLaw$PotSearch", T, N) ∧ (∀ w ∈ u_ws "CookedLaw$PotSearch" T N, w ∈ gtb) ∧ 1 < N ∧ (fks 10)[1]? = some (1, 1) ∧ (T 1).1 = "CookedLaw$PotSearch" ∧ (T 1).2.2.2 = true ∧ Cond.fieldLink "CookedLaw$PotSearch" 15 "CookedLaw$PotSearch" (T 1).2.1 (T 1).2.2.1 ∈ gtb := ⟨T_PotSearch, 11, rfl, fun w h => gtb_of (in_PotSearch w h).1 (in_PotSearch w h).2, by decide, rfl, rfl, rfl, (gk_2 (List.mem_of_getElem? (i := 164) rfl) rfl)⟩
set_option maxRecDepth 100000 in
theorem fo_PotSearch_18 : fOk "CookedLaw$PotSearch" 18 10 2 1 true := ⟨"CookedLaw$PotSearch", T_PotSearch, 11, rfl, fun w h => gtb_of (in_PotSearch w h).1 (in_PotSearch w h).2, by decide, rfl, rfl, rfl, Or.inl (gk_2 (List.mem_of_getElem? (i := 165) rfl) rfl)⟩
set_option maxRecDepth 100000 in
theorem ff_PotSearch_18 : ∃ (T : u_T) (N : Nat), cls[10]? = some ("CookedLaw$PotSearch", T, N) ∧ (∀ w ∈ u_ws "CookedLaw$PotSearch" T N, w ∈ gtb) ∧ 2 < N ∧ (fks 10)[2]? = some (1, 2) ∧ (T 2).1 = "CookedLaw$PotSearch" ∧ (T 2).2.2.2 = true ∧ Cond.fieldLink "CookedLaw$PotSearch" 18 "CookedLaw$PotSearch" (T 2).2.1 (T 2).2.2.1 ∈ gtb := ⟨T_PotSearch, 11, rfl, fun w h => gtb_of (in_PotSearch w h).1 (in_PotSearch w h).2, by decide, rfl, rfl, rfl, (gk_2 (List.mem_of_getElem? (i := 165) rfl) rfl)⟩
set_option maxRecDepth 100000 in
theorem fo_PotSearch_21 : fOk "CookedLaw$PotSearch" 21 10 5 1 true := ⟨"CookedLaw$PotSearch", T_PotSearch, 11, rfl, fun w h => gtb_of (in_PotSearch w h).1 (in_PotSearch w h).2, by decide, rfl, rfl, rfl, Or.inl (gk_2 (List.mem_of_getElem? (i := 168) rfl) rfl)⟩
set_option maxRecDepth 100000 in
theorem ff_PotSearch_21 : ∃ (T : u_T) (N : Nat), cls[10]? = some ("CookedLaw$PotSearch", T, N) ∧ (∀ w ∈ u_ws "CookedLaw$PotSearch" T N, w ∈ gtb) ∧ 5 < N ∧ (fks 10)[5]? = some (1, 5) ∧ (T 5).1 = "CookedLaw$PotSearch" ∧ (T 5).2.2.2 = true ∧ Cond.fieldLink "CookedLaw$PotSearch" 21 "CookedLaw$PotSearch" (T 5).2.1 (T 5).2.2.1 ∈ gtb := ⟨T_PotSearch, 11, rfl, fun w h => gtb_of (in_PotSearch w h).1 (in_PotSearch w h).2, by decide, rfl, rfl, rfl, (gk_2 (List.mem_of_getElem? (i := 168) rfl) rfl)⟩
set_option maxRecDepth 100000 in
theorem fo_PotSearch_28 : fOk "CookedLaw$PotSearch" 28 10 9 2 false := ⟨"CookedLaw$PotSearch", T_PotSearch, 11, rfl, fun w h => gtb_of (in_PotSearch w h).1 (in_PotSearch w h).2, by decide, rfl, rfl, rfl, Or.inl (gk_2 (List.mem_of_getElem? (i := 175) rfl) rfl)⟩
set_option maxRecDepth 100000 in
theorem fo_PotSearch_32 : fOk "CookedLaw$PotSearch" 32 4 13 1 true := ⟨"CookedLaw$Land", T_Land, 18, rfl, fun w h => gtb_of (in_Land w h).1 (in_Land w h).2, by decide, rfl, rfl, rfl, Or.inr ⟨"CookedLaw", (tk_1 (List.mem_of_getElem? (i := 232) rfl))⟩⟩
set_option maxRecDepth 100000 in
theorem fo_PotSearch_44 : fOk "CookedLaw$PotSearch" 44 10 10 0 false := ⟨"CookedLaw$PotSearch", T_PotSearch, 11, rfl, fun w h => gtb_of (in_PotSearch w h).1 (in_PotSearch w h).2, by decide, rfl, rfl, rfl, Or.inl (gk_2 (List.mem_of_getElem? (i := 176) rfl) rfl)⟩
set_option maxRecDepth 100000 in
theorem fo_PotSearch_56 : fOk "CookedLaw$PotSearch" 56 10 3 0 false := ⟨"CookedLaw$PotSearch", T_PotSearch, 11, rfl, fun w h => gtb_of (in_PotSearch w h).1 (in_PotSearch w h).2, by decide, rfl, rfl, rfl, Or.inl (gk_2 (List.mem_of_getElem? (i := 166) rfl) rfl)⟩
set_option maxRecDepth 100000 in
theorem fo_PotSearch_59 : fOk "CookedLaw$PotSearch" 59 6 0 0 false := ⟨"CookedLaw$State", T_State, 10, rfl, fun w h => gtb_of (in_State w h).1 (in_State w h).2, by decide, rfl, rfl, rfl, Or.inr ⟨"CookedLaw", (tk_2 (List.mem_of_getElem? (i := 46) rfl))⟩⟩
set_option maxRecDepth 100000 in
theorem fo_PotSearch_72 : fOk "CookedLaw$PotSearch" 72 6 5 1 true := ⟨"CookedLaw$State", T_State, 10, rfl, fun w h => gtb_of (in_State w h).1 (in_State w h).2, by decide, rfl, rfl, rfl, Or.inr ⟨"CookedLaw", (tk_2 (List.mem_of_getElem? (i := 57) rfl))⟩⟩
set_option maxRecDepth 100000 in
theorem fo_PotSearch_89 : fOk "CookedLaw$PotSearch" 89 10 4 0 false := ⟨"CookedLaw$PotSearch", T_PotSearch, 11, rfl, fun w h => gtb_of (in_PotSearch w h).1 (in_PotSearch w h).2, by decide, rfl, rfl, rfl, Or.inl (gk_2 (List.mem_of_getElem? (i := 167) rfl) rfl)⟩
set_option maxRecDepth 100000 in
theorem fo_PotSearch_92 : fOk "CookedLaw$PotSearch" 92 4 6 1 true := ⟨"CookedLaw$Land", T_Land, 18, rfl, fun w h => gtb_of (in_Land w h).1 (in_Land w h).2, by decide, rfl, rfl, rfl, Or.inr ⟨"CookedLaw", (tk_1 (List.mem_of_getElem? (i := 212) rfl))⟩⟩
set_option maxRecDepth 100000 in
theorem fo_PotSearch_97 : fOk "CookedLaw$PotSearch" 97 10 6 0 false := ⟨"CookedLaw$PotSearch", T_PotSearch, 11, rfl, fun w h => gtb_of (in_PotSearch w h).1 (in_PotSearch w h).2, by decide, rfl, rfl, rfl, Or.inl (gk_2 (List.mem_of_getElem? (i := 170) rfl) rfl)⟩
set_option maxRecDepth 100000 in
theorem fo_PotSearch_100 : fOk "CookedLaw$PotSearch" 100 10 7 0 false := ⟨"CookedLaw$PotSearch", T_PotSearch, 11, rfl, fun w h => gtb_of (in_PotSearch w h).1 (in_PotSearch w h).2, by decide, rfl, rfl, rfl, Or.inl (gk_2 (List.mem_of_getElem? (i := 172) rfl) rfl)⟩
set_option maxRecDepth 100000 in
theorem fo_PotSearch_103 : fOk "CookedLaw$PotSearch" 103 10 8 0 false := ⟨"CookedLaw$PotSearch", T_PotSearch, 11, rfl, fun w h => gtb_of (in_PotSearch w h).1 (in_PotSearch w h).2, by decide, rfl, rfl, rfl, Or.inl (gk_2 (List.mem_of_getElem? (i := 173) rfl) rfl)⟩
set_option maxRecDepth 100000 in
theorem fo_Reader_12 : fOk "CookedLaw$Reader" 12 2 0 1 true := ⟨"CookedLaw$Reader", T_Reader, 12, rfl, fun w h => gtb_of (in_Reader w h).1 (in_Reader w h).2, by decide, rfl, rfl, rfl, Or.inl (gk_1 (List.mem_of_getElem? (i := 126) rfl) rfl)⟩
set_option maxRecDepth 100000 in
theorem ff_Reader_12 : ∃ (T : u_T) (N : Nat), cls[2]? = some ("CookedLaw$Reader", T, N) ∧ (∀ w ∈ u_ws "CookedLaw$Reader" T N, w ∈ gtb) ∧ 0 < N ∧ (fks 2)[0]? = some (1, 0) ∧ (T 0).1 = "CookedLaw$Reader" ∧ (T 0).2.2.2 = true ∧ Cond.fieldLink "CookedLaw$Reader" 12 "CookedLaw$Reader" (T 0).2.1 (T 0).2.2.1 ∈ gtb := ⟨T_Reader, 12, rfl, fun w h => gtb_of (in_Reader w h).1 (in_Reader w h).2, by decide, rfl, rfl, rfl, (gk_1 (List.mem_of_getElem? (i := 126) rfl) rfl)⟩
set_option maxRecDepth 100000 in
theorem fo_Reader_18 : fOk "CookedLaw$Reader" 18 2 6 1 true := ⟨"CookedLaw$Reader", T_Reader, 12, rfl, fun w h => gtb_of (in_Reader w h).1 (in_Reader w h).2, by decide, rfl, rfl, rfl, Or.inl (gk_1 (List.mem_of_getElem? (i := 132) rfl) rfl)⟩
set_option maxRecDepth 100000 in
theorem ff_Reader_18 : ∃ (T : u_T) (N : Nat), cls[2]? = some ("CookedLaw$Reader", T, N) ∧ (∀ w ∈ u_ws "CookedLaw$Reader" T N, w ∈ gtb) ∧ 6 < N ∧ (fks 2)[6]? = some (1, 6) ∧ (T 6).1 = "CookedLaw$Reader" ∧ (T 6).2.2.2 = true ∧ Cond.fieldLink "CookedLaw$Reader" 18 "CookedLaw$Reader" (T 6).2.1 (T 6).2.2.1 ∈ gtb := ⟨T_Reader, 12, rfl, fun w h => gtb_of (in_Reader w h).1 (in_Reader w h).2, by decide, rfl, rfl, rfl, (gk_1 (List.mem_of_getElem? (i := 132) rfl) rfl)⟩
set_option maxRecDepth 100000 in
theorem fo_Reader_22 : fOk "CookedLaw$Reader" 22 2 7 1 true := ⟨"CookedLaw$Reader", T_Reader, 12, rfl, fun w h => gtb_of (in_Reader w h).1 (in_Reader w h).2, by decide, rfl, rfl, rfl, Or.inl (gk_1 (List.mem_of_getElem? (i := 133) rfl) rfl)⟩
set_option maxRecDepth 100000 in
theorem ff_Reader_22 : ∃ (T : u_T) (N : Nat), cls[2]? = some ("CookedLaw$Reader", T, N) ∧ (∀ w ∈ u_ws "CookedLaw$Reader" T N, w ∈ gtb) ∧ 7 < N ∧ (fks 2)[7]? = some (1, 7) ∧ (T 7).1 = "CookedLaw$Reader" ∧ (T 7).2.2.2 = true ∧ Cond.fieldLink "CookedLaw$Reader" 22 "CookedLaw$Reader" (T 7).2.1 (T 7).2.2.1 ∈ gtb := ⟨T_Reader, 12, rfl, fun w h => gtb_of (in_Reader w h).1 (in_Reader w h).2, by decide, rfl, rfl, rfl, (gk_1 (List.mem_of_getElem? (i := 133) rfl) rfl)⟩
set_option maxRecDepth 100000 in
theorem fo_Reader_26 : fOk "CookedLaw$Reader" 26 2 9 1 true := ⟨"CookedLaw$Reader", T_Reader, 12, rfl, fun w h => gtb_of (in_Reader w h).1 (in_Reader w h).2, by decide, rfl, rfl, rfl, Or.inl (gk_1 (List.mem_of_getElem? (i := 135) rfl) rfl)⟩
set_option maxRecDepth 100000 in
theorem ff_Reader_26 : ∃ (T : u_T) (N : Nat), cls[2]? = some ("CookedLaw$Reader", T, N) ∧ (∀ w ∈ u_ws "CookedLaw$Reader" T N, w ∈ gtb) ∧ 9 < N ∧ (fks 2)[9]? = some (1, 9) ∧ (T 9).1 = "CookedLaw$Reader" ∧ (T 9).2.2.2 = true ∧ Cond.fieldLink "CookedLaw$Reader" 26 "CookedLaw$Reader" (T 9).2.1 (T 9).2.2.1 ∈ gtb := ⟨T_Reader, 12, rfl, fun w h => gtb_of (in_Reader w h).1 (in_Reader w h).2, by decide, rfl, rfl, rfl, (gk_1 (List.mem_of_getElem? (i := 135) rfl) rfl)⟩
set_option maxRecDepth 100000 in
theorem fo_Reader_38 : fOk "CookedLaw$Reader" 38 2 1 0 false := ⟨"CookedLaw$Reader", T_Reader, 12, rfl, fun w h => gtb_of (in_Reader w h).1 (in_Reader w h).2, by decide, rfl, rfl, rfl, Or.inl (gk_1 (List.mem_of_getElem? (i := 127) rfl) rfl)⟩
set_option maxRecDepth 100000 in
theorem fo_Reader_42 : fOk "CookedLaw$Reader" 42 2 2 0 false := ⟨"CookedLaw$Reader", T_Reader, 12, rfl, fun w h => gtb_of (in_Reader w h).1 (in_Reader w h).2, by decide, rfl, rfl, rfl, Or.inl (gk_1 (List.mem_of_getElem? (i := 128) rfl) rfl)⟩
set_option maxRecDepth 100000 in
theorem fo_Reader_45 : fOk "CookedLaw$Reader" 45 2 4 0 false := ⟨"CookedLaw$Reader", T_Reader, 12, rfl, fun w h => gtb_of (in_Reader w h).1 (in_Reader w h).2, by decide, rfl, rfl, rfl, Or.inl (gk_1 (List.mem_of_getElem? (i := 130) rfl) rfl)⟩
set_option maxRecDepth 100000 in
theorem fo_Reader_48 : fOk "CookedLaw$Reader" 48 2 8 0 false := ⟨"CookedLaw$Reader", T_Reader, 12, rfl, fun w h => gtb_of (in_Reader w h).1 (in_Reader w h).2, by decide, rfl, rfl, rfl, Or.inl (gk_1 (List.mem_of_getElem? (i := 134) rfl) rfl)⟩
set_option maxRecDepth 100000 in
theorem fo_Reader_55 : fOk "CookedLaw$Reader" 55 3 1 1 true := ⟨"CookedLaw$Tokens", T_Tokens, 4, rfl, fun w h => gtb_of (in_Tokens w h).1 (in_Tokens w h).2, by decide, rfl, rfl, rfl, Or.inr ⟨"CookedLaw", (tk_1 (List.mem_of_getElem? (i := 111) rfl))⟩⟩
set_option maxRecDepth 100000 in
theorem fo_Reader_75 : fOk "CookedLaw$Reader" 75 4 13 1 true := ⟨"CookedLaw$Land", T_Land, 18, rfl, fun w h => gtb_of (in_Land w h).1 (in_Land w h).2, by decide, rfl, rfl, rfl, Or.inr ⟨"CookedLaw", (tk_1 (List.mem_of_getElem? (i := 233) rfl))⟩⟩
set_option maxRecDepth 100000 in
theorem fo_Reader_83 : fOk "CookedLaw$Reader" 83 4 14 1 true := ⟨"CookedLaw$Land", T_Land, 18, rfl, fun w h => gtb_of (in_Land w h).1 (in_Land w h).2, by decide, rfl, rfl, rfl, Or.inr ⟨"CookedLaw", (tk_1 (List.mem_of_getElem? (i := 235) rfl))⟩⟩
set_option maxRecDepth 100000 in
theorem fo_Reader_86 : fOk "CookedLaw$Reader" 86 4 15 1 true := ⟨"CookedLaw$Land", T_Land, 18, rfl, fun w h => gtb_of (in_Land w h).1 (in_Land w h).2, by decide, rfl, rfl, rfl, Or.inr ⟨"CookedLaw", (tk_1 (List.mem_of_getElem? (i := 237) rfl))⟩⟩
set_option maxRecDepth 100000 in
theorem fo_Reader_89 : fOk "CookedLaw$Reader" 89 4 16 1 true := ⟨"CookedLaw$Land", T_Land, 18, rfl, fun w h => gtb_of (in_Land w h).1 (in_Land w h).2, by decide, rfl, rfl, rfl, Or.inr ⟨"CookedLaw", (tk_1 (List.mem_of_getElem? (i := 239) rfl))⟩⟩
set_option maxRecDepth 100000 in
theorem fo_Reader_99 : fOk "CookedLaw$Reader" 99 2 5 0 false := ⟨"CookedLaw$Reader", T_Reader, 12, rfl, fun w h => gtb_of (in_Reader w h).1 (in_Reader w h).2, by decide, rfl, rfl, rfl, Or.inl (gk_1 (List.mem_of_getElem? (i := 131) rfl) rfl)⟩
set_option maxRecDepth 100000 in
theorem fo_Reader_102 : fOk "CookedLaw$Reader" 102 2 3 0 false := ⟨"CookedLaw$Reader", T_Reader, 12, rfl, fun w h => gtb_of (in_Reader w h).1 (in_Reader w h).2, by decide, rfl, rfl, rfl, Or.inl (gk_1 (List.mem_of_getElem? (i := 129) rfl) rfl)⟩
set_option maxRecDepth 100000 in
theorem fo_Reader_105 : fOk "CookedLaw$Reader" 105 3 2 1 true := ⟨"CookedLaw$Tokens", T_Tokens, 4, rfl, fun w h => gtb_of (in_Tokens w h).1 (in_Tokens w h).2, by decide, rfl, rfl, rfl, Or.inr ⟨"CookedLaw", (tk_1 (List.mem_of_getElem? (i := 113) rfl))⟩⟩
set_option maxRecDepth 100000 in
theorem fo_Reader_125 : fOk "CookedLaw$Reader" 125 4 0 0 false := ⟨"CookedLaw$Land", T_Land, 18, rfl, fun w h => gtb_of (in_Land w h).1 (in_Land w h).2, by decide, rfl, rfl, rfl, Or.inr ⟨"CookedLaw", (tk_1 (List.mem_of_getElem? (i := 192) rfl))⟩⟩
set_option maxRecDepth 100000 in
theorem fo_Reader_131 : fOk "CookedLaw$Reader" 131 4 5 1 true := ⟨"CookedLaw$Land", T_Land, 18, rfl, fun w h => gtb_of (in_Land w h).1 (in_Land w h).2, by decide, rfl, rfl, rfl, Or.inr ⟨"CookedLaw", (tk_1 (List.mem_of_getElem? (i := 210) rfl))⟩⟩
set_option maxRecDepth 100000 in
theorem fo_Reader_142 : fOk "CookedLaw$Reader" 142 4 6 1 true := ⟨"CookedLaw$Land", T_Land, 18, rfl, fun w h => gtb_of (in_Land w h).1 (in_Land w h).2, by decide, rfl, rfl, rfl, Or.inr ⟨"CookedLaw", (tk_1 (List.mem_of_getElem? (i := 214) rfl))⟩⟩
set_option maxRecDepth 100000 in
theorem fo_Reader_145 : fOk "CookedLaw$Reader" 145 4 7 1 true := ⟨"CookedLaw$Land", T_Land, 18, rfl, fun w h => gtb_of (in_Land w h).1 (in_Land w h).2, by decide, rfl, rfl, rfl, Or.inr ⟨"CookedLaw", (tk_1 (List.mem_of_getElem? (i := 216) rfl))⟩⟩
set_option maxRecDepth 100000 in
theorem fo_Reader_148 : fOk "CookedLaw$Reader" 148 4 1 0 false := ⟨"CookedLaw$Land", T_Land, 18, rfl, fun w h => gtb_of (in_Land w h).1 (in_Land w h).2, by decide, rfl, rfl, rfl, Or.inr ⟨"CookedLaw", (tk_1 (List.mem_of_getElem? (i := 197) rfl))⟩⟩
set_option maxRecDepth 100000 in
theorem fo_Reader_151 : fOk "CookedLaw$Reader" 151 4 8 1 true := ⟨"CookedLaw$Land", T_Land, 18, rfl, fun w h => gtb_of (in_Land w h).1 (in_Land w h).2, by decide, rfl, rfl, rfl, Or.inr ⟨"CookedLaw", (tk_1 (List.mem_of_getElem? (i := 219) rfl))⟩⟩
set_option maxRecDepth 100000 in
theorem fo_Reader_158 : fOk "CookedLaw$Reader" 158 4 9 1 true := ⟨"CookedLaw$Land", T_Land, 18, rfl, fun w h => gtb_of (in_Land w h).1 (in_Land w h).2, by decide, rfl, rfl, rfl, Or.inr ⟨"CookedLaw", (tk_1 (List.mem_of_getElem? (i := 221) rfl))⟩⟩
set_option maxRecDepth 100000 in
theorem fo_Reader_165 : fOk "CookedLaw$Reader" 165 4 2 0 false := ⟨"CookedLaw$Land", T_Land, 18, rfl, fun w h => gtb_of (in_Land w h).1 (in_Land w h).2, by decide, rfl, rfl, rfl, Or.inr ⟨"CookedLaw", (tk_1 (List.mem_of_getElem? (i := 200) rfl))⟩⟩
set_option maxRecDepth 100000 in
theorem fo_Reader_168 : fOk "CookedLaw$Reader" 168 4 10 1 true := ⟨"CookedLaw$Land", T_Land, 18, rfl, fun w h => gtb_of (in_Land w h).1 (in_Land w h).2, by decide, rfl, rfl, rfl, Or.inr ⟨"CookedLaw", (tk_1 (List.mem_of_getElem? (i := 224) rfl))⟩⟩
set_option maxRecDepth 100000 in
theorem fo_Reader_171 : fOk "CookedLaw$Reader" 171 4 3 0 false := ⟨"CookedLaw$Land", T_Land, 18, rfl, fun w h => gtb_of (in_Land w h).1 (in_Land w h).2, by decide, rfl, rfl, rfl, Or.inr ⟨"CookedLaw", (tk_1 (List.mem_of_getElem? (i := 203) rfl))⟩⟩
set_option maxRecDepth 100000 in
theorem fo_Reader_174 : fOk "CookedLaw$Reader" 174 4 11 1 true := ⟨"CookedLaw$Land", T_Land, 18, rfl, fun w h => gtb_of (in_Land w h).1 (in_Land w h).2, by decide, rfl, rfl, rfl, Or.inr ⟨"CookedLaw", (tk_1 (List.mem_of_getElem? (i := 227) rfl))⟩⟩
set_option maxRecDepth 100000 in
theorem fo_Reader_177 : fOk "CookedLaw$Reader" 177 4 12 1 true := ⟨"CookedLaw$Land", T_Land, 18, rfl, fun w h => gtb_of (in_Land w h).1 (in_Land w h).2, by decide, rfl, rfl, rfl, Or.inr ⟨"CookedLaw", (tk_1 (List.mem_of_getElem? (i := 230) rfl))⟩⟩
set_option maxRecDepth 100000 in
theorem fo_Reader_180 : fOk "CookedLaw$Reader" 180 4 4 0 false := ⟨"CookedLaw$Land", T_Land, 18, rfl, fun w h => gtb_of (in_Land w h).1 (in_Land w h).2, by decide, rfl, rfl, rfl, Or.inr ⟨"CookedLaw", (tk_1 (List.mem_of_getElem? (i := 206) rfl))⟩⟩
set_option maxRecDepth 100000 in
theorem fo_Reader_196 : fOk "CookedLaw$Reader" 196 2 11 0 false := ⟨"CookedLaw$Reader", T_Reader, 12, rfl, fun w h => gtb_of (in_Reader w h).1 (in_Reader w h).2, by decide, rfl, rfl, rfl, Or.inl (gk_1 (List.mem_of_getElem? (i := 137) rfl) rfl)⟩
set_option maxRecDepth 100000 in
theorem fo_Reader_199 : fOk "CookedLaw$Reader" 199 2 10 0 false := ⟨"CookedLaw$Reader", T_Reader, 12, rfl, fun w h => gtb_of (in_Reader w h).1 (in_Reader w h).2, by decide, rfl, rfl, rfl, Or.inl (gk_1 (List.mem_of_getElem? (i := 136) rfl) rfl)⟩
set_option maxRecDepth 100000 in
theorem fo_Slots_11 : fOk "CookedLaw$Slots" 11 8 0 1 true := ⟨"CookedLaw$Slots", T_Slots, 2, rfl, fun w h => gtb_of (in_Slots w h).1 (in_Slots w h).2, by decide, rfl, rfl, rfl, Or.inl (gk_2 (List.mem_of_getElem? (i := 114) rfl) rfl)⟩
set_option maxRecDepth 100000 in
theorem ff_Slots_11 : ∃ (T : u_T) (N : Nat), cls[8]? = some ("CookedLaw$Slots", T, N) ∧ (∀ w ∈ u_ws "CookedLaw$Slots" T N, w ∈ gtb) ∧ 0 < N ∧ (fks 8)[0]? = some (1, 0) ∧ (T 0).1 = "CookedLaw$Slots" ∧ (T 0).2.2.2 = true ∧ Cond.fieldLink "CookedLaw$Slots" 11 "CookedLaw$Slots" (T 0).2.1 (T 0).2.2.1 ∈ gtb := ⟨T_Slots, 2, rfl, fun w h => gtb_of (in_Slots w h).1 (in_Slots w h).2, by decide, rfl, rfl, rfl, (gk_2 (List.mem_of_getElem? (i := 114) rfl) rfl)⟩
set_option maxRecDepth 100000 in
theorem fo_Slots_18 : fOk "CookedLaw$Slots" 18 8 1 0 false := ⟨"CookedLaw$Slots", T_Slots, 2, rfl, fun w h => gtb_of (in_Slots w h).1 (in_Slots w h).2, by decide, rfl, rfl, rfl, Or.inl (gk_2 (List.mem_of_getElem? (i := 115) rfl) rfl)⟩
set_option maxRecDepth 100000 in
theorem fo_State_9 : fOk "CookedLaw$State" 9 6 3 0 false := ⟨"CookedLaw$State", T_State, 10, rfl, fun w h => gtb_of (in_State w h).1 (in_State w h).2, by decide, rfl, rfl, rfl, Or.inl (gk_2 (List.mem_of_getElem? (i := 52) rfl) rfl)⟩
set_option maxRecDepth 100000 in
theorem fo_State_15 : fOk "CookedLaw$State" 15 6 4 1 true := ⟨"CookedLaw$State", T_State, 10, rfl, fun w h => gtb_of (in_State w h).1 (in_State w h).2, by decide, rfl, rfl, rfl, Or.inl (gk_2 (List.mem_of_getElem? (i := 54) rfl) rfl)⟩
set_option maxRecDepth 100000 in
theorem ff_State_15 : ∃ (T : u_T) (N : Nat), cls[6]? = some ("CookedLaw$State", T, N) ∧ (∀ w ∈ u_ws "CookedLaw$State" T N, w ∈ gtb) ∧ 4 < N ∧ (fks 6)[4]? = some (1, 4) ∧ (T 4).1 = "CookedLaw$State" ∧ (T 4).2.2.2 = true ∧ Cond.fieldLink "CookedLaw$State" 15 "CookedLaw$State" (T 4).2.1 (T 4).2.2.1 ∈ gtb := ⟨T_State, 10, rfl, fun w h => gtb_of (in_State w h).1 (in_State w h).2, by decide, rfl, rfl, rfl, (gk_2 (List.mem_of_getElem? (i := 54) rfl) rfl)⟩
set_option maxRecDepth 100000 in
theorem fo_State_19 : fOk "CookedLaw$State" 19 6 5 1 true := ⟨"CookedLaw$State", T_State, 10, rfl, fun w h => gtb_of (in_State w h).1 (in_State w h).2, by decide, rfl, rfl, rfl, Or.inl (gk_2 (List.mem_of_getElem? (i := 56) rfl) rfl)⟩
set_option maxRecDepth 100000 in
theorem ff_State_19 : ∃ (T : u_T) (N : Nat), cls[6]? = some ("CookedLaw$State", T, N) ∧ (∀ w ∈ u_ws "CookedLaw$State" T N, w ∈ gtb) ∧ 5 < N ∧ (fks 6)[5]? = some (1, 5) ∧ (T 5).1 = "CookedLaw$State" ∧ (T 5).2.2.2 = true ∧ Cond.fieldLink "CookedLaw$State" 19 "CookedLaw$State" (T 5).2.1 (T 5).2.2.1 ∈ gtb := ⟨T_State, 10, rfl, fun w h => gtb_of (in_State w h).1 (in_State w h).2, by decide, rfl, rfl, rfl, (gk_2 (List.mem_of_getElem? (i := 56) rfl) rfl)⟩
set_option maxRecDepth 100000 in
theorem fo_State_22 : fOk "CookedLaw$State" 22 6 6 1 true := ⟨"CookedLaw$State", T_State, 10, rfl, fun w h => gtb_of (in_State w h).1 (in_State w h).2, by decide, rfl, rfl, rfl, Or.inl (gk_2 (List.mem_of_getElem? (i := 59) rfl) rfl)⟩
set_option maxRecDepth 100000 in
theorem ff_State_22 : ∃ (T : u_T) (N : Nat), cls[6]? = some ("CookedLaw$State", T, N) ∧ (∀ w ∈ u_ws "CookedLaw$State" T N, w ∈ gtb) ∧ 6 < N ∧ (fks 6)[6]? = some (1, 6) ∧ (T 6).1 = "CookedLaw$State" ∧ (T 6).2.2.2 = true ∧ Cond.fieldLink "CookedLaw$State" 22 "CookedLaw$State" (T 6).2.1 (T 6).2.2.1 ∈ gtb := ⟨T_State, 10, rfl, fun w h => gtb_of (in_State w h).1 (in_State w h).2, by decide, rfl, rfl, rfl, (gk_2 (List.mem_of_getElem? (i := 59) rfl) rfl)⟩
set_option maxRecDepth 100000 in
theorem fo_State_25 : fOk "CookedLaw$State" 25 6 7 1 true := ⟨"CookedLaw$State", T_State, 10, rfl, fun w h => gtb_of (in_State w h).1 (in_State w h).2, by decide, rfl, rfl, rfl, Or.inl (gk_2 (List.mem_of_getElem? (i := 61) rfl) rfl)⟩
set_option maxRecDepth 100000 in
theorem ff_State_25 : ∃ (T : u_T) (N : Nat), cls[6]? = some ("CookedLaw$State", T, N) ∧ (∀ w ∈ u_ws "CookedLaw$State" T N, w ∈ gtb) ∧ 7 < N ∧ (fks 6)[7]? = some (1, 7) ∧ (T 7).1 = "CookedLaw$State" ∧ (T 7).2.2.2 = true ∧ Cond.fieldLink "CookedLaw$State" 25 "CookedLaw$State" (T 7).2.1 (T 7).2.2.1 ∈ gtb := ⟨T_State, 10, rfl, fun w h => gtb_of (in_State w h).1 (in_State w h).2, by decide, rfl, rfl, rfl, (gk_2 (List.mem_of_getElem? (i := 61) rfl) rfl)⟩
set_option maxRecDepth 100000 in
theorem fo_State_28 : fOk "CookedLaw$State" 28 6 8 1 true := ⟨"CookedLaw$State", T_State, 10, rfl, fun w h => gtb_of (in_State w h).1 (in_State w h).2, by decide, rfl, rfl, rfl, Or.inl (gk_2 (List.mem_of_getElem? (i := 63) rfl) rfl)⟩
set_option maxRecDepth 100000 in
theorem ff_State_28 : ∃ (T : u_T) (N : Nat), cls[6]? = some ("CookedLaw$State", T, N) ∧ (∀ w ∈ u_ws "CookedLaw$State" T N, w ∈ gtb) ∧ 8 < N ∧ (fks 6)[8]? = some (1, 8) ∧ (T 8).1 = "CookedLaw$State" ∧ (T 8).2.2.2 = true ∧ Cond.fieldLink "CookedLaw$State" 28 "CookedLaw$State" (T 8).2.1 (T 8).2.2.1 ∈ gtb := ⟨T_State, 10, rfl, fun w h => gtb_of (in_State w h).1 (in_State w h).2, by decide, rfl, rfl, rfl, (gk_2 (List.mem_of_getElem? (i := 63) rfl) rfl)⟩
set_option maxRecDepth 100000 in
theorem fo_State_31 : fOk "CookedLaw$State" 31 6 9 1 true := ⟨"CookedLaw$State", T_State, 10, rfl, fun w h => gtb_of (in_State w h).1 (in_State w h).2, by decide, rfl, rfl, rfl, Or.inl (gk_2 (List.mem_of_getElem? (i := 64) rfl) rfl)⟩
set_option maxRecDepth 100000 in
theorem ff_State_31 : ∃ (T : u_T) (N : Nat), cls[6]? = some ("CookedLaw$State", T, N) ∧ (∀ w ∈ u_ws "CookedLaw$State" T N, w ∈ gtb) ∧ 9 < N ∧ (fks 6)[9]? = some (1, 9) ∧ (T 9).1 = "CookedLaw$State" ∧ (T 9).2.2.2 = true ∧ Cond.fieldLink "CookedLaw$State" 31 "CookedLaw$State" (T 9).2.1 (T 9).2.2.1 ∈ gtb := ⟨T_State, 10, rfl, fun w h => gtb_of (in_State w h).1 (in_State w h).2, by decide, rfl, rfl, rfl, (gk_2 (List.mem_of_getElem? (i := 64) rfl) rfl)⟩
set_option maxRecDepth 100000 in
theorem fo_State_34 : fOk "CookedLaw$State" 34 6 0 0 false := ⟨"CookedLaw$State", T_State, 10, rfl, fun w h => gtb_of (in_State w h).1 (in_State w h).2, by decide, rfl, rfl, rfl, Or.inl (gk_2 (List.mem_of_getElem? (i := 44) rfl) rfl)⟩
set_option maxRecDepth 100000 in
theorem fo_State_37 : fOk "CookedLaw$State" 37 6 1 0 false := ⟨"CookedLaw$State", T_State, 10, rfl, fun w h => gtb_of (in_State w h).1 (in_State w h).2, by decide, rfl, rfl, rfl, Or.inl (gk_2 (List.mem_of_getElem? (i := 48) rfl) rfl)⟩
set_option maxRecDepth 100000 in
theorem fo_State_40 : fOk "CookedLaw$State" 40 6 2 0 false := ⟨"CookedLaw$State", T_State, 10, rfl, fun w h => gtb_of (in_State w h).1 (in_State w h).2, by decide, rfl, rfl, rfl, Or.inl (gk_2 (List.mem_of_getElem? (i := 50) rfl) rfl)⟩
set_option maxRecDepth 100000 in
theorem fo_State_47 : fOk "CookedLaw$State" 47 4 0 0 false := ⟨"CookedLaw$Land", T_Land, 18, rfl, fun w h => gtb_of (in_Land w h).1 (in_Land w h).2, by decide, rfl, rfl, rfl, Or.inr ⟨"CookedLaw", (tk_1 (List.mem_of_getElem? (i := 189) rfl))⟩⟩
set_option maxRecDepth 100000 in
theorem fo_State_52 : fOk "CookedLaw$State" 52 4 5 1 true := ⟨"CookedLaw$Land", T_Land, 18, rfl, fun w h => gtb_of (in_Land w h).1 (in_Land w h).2, by decide, rfl, rfl, rfl, Or.inr ⟨"CookedLaw", (tk_1 (List.mem_of_getElem? (i := 209) rfl))⟩⟩
set_option maxRecDepth 100000 in
theorem fo_State_76 : fOk "CookedLaw$State" 76 4 4 0 false := ⟨"CookedLaw$Land", T_Land, 18, rfl, fun w h => gtb_of (in_Land w h).1 (in_Land w h).2, by decide, rfl, rfl, rfl, Or.inr ⟨"CookedLaw", (tk_1 (List.mem_of_getElem? (i := 205) rfl))⟩⟩
set_option maxRecDepth 100000 in
theorem fo_Tape_9 : fOk "CookedLaw$Tape" 9 1 0 1 true := ⟨"CookedLaw$Tape", T_Tape, 2, rfl, fun w h => gtb_of (in_Tape w h).1 (in_Tape w h).2, by decide, rfl, rfl, rfl, Or.inl (gk_1 (List.mem_of_getElem? (i := 34) rfl) rfl)⟩
set_option maxRecDepth 100000 in
theorem ff_Tape_9 : ∃ (T : u_T) (N : Nat), cls[1]? = some ("CookedLaw$Tape", T, N) ∧ (∀ w ∈ u_ws "CookedLaw$Tape" T N, w ∈ gtb) ∧ 0 < N ∧ (fks 1)[0]? = some (1, 0) ∧ (T 0).1 = "CookedLaw$Tape" ∧ (T 0).2.2.2 = true ∧ Cond.fieldLink "CookedLaw$Tape" 9 "CookedLaw$Tape" (T 0).2.1 (T 0).2.2.1 ∈ gtb := ⟨T_Tape, 2, rfl, fun w h => gtb_of (in_Tape w h).1 (in_Tape w h).2, by decide, rfl, rfl, rfl, (gk_1 (List.mem_of_getElem? (i := 34) rfl) rfl)⟩
set_option maxRecDepth 100000 in
theorem fo_Tape_15 : fOk "CookedLaw$Tape" 15 1 1 0 false := ⟨"CookedLaw$Tape", T_Tape, 2, rfl, fun w h => gtb_of (in_Tape w h).1 (in_Tape w h).2, by decide, rfl, rfl, rfl, Or.inl (gk_1 (List.mem_of_getElem? (i := 36) rfl) rfl)⟩
set_option maxRecDepth 100000 in
theorem fo_Tokens_9 : fOk "CookedLaw$Tokens" 9 3 0 1 true := ⟨"CookedLaw$Tokens", T_Tokens, 4, rfl, fun w h => gtb_of (in_Tokens w h).1 (in_Tokens w h).2, by decide, rfl, rfl, rfl, Or.inl (gk_1 (List.mem_of_getElem? (i := 109) rfl) rfl)⟩
set_option maxRecDepth 100000 in
theorem ff_Tokens_9 : ∃ (T : u_T) (N : Nat), cls[3]? = some ("CookedLaw$Tokens", T, N) ∧ (∀ w ∈ u_ws "CookedLaw$Tokens" T N, w ∈ gtb) ∧ 0 < N ∧ (fks 3)[0]? = some (1, 0) ∧ (T 0).1 = "CookedLaw$Tokens" ∧ (T 0).2.2.2 = true ∧ Cond.fieldLink "CookedLaw$Tokens" 9 "CookedLaw$Tokens" (T 0).2.1 (T 0).2.2.1 ∈ gtb := ⟨T_Tokens, 4, rfl, fun w h => gtb_of (in_Tokens w h).1 (in_Tokens w h).2, by decide, rfl, rfl, rfl, (gk_1 (List.mem_of_getElem? (i := 109) rfl) rfl)⟩
set_option maxRecDepth 100000 in
theorem fo_Tokens_15 : fOk "CookedLaw$Tokens" 15 3 1 1 true := ⟨"CookedLaw$Tokens", T_Tokens, 4, rfl, fun w h => gtb_of (in_Tokens w h).1 (in_Tokens w h).2, by decide, rfl, rfl, rfl, Or.inl (gk_1 (List.mem_of_getElem? (i := 110) rfl) rfl)⟩
set_option maxRecDepth 100000 in
theorem ff_Tokens_15 : ∃ (T : u_T) (N : Nat), cls[3]? = some ("CookedLaw$Tokens", T, N) ∧ (∀ w ∈ u_ws "CookedLaw$Tokens" T N, w ∈ gtb) ∧ 1 < N ∧ (fks 3)[1]? = some (1, 1) ∧ (T 1).1 = "CookedLaw$Tokens" ∧ (T 1).2.2.2 = true ∧ Cond.fieldLink "CookedLaw$Tokens" 15 "CookedLaw$Tokens" (T 1).2.1 (T 1).2.2.1 ∈ gtb := ⟨T_Tokens, 4, rfl, fun w h => gtb_of (in_Tokens w h).1 (in_Tokens w h).2, by decide, rfl, rfl, rfl, (gk_1 (List.mem_of_getElem? (i := 110) rfl) rfl)⟩
set_option maxRecDepth 100000 in
theorem fo_Tokens_19 : fOk "CookedLaw$Tokens" 19 3 2 1 true := ⟨"CookedLaw$Tokens", T_Tokens, 4, rfl, fun w h => gtb_of (in_Tokens w h).1 (in_Tokens w h).2, by decide, rfl, rfl, rfl, Or.inl (gk_1 (List.mem_of_getElem? (i := 112) rfl) rfl)⟩
set_option maxRecDepth 100000 in
theorem ff_Tokens_19 : ∃ (T : u_T) (N : Nat), cls[3]? = some ("CookedLaw$Tokens", T, N) ∧ (∀ w ∈ u_ws "CookedLaw$Tokens" T N, w ∈ gtb) ∧ 2 < N ∧ (fks 3)[2]? = some (1, 2) ∧ (T 2).1 = "CookedLaw$Tokens" ∧ (T 2).2.2.2 = true ∧ Cond.fieldLink "CookedLaw$Tokens" 19 "CookedLaw$Tokens" (T 2).2.1 (T 2).2.2.1 ∈ gtb := ⟨T_Tokens, 4, rfl, fun w h => gtb_of (in_Tokens w h).1 (in_Tokens w h).2, by decide, rfl, rfl, rfl, (gk_1 (List.mem_of_getElem? (i := 112) rfl) rfl)⟩
set_option maxRecDepth 100000 in
theorem fo_Tokens_22 : fOk "CookedLaw$Tokens" 22 3 3 1 true := ⟨"CookedLaw$Tokens", T_Tokens, 4, rfl, fun w h => gtb_of (in_Tokens w h).1 (in_Tokens w h).2, by decide, rfl, rfl, rfl, Or.inl (gk_1 (List.mem_of_getElem? (i := 114) rfl) rfl)⟩
set_option maxRecDepth 100000 in
theorem ff_Tokens_22 : ∃ (T : u_T) (N : Nat), cls[3]? = some ("CookedLaw$Tokens", T, N) ∧ (∀ w ∈ u_ws "CookedLaw$Tokens" T N, w ∈ gtb) ∧ 3 < N ∧ (fks 3)[3]? = some (1, 3) ∧ (T 3).1 = "CookedLaw$Tokens" ∧ (T 3).2.2.2 = true ∧ Cond.fieldLink "CookedLaw$Tokens" 22 "CookedLaw$Tokens" (T 3).2.1 (T 3).2.2.1 ∈ gtb := ⟨T_Tokens, 4, rfl, fun w h => gtb_of (in_Tokens w h).1 (in_Tokens w h).2, by decide, rfl, rfl, rfl, (gk_1 (List.mem_of_getElem? (i := 114) rfl) rfl)⟩
set_option maxRecDepth 100000 in
theorem fo_Tokens_55 : fOk "CookedLaw$Tokens" 55 1 1 0 false := ⟨"CookedLaw$Tape", T_Tape, 2, rfl, fun w h => gtb_of (in_Tape w h).1 (in_Tape w h).2, by decide, rfl, rfl, rfl, Or.inr ⟨"CookedLaw", (tk_1 (List.mem_of_getElem? (i := 37) rfl))⟩⟩
set_option maxRecDepth 100000 in
theorem fo_Told_11 : fOk "CookedLaw$Told" 11 9 0 1 true := ⟨"CookedLaw$Told", T_Told, 9, rfl, fun w h => gtb_of (in_Told w h).1 (in_Told w h).2, by decide, rfl, rfl, rfl, Or.inl (gk_2 (List.mem_of_getElem? (i := 127) rfl) rfl)⟩
set_option maxRecDepth 100000 in
theorem ff_Told_11 : ∃ (T : u_T) (N : Nat), cls[9]? = some ("CookedLaw$Told", T, N) ∧ (∀ w ∈ u_ws "CookedLaw$Told" T N, w ∈ gtb) ∧ 0 < N ∧ (fks 9)[0]? = some (1, 0) ∧ (T 0).1 = "CookedLaw$Told" ∧ (T 0).2.2.2 = true ∧ Cond.fieldLink "CookedLaw$Told" 11 "CookedLaw$Told" (T 0).2.1 (T 0).2.2.1 ∈ gtb := ⟨T_Told, 9, rfl, fun w h => gtb_of (in_Told w h).1 (in_Told w h).2, by decide, rfl, rfl, rfl, (gk_2 (List.mem_of_getElem? (i := 127) rfl) rfl)⟩
set_option maxRecDepth 100000 in
theorem fo_Told_15 : fOk "CookedLaw$Told" 15 9 1 1 true := ⟨"CookedLaw$Told", T_Told, 9, rfl, fun w h => gtb_of (in_Told w h).1 (in_Told w h).2, by decide, rfl, rfl, rfl, Or.inl (gk_2 (List.mem_of_getElem? (i := 128) rfl) rfl)⟩
set_option maxRecDepth 100000 in
theorem ff_Told_15 : ∃ (T : u_T) (N : Nat), cls[9]? = some ("CookedLaw$Told", T, N) ∧ (∀ w ∈ u_ws "CookedLaw$Told" T N, w ∈ gtb) ∧ 1 < N ∧ (fks 9)[1]? = some (1, 1) ∧ (T 1).1 = "CookedLaw$Told" ∧ (T 1).2.2.2 = true ∧ Cond.fieldLink "CookedLaw$Told" 15 "CookedLaw$Told" (T 1).2.1 (T 1).2.2.1 ∈ gtb := ⟨T_Told, 9, rfl, fun w h => gtb_of (in_Told w h).1 (in_Told w h).2, by decide, rfl, rfl, rfl, (gk_2 (List.mem_of_getElem? (i := 128) rfl) rfl)⟩
set_option maxRecDepth 100000 in
theorem fo_Told_18 : fOk "CookedLaw$Told" 18 9 2 1 true := ⟨"CookedLaw$Told", T_Told, 9, rfl, fun w h => gtb_of (in_Told w h).1 (in_Told w h).2, by decide, rfl, rfl, rfl, Or.inl (gk_2 (List.mem_of_getElem? (i := 129) rfl) rfl)⟩
set_option maxRecDepth 100000 in
theorem ff_Told_18 : ∃ (T : u_T) (N : Nat), cls[9]? = some ("CookedLaw$Told", T, N) ∧ (∀ w ∈ u_ws "CookedLaw$Told" T N, w ∈ gtb) ∧ 2 < N ∧ (fks 9)[2]? = some (1, 2) ∧ (T 2).1 = "CookedLaw$Told" ∧ (T 2).2.2.2 = true ∧ Cond.fieldLink "CookedLaw$Told" 18 "CookedLaw$Told" (T 2).2.1 (T 2).2.2.1 ∈ gtb := ⟨T_Told, 9, rfl, fun w h => gtb_of (in_Told w h).1 (in_Told w h).2, by decide, rfl, rfl, rfl, (gk_2 (List.mem_of_getElem? (i := 129) rfl) rfl)⟩
set_option maxRecDepth 100000 in
theorem fo_Told_21 : fOk "CookedLaw$Told" 21 9 4 1 true := ⟨"CookedLaw$Told", T_Told, 9, rfl, fun w h => gtb_of (in_Told w h).1 (in_Told w h).2, by decide, rfl, rfl, rfl, Or.inl (gk_2 (List.mem_of_getElem? (i := 132) rfl) rfl)⟩
set_option maxRecDepth 100000 in
theorem ff_Told_21 : ∃ (T : u_T) (N : Nat), cls[9]? = some ("CookedLaw$Told", T, N) ∧ (∀ w ∈ u_ws "CookedLaw$Told" T N, w ∈ gtb) ∧ 4 < N ∧ (fks 9)[4]? = some (1, 4) ∧ (T 4).1 = "CookedLaw$Told" ∧ (T 4).2.2.2 = true ∧ Cond.fieldLink "CookedLaw$Told" 21 "CookedLaw$Told" (T 4).2.1 (T 4).2.2.1 ∈ gtb := ⟨T_Told, 9, rfl, fun w h => gtb_of (in_Told w h).1 (in_Told w h).2, by decide, rfl, rfl, rfl, (gk_2 (List.mem_of_getElem? (i := 132) rfl) rfl)⟩
set_option maxRecDepth 100000 in
theorem fo_Told_24 : fOk "CookedLaw$Told" 24 9 5 1 true := ⟨"CookedLaw$Told", T_Told, 9, rfl, fun w h => gtb_of (in_Told w h).1 (in_Told w h).2, by decide, rfl, rfl, rfl, Or.inl (gk_2 (List.mem_of_getElem? (i := 133) rfl) rfl)⟩
set_option maxRecDepth 100000 in
theorem ff_Told_24 : ∃ (T : u_T) (N : Nat), cls[9]? = some ("CookedLaw$Told", T, N) ∧ (∀ w ∈ u_ws "CookedLaw$Told" T N, w ∈ gtb) ∧ 5 < N ∧ (fks 9)[5]? = some (1, 5) ∧ (T 5).1 = "CookedLaw$Told" ∧ (T 5).2.2.2 = true ∧ Cond.fieldLink "CookedLaw$Told" 24 "CookedLaw$Told" (T 5).2.1 (T 5).2.2.1 ∈ gtb := ⟨T_Told, 9, rfl, fun w h => gtb_of (in_Told w h).1 (in_Told w h).2, by decide, rfl, rfl, rfl, (gk_2 (List.mem_of_getElem? (i := 133) rfl) rfl)⟩
set_option maxRecDepth 100000 in
theorem fo_Told_27 : fOk "CookedLaw$Told" 27 9 6 1 true := ⟨"CookedLaw$Told", T_Told, 9, rfl, fun w h => gtb_of (in_Told w h).1 (in_Told w h).2, by decide, rfl, rfl, rfl, Or.inl (gk_2 (List.mem_of_getElem? (i := 134) rfl) rfl)⟩
set_option maxRecDepth 100000 in
theorem ff_Told_27 : ∃ (T : u_T) (N : Nat), cls[9]? = some ("CookedLaw$Told", T, N) ∧ (∀ w ∈ u_ws "CookedLaw$Told" T N, w ∈ gtb) ∧ 6 < N ∧ (fks 9)[6]? = some (1, 6) ∧ (T 6).1 = "CookedLaw$Told" ∧ (T 6).2.2.2 = true ∧ Cond.fieldLink "CookedLaw$Told" 27 "CookedLaw$Told" (T 6).2.1 (T 6).2.2.1 ∈ gtb := ⟨T_Told, 9, rfl, fun w h => gtb_of (in_Told w h).1 (in_Told w h).2, by decide, rfl, rfl, rfl, (gk_2 (List.mem_of_getElem? (i := 134) rfl) rfl)⟩
set_option maxRecDepth 100000 in
theorem fo_Told_30 : fOk "CookedLaw$Told" 30 9 8 1 true := ⟨"CookedLaw$Told", T_Told, 9, rfl, fun w h => gtb_of (in_Told w h).1 (in_Told w h).2, by decide, rfl, rfl, rfl, Or.inl (gk_2 (List.mem_of_getElem? (i := 137) rfl) rfl)⟩
set_option maxRecDepth 100000 in
theorem ff_Told_30 : ∃ (T : u_T) (N : Nat), cls[9]? = some ("CookedLaw$Told", T, N) ∧ (∀ w ∈ u_ws "CookedLaw$Told" T N, w ∈ gtb) ∧ 8 < N ∧ (fks 9)[8]? = some (1, 8) ∧ (T 8).1 = "CookedLaw$Told" ∧ (T 8).2.2.2 = true ∧ Cond.fieldLink "CookedLaw$Told" 30 "CookedLaw$Told" (T 8).2.1 (T 8).2.2.1 ∈ gtb := ⟨T_Told, 9, rfl, fun w h => gtb_of (in_Told w h).1 (in_Told w h).2, by decide, rfl, rfl, rfl, (gk_2 (List.mem_of_getElem? (i := 137) rfl) rfl)⟩
set_option maxRecDepth 100000 in
theorem fo_Told_33 : fOk "CookedLaw$Told" 33 9 3 0 false := ⟨"CookedLaw$Told", T_Told, 9, rfl, fun w h => gtb_of (in_Told w h).1 (in_Told w h).2, by decide, rfl, rfl, rfl, Or.inl (gk_2 (List.mem_of_getElem? (i := 130) rfl) rfl)⟩
set_option maxRecDepth 100000 in
theorem fo_Told_41 : fOk "CookedLaw$Told" 41 9 7 0 false := ⟨"CookedLaw$Told", T_Told, 9, rfl, fun w h => gtb_of (in_Told w h).1 (in_Told w h).2, by decide, rfl, rfl, rfl, Or.inl (gk_2 (List.mem_of_getElem? (i := 135) rfl) rfl)⟩
set_option maxRecDepth 100000 in
theorem fo_Told_44 : fOk "CookedLaw$Told" 44 4 1 0 false := ⟨"CookedLaw$Land", T_Land, 18, rfl, fun w h => gtb_of (in_Land w h).1 (in_Land w h).2, by decide, rfl, rfl, rfl, Or.inr ⟨"CookedLaw", (tk_1 (List.mem_of_getElem? (i := 195) rfl))⟩⟩
set_option maxRecDepth 100000 in
theorem fo_Told_60 : fOk "CookedLaw$Told" 60 4 0 0 false := ⟨"CookedLaw$Land", T_Land, 18, rfl, fun w h => gtb_of (in_Land w h).1 (in_Land w h).2, by decide, rfl, rfl, rfl, Or.inr ⟨"CookedLaw", (tk_1 (List.mem_of_getElem? (i := 190) rfl))⟩⟩
set_option maxRecDepth 100000 in
theorem fo_Mod_13 : fOk "CookedLawModel" 13 12 1 1 true := ⟨"CookedLawModel", T_Mod, 71, rfl, fun w h => gtb_of (in_Mod w h).1 (in_Mod w h).2, by decide, rfl, rfl, rfl, Or.inl (gk_5 (List.mem_of_getElem? (i := 204) rfl) rfl)⟩
set_option maxRecDepth 100000 in
theorem ff_Mod_13 : ∃ (T : u_T) (N : Nat), cls[12]? = some ("CookedLawModel", T, N) ∧ (∀ w ∈ u_ws "CookedLawModel" T N, w ∈ gtb) ∧ 1 < N ∧ (fks 12)[1]? = some (1, 1) ∧ (T 1).1 = "CookedLawModel" ∧ (T 1).2.2.2 = true ∧ Cond.fieldLink "CookedLawModel" 13 "CookedLawModel" (T 1).2.1 (T 1).2.2.1 ∈ gtb := ⟨T_Mod, 71, rfl, fun w h => gtb_of (in_Mod w h).1 (in_Mod w h).2, by decide, rfl, rfl, rfl, (gk_5 (List.mem_of_getElem? (i := 204) rfl) rfl)⟩
set_option maxRecDepth 100000 in
theorem fo_Mod_17 : fOk "CookedLawModel" 17 12 3 1 true := ⟨"CookedLawModel", T_Mod, 71, rfl, fun w h => gtb_of (in_Mod w h).1 (in_Mod w h).2, by decide, rfl, rfl, rfl, Or.inl (gk_5 (List.mem_of_getElem? (i := 206) rfl) rfl)⟩
set_option maxRecDepth 100000 in
theorem ff_Mod_17 : ∃ (T : u_T) (N : Nat), cls[12]? = some ("CookedLawModel", T, N) ∧ (∀ w ∈ u_ws "CookedLawModel" T N, w ∈ gtb) ∧ 3 < N ∧ (fks 12)[3]? = some (1, 3) ∧ (T 3).1 = "CookedLawModel" ∧ (T 3).2.2.2 = true ∧ Cond.fieldLink "CookedLawModel" 17 "CookedLawModel" (T 3).2.1 (T 3).2.2.1 ∈ gtb := ⟨T_Mod, 71, rfl, fun w h => gtb_of (in_Mod w h).1 (in_Mod w h).2, by decide, rfl, rfl, rfl, (gk_5 (List.mem_of_getElem? (i := 206) rfl) rfl)⟩
set_option maxRecDepth 100000 in
theorem fo_Mod_20 : fOk "CookedLawModel" 20 12 5 1 true := ⟨"CookedLawModel", T_Mod, 71, rfl, fun w h => gtb_of (in_Mod w h).1 (in_Mod w h).2, by decide, rfl, rfl, rfl, Or.inl (gk_5 (List.mem_of_getElem? (i := 208) rfl) rfl)⟩
set_option maxRecDepth 100000 in
theorem ff_Mod_20 : ∃ (T : u_T) (N : Nat), cls[12]? = some ("CookedLawModel", T, N) ∧ (∀ w ∈ u_ws "CookedLawModel" T N, w ∈ gtb) ∧ 5 < N ∧ (fks 12)[5]? = some (1, 5) ∧ (T 5).1 = "CookedLawModel" ∧ (T 5).2.2.2 = true ∧ Cond.fieldLink "CookedLawModel" 20 "CookedLawModel" (T 5).2.1 (T 5).2.2.1 ∈ gtb := ⟨T_Mod, 71, rfl, fun w h => gtb_of (in_Mod w h).1 (in_Mod w h).2, by decide, rfl, rfl, rfl, (gk_5 (List.mem_of_getElem? (i := 208) rfl) rfl)⟩
set_option maxRecDepth 100000 in
theorem fo_Mod_24 : fOk "CookedLawModel" 24 12 6 1 true := ⟨"CookedLawModel", T_Mod, 71, rfl, fun w h => gtb_of (in_Mod w h).1 (in_Mod w h).2, by decide, rfl, rfl, rfl, Or.inl (gk_5 (List.mem_of_getElem? (i := 209) rfl) rfl)⟩
set_option maxRecDepth 100000 in
theorem ff_Mod_24 : ∃ (T : u_T) (N : Nat), cls[12]? = some ("CookedLawModel", T, N) ∧ (∀ w ∈ u_ws "CookedLawModel" T N, w ∈ gtb) ∧ 6 < N ∧ (fks 12)[6]? = some (1, 6) ∧ (T 6).1 = "CookedLawModel" ∧ (T 6).2.2.2 = true ∧ Cond.fieldLink "CookedLawModel" 24 "CookedLawModel" (T 6).2.1 (T 6).2.2.1 ∈ gtb := ⟨T_Mod, 71, rfl, fun w h => gtb_of (in_Mod w h).1 (in_Mod w h).2, by decide, rfl, rfl, rfl, (gk_5 (List.mem_of_getElem? (i := 209) rfl) rfl)⟩
set_option maxRecDepth 100000 in
theorem fo_Mod_27 : fOk "CookedLawModel" 27 12 7 1 true := ⟨"CookedLawModel", T_Mod, 71, rfl, fun w h => gtb_of (in_Mod w h).1 (in_Mod w h).2, by decide, rfl, rfl, rfl, Or.inl (gk_5 (List.mem_of_getElem? (i := 210) rfl) rfl)⟩
set_option maxRecDepth 100000 in
theorem ff_Mod_27 : ∃ (T : u_T) (N : Nat), cls[12]? = some ("CookedLawModel", T, N) ∧ (∀ w ∈ u_ws "CookedLawModel" T N, w ∈ gtb) ∧ 7 < N ∧ (fks 12)[7]? = some (1, 7) ∧ (T 7).1 = "CookedLawModel" ∧ (T 7).2.2.2 = true ∧ Cond.fieldLink "CookedLawModel" 27 "CookedLawModel" (T 7).2.1 (T 7).2.2.1 ∈ gtb := ⟨T_Mod, 71, rfl, fun w h => gtb_of (in_Mod w h).1 (in_Mod w h).2, by decide, rfl, rfl, rfl, (gk_5 (List.mem_of_getElem? (i := 210) rfl) rfl)⟩
set_option maxRecDepth 100000 in
theorem fo_Mod_30 : fOk "CookedLawModel" 30 12 8 1 true := ⟨"CookedLawModel", T_Mod, 71, rfl, fun w h => gtb_of (in_Mod w h).1 (in_Mod w h).2, by decide, rfl, rfl, rfl, Or.inl (gk_5 (List.mem_of_getElem? (i := 211) rfl) rfl)⟩
set_option maxRecDepth 100000 in
theorem ff_Mod_30 : ∃ (T : u_T) (N : Nat), cls[12]? = some ("CookedLawModel", T, N) ∧ (∀ w ∈ u_ws "CookedLawModel" T N, w ∈ gtb) ∧ 8 < N ∧ (fks 12)[8]? = some (1, 8) ∧ (T 8).1 = "CookedLawModel" ∧ (T 8).2.2.2 = true ∧ Cond.fieldLink "CookedLawModel" 30 "CookedLawModel" (T 8).2.1 (T 8).2.2.1 ∈ gtb := ⟨T_Mod, 71, rfl, fun w h => gtb_of (in_Mod w h).1 (in_Mod w h).2, by decide, rfl, rfl, rfl, (gk_5 (List.mem_of_getElem? (i := 211) rfl) rfl)⟩
set_option maxRecDepth 100000 in
theorem fo_Mod_34 : fOk "CookedLawModel" 34 12 9 1 true := ⟨"CookedLawModel", T_Mod, 71, rfl, fun w h => gtb_of (in_Mod w h).1 (in_Mod w h).2, by decide, rfl, rfl, rfl, Or.inl (gk_5 (List.mem_of_getElem? (i := 212) rfl) rfl)⟩
set_option maxRecDepth 100000 in
theorem ff_Mod_34 : ∃ (T : u_T) (N : Nat), cls[12]? = some ("CookedLawModel", T, N) ∧ (∀ w ∈ u_ws "CookedLawModel" T N, w ∈ gtb) ∧ 9 < N ∧ (fks 12)[9]? = some (1, 9) ∧ (T 9).1 = "CookedLawModel" ∧ (T 9).2.2.2 = true ∧ Cond.fieldLink "CookedLawModel" 34 "CookedLawModel" (T 9).2.1 (T 9).2.2.1 ∈ gtb := ⟨T_Mod, 71, rfl, fun w h => gtb_of (in_Mod w h).1 (in_Mod w h).2, by decide, rfl, rfl, rfl, (gk_5 (List.mem_of_getElem? (i := 212) rfl) rfl)⟩
set_option maxRecDepth 100000 in
theorem fo_Mod_37 : fOk "CookedLawModel" 37 12 17 0 false := ⟨"CookedLawModel", T_Mod, 71, rfl, fun w h => gtb_of (in_Mod w h).1 (in_Mod w h).2, by decide, rfl, rfl, rfl, Or.inl (gk_5 (List.mem_of_getElem? (i := 220) rfl) rfl)⟩
set_option maxRecDepth 100000 in
theorem fo_Mod_40 : fOk "CookedLawModel" 40 12 21 1 true := ⟨"CookedLawModel", T_Mod, 71, rfl, fun w h => gtb_of (in_Mod w h).1 (in_Mod w h).2, by decide, rfl, rfl, rfl, Or.inl (gk_5 (List.mem_of_getElem? (i := 224) rfl) rfl)⟩
set_option maxRecDepth 100000 in
theorem ff_Mod_40 : ∃ (T : u_T) (N : Nat), cls[12]? = some ("CookedLawModel", T, N) ∧ (∀ w ∈ u_ws "CookedLawModel" T N, w ∈ gtb) ∧ 21 < N ∧ (fks 12)[21]? = some (1, 21) ∧ (T 21).1 = "CookedLawModel" ∧ (T 21).2.2.2 = true ∧ Cond.fieldLink "CookedLawModel" 40 "CookedLawModel" (T 21).2.1 (T 21).2.2.1 ∈ gtb := ⟨T_Mod, 71, rfl, fun w h => gtb_of (in_Mod w h).1 (in_Mod w h).2, by decide, rfl, rfl, rfl, (gk_5 (List.mem_of_getElem? (i := 224) rfl) rfl)⟩
set_option maxRecDepth 100000 in
theorem fo_Mod_43 : fOk "CookedLawModel" 43 12 22 1 true := ⟨"CookedLawModel", T_Mod, 71, rfl, fun w h => gtb_of (in_Mod w h).1 (in_Mod w h).2, by decide, rfl, rfl, rfl, Or.inl (gk_5 (List.mem_of_getElem? (i := 225) rfl) rfl)⟩
set_option maxRecDepth 100000 in
theorem ff_Mod_43 : ∃ (T : u_T) (N : Nat), cls[12]? = some ("CookedLawModel", T, N) ∧ (∀ w ∈ u_ws "CookedLawModel" T N, w ∈ gtb) ∧ 22 < N ∧ (fks 12)[22]? = some (1, 22) ∧ (T 22).1 = "CookedLawModel" ∧ (T 22).2.2.2 = true ∧ Cond.fieldLink "CookedLawModel" 43 "CookedLawModel" (T 22).2.1 (T 22).2.2.1 ∈ gtb := ⟨T_Mod, 71, rfl, fun w h => gtb_of (in_Mod w h).1 (in_Mod w h).2, by decide, rfl, rfl, rfl, (gk_5 (List.mem_of_getElem? (i := 225) rfl) rfl)⟩
set_option maxRecDepth 100000 in
theorem fo_Mod_46 : fOk "CookedLawModel" 46 12 23 1 true := ⟨"CookedLawModel", T_Mod, 71, rfl, fun w h => gtb_of (in_Mod w h).1 (in_Mod w h).2, by decide, rfl, rfl, rfl, Or.inl (gk_5 (List.mem_of_getElem? (i := 226) rfl) rfl)⟩
set_option maxRecDepth 100000 in
theorem ff_Mod_46 : ∃ (T : u_T) (N : Nat), cls[12]? = some ("CookedLawModel", T, N) ∧ (∀ w ∈ u_ws "CookedLawModel" T N, w ∈ gtb) ∧ 23 < N ∧ (fks 12)[23]? = some (1, 23) ∧ (T 23).1 = "CookedLawModel" ∧ (T 23).2.2.2 = true ∧ Cond.fieldLink "CookedLawModel" 46 "CookedLawModel" (T 23).2.1 (T 23).2.2.1 ∈ gtb := ⟨T_Mod, 71, rfl, fun w h => gtb_of (in_Mod w h).1 (in_Mod w h).2, by decide, rfl, rfl, rfl, (gk_5 (List.mem_of_getElem? (i := 226) rfl) rfl)⟩
set_option maxRecDepth 100000 in
theorem fo_Mod_49 : fOk "CookedLawModel" 49 12 24 1 true := ⟨"CookedLawModel", T_Mod, 71, rfl, fun w h => gtb_of (in_Mod w h).1 (in_Mod w h).2, by decide, rfl, rfl, rfl, Or.inl (gk_5 (List.mem_of_getElem? (i := 227) rfl) rfl)⟩
set_option maxRecDepth 100000 in
theorem ff_Mod_49 : ∃ (T : u_T) (N : Nat), cls[12]? = some ("CookedLawModel", T, N) ∧ (∀ w ∈ u_ws "CookedLawModel" T N, w ∈ gtb) ∧ 24 < N ∧ (fks 12)[24]? = some (1, 24) ∧ (T 24).1 = "CookedLawModel" ∧ (T 24).2.2.2 = true ∧ Cond.fieldLink "CookedLawModel" 49 "CookedLawModel" (T 24).2.1 (T 24).2.2.1 ∈ gtb := ⟨T_Mod, 71, rfl, fun w h => gtb_of (in_Mod w h).1 (in_Mod w h).2, by decide, rfl, rfl, rfl, (gk_5 (List.mem_of_getElem? (i := 227) rfl) rfl)⟩
set_option maxRecDepth 100000 in
theorem fo_Mod_52 : fOk "CookedLawModel" 52 12 25 1 true := ⟨"CookedLawModel", T_Mod, 71, rfl, fun w h => gtb_of (in_Mod w h).1 (in_Mod w h).2, by decide, rfl, rfl, rfl, Or.inl (gk_5 (List.mem_of_getElem? (i := 228) rfl) rfl)⟩
set_option maxRecDepth 100000 in
theorem ff_Mod_52 : ∃ (T : u_T) (N : Nat), cls[12]? = some ("CookedLawModel", T, N) ∧ (∀ w ∈ u_ws "CookedLawModel" T N, w ∈ gtb) ∧ 25 < N ∧ (fks 12)[25]? = some (1, 25) ∧ (T 25).1 = "CookedLawModel" ∧ (T 25).2.2.2 = true ∧ Cond.fieldLink "CookedLawModel" 52 "CookedLawModel" (T 25).2.1 (T 25).2.2.1 ∈ gtb := ⟨T_Mod, 71, rfl, fun w h => gtb_of (in_Mod w h).1 (in_Mod w h).2, by decide, rfl, rfl, rfl, (gk_5 (List.mem_of_getElem? (i := 228) rfl) rfl)⟩
set_option maxRecDepth 100000 in
theorem fo_Mod_55 : fOk "CookedLawModel" 55 12 26 1 true := ⟨"CookedLawModel", T_Mod, 71, rfl, fun w h => gtb_of (in_Mod w h).1 (in_Mod w h).2, by decide, rfl, rfl, rfl, Or.inl (gk_5 (List.mem_of_getElem? (i := 229) rfl) rfl)⟩
set_option maxRecDepth 100000 in
theorem ff_Mod_55 : ∃ (T : u_T) (N : Nat), cls[12]? = some ("CookedLawModel", T, N) ∧ (∀ w ∈ u_ws "CookedLawModel" T N, w ∈ gtb) ∧ 26 < N ∧ (fks 12)[26]? = some (1, 26) ∧ (T 26).1 = "CookedLawModel" ∧ (T 26).2.2.2 = true ∧ Cond.fieldLink "CookedLawModel" 55 "CookedLawModel" (T 26).2.1 (T 26).2.2.1 ∈ gtb := ⟨T_Mod, 71, rfl, fun w h => gtb_of (in_Mod w h).1 (in_Mod w h).2, by decide, rfl, rfl, rfl, (gk_5 (List.mem_of_getElem? (i := 229) rfl) rfl)⟩
set_option maxRecDepth 100000 in
theorem fo_Mod_58 : fOk "CookedLawModel" 58 12 27 1 true := ⟨"CookedLawModel", T_Mod, 71, rfl, fun w h => gtb_of (in_Mod w h).1 (in_Mod w h).2, by decide, rfl, rfl, rfl, Or.inl (gk_5 (List.mem_of_getElem? (i := 230) rfl) rfl)⟩
set_option maxRecDepth 100000 in
theorem ff_Mod_58 : ∃ (T : u_T) (N : Nat), cls[12]? = some ("CookedLawModel", T, N) ∧ (∀ w ∈ u_ws "CookedLawModel" T N, w ∈ gtb) ∧ 27 < N ∧ (fks 12)[27]? = some (1, 27) ∧ (T 27).1 = "CookedLawModel" ∧ (T 27).2.2.2 = true ∧ Cond.fieldLink "CookedLawModel" 58 "CookedLawModel" (T 27).2.1 (T 27).2.2.1 ∈ gtb := ⟨T_Mod, 71, rfl, fun w h => gtb_of (in_Mod w h).1 (in_Mod w h).2, by decide, rfl, rfl, rfl, (gk_5 (List.mem_of_getElem? (i := 230) rfl) rfl)⟩
set_option maxRecDepth 100000 in
theorem fo_Mod_61 : fOk "CookedLawModel" 61 12 28 1 true := ⟨"CookedLawModel", T_Mod, 71, rfl, fun w h => gtb_of (in_Mod w h).1 (in_Mod w h).2, by decide, rfl, rfl, rfl, Or.inl (gk_5 (List.mem_of_getElem? (i := 231) rfl) rfl)⟩
set_option maxRecDepth 100000 in
theorem ff_Mod_61 : ∃ (T : u_T) (N : Nat), cls[12]? = some ("CookedLawModel", T, N) ∧ (∀ w ∈ u_ws "CookedLawModel" T N, w ∈ gtb) ∧ 28 < N ∧ (fks 12)[28]? = some (1, 28) ∧ (T 28).1 = "CookedLawModel" ∧ (T 28).2.2.2 = true ∧ Cond.fieldLink "CookedLawModel" 61 "CookedLawModel" (T 28).2.1 (T 28).2.2.1 ∈ gtb := ⟨T_Mod, 71, rfl, fun w h => gtb_of (in_Mod w h).1 (in_Mod w h).2, by decide, rfl, rfl, rfl, (gk_5 (List.mem_of_getElem? (i := 231) rfl) rfl)⟩
set_option maxRecDepth 100000 in
theorem fo_Mod_64 : fOk "CookedLawModel" 64 12 29 1 true := ⟨"CookedLawModel", T_Mod, 71, rfl, fun w h => gtb_of (in_Mod w h).1 (in_Mod w h).2, by decide, rfl, rfl, rfl, Or.inl (gk_5 (List.mem_of_getElem? (i := 232) rfl) rfl)⟩
set_option maxRecDepth 100000 in
theorem ff_Mod_64 : ∃ (T : u_T) (N : Nat), cls[12]? = some ("CookedLawModel", T, N) ∧ (∀ w ∈ u_ws "CookedLawModel" T N, w ∈ gtb) ∧ 29 < N ∧ (fks 12)[29]? = some (1, 29) ∧ (T 29).1 = "CookedLawModel" ∧ (T 29).2.2.2 = true ∧ Cond.fieldLink "CookedLawModel" 64 "CookedLawModel" (T 29).2.1 (T 29).2.2.1 ∈ gtb := ⟨T_Mod, 71, rfl, fun w h => gtb_of (in_Mod w h).1 (in_Mod w h).2, by decide, rfl, rfl, rfl, (gk_5 (List.mem_of_getElem? (i := 232) rfl) rfl)⟩
set_option maxRecDepth 100000 in
theorem fo_Mod_67 : fOk "CookedLawModel" 67 12 30 1 true := ⟨"CookedLawModel", T_Mod, 71, rfl, fun w h => gtb_of (in_Mod w h).1 (in_Mod w h).2, by decide, rfl, rfl, rfl, Or.inl (gk_5 (List.mem_of_getElem? (i := 233) rfl) rfl)⟩
set_option maxRecDepth 100000 in
theorem ff_Mod_67 : ∃ (T : u_T) (N : Nat), cls[12]? = some ("CookedLawModel", T, N) ∧ (∀ w ∈ u_ws "CookedLawModel" T N, w ∈ gtb) ∧ 30 < N ∧ (fks 12)[30]? = some (1, 30) ∧ (T 30).1 = "CookedLawModel" ∧ (T 30).2.2.2 = true ∧ Cond.fieldLink "CookedLawModel" 67 "CookedLawModel" (T 30).2.1 (T 30).2.2.1 ∈ gtb := ⟨T_Mod, 71, rfl, fun w h => gtb_of (in_Mod w h).1 (in_Mod w h).2, by decide, rfl, rfl, rfl, (gk_5 (List.mem_of_getElem? (i := 233) rfl) rfl)⟩
set_option maxRecDepth 100000 in
theorem fo_Mod_70 : fOk "CookedLawModel" 70 12 31 1 true := ⟨"CookedLawModel", T_Mod, 71, rfl, fun w h => gtb_of (in_Mod w h).1 (in_Mod w h).2, by decide, rfl, rfl, rfl, Or.inl (gk_5 (List.mem_of_getElem? (i := 234) rfl) rfl)⟩
set_option maxRecDepth 100000 in
theorem ff_Mod_70 : ∃ (T : u_T) (N : Nat), cls[12]? = some ("CookedLawModel", T, N) ∧ (∀ w ∈ u_ws "CookedLawModel" T N, w ∈ gtb) ∧ 31 < N ∧ (fks 12)[31]? = some (1, 31) ∧ (T 31).1 = "CookedLawModel" ∧ (T 31).2.2.2 = true ∧ Cond.fieldLink "CookedLawModel" 70 "CookedLawModel" (T 31).2.1 (T 31).2.2.1 ∈ gtb := ⟨T_Mod, 71, rfl, fun w h => gtb_of (in_Mod w h).1 (in_Mod w h).2, by decide, rfl, rfl, rfl, (gk_5 (List.mem_of_getElem? (i := 234) rfl) rfl)⟩
set_option maxRecDepth 100000 in
theorem fo_Mod_73 : fOk "CookedLawModel" 73 12 32 1 true := ⟨"CookedLawModel", T_Mod, 71, rfl, fun w h => gtb_of (in_Mod w h).1 (in_Mod w h).2, by decide, rfl, rfl, rfl, Or.inl (gk_5 (List.mem_of_getElem? (i := 235) rfl) rfl)⟩
set_option maxRecDepth 100000 in
theorem ff_Mod_73 : ∃ (T : u_T) (N : Nat), cls[12]? = some ("CookedLawModel", T, N) ∧ (∀ w ∈ u_ws "CookedLawModel" T N, w ∈ gtb) ∧ 32 < N ∧ (fks 12)[32]? = some (1, 32) ∧ (T 32).1 = "CookedLawModel" ∧ (T 32).2.2.2 = true ∧ Cond.fieldLink "CookedLawModel" 73 "CookedLawModel" (T 32).2.1 (T 32).2.2.1 ∈ gtb := ⟨T_Mod, 71, rfl, fun w h => gtb_of (in_Mod w h).1 (in_Mod w h).2, by decide, rfl, rfl, rfl, (gk_5 (List.mem_of_getElem? (i := 235) rfl) rfl)⟩
set_option maxRecDepth 100000 in
theorem fo_Mod_76 : fOk "CookedLawModel" 76 12 33 1 true := ⟨"CookedLawModel", T_Mod, 71, rfl, fun w h => gtb_of (in_Mod w h).1 (in_Mod w h).2, by decide, rfl, rfl, rfl, Or.inl (gk_5 (List.mem_of_getElem? (i := 236) rfl) rfl)⟩
set_option maxRecDepth 100000 in
theorem ff_Mod_76 : ∃ (T : u_T) (N : Nat), cls[12]? = some ("CookedLawModel", T, N) ∧ (∀ w ∈ u_ws "CookedLawModel" T N, w ∈ gtb) ∧ 33 < N ∧ (fks 12)[33]? = some (1, 33) ∧ (T 33).1 = "CookedLawModel" ∧ (T 33).2.2.2 = true ∧ Cond.fieldLink "CookedLawModel" 76 "CookedLawModel" (T 33).2.1 (T 33).2.2.1 ∈ gtb := ⟨T_Mod, 71, rfl, fun w h => gtb_of (in_Mod w h).1 (in_Mod w h).2, by decide, rfl, rfl, rfl, (gk_5 (List.mem_of_getElem? (i := 236) rfl) rfl)⟩
set_option maxRecDepth 100000 in
theorem fo_Mod_79 : fOk "CookedLawModel" 79 12 34 1 true := ⟨"CookedLawModel", T_Mod, 71, rfl, fun w h => gtb_of (in_Mod w h).1 (in_Mod w h).2, by decide, rfl, rfl, rfl, Or.inl (gk_5 (List.mem_of_getElem? (i := 237) rfl) rfl)⟩
set_option maxRecDepth 100000 in
theorem ff_Mod_79 : ∃ (T : u_T) (N : Nat), cls[12]? = some ("CookedLawModel", T, N) ∧ (∀ w ∈ u_ws "CookedLawModel" T N, w ∈ gtb) ∧ 34 < N ∧ (fks 12)[34]? = some (1, 34) ∧ (T 34).1 = "CookedLawModel" ∧ (T 34).2.2.2 = true ∧ Cond.fieldLink "CookedLawModel" 79 "CookedLawModel" (T 34).2.1 (T 34).2.2.1 ∈ gtb := ⟨T_Mod, 71, rfl, fun w h => gtb_of (in_Mod w h).1 (in_Mod w h).2, by decide, rfl, rfl, rfl, (gk_5 (List.mem_of_getElem? (i := 237) rfl) rfl)⟩
set_option maxRecDepth 100000 in
theorem fo_Mod_82 : fOk "CookedLawModel" 82 12 35 1 true := ⟨"CookedLawModel", T_Mod, 71, rfl, fun w h => gtb_of (in_Mod w h).1 (in_Mod w h).2, by decide, rfl, rfl, rfl, Or.inl (gk_5 (List.mem_of_getElem? (i := 238) rfl) rfl)⟩
set_option maxRecDepth 100000 in
theorem ff_Mod_82 : ∃ (T : u_T) (N : Nat), cls[12]? = some ("CookedLawModel", T, N) ∧ (∀ w ∈ u_ws "CookedLawModel" T N, w ∈ gtb) ∧ 35 < N ∧ (fks 12)[35]? = some (1, 35) ∧ (T 35).1 = "CookedLawModel" ∧ (T 35).2.2.2 = true ∧ Cond.fieldLink "CookedLawModel" 82 "CookedLawModel" (T 35).2.1 (T 35).2.2.1 ∈ gtb := ⟨T_Mod, 71, rfl, fun w h => gtb_of (in_Mod w h).1 (in_Mod w h).2, by decide, rfl, rfl, rfl, (gk_5 (List.mem_of_getElem? (i := 238) rfl) rfl)⟩
set_option maxRecDepth 100000 in
theorem fo_Mod_85 : fOk "CookedLawModel" 85 12 36 1 true := ⟨"CookedLawModel", T_Mod, 71, rfl, fun w h => gtb_of (in_Mod w h).1 (in_Mod w h).2, by decide, rfl, rfl, rfl, Or.inl (gk_5 (List.mem_of_getElem? (i := 239) rfl) rfl)⟩
set_option maxRecDepth 100000 in
theorem ff_Mod_85 : ∃ (T : u_T) (N : Nat), cls[12]? = some ("CookedLawModel", T, N) ∧ (∀ w ∈ u_ws "CookedLawModel" T N, w ∈ gtb) ∧ 36 < N ∧ (fks 12)[36]? = some (1, 36) ∧ (T 36).1 = "CookedLawModel" ∧ (T 36).2.2.2 = true ∧ Cond.fieldLink "CookedLawModel" 85 "CookedLawModel" (T 36).2.1 (T 36).2.2.1 ∈ gtb := ⟨T_Mod, 71, rfl, fun w h => gtb_of (in_Mod w h).1 (in_Mod w h).2, by decide, rfl, rfl, rfl, (gk_5 (List.mem_of_getElem? (i := 239) rfl) rfl)⟩
set_option maxRecDepth 100000 in
theorem fo_Mod_88 : fOk "CookedLawModel" 88 12 37 1 true := ⟨"CookedLawModel", T_Mod, 71, rfl, fun w h => gtb_of (in_Mod w h).1 (in_Mod w h).2, by decide, rfl, rfl, rfl, Or.inl (gk_6 (List.mem_of_getElem? (i := 0) rfl) rfl)⟩
set_option maxRecDepth 100000 in
theorem ff_Mod_88 : ∃ (T : u_T) (N : Nat), cls[12]? = some ("CookedLawModel", T, N) ∧ (∀ w ∈ u_ws "CookedLawModel" T N, w ∈ gtb) ∧ 37 < N ∧ (fks 12)[37]? = some (1, 37) ∧ (T 37).1 = "CookedLawModel" ∧ (T 37).2.2.2 = true ∧ Cond.fieldLink "CookedLawModel" 88 "CookedLawModel" (T 37).2.1 (T 37).2.2.1 ∈ gtb := ⟨T_Mod, 71, rfl, fun w h => gtb_of (in_Mod w h).1 (in_Mod w h).2, by decide, rfl, rfl, rfl, (gk_6 (List.mem_of_getElem? (i := 0) rfl) rfl)⟩
set_option maxRecDepth 100000 in
theorem fo_Mod_91 : fOk "CookedLawModel" 91 12 39 1 true := ⟨"CookedLawModel", T_Mod, 71, rfl, fun w h => gtb_of (in_Mod w h).1 (in_Mod w h).2, by decide, rfl, rfl, rfl, Or.inl (gk_6 (List.mem_of_getElem? (i := 2) rfl) rfl)⟩
set_option maxRecDepth 100000 in
theorem ff_Mod_91 : ∃ (T : u_T) (N : Nat), cls[12]? = some ("CookedLawModel", T, N) ∧ (∀ w ∈ u_ws "CookedLawModel" T N, w ∈ gtb) ∧ 39 < N ∧ (fks 12)[39]? = some (1, 39) ∧ (T 39).1 = "CookedLawModel" ∧ (T 39).2.2.2 = true ∧ Cond.fieldLink "CookedLawModel" 91 "CookedLawModel" (T 39).2.1 (T 39).2.2.1 ∈ gtb := ⟨T_Mod, 71, rfl, fun w h => gtb_of (in_Mod w h).1 (in_Mod w h).2, by decide, rfl, rfl, rfl, (gk_6 (List.mem_of_getElem? (i := 2) rfl) rfl)⟩
set_option maxRecDepth 100000 in
theorem fo_Mod_95 : fOk "CookedLawModel" 95 12 40 1 true := ⟨"CookedLawModel", T_Mod, 71, rfl, fun w h => gtb_of (in_Mod w h).1 (in_Mod w h).2, by decide, rfl, rfl, rfl, Or.inl (gk_6 (List.mem_of_getElem? (i := 3) rfl) rfl)⟩
set_option maxRecDepth 100000 in
theorem ff_Mod_95 : ∃ (T : u_T) (N : Nat), cls[12]? = some ("CookedLawModel", T, N) ∧ (∀ w ∈ u_ws "CookedLawModel" T N, w ∈ gtb) ∧ 40 < N ∧ (fks 12)[40]? = some (1, 40) ∧ (T 40).1 = "CookedLawModel" ∧ (T 40).2.2.2 = true ∧ Cond.fieldLink "CookedLawModel" 95 "CookedLawModel" (T 40).2.1 (T 40).2.2.1 ∈ gtb := ⟨T_Mod, 71, rfl, fun w h => gtb_of (in_Mod w h).1 (in_Mod w h).2, by decide, rfl, rfl, rfl, (gk_6 (List.mem_of_getElem? (i := 3) rfl) rfl)⟩
set_option maxRecDepth 100000 in
theorem fo_Mod_98 : fOk "CookedLawModel" 98 12 41 1 true := ⟨"CookedLawModel", T_Mod, 71, rfl, fun w h => gtb_of (in_Mod w h).1 (in_Mod w h).2, by decide, rfl, rfl, rfl, Or.inl (gk_6 (List.mem_of_getElem? (i := 4) rfl) rfl)⟩
set_option maxRecDepth 100000 in
theorem ff_Mod_98 : ∃ (T : u_T) (N : Nat), cls[12]? = some ("CookedLawModel", T, N) ∧ (∀ w ∈ u_ws "CookedLawModel" T N, w ∈ gtb) ∧ 41 < N ∧ (fks 12)[41]? = some (1, 41) ∧ (T 41).1 = "CookedLawModel" ∧ (T 41).2.2.2 = true ∧ Cond.fieldLink "CookedLawModel" 98 "CookedLawModel" (T 41).2.1 (T 41).2.2.1 ∈ gtb := ⟨T_Mod, 71, rfl, fun w h => gtb_of (in_Mod w h).1 (in_Mod w h).2, by decide, rfl, rfl, rfl, (gk_6 (List.mem_of_getElem? (i := 4) rfl) rfl)⟩
set_option maxRecDepth 100000 in
theorem fo_Mod_101 : fOk "CookedLawModel" 101 12 42 1 true := ⟨"CookedLawModel", T_Mod, 71, rfl, fun w h => gtb_of (in_Mod w h).1 (in_Mod w h).2, by decide, rfl, rfl, rfl, Or.inl (gk_6 (List.mem_of_getElem? (i := 5) rfl) rfl)⟩
set_option maxRecDepth 100000 in
theorem ff_Mod_101 : ∃ (T : u_T) (N : Nat), cls[12]? = some ("CookedLawModel", T, N) ∧ (∀ w ∈ u_ws "CookedLawModel" T N, w ∈ gtb) ∧ 42 < N ∧ (fks 12)[42]? = some (1, 42) ∧ (T 42).1 = "CookedLawModel" ∧ (T 42).2.2.2 = true ∧ Cond.fieldLink "CookedLawModel" 101 "CookedLawModel" (T 42).2.1 (T 42).2.2.1 ∈ gtb := ⟨T_Mod, 71, rfl, fun w h => gtb_of (in_Mod w h).1 (in_Mod w h).2, by decide, rfl, rfl, rfl, (gk_6 (List.mem_of_getElem? (i := 5) rfl) rfl)⟩
set_option maxRecDepth 100000 in
theorem fo_Mod_104 : fOk "CookedLawModel" 104 12 43 1 true := ⟨"CookedLawModel", T_Mod, 71, rfl, fun w h => gtb_of (in_Mod w h).1 (in_Mod w h).2, by decide, rfl, rfl, rfl, Or.inl (gk_6 (List.mem_of_getElem? (i := 6) rfl) rfl)⟩
set_option maxRecDepth 100000 in
theorem ff_Mod_104 : ∃ (T : u_T) (N : Nat), cls[12]? = some ("CookedLawModel", T, N) ∧ (∀ w ∈ u_ws "CookedLawModel" T N, w ∈ gtb) ∧ 43 < N ∧ (fks 12)[43]? = some (1, 43) ∧ (T 43).1 = "CookedLawModel" ∧ (T 43).2.2.2 = true ∧ Cond.fieldLink "CookedLawModel" 104 "CookedLawModel" (T 43).2.1 (T 43).2.2.1 ∈ gtb := ⟨T_Mod, 71, rfl, fun w h => gtb_of (in_Mod w h).1 (in_Mod w h).2, by decide, rfl, rfl, rfl, (gk_6 (List.mem_of_getElem? (i := 6) rfl) rfl)⟩
set_option maxRecDepth 100000 in
theorem fo_Mod_107 : fOk "CookedLawModel" 107 12 45 1 true := ⟨"CookedLawModel", T_Mod, 71, rfl, fun w h => gtb_of (in_Mod w h).1 (in_Mod w h).2, by decide, rfl, rfl, rfl, Or.inl (gk_6 (List.mem_of_getElem? (i := 8) rfl) rfl)⟩
set_option maxRecDepth 100000 in
theorem ff_Mod_107 : ∃ (T : u_T) (N : Nat), cls[12]? = some ("CookedLawModel", T, N) ∧ (∀ w ∈ u_ws "CookedLawModel" T N, w ∈ gtb) ∧ 45 < N ∧ (fks 12)[45]? = some (1, 45) ∧ (T 45).1 = "CookedLawModel" ∧ (T 45).2.2.2 = true ∧ Cond.fieldLink "CookedLawModel" 107 "CookedLawModel" (T 45).2.1 (T 45).2.2.1 ∈ gtb := ⟨T_Mod, 71, rfl, fun w h => gtb_of (in_Mod w h).1 (in_Mod w h).2, by decide, rfl, rfl, rfl, (gk_6 (List.mem_of_getElem? (i := 8) rfl) rfl)⟩
set_option maxRecDepth 100000 in
theorem fo_Mod_110 : fOk "CookedLawModel" 110 12 46 1 true := ⟨"CookedLawModel", T_Mod, 71, rfl, fun w h => gtb_of (in_Mod w h).1 (in_Mod w h).2, by decide, rfl, rfl, rfl, Or.inl (gk_6 (List.mem_of_getElem? (i := 9) rfl) rfl)⟩
set_option maxRecDepth 100000 in
theorem ff_Mod_110 : ∃ (T : u_T) (N : Nat), cls[12]? = some ("CookedLawModel", T, N) ∧ (∀ w ∈ u_ws "CookedLawModel" T N, w ∈ gtb) ∧ 46 < N ∧ (fks 12)[46]? = some (1, 46) ∧ (T 46).1 = "CookedLawModel" ∧ (T 46).2.2.2 = true ∧ Cond.fieldLink "CookedLawModel" 110 "CookedLawModel" (T 46).2.1 (T 46).2.2.1 ∈ gtb := ⟨T_Mod, 71, rfl, fun w h => gtb_of (in_Mod w h).1 (in_Mod w h).2, by decide, rfl, rfl, rfl, (gk_6 (List.mem_of_getElem? (i := 9) rfl) rfl)⟩
set_option maxRecDepth 100000 in
theorem fo_Mod_113 : fOk "CookedLawModel" 113 12 47 1 true := ⟨"CookedLawModel", T_Mod, 71, rfl, fun w h => gtb_of (in_Mod w h).1 (in_Mod w h).2, by decide, rfl, rfl, rfl, Or.inl (gk_6 (List.mem_of_getElem? (i := 10) rfl) rfl)⟩
set_option maxRecDepth 100000 in
theorem ff_Mod_113 : ∃ (T : u_T) (N : Nat), cls[12]? = some ("CookedLawModel", T, N) ∧ (∀ w ∈ u_ws "CookedLawModel" T N, w ∈ gtb) ∧ 47 < N ∧ (fks 12)[47]? = some (1, 47) ∧ (T 47).1 = "CookedLawModel" ∧ (T 47).2.2.2 = true ∧ Cond.fieldLink "CookedLawModel" 113 "CookedLawModel" (T 47).2.1 (T 47).2.2.1 ∈ gtb := ⟨T_Mod, 71, rfl, fun w h => gtb_of (in_Mod w h).1 (in_Mod w h).2, by decide, rfl, rfl, rfl, (gk_6 (List.mem_of_getElem? (i := 10) rfl) rfl)⟩
set_option maxRecDepth 100000 in
theorem fo_Mod_116 : fOk "CookedLawModel" 116 12 49 1 true := ⟨"CookedLawModel", T_Mod, 71, rfl, fun w h => gtb_of (in_Mod w h).1 (in_Mod w h).2, by decide, rfl, rfl, rfl, Or.inl (gk_6 (List.mem_of_getElem? (i := 12) rfl) rfl)⟩
set_option maxRecDepth 100000 in
theorem ff_Mod_116 : ∃ (T : u_T) (N : Nat), cls[12]? = some ("CookedLawModel", T, N) ∧ (∀ w ∈ u_ws "CookedLawModel" T N, w ∈ gtb) ∧ 49 < N ∧ (fks 12)[49]? = some (1, 49) ∧ (T 49).1 = "CookedLawModel" ∧ (T 49).2.2.2 = true ∧ Cond.fieldLink "CookedLawModel" 116 "CookedLawModel" (T 49).2.1 (T 49).2.2.1 ∈ gtb := ⟨T_Mod, 71, rfl, fun w h => gtb_of (in_Mod w h).1 (in_Mod w h).2, by decide, rfl, rfl, rfl, (gk_6 (List.mem_of_getElem? (i := 12) rfl) rfl)⟩
set_option maxRecDepth 100000 in
theorem fo_Mod_119 : fOk "CookedLawModel" 119 12 50 1 true := ⟨"CookedLawModel", T_Mod, 71, rfl, fun w h => gtb_of (in_Mod w h).1 (in_Mod w h).2, by decide, rfl, rfl, rfl, Or.inl (gk_6 (List.mem_of_getElem? (i := 13) rfl) rfl)⟩
set_option maxRecDepth 100000 in
theorem ff_Mod_119 : ∃ (T : u_T) (N : Nat), cls[12]? = some ("CookedLawModel", T, N) ∧ (∀ w ∈ u_ws "CookedLawModel" T N, w ∈ gtb) ∧ 50 < N ∧ (fks 12)[50]? = some (1, 50) ∧ (T 50).1 = "CookedLawModel" ∧ (T 50).2.2.2 = true ∧ Cond.fieldLink "CookedLawModel" 119 "CookedLawModel" (T 50).2.1 (T 50).2.2.1 ∈ gtb := ⟨T_Mod, 71, rfl, fun w h => gtb_of (in_Mod w h).1 (in_Mod w h).2, by decide, rfl, rfl, rfl, (gk_6 (List.mem_of_getElem? (i := 13) rfl) rfl)⟩
set_option maxRecDepth 100000 in
theorem fo_Mod_122 : fOk "CookedLawModel" 122 12 52 1 true := ⟨"CookedLawModel", T_Mod, 71, rfl, fun w h => gtb_of (in_Mod w h).1 (in_Mod w h).2, by decide, rfl, rfl, rfl, Or.inl (gk_6 (List.mem_of_getElem? (i := 15) rfl) rfl)⟩
set_option maxRecDepth 100000 in
theorem ff_Mod_122 : ∃ (T : u_T) (N : Nat), cls[12]? = some ("CookedLawModel", T, N) ∧ (∀ w ∈ u_ws "CookedLawModel" T N, w ∈ gtb) ∧ 52 < N ∧ (fks 12)[52]? = some (1, 52) ∧ (T 52).1 = "CookedLawModel" ∧ (T 52).2.2.2 = true ∧ Cond.fieldLink "CookedLawModel" 122 "CookedLawModel" (T 52).2.1 (T 52).2.2.1 ∈ gtb := ⟨T_Mod, 71, rfl, fun w h => gtb_of (in_Mod w h).1 (in_Mod w h).2, by decide, rfl, rfl, rfl, (gk_6 (List.mem_of_getElem? (i := 15) rfl) rfl)⟩
set_option maxRecDepth 100000 in
theorem fo_Mod_125 : fOk "CookedLawModel" 125 12 53 1 true := ⟨"CookedLawModel", T_Mod, 71, rfl, fun w h => gtb_of (in_Mod w h).1 (in_Mod w h).2, by decide, rfl, rfl, rfl, Or.inl (gk_6 (List.mem_of_getElem? (i := 16) rfl) rfl)⟩
set_option maxRecDepth 100000 in
theorem ff_Mod_125 : ∃ (T : u_T) (N : Nat), cls[12]? = some ("CookedLawModel", T, N) ∧ (∀ w ∈ u_ws "CookedLawModel" T N, w ∈ gtb) ∧ 53 < N ∧ (fks 12)[53]? = some (1, 53) ∧ (T 53).1 = "CookedLawModel" ∧ (T 53).2.2.2 = true ∧ Cond.fieldLink "CookedLawModel" 125 "CookedLawModel" (T 53).2.1 (T 53).2.2.1 ∈ gtb := ⟨T_Mod, 71, rfl, fun w h => gtb_of (in_Mod w h).1 (in_Mod w h).2, by decide, rfl, rfl, rfl, (gk_6 (List.mem_of_getElem? (i := 16) rfl) rfl)⟩
set_option maxRecDepth 100000 in
theorem fo_Mod_128 : fOk "CookedLawModel" 128 12 55 1 true := ⟨"CookedLawModel", T_Mod, 71, rfl, fun w h => gtb_of (in_Mod w h).1 (in_Mod w h).2, by decide, rfl, rfl, rfl, Or.inl (gk_6 (List.mem_of_getElem? (i := 18) rfl) rfl)⟩
set_option maxRecDepth 100000 in
theorem ff_Mod_128 : ∃ (T : u_T) (N : Nat), cls[12]? = some ("CookedLawModel", T, N) ∧ (∀ w ∈ u_ws "CookedLawModel" T N, w ∈ gtb) ∧ 55 < N ∧ (fks 12)[55]? = some (1, 55) ∧ (T 55).1 = "CookedLawModel" ∧ (T 55).2.2.2 = true ∧ Cond.fieldLink "CookedLawModel" 128 "CookedLawModel" (T 55).2.1 (T 55).2.2.1 ∈ gtb := ⟨T_Mod, 71, rfl, fun w h => gtb_of (in_Mod w h).1 (in_Mod w h).2, by decide, rfl, rfl, rfl, (gk_6 (List.mem_of_getElem? (i := 18) rfl) rfl)⟩
set_option maxRecDepth 100000 in
theorem fo_Mod_131 : fOk "CookedLawModel" 131 12 56 1 true := ⟨"CookedLawModel", T_Mod, 71, rfl, fun w h => gtb_of (in_Mod w h).1 (in_Mod w h).2, by decide, rfl, rfl, rfl, Or.inl (gk_6 (List.mem_of_getElem? (i := 19) rfl) rfl)⟩
set_option maxRecDepth 100000 in
theorem ff_Mod_131 : ∃ (T : u_T) (N : Nat), cls[12]? = some ("CookedLawModel", T, N) ∧ (∀ w ∈ u_ws "CookedLawModel" T N, w ∈ gtb) ∧ 56 < N ∧ (fks 12)[56]? = some (1, 56) ∧ (T 56).1 = "CookedLawModel" ∧ (T 56).2.2.2 = true ∧ Cond.fieldLink "CookedLawModel" 131 "CookedLawModel" (T 56).2.1 (T 56).2.2.1 ∈ gtb := ⟨T_Mod, 71, rfl, fun w h => gtb_of (in_Mod w h).1 (in_Mod w h).2, by decide, rfl, rfl, rfl, (gk_6 (List.mem_of_getElem? (i := 19) rfl) rfl)⟩
set_option maxRecDepth 100000 in
theorem fo_Mod_134 : fOk "CookedLawModel" 134 12 58 1 true := ⟨"CookedLawModel", T_Mod, 71, rfl, fun w h => gtb_of (in_Mod w h).1 (in_Mod w h).2, by decide, rfl, rfl, rfl, Or.inl (gk_6 (List.mem_of_getElem? (i := 21) rfl) rfl)⟩
set_option maxRecDepth 100000 in
theorem ff_Mod_134 : ∃ (T : u_T) (N : Nat), cls[12]? = some ("CookedLawModel", T, N) ∧ (∀ w ∈ u_ws "CookedLawModel" T N, w ∈ gtb) ∧ 58 < N ∧ (fks 12)[58]? = some (1, 58) ∧ (T 58).1 = "CookedLawModel" ∧ (T 58).2.2.2 = true ∧ Cond.fieldLink "CookedLawModel" 134 "CookedLawModel" (T 58).2.1 (T 58).2.2.1 ∈ gtb := ⟨T_Mod, 71, rfl, fun w h => gtb_of (in_Mod w h).1 (in_Mod w h).2, by decide, rfl, rfl, rfl, (gk_6 (List.mem_of_getElem? (i := 21) rfl) rfl)⟩
set_option maxRecDepth 100000 in
theorem fo_Mod_137 : fOk "CookedLawModel" 137 12 65 1 true := ⟨"CookedLawModel", T_Mod, 71, rfl, fun w h => gtb_of (in_Mod w h).1 (in_Mod w h).2, by decide, rfl, rfl, rfl, Or.inl (gk_6 (List.mem_of_getElem? (i := 28) rfl) rfl)⟩
set_option maxRecDepth 100000 in
theorem ff_Mod_137 : ∃ (T : u_T) (N : Nat), cls[12]? = some ("CookedLawModel", T, N) ∧ (∀ w ∈ u_ws "CookedLawModel" T N, w ∈ gtb) ∧ 65 < N ∧ (fks 12)[65]? = some (1, 65) ∧ (T 65).1 = "CookedLawModel" ∧ (T 65).2.2.2 = true ∧ Cond.fieldLink "CookedLawModel" 137 "CookedLawModel" (T 65).2.1 (T 65).2.2.1 ∈ gtb := ⟨T_Mod, 71, rfl, fun w h => gtb_of (in_Mod w h).1 (in_Mod w h).2, by decide, rfl, rfl, rfl, (gk_6 (List.mem_of_getElem? (i := 28) rfl) rfl)⟩
set_option maxRecDepth 100000 in
theorem fo_Mod_140 : fOk "CookedLawModel" 140 12 66 1 true := ⟨"CookedLawModel", T_Mod, 71, rfl, fun w h => gtb_of (in_Mod w h).1 (in_Mod w h).2, by decide, rfl, rfl, rfl, Or.inl (gk_6 (List.mem_of_getElem? (i := 29) rfl) rfl)⟩
set_option maxRecDepth 100000 in
theorem ff_Mod_140 : ∃ (T : u_T) (N : Nat), cls[12]? = some ("CookedLawModel", T, N) ∧ (∀ w ∈ u_ws "CookedLawModel" T N, w ∈ gtb) ∧ 66 < N ∧ (fks 12)[66]? = some (1, 66) ∧ (T 66).1 = "CookedLawModel" ∧ (T 66).2.2.2 = true ∧ Cond.fieldLink "CookedLawModel" 140 "CookedLawModel" (T 66).2.1 (T 66).2.2.1 ∈ gtb := ⟨T_Mod, 71, rfl, fun w h => gtb_of (in_Mod w h).1 (in_Mod w h).2, by decide, rfl, rfl, rfl, (gk_6 (List.mem_of_getElem? (i := 29) rfl) rfl)⟩
set_option maxRecDepth 100000 in
theorem fo_Mod_143 : fOk "CookedLawModel" 143 12 67 1 true := ⟨"CookedLawModel", T_Mod, 71, rfl, fun w h => gtb_of (in_Mod w h).1 (in_Mod w h).2, by decide, rfl, rfl, rfl, Or.inl (gk_6 (List.mem_of_getElem? (i := 30) rfl) rfl)⟩
set_option maxRecDepth 100000 in
theorem ff_Mod_143 : ∃ (T : u_T) (N : Nat), cls[12]? = some ("CookedLawModel", T, N) ∧ (∀ w ∈ u_ws "CookedLawModel" T N, w ∈ gtb) ∧ 67 < N ∧ (fks 12)[67]? = some (1, 67) ∧ (T 67).1 = "CookedLawModel" ∧ (T 67).2.2.2 = true ∧ Cond.fieldLink "CookedLawModel" 143 "CookedLawModel" (T 67).2.1 (T 67).2.2.1 ∈ gtb := ⟨T_Mod, 71, rfl, fun w h => gtb_of (in_Mod w h).1 (in_Mod w h).2, by decide, rfl, rfl, rfl, (gk_6 (List.mem_of_getElem? (i := 30) rfl) rfl)⟩
set_option maxRecDepth 100000 in
theorem fo_Mod_146 : fOk "CookedLawModel" 146 12 68 1 true := ⟨"CookedLawModel", T_Mod, 71, rfl, fun w h => gtb_of (in_Mod w h).1 (in_Mod w h).2, by decide, rfl, rfl, rfl, Or.inl (gk_6 (List.mem_of_getElem? (i := 31) rfl) rfl)⟩
set_option maxRecDepth 100000 in
theorem ff_Mod_146 : ∃ (T : u_T) (N : Nat), cls[12]? = some ("CookedLawModel", T, N) ∧ (∀ w ∈ u_ws "CookedLawModel" T N, w ∈ gtb) ∧ 68 < N ∧ (fks 12)[68]? = some (1, 68) ∧ (T 68).1 = "CookedLawModel" ∧ (T 68).2.2.2 = true ∧ Cond.fieldLink "CookedLawModel" 146 "CookedLawModel" (T 68).2.1 (T 68).2.2.1 ∈ gtb := ⟨T_Mod, 71, rfl, fun w h => gtb_of (in_Mod w h).1 (in_Mod w h).2, by decide, rfl, rfl, rfl, (gk_6 (List.mem_of_getElem? (i := 31) rfl) rfl)⟩
set_option maxRecDepth 100000 in
theorem fo_Mod_149 : fOk "CookedLawModel" 149 12 69 1 true := ⟨"CookedLawModel", T_Mod, 71, rfl, fun w h => gtb_of (in_Mod w h).1 (in_Mod w h).2, by decide, rfl, rfl, rfl, Or.inl (gk_6 (List.mem_of_getElem? (i := 32) rfl) rfl)⟩
set_option maxRecDepth 100000 in
theorem ff_Mod_149 : ∃ (T : u_T) (N : Nat), cls[12]? = some ("CookedLawModel", T, N) ∧ (∀ w ∈ u_ws "CookedLawModel" T N, w ∈ gtb) ∧ 69 < N ∧ (fks 12)[69]? = some (1, 69) ∧ (T 69).1 = "CookedLawModel" ∧ (T 69).2.2.2 = true ∧ Cond.fieldLink "CookedLawModel" 149 "CookedLawModel" (T 69).2.1 (T 69).2.2.1 ∈ gtb := ⟨T_Mod, 71, rfl, fun w h => gtb_of (in_Mod w h).1 (in_Mod w h).2, by decide, rfl, rfl, rfl, (gk_6 (List.mem_of_getElem? (i := 32) rfl) rfl)⟩
set_option maxRecDepth 100000 in
theorem fo_Mod_152 : fOk "CookedLawModel" 152 12 70 1 true := ⟨"CookedLawModel", T_Mod, 71, rfl, fun w h => gtb_of (in_Mod w h).1 (in_Mod w h).2, by decide, rfl, rfl, rfl, Or.inl (gk_6 (List.mem_of_getElem? (i := 33) rfl) rfl)⟩
set_option maxRecDepth 100000 in
theorem ff_Mod_152 : ∃ (T : u_T) (N : Nat), cls[12]? = some ("CookedLawModel", T, N) ∧ (∀ w ∈ u_ws "CookedLawModel" T N, w ∈ gtb) ∧ 70 < N ∧ (fks 12)[70]? = some (1, 70) ∧ (T 70).1 = "CookedLawModel" ∧ (T 70).2.2.2 = true ∧ Cond.fieldLink "CookedLawModel" 152 "CookedLawModel" (T 70).2.1 (T 70).2.2.1 ∈ gtb := ⟨T_Mod, 71, rfl, fun w h => gtb_of (in_Mod w h).1 (in_Mod w h).2, by decide, rfl, rfl, rfl, (gk_6 (List.mem_of_getElem? (i := 33) rfl) rfl)⟩
set_option maxRecDepth 100000 in
theorem fo_Mod_169 : fOk "CookedLawModel" 169 12 2 0 false := ⟨"CookedLawModel", T_Mod, 71, rfl, fun w h => gtb_of (in_Mod w h).1 (in_Mod w h).2, by decide, rfl, rfl, rfl, Or.inl (gk_5 (List.mem_of_getElem? (i := 205) rfl) rfl)⟩
set_option maxRecDepth 100000 in
theorem fo_Mod_175 : fOk "CookedLawModel" 175 12 4 0 false := ⟨"CookedLawModel", T_Mod, 71, rfl, fun w h => gtb_of (in_Mod w h).1 (in_Mod w h).2, by decide, rfl, rfl, rfl, Or.inl (gk_5 (List.mem_of_getElem? (i := 207) rfl) rfl)⟩
set_option maxRecDepth 100000 in
theorem fo_Mod_184 : fOk "CookedLawModel" 184 12 10 0 false := ⟨"CookedLawModel", T_Mod, 71, rfl, fun w h => gtb_of (in_Mod w h).1 (in_Mod w h).2, by decide, rfl, rfl, rfl, Or.inl (gk_5 (List.mem_of_getElem? (i := 213) rfl) rfl)⟩
set_option maxRecDepth 100000 in
theorem fo_Mod_206 : fOk "CookedLawModel" 206 12 13 0 false := ⟨"CookedLawModel", T_Mod, 71, rfl, fun w h => gtb_of (in_Mod w h).1 (in_Mod w h).2, by decide, rfl, rfl, rfl, Or.inl (gk_5 (List.mem_of_getElem? (i := 216) rfl) rfl)⟩
set_option maxRecDepth 100000 in
theorem fo_Mod_209 : fOk "CookedLawModel" 209 12 11 0 false := ⟨"CookedLawModel", T_Mod, 71, rfl, fun w h => gtb_of (in_Mod w h).1 (in_Mod w h).2, by decide, rfl, rfl, rfl, Or.inl (gk_5 (List.mem_of_getElem? (i := 214) rfl) rfl)⟩
set_option maxRecDepth 100000 in
theorem fo_Mod_212 : fOk "CookedLawModel" 212 12 14 0 false := ⟨"CookedLawModel", T_Mod, 71, rfl, fun w h => gtb_of (in_Mod w h).1 (in_Mod w h).2, by decide, rfl, rfl, rfl, Or.inl (gk_5 (List.mem_of_getElem? (i := 217) rfl) rfl)⟩
set_option maxRecDepth 100000 in
theorem fo_Mod_215 : fOk "CookedLawModel" 215 12 15 0 false := ⟨"CookedLawModel", T_Mod, 71, rfl, fun w h => gtb_of (in_Mod w h).1 (in_Mod w h).2, by decide, rfl, rfl, rfl, Or.inl (gk_5 (List.mem_of_getElem? (i := 218) rfl) rfl)⟩
set_option maxRecDepth 100000 in
theorem fo_Mod_218 : fOk "CookedLawModel" 218 12 16 0 false := ⟨"CookedLawModel", T_Mod, 71, rfl, fun w h => gtb_of (in_Mod w h).1 (in_Mod w h).2, by decide, rfl, rfl, rfl, Or.inl (gk_5 (List.mem_of_getElem? (i := 219) rfl) rfl)⟩
set_option maxRecDepth 100000 in
theorem fo_Mod_233 : fOk "CookedLawModel" 233 12 12 0 false := ⟨"CookedLawModel", T_Mod, 71, rfl, fun w h => gtb_of (in_Mod w h).1 (in_Mod w h).2, by decide, rfl, rfl, rfl, Or.inl (gk_5 (List.mem_of_getElem? (i := 215) rfl) rfl)⟩
set_option maxRecDepth 100000 in
theorem fo_Mod_236 : fOk "CookedLawModel" 236 12 18 0 false := ⟨"CookedLawModel", T_Mod, 71, rfl, fun w h => gtb_of (in_Mod w h).1 (in_Mod w h).2, by decide, rfl, rfl, rfl, Or.inl (gk_5 (List.mem_of_getElem? (i := 221) rfl) rfl)⟩
set_option maxRecDepth 100000 in
theorem fo_Mod_239 : fOk "CookedLawModel" 239 12 19 0 false := ⟨"CookedLawModel", T_Mod, 71, rfl, fun w h => gtb_of (in_Mod w h).1 (in_Mod w h).2, by decide, rfl, rfl, rfl, Or.inl (gk_5 (List.mem_of_getElem? (i := 222) rfl) rfl)⟩
set_option maxRecDepth 100000 in
theorem fo_Mod_242 : fOk "CookedLawModel" 242 12 20 0 false := ⟨"CookedLawModel", T_Mod, 71, rfl, fun w h => gtb_of (in_Mod w h).1 (in_Mod w h).2, by decide, rfl, rfl, rfl, Or.inl (gk_5 (List.mem_of_getElem? (i := 223) rfl) rfl)⟩
set_option maxRecDepth 100000 in
theorem fo_Mod_245 : fOk "CookedLawModel" 245 12 38 0 false := ⟨"CookedLawModel", T_Mod, 71, rfl, fun w h => gtb_of (in_Mod w h).1 (in_Mod w h).2, by decide, rfl, rfl, rfl, Or.inl (gk_6 (List.mem_of_getElem? (i := 1) rfl) rfl)⟩
set_option maxRecDepth 100000 in
theorem fo_Mod_248 : fOk "CookedLawModel" 248 12 44 0 false := ⟨"CookedLawModel", T_Mod, 71, rfl, fun w h => gtb_of (in_Mod w h).1 (in_Mod w h).2, by decide, rfl, rfl, rfl, Or.inl (gk_6 (List.mem_of_getElem? (i := 7) rfl) rfl)⟩
set_option maxRecDepth 100000 in
theorem fo_Mod_254 : fOk "CookedLawModel" 254 12 57 0 false := ⟨"CookedLawModel", T_Mod, 71, rfl, fun w h => gtb_of (in_Mod w h).1 (in_Mod w h).2, by decide, rfl, rfl, rfl, Or.inl (gk_6 (List.mem_of_getElem? (i := 20) rfl) rfl)⟩
set_option maxRecDepth 100000 in
theorem fo_Mod_257 : fOk "CookedLawModel" 257 12 64 0 false := ⟨"CookedLawModel", T_Mod, 71, rfl, fun w h => gtb_of (in_Mod w h).1 (in_Mod w h).2, by decide, rfl, rfl, rfl, Or.inl (gk_6 (List.mem_of_getElem? (i := 27) rfl) rfl)⟩
set_option maxRecDepth 100000 in
theorem fo_Mod_299 : fOk "CookedLawModel" 299 12 48 0 false := ⟨"CookedLawModel", T_Mod, 71, rfl, fun w h => gtb_of (in_Mod w h).1 (in_Mod w h).2, by decide, rfl, rfl, rfl, Or.inl (gk_6 (List.mem_of_getElem? (i := 11) rfl) rfl)⟩
set_option maxRecDepth 100000 in
theorem fo_Mod_312 : fOk "CookedLawModel" 312 12 51 2 false := ⟨"CookedLawModel", T_Mod, 71, rfl, fun w h => gtb_of (in_Mod w h).1 (in_Mod w h).2, by decide, rfl, rfl, rfl, Or.inl (gk_6 (List.mem_of_getElem? (i := 14) rfl) rfl)⟩
set_option maxRecDepth 100000 in
theorem fo_Mod_320 : fOk "CookedLawModel" 320 12 54 0 false := ⟨"CookedLawModel", T_Mod, 71, rfl, fun w h => gtb_of (in_Mod w h).1 (in_Mod w h).2, by decide, rfl, rfl, rfl, Or.inl (gk_6 (List.mem_of_getElem? (i := 17) rfl) rfl)⟩
set_option maxRecDepth 100000 in
theorem fo_Mod_404 : fOk "CookedLawModel" 404 12 59 0 false := ⟨"CookedLawModel", T_Mod, 71, rfl, fun w h => gtb_of (in_Mod w h).1 (in_Mod w h).2, by decide, rfl, rfl, rfl, Or.inl (gk_6 (List.mem_of_getElem? (i := 22) rfl) rfl)⟩
set_option maxRecDepth 100000 in
theorem fo_Mod_407 : fOk "CookedLawModel" 407 12 60 0 false := ⟨"CookedLawModel", T_Mod, 71, rfl, fun w h => gtb_of (in_Mod w h).1 (in_Mod w h).2, by decide, rfl, rfl, rfl, Or.inl (gk_6 (List.mem_of_getElem? (i := 23) rfl) rfl)⟩
set_option maxRecDepth 100000 in
theorem fo_Mod_410 : fOk "CookedLawModel" 410 12 61 0 false := ⟨"CookedLawModel", T_Mod, 71, rfl, fun w h => gtb_of (in_Mod w h).1 (in_Mod w h).2, by decide, rfl, rfl, rfl, Or.inl (gk_6 (List.mem_of_getElem? (i := 24) rfl) rfl)⟩
set_option maxRecDepth 100000 in
theorem fo_Mod_413 : fOk "CookedLawModel" 413 12 62 0 false := ⟨"CookedLawModel", T_Mod, 71, rfl, fun w h => gtb_of (in_Mod w h).1 (in_Mod w h).2, by decide, rfl, rfl, rfl, Or.inl (gk_6 (List.mem_of_getElem? (i := 25) rfl) rfl)⟩
set_option maxRecDepth 100000 in
theorem fo_Mod_428 : fOk "CookedLawModel" 428 12 63 0 false := ⟨"CookedLawModel", T_Mod, 71, rfl, fun w h => gtb_of (in_Mod w h).1 (in_Mod w h).2, by decide, rfl, rfl, rfl, Or.inl (gk_6 (List.mem_of_getElem? (i := 26) rfl) rfl)⟩
theorem fj_Main : ∀ (j : Nat) (q : Nat × Nat), (fks 0)[j]? = some q → q.2 = j := by
  have e : ∀ j, j < 12 → ∀ q ∈ (fks 0)[j]?, q.2 = j := by decide +kernel
  intro j q h
  have hj : j < 12 := (List.getElem?_eq_some_iff.mp h).1
  exact e j hj q (by rw [h]; rfl)
theorem po_0_0 (x : Nat) : pOk 0 0 (.ref x) := ⟨"CookedLaw", T_Main, 12, ty_Main, rfl, tyk_Main, nm_Main, rfl, fj_Main, rfl, rfl⟩
theorem po_0_1 (x : Nat) : pOk 0 1 (.ref x) := ⟨"CookedLaw", T_Main, 12, ty_Main, rfl, tyk_Main, nm_Main, rfl, fj_Main, rfl, rfl⟩
theorem po_0_2 (x : Nat) : pOk 0 2 (.ref x) := ⟨"CookedLaw", T_Main, 12, ty_Main, rfl, tyk_Main, nm_Main, rfl, fj_Main, rfl, rfl⟩
theorem po_0_3 (x : Nat) : pOk 0 3 (.ref x) := ⟨"CookedLaw", T_Main, 12, ty_Main, rfl, tyk_Main, nm_Main, rfl, fj_Main, rfl, rfl⟩
theorem po_0_4 (x : Nat) : pOk 0 4 (.ref x) := ⟨"CookedLaw", T_Main, 12, ty_Main, rfl, tyk_Main, nm_Main, rfl, fj_Main, rfl, rfl⟩
theorem po_0_5 (x : Nat) : pOk 0 5 (.ref x) := ⟨"CookedLaw", T_Main, 12, ty_Main, rfl, tyk_Main, nm_Main, rfl, fj_Main, rfl, rfl⟩
theorem po_0_6 (x : Nat) : pOk 0 6 (.ref x) := ⟨"CookedLaw", T_Main, 12, ty_Main, rfl, tyk_Main, nm_Main, rfl, fj_Main, rfl, rfl⟩
theorem po_0_7 (x : Nat) : pOk 0 7 (.ref x) := ⟨"CookedLaw", T_Main, 12, ty_Main, rfl, tyk_Main, nm_Main, rfl, fj_Main, rfl, rfl⟩
theorem po_0_8 (x : Nat) : pOk 0 8 (.ref x) := ⟨"CookedLaw", T_Main, 12, ty_Main, rfl, tyk_Main, nm_Main, rfl, fj_Main, rfl, rfl⟩
theorem po_0_9 (x : Nat) : pOk 0 9 (.ref x) := ⟨"CookedLaw", T_Main, 12, ty_Main, rfl, tyk_Main, nm_Main, rfl, fj_Main, rfl, rfl⟩
theorem po_0_10 (x : Nat) : pOk 0 10 (.ref x) := ⟨"CookedLaw", T_Main, 12, ty_Main, rfl, tyk_Main, nm_Main, rfl, fj_Main, rfl, rfl⟩
theorem po_0_11 (x : Int32) : pOk 0 11 (.int x) := ⟨"CookedLaw", T_Main, 12, ty_Main, rfl, tyk_Main, nm_Main, rfl, fj_Main, rfl, rfl⟩
theorem fj_Tape : ∀ (j : Nat) (q : Nat × Nat), (fks 1)[j]? = some q → q.2 = j := by
  have e : ∀ j, j < 2 → ∀ q ∈ (fks 1)[j]?, q.2 = j := by decide +kernel
  intro j q h
  have hj : j < 2 := (List.getElem?_eq_some_iff.mp h).1
  exact e j hj q (by rw [h]; rfl)
theorem po_1_0 (x : Nat) : pOk 1 0 (.ref x) := ⟨"CookedLaw$Tape", T_Tape, 2, ty_Tape, rfl, tyk_Tape, nm_Tape, rfl, fj_Tape, rfl, rfl⟩
theorem po_1_1 (x : Int32) : pOk 1 1 (.int x) := ⟨"CookedLaw$Tape", T_Tape, 2, ty_Tape, rfl, tyk_Tape, nm_Tape, rfl, fj_Tape, rfl, rfl⟩
theorem fj_Reader : ∀ (j : Nat) (q : Nat × Nat), (fks 2)[j]? = some q → q.2 = j := by
  have e : ∀ j, j < 12 → ∀ q ∈ (fks 2)[j]?, q.2 = j := by decide +kernel
  intro j q h
  have hj : j < 12 := (List.getElem?_eq_some_iff.mp h).1
  exact e j hj q (by rw [h]; rfl)
theorem po_2_0 (x : Nat) : pOk 2 0 (.ref x) := ⟨"CookedLaw$Reader", T_Reader, 12, ty_Reader, rfl, tyk_Reader, nm_Reader, rfl, fj_Reader, rfl, rfl⟩
theorem po_2_1 (x : Int32) : pOk 2 1 (.int x) := ⟨"CookedLaw$Reader", T_Reader, 12, ty_Reader, rfl, tyk_Reader, nm_Reader, rfl, fj_Reader, rfl, rfl⟩
theorem po_2_2 (x : Int32) : pOk 2 2 (.int x) := ⟨"CookedLaw$Reader", T_Reader, 12, ty_Reader, rfl, tyk_Reader, nm_Reader, rfl, fj_Reader, rfl, rfl⟩
theorem po_2_3 (x : Int32) : pOk 2 3 (.int x) := ⟨"CookedLaw$Reader", T_Reader, 12, ty_Reader, rfl, tyk_Reader, nm_Reader, rfl, fj_Reader, rfl, rfl⟩
theorem po_2_4 (x : Int32) : pOk 2 4 (.int x) := ⟨"CookedLaw$Reader", T_Reader, 12, ty_Reader, rfl, tyk_Reader, nm_Reader, rfl, fj_Reader, rfl, rfl⟩
theorem po_2_5 (x : Int32) : pOk 2 5 (.int x) := ⟨"CookedLaw$Reader", T_Reader, 12, ty_Reader, rfl, tyk_Reader, nm_Reader, rfl, fj_Reader, rfl, rfl⟩
theorem po_2_6 (x : Nat) : pOk 2 6 (.ref x) := ⟨"CookedLaw$Reader", T_Reader, 12, ty_Reader, rfl, tyk_Reader, nm_Reader, rfl, fj_Reader, rfl, rfl⟩
theorem po_2_7 (x : Nat) : pOk 2 7 (.ref x) := ⟨"CookedLaw$Reader", T_Reader, 12, ty_Reader, rfl, tyk_Reader, nm_Reader, rfl, fj_Reader, rfl, rfl⟩
theorem po_2_8 (x : Int32) : pOk 2 8 (.int x) := ⟨"CookedLaw$Reader", T_Reader, 12, ty_Reader, rfl, tyk_Reader, nm_Reader, rfl, fj_Reader, rfl, rfl⟩
theorem po_2_9 (x : Nat) : pOk 2 9 (.ref x) := ⟨"CookedLaw$Reader", T_Reader, 12, ty_Reader, rfl, tyk_Reader, nm_Reader, rfl, fj_Reader, rfl, rfl⟩
theorem po_2_10 (x : Int32) : pOk 2 10 (.int x) := ⟨"CookedLaw$Reader", T_Reader, 12, ty_Reader, rfl, tyk_Reader, nm_Reader, rfl, fj_Reader, rfl, rfl⟩
theorem po_2_11 (x : Int32) : pOk 2 11 (.int x) := ⟨"CookedLaw$Reader", T_Reader, 12, ty_Reader, rfl, tyk_Reader, nm_Reader, rfl, fj_Reader, rfl, rfl⟩
theorem fj_Tokens : ∀ (j : Nat) (q : Nat × Nat), (fks 3)[j]? = some q → q.2 = j := by
  have e : ∀ j, j < 4 → ∀ q ∈ (fks 3)[j]?, q.2 = j := by decide +kernel
  intro j q h
  have hj : j < 4 := (List.getElem?_eq_some_iff.mp h).1
  exact e j hj q (by rw [h]; rfl)
theorem po_3_0 (x : Nat) : pOk 3 0 (.ref x) := ⟨"CookedLaw$Tokens", T_Tokens, 4, ty_Tokens, rfl, tyk_Tokens, nm_Tokens, rfl, fj_Tokens, rfl, rfl⟩
theorem po_3_1 (x : Nat) : pOk 3 1 (.ref x) := ⟨"CookedLaw$Tokens", T_Tokens, 4, ty_Tokens, rfl, tyk_Tokens, nm_Tokens, rfl, fj_Tokens, rfl, rfl⟩
theorem po_3_2 (x : Nat) : pOk 3 2 (.ref x) := ⟨"CookedLaw$Tokens", T_Tokens, 4, ty_Tokens, rfl, tyk_Tokens, nm_Tokens, rfl, fj_Tokens, rfl, rfl⟩
theorem po_3_3 (x : Nat) : pOk 3 3 (.ref x) := ⟨"CookedLaw$Tokens", T_Tokens, 4, ty_Tokens, rfl, tyk_Tokens, nm_Tokens, rfl, fj_Tokens, rfl, rfl⟩
theorem fj_Land : ∀ (j : Nat) (q : Nat × Nat), (fks 4)[j]? = some q → q.2 = j := by
  have e : ∀ j, j < 18 → ∀ q ∈ (fks 4)[j]?, q.2 = j := by decide +kernel
  intro j q h
  have hj : j < 18 := (List.getElem?_eq_some_iff.mp h).1
  exact e j hj q (by rw [h]; rfl)
theorem po_4_0 (x : Int32) : pOk 4 0 (.int x) := ⟨"CookedLaw$Land", T_Land, 18, ty_Land, rfl, tyk_Land, nm_Land, rfl, fj_Land, rfl, rfl⟩
theorem po_4_1 (x : Int32) : pOk 4 1 (.int x) := ⟨"CookedLaw$Land", T_Land, 18, ty_Land, rfl, tyk_Land, nm_Land, rfl, fj_Land, rfl, rfl⟩
theorem po_4_2 (x : Int32) : pOk 4 2 (.int x) := ⟨"CookedLaw$Land", T_Land, 18, ty_Land, rfl, tyk_Land, nm_Land, rfl, fj_Land, rfl, rfl⟩
theorem po_4_3 (x : Int32) : pOk 4 3 (.int x) := ⟨"CookedLaw$Land", T_Land, 18, ty_Land, rfl, tyk_Land, nm_Land, rfl, fj_Land, rfl, rfl⟩
theorem po_4_4 (x : Int32) : pOk 4 4 (.int x) := ⟨"CookedLaw$Land", T_Land, 18, ty_Land, rfl, tyk_Land, nm_Land, rfl, fj_Land, rfl, rfl⟩
theorem po_4_5 (x : Nat) : pOk 4 5 (.ref x) := ⟨"CookedLaw$Land", T_Land, 18, ty_Land, rfl, tyk_Land, nm_Land, rfl, fj_Land, rfl, rfl⟩
theorem po_4_6 (x : Nat) : pOk 4 6 (.ref x) := ⟨"CookedLaw$Land", T_Land, 18, ty_Land, rfl, tyk_Land, nm_Land, rfl, fj_Land, rfl, rfl⟩
theorem po_4_7 (x : Nat) : pOk 4 7 (.ref x) := ⟨"CookedLaw$Land", T_Land, 18, ty_Land, rfl, tyk_Land, nm_Land, rfl, fj_Land, rfl, rfl⟩
theorem po_4_8 (x : Nat) : pOk 4 8 (.ref x) := ⟨"CookedLaw$Land", T_Land, 18, ty_Land, rfl, tyk_Land, nm_Land, rfl, fj_Land, rfl, rfl⟩
theorem po_4_9 (x : Nat) : pOk 4 9 (.ref x) := ⟨"CookedLaw$Land", T_Land, 18, ty_Land, rfl, tyk_Land, nm_Land, rfl, fj_Land, rfl, rfl⟩
theorem po_4_10 (x : Nat) : pOk 4 10 (.ref x) := ⟨"CookedLaw$Land", T_Land, 18, ty_Land, rfl, tyk_Land, nm_Land, rfl, fj_Land, rfl, rfl⟩
theorem po_4_11 (x : Nat) : pOk 4 11 (.ref x) := ⟨"CookedLaw$Land", T_Land, 18, ty_Land, rfl, tyk_Land, nm_Land, rfl, fj_Land, rfl, rfl⟩
theorem po_4_12 (x : Nat) : pOk 4 12 (.ref x) := ⟨"CookedLaw$Land", T_Land, 18, ty_Land, rfl, tyk_Land, nm_Land, rfl, fj_Land, rfl, rfl⟩
theorem po_4_13 (x : Nat) : pOk 4 13 (.ref x) := ⟨"CookedLaw$Land", T_Land, 18, ty_Land, rfl, tyk_Land, nm_Land, rfl, fj_Land, rfl, rfl⟩
theorem po_4_14 (x : Nat) : pOk 4 14 (.ref x) := ⟨"CookedLaw$Land", T_Land, 18, ty_Land, rfl, tyk_Land, nm_Land, rfl, fj_Land, rfl, rfl⟩
theorem po_4_15 (x : Nat) : pOk 4 15 (.ref x) := ⟨"CookedLaw$Land", T_Land, 18, ty_Land, rfl, tyk_Land, nm_Land, rfl, fj_Land, rfl, rfl⟩
theorem po_4_16 (x : Nat) : pOk 4 16 (.ref x) := ⟨"CookedLaw$Land", T_Land, 18, ty_Land, rfl, tyk_Land, nm_Land, rfl, fj_Land, rfl, rfl⟩
theorem po_4_17 (x : Nat) : pOk 4 17 (.ref x) := ⟨"CookedLaw$Land", T_Land, 18, ty_Land, rfl, tyk_Land, nm_Land, rfl, fj_Land, rfl, rfl⟩
theorem fj_Law : ∀ (j : Nat) (q : Nat × Nat), (fks 5)[j]? = some q → q.2 = j := by
  have e : ∀ j, j < 4 → ∀ q ∈ (fks 5)[j]?, q.2 = j := by decide +kernel
  intro j q h
  have hj : j < 4 := (List.getElem?_eq_some_iff.mp h).1
  exact e j hj q (by rw [h]; rfl)
theorem po_5_0 (x : Nat) : pOk 5 0 (.ref x) := ⟨"CookedLaw$Law", T_Law, 4, ty_Law, rfl, tyk_Law, nm_Law, rfl, fj_Law, rfl, rfl⟩
theorem po_5_1 (x : Int32) : pOk 5 1 (.int x) := ⟨"CookedLaw$Law", T_Law, 4, ty_Law, rfl, tyk_Law, nm_Law, rfl, fj_Law, rfl, rfl⟩
theorem po_5_2 (x : Nat) : pOk 5 2 (.ref x) := ⟨"CookedLaw$Law", T_Law, 4, ty_Law, rfl, tyk_Law, nm_Law, rfl, fj_Law, rfl, rfl⟩
theorem po_5_3 (x : Nat) : pOk 5 3 (.ref x) := ⟨"CookedLaw$Law", T_Law, 4, ty_Law, rfl, tyk_Law, nm_Law, rfl, fj_Law, rfl, rfl⟩
theorem fj_State : ∀ (j : Nat) (q : Nat × Nat), (fks 6)[j]? = some q → q.2 = j := by
  have e : ∀ j, j < 10 → ∀ q ∈ (fks 6)[j]?, q.2 = j := by decide +kernel
  intro j q h
  have hj : j < 10 := (List.getElem?_eq_some_iff.mp h).1
  exact e j hj q (by rw [h]; rfl)
theorem po_6_0 (x : Int32) : pOk 6 0 (.int x) := ⟨"CookedLaw$State", T_State, 10, ty_State, rfl, tyk_State, nm_State, rfl, fj_State, rfl, rfl⟩
theorem po_6_1 (x : Int32) : pOk 6 1 (.int x) := ⟨"CookedLaw$State", T_State, 10, ty_State, rfl, tyk_State, nm_State, rfl, fj_State, rfl, rfl⟩
theorem po_6_2 (x : Int32) : pOk 6 2 (.int x) := ⟨"CookedLaw$State", T_State, 10, ty_State, rfl, tyk_State, nm_State, rfl, fj_State, rfl, rfl⟩
theorem po_6_3 (x : Int32) : pOk 6 3 (.int x) := ⟨"CookedLaw$State", T_State, 10, ty_State, rfl, tyk_State, nm_State, rfl, fj_State, rfl, rfl⟩
theorem po_6_4 (x : Nat) : pOk 6 4 (.ref x) := ⟨"CookedLaw$State", T_State, 10, ty_State, rfl, tyk_State, nm_State, rfl, fj_State, rfl, rfl⟩
theorem po_6_5 (x : Nat) : pOk 6 5 (.ref x) := ⟨"CookedLaw$State", T_State, 10, ty_State, rfl, tyk_State, nm_State, rfl, fj_State, rfl, rfl⟩
theorem po_6_6 (x : Nat) : pOk 6 6 (.ref x) := ⟨"CookedLaw$State", T_State, 10, ty_State, rfl, tyk_State, nm_State, rfl, fj_State, rfl, rfl⟩
theorem po_6_7 (x : Nat) : pOk 6 7 (.ref x) := ⟨"CookedLaw$State", T_State, 10, ty_State, rfl, tyk_State, nm_State, rfl, fj_State, rfl, rfl⟩
theorem po_6_8 (x : Nat) : pOk 6 8 (.ref x) := ⟨"CookedLaw$State", T_State, 10, ty_State, rfl, tyk_State, nm_State, rfl, fj_State, rfl, rfl⟩
theorem po_6_9 (x : Nat) : pOk 6 9 (.ref x) := ⟨"CookedLaw$State", T_State, 10, ty_State, rfl, tyk_State, nm_State, rfl, fj_State, rfl, rfl⟩
theorem fj_Past : ∀ (j : Nat) (q : Nat × Nat), (fks 7)[j]? = some q → q.2 = j := by
  have e : ∀ j, j < 3 → ∀ q ∈ (fks 7)[j]?, q.2 = j := by decide +kernel
  intro j q h
  have hj : j < 3 := (List.getElem?_eq_some_iff.mp h).1
  exact e j hj q (by rw [h]; rfl)
theorem po_7_0 (x : Nat) : pOk 7 0 (.ref x) := ⟨"CookedLaw$Past", T_Past, 3, ty_Past, rfl, tyk_Past, nm_Past, rfl, fj_Past, rfl, rfl⟩
theorem po_7_1 (x : Int32) : pOk 7 1 (.int x) := ⟨"CookedLaw$Past", T_Past, 3, ty_Past, rfl, tyk_Past, nm_Past, rfl, fj_Past, rfl, rfl⟩
theorem po_7_2 (x : Int32) : pOk 7 2 (.int x) := ⟨"CookedLaw$Past", T_Past, 3, ty_Past, rfl, tyk_Past, nm_Past, rfl, fj_Past, rfl, rfl⟩
theorem fj_Slots : ∀ (j : Nat) (q : Nat × Nat), (fks 8)[j]? = some q → q.2 = j := by
  have e : ∀ j, j < 2 → ∀ q ∈ (fks 8)[j]?, q.2 = j := by decide +kernel
  intro j q h
  have hj : j < 2 := (List.getElem?_eq_some_iff.mp h).1
  exact e j hj q (by rw [h]; rfl)
theorem po_8_0 (x : Nat) : pOk 8 0 (.ref x) := ⟨"CookedLaw$Slots", T_Slots, 2, ty_Slots, rfl, tyk_Slots, nm_Slots, rfl, fj_Slots, rfl, rfl⟩
theorem po_8_1 (x : Int32) : pOk 8 1 (.int x) := ⟨"CookedLaw$Slots", T_Slots, 2, ty_Slots, rfl, tyk_Slots, nm_Slots, rfl, fj_Slots, rfl, rfl⟩
theorem fj_Told : ∀ (j : Nat) (q : Nat × Nat), (fks 9)[j]? = some q → q.2 = j := by
  have e : ∀ j, j < 9 → ∀ q ∈ (fks 9)[j]?, q.2 = j := by decide +kernel
  intro j q h
  have hj : j < 9 := (List.getElem?_eq_some_iff.mp h).1
  exact e j hj q (by rw [h]; rfl)
theorem po_9_0 (x : Nat) : pOk 9 0 (.ref x) := ⟨"CookedLaw$Told", T_Told, 9, ty_Told, rfl, tyk_Told, nm_Told, rfl, fj_Told, rfl, rfl⟩
theorem po_9_1 (x : Nat) : pOk 9 1 (.ref x) := ⟨"CookedLaw$Told", T_Told, 9, ty_Told, rfl, tyk_Told, nm_Told, rfl, fj_Told, rfl, rfl⟩
theorem po_9_2 (x : Nat) : pOk 9 2 (.ref x) := ⟨"CookedLaw$Told", T_Told, 9, ty_Told, rfl, tyk_Told, nm_Told, rfl, fj_Told, rfl, rfl⟩
theorem po_9_3 (x : Int32) : pOk 9 3 (.int x) := ⟨"CookedLaw$Told", T_Told, 9, ty_Told, rfl, tyk_Told, nm_Told, rfl, fj_Told, rfl, rfl⟩
theorem po_9_4 (x : Nat) : pOk 9 4 (.ref x) := ⟨"CookedLaw$Told", T_Told, 9, ty_Told, rfl, tyk_Told, nm_Told, rfl, fj_Told, rfl, rfl⟩
theorem po_9_5 (x : Nat) : pOk 9 5 (.ref x) := ⟨"CookedLaw$Told", T_Told, 9, ty_Told, rfl, tyk_Told, nm_Told, rfl, fj_Told, rfl, rfl⟩
theorem po_9_6 (x : Nat) : pOk 9 6 (.ref x) := ⟨"CookedLaw$Told", T_Told, 9, ty_Told, rfl, tyk_Told, nm_Told, rfl, fj_Told, rfl, rfl⟩
theorem po_9_7 (x : Int32) : pOk 9 7 (.int x) := ⟨"CookedLaw$Told", T_Told, 9, ty_Told, rfl, tyk_Told, nm_Told, rfl, fj_Told, rfl, rfl⟩
theorem po_9_8 (x : Nat) : pOk 9 8 (.ref x) := ⟨"CookedLaw$Told", T_Told, 9, ty_Told, rfl, tyk_Told, nm_Told, rfl, fj_Told, rfl, rfl⟩
theorem fj_PotSearch : ∀ (j : Nat) (q : Nat × Nat), (fks 10)[j]? = some q → q.2 = j := by
  have e : ∀ j, j < 11 → ∀ q ∈ (fks 10)[j]?, q.2 = j := by decide +kernel
  intro j q h
  have hj : j < 11 := (List.getElem?_eq_some_iff.mp h).1
  exact e j hj q (by rw [h]; rfl)
theorem po_10_0 (x : Nat) : pOk 10 0 (.ref x) := ⟨"CookedLaw$PotSearch", T_PotSearch, 11, ty_PotSearch, rfl, tyk_PotSearch, nm_PotSearch, rfl, fj_PotSearch, rfl, rfl⟩
theorem po_10_1 (x : Nat) : pOk 10 1 (.ref x) := ⟨"CookedLaw$PotSearch", T_PotSearch, 11, ty_PotSearch, rfl, tyk_PotSearch, nm_PotSearch, rfl, fj_PotSearch, rfl, rfl⟩
theorem po_10_2 (x : Nat) : pOk 10 2 (.ref x) := ⟨"CookedLaw$PotSearch", T_PotSearch, 11, ty_PotSearch, rfl, tyk_PotSearch, nm_PotSearch, rfl, fj_PotSearch, rfl, rfl⟩
theorem po_10_3 (x : Int32) : pOk 10 3 (.int x) := ⟨"CookedLaw$PotSearch", T_PotSearch, 11, ty_PotSearch, rfl, tyk_PotSearch, nm_PotSearch, rfl, fj_PotSearch, rfl, rfl⟩
theorem po_10_4 (x : Int32) : pOk 10 4 (.int x) := ⟨"CookedLaw$PotSearch", T_PotSearch, 11, ty_PotSearch, rfl, tyk_PotSearch, nm_PotSearch, rfl, fj_PotSearch, rfl, rfl⟩
theorem po_10_5 (x : Nat) : pOk 10 5 (.ref x) := ⟨"CookedLaw$PotSearch", T_PotSearch, 11, ty_PotSearch, rfl, tyk_PotSearch, nm_PotSearch, rfl, fj_PotSearch, rfl, rfl⟩
theorem po_10_6 (x : Int32) : pOk 10 6 (.int x) := ⟨"CookedLaw$PotSearch", T_PotSearch, 11, ty_PotSearch, rfl, tyk_PotSearch, nm_PotSearch, rfl, fj_PotSearch, rfl, rfl⟩
theorem po_10_7 (x : Int32) : pOk 10 7 (.int x) := ⟨"CookedLaw$PotSearch", T_PotSearch, 11, ty_PotSearch, rfl, tyk_PotSearch, nm_PotSearch, rfl, fj_PotSearch, rfl, rfl⟩
theorem po_10_8 (x : Int32) : pOk 10 8 (.int x) := ⟨"CookedLaw$PotSearch", T_PotSearch, 11, ty_PotSearch, rfl, tyk_PotSearch, nm_PotSearch, rfl, fj_PotSearch, rfl, rfl⟩
theorem po_10_9_0 : pOk 10 9 (.int 0) := ⟨"CookedLaw$PotSearch", T_PotSearch, 11, ty_PotSearch, rfl, tyk_PotSearch, nm_PotSearch, rfl, fj_PotSearch, rfl, rfl⟩
theorem po_10_9_1 : pOk 10 9 (.int 1) := ⟨"CookedLaw$PotSearch", T_PotSearch, 11, ty_PotSearch, rfl, tyk_PotSearch, nm_PotSearch, rfl, fj_PotSearch, rfl, rfl⟩
theorem po_10_10 (x : Int32) : pOk 10 10 (.int x) := ⟨"CookedLaw$PotSearch", T_PotSearch, 11, ty_PotSearch, rfl, tyk_PotSearch, nm_PotSearch, rfl, fj_PotSearch, rfl, rfl⟩
theorem fj_MenuSearch : ∀ (j : Nat) (q : Nat × Nat), (fks 11)[j]? = some q → q.2 = j := by
  have e : ∀ j, j < 5 → ∀ q ∈ (fks 11)[j]?, q.2 = j := by decide +kernel
  intro j q h
  have hj : j < 5 := (List.getElem?_eq_some_iff.mp h).1
  exact e j hj q (by rw [h]; rfl)
theorem po_11_0 (x : Nat) : pOk 11 0 (.ref x) := ⟨"CookedLaw$MenuSearch", T_MenuSearch, 5, ty_MenuSearch, rfl, tyk_MenuSearch, nm_MenuSearch, rfl, fj_MenuSearch, rfl, rfl⟩
theorem po_11_1 (x : Nat) : pOk 11 1 (.ref x) := ⟨"CookedLaw$MenuSearch", T_MenuSearch, 5, ty_MenuSearch, rfl, tyk_MenuSearch, nm_MenuSearch, rfl, fj_MenuSearch, rfl, rfl⟩
theorem po_11_2 (x : Nat) : pOk 11 2 (.ref x) := ⟨"CookedLaw$MenuSearch", T_MenuSearch, 5, ty_MenuSearch, rfl, tyk_MenuSearch, nm_MenuSearch, rfl, fj_MenuSearch, rfl, rfl⟩
theorem po_11_3 (x : Nat) : pOk 11 3 (.ref x) := ⟨"CookedLaw$MenuSearch", T_MenuSearch, 5, ty_MenuSearch, rfl, tyk_MenuSearch, nm_MenuSearch, rfl, fj_MenuSearch, rfl, rfl⟩
theorem po_11_4 (x : Int32) : pOk 11 4 (.int x) := ⟨"CookedLaw$MenuSearch", T_MenuSearch, 5, ty_MenuSearch, rfl, tyk_MenuSearch, nm_MenuSearch, rfl, fj_MenuSearch, rfl, rfl⟩
theorem fj_Mod : ∀ (j : Nat) (q : Nat × Nat), (fks 12)[j]? = some q → q.2 = j := by
  have e : ∀ j, j < 71 → ∀ q ∈ (fks 12)[j]?, q.2 = j := by decide +kernel
  intro j q h
  have hj : j < 71 := (List.getElem?_eq_some_iff.mp h).1
  exact e j hj q (by rw [h]; rfl)
theorem po_12_0 (x : Int32) : pOk 12 0 (.int x) := ⟨"CookedLawModel", T_Mod, 71, ty_Mod, rfl, tyk_Mod, nm_Mod, rfl, fj_Mod, rfl, rfl⟩
theorem po_12_1 (x : Nat) : pOk 12 1 (.ref x) := ⟨"CookedLawModel", T_Mod, 71, ty_Mod, rfl, tyk_Mod, nm_Mod, rfl, fj_Mod, rfl, rfl⟩
theorem po_12_2 (x : Int32) : pOk 12 2 (.int x) := ⟨"CookedLawModel", T_Mod, 71, ty_Mod, rfl, tyk_Mod, nm_Mod, rfl, fj_Mod, rfl, rfl⟩
theorem po_12_3 (x : Nat) : pOk 12 3 (.ref x) := ⟨"CookedLawModel", T_Mod, 71, ty_Mod, rfl, tyk_Mod, nm_Mod, rfl, fj_Mod, rfl, rfl⟩
theorem po_12_4 (x : Int32) : pOk 12 4 (.int x) := ⟨"CookedLawModel", T_Mod, 71, ty_Mod, rfl, tyk_Mod, nm_Mod, rfl, fj_Mod, rfl, rfl⟩
theorem po_12_5 (x : Nat) : pOk 12 5 (.ref x) := ⟨"CookedLawModel", T_Mod, 71, ty_Mod, rfl, tyk_Mod, nm_Mod, rfl, fj_Mod, rfl, rfl⟩
theorem po_12_6 (x : Nat) : pOk 12 6 (.ref x) := ⟨"CookedLawModel", T_Mod, 71, ty_Mod, rfl, tyk_Mod, nm_Mod, rfl, fj_Mod, rfl, rfl⟩
theorem po_12_7 (x : Nat) : pOk 12 7 (.ref x) := ⟨"CookedLawModel", T_Mod, 71, ty_Mod, rfl, tyk_Mod, nm_Mod, rfl, fj_Mod, rfl, rfl⟩
theorem po_12_8 (x : Nat) : pOk 12 8 (.ref x) := ⟨"CookedLawModel", T_Mod, 71, ty_Mod, rfl, tyk_Mod, nm_Mod, rfl, fj_Mod, rfl, rfl⟩
theorem po_12_9 (x : Nat) : pOk 12 9 (.ref x) := ⟨"CookedLawModel", T_Mod, 71, ty_Mod, rfl, tyk_Mod, nm_Mod, rfl, fj_Mod, rfl, rfl⟩
theorem po_12_10 (x : Int32) : pOk 12 10 (.int x) := ⟨"CookedLawModel", T_Mod, 71, ty_Mod, rfl, tyk_Mod, nm_Mod, rfl, fj_Mod, rfl, rfl⟩
theorem po_12_11 (x : Int32) : pOk 12 11 (.int x) := ⟨"CookedLawModel", T_Mod, 71, ty_Mod, rfl, tyk_Mod, nm_Mod, rfl, fj_Mod, rfl, rfl⟩
theorem po_12_12 (x : Int32) : pOk 12 12 (.int x) := ⟨"CookedLawModel", T_Mod, 71, ty_Mod, rfl, tyk_Mod, nm_Mod, rfl, fj_Mod, rfl, rfl⟩
theorem po_12_13 (x : Int32) : pOk 12 13 (.int x) := ⟨"CookedLawModel", T_Mod, 71, ty_Mod, rfl, tyk_Mod, nm_Mod, rfl, fj_Mod, rfl, rfl⟩
theorem po_12_14 (x : Int32) : pOk 12 14 (.int x) := ⟨"CookedLawModel", T_Mod, 71, ty_Mod, rfl, tyk_Mod, nm_Mod, rfl, fj_Mod, rfl, rfl⟩
theorem po_12_15 (x : Int32) : pOk 12 15 (.int x) := ⟨"CookedLawModel", T_Mod, 71, ty_Mod, rfl, tyk_Mod, nm_Mod, rfl, fj_Mod, rfl, rfl⟩
theorem po_12_16 (x : Int32) : pOk 12 16 (.int x) := ⟨"CookedLawModel", T_Mod, 71, ty_Mod, rfl, tyk_Mod, nm_Mod, rfl, fj_Mod, rfl, rfl⟩
theorem po_12_17 (x : Int32) : pOk 12 17 (.int x) := ⟨"CookedLawModel", T_Mod, 71, ty_Mod, rfl, tyk_Mod, nm_Mod, rfl, fj_Mod, rfl, rfl⟩
theorem po_12_18 (x : Int32) : pOk 12 18 (.int x) := ⟨"CookedLawModel", T_Mod, 71, ty_Mod, rfl, tyk_Mod, nm_Mod, rfl, fj_Mod, rfl, rfl⟩
theorem po_12_19 (x : Int32) : pOk 12 19 (.int x) := ⟨"CookedLawModel", T_Mod, 71, ty_Mod, rfl, tyk_Mod, nm_Mod, rfl, fj_Mod, rfl, rfl⟩
theorem po_12_20 (x : Int32) : pOk 12 20 (.int x) := ⟨"CookedLawModel", T_Mod, 71, ty_Mod, rfl, tyk_Mod, nm_Mod, rfl, fj_Mod, rfl, rfl⟩
theorem po_12_21 (x : Nat) : pOk 12 21 (.ref x) := ⟨"CookedLawModel", T_Mod, 71, ty_Mod, rfl, tyk_Mod, nm_Mod, rfl, fj_Mod, rfl, rfl⟩
theorem po_12_22 (x : Nat) : pOk 12 22 (.ref x) := ⟨"CookedLawModel", T_Mod, 71, ty_Mod, rfl, tyk_Mod, nm_Mod, rfl, fj_Mod, rfl, rfl⟩
theorem po_12_23 (x : Nat) : pOk 12 23 (.ref x) := ⟨"CookedLawModel", T_Mod, 71, ty_Mod, rfl, tyk_Mod, nm_Mod, rfl, fj_Mod, rfl, rfl⟩
theorem po_12_24 (x : Nat) : pOk 12 24 (.ref x) := ⟨"CookedLawModel", T_Mod, 71, ty_Mod, rfl, tyk_Mod, nm_Mod, rfl, fj_Mod, rfl, rfl⟩
theorem po_12_25 (x : Nat) : pOk 12 25 (.ref x) := ⟨"CookedLawModel", T_Mod, 71, ty_Mod, rfl, tyk_Mod, nm_Mod, rfl, fj_Mod, rfl, rfl⟩
theorem po_12_26 (x : Nat) : pOk 12 26 (.ref x) := ⟨"CookedLawModel", T_Mod, 71, ty_Mod, rfl, tyk_Mod, nm_Mod, rfl, fj_Mod, rfl, rfl⟩
theorem po_12_27 (x : Nat) : pOk 12 27 (.ref x) := ⟨"CookedLawModel", T_Mod, 71, ty_Mod, rfl, tyk_Mod, nm_Mod, rfl, fj_Mod, rfl, rfl⟩
theorem po_12_28 (x : Nat) : pOk 12 28 (.ref x) := ⟨"CookedLawModel", T_Mod, 71, ty_Mod, rfl, tyk_Mod, nm_Mod, rfl, fj_Mod, rfl, rfl⟩
theorem po_12_29 (x : Nat) : pOk 12 29 (.ref x) := ⟨"CookedLawModel", T_Mod, 71, ty_Mod, rfl, tyk_Mod, nm_Mod, rfl, fj_Mod, rfl, rfl⟩
theorem po_12_30 (x : Nat) : pOk 12 30 (.ref x) := ⟨"CookedLawModel", T_Mod, 71, ty_Mod, rfl, tyk_Mod, nm_Mod, rfl, fj_Mod, rfl, rfl⟩
theorem po_12_31 (x : Nat) : pOk 12 31 (.ref x) := ⟨"CookedLawModel", T_Mod, 71, ty_Mod, rfl, tyk_Mod, nm_Mod, rfl, fj_Mod, rfl, rfl⟩
theorem po_12_32 (x : Nat) : pOk 12 32 (.ref x) := ⟨"CookedLawModel", T_Mod, 71, ty_Mod, rfl, tyk_Mod, nm_Mod, rfl, fj_Mod, rfl, rfl⟩
theorem po_12_33 (x : Nat) : pOk 12 33 (.ref x) := ⟨"CookedLawModel", T_Mod, 71, ty_Mod, rfl, tyk_Mod, nm_Mod, rfl, fj_Mod, rfl, rfl⟩
theorem po_12_34 (x : Nat) : pOk 12 34 (.ref x) := ⟨"CookedLawModel", T_Mod, 71, ty_Mod, rfl, tyk_Mod, nm_Mod, rfl, fj_Mod, rfl, rfl⟩
theorem po_12_35 (x : Nat) : pOk 12 35 (.ref x) := ⟨"CookedLawModel", T_Mod, 71, ty_Mod, rfl, tyk_Mod, nm_Mod, rfl, fj_Mod, rfl, rfl⟩
theorem po_12_36 (x : Nat) : pOk 12 36 (.ref x) := ⟨"CookedLawModel", T_Mod, 71, ty_Mod, rfl, tyk_Mod, nm_Mod, rfl, fj_Mod, rfl, rfl⟩
theorem po_12_37 (x : Nat) : pOk 12 37 (.ref x) := ⟨"CookedLawModel", T_Mod, 71, ty_Mod, rfl, tyk_Mod, nm_Mod, rfl, fj_Mod, rfl, rfl⟩
theorem po_12_38 (x : Int32) : pOk 12 38 (.int x) := ⟨"CookedLawModel", T_Mod, 71, ty_Mod, rfl, tyk_Mod, nm_Mod, rfl, fj_Mod, rfl, rfl⟩
theorem po_12_39 (x : Nat) : pOk 12 39 (.ref x) := ⟨"CookedLawModel", T_Mod, 71, ty_Mod, rfl, tyk_Mod, nm_Mod, rfl, fj_Mod, rfl, rfl⟩
theorem po_12_40 (x : Nat) : pOk 12 40 (.ref x) := ⟨"CookedLawModel", T_Mod, 71, ty_Mod, rfl, tyk_Mod, nm_Mod, rfl, fj_Mod, rfl, rfl⟩
theorem po_12_41 (x : Nat) : pOk 12 41 (.ref x) := ⟨"CookedLawModel", T_Mod, 71, ty_Mod, rfl, tyk_Mod, nm_Mod, rfl, fj_Mod, rfl, rfl⟩
theorem po_12_42 (x : Nat) : pOk 12 42 (.ref x) := ⟨"CookedLawModel", T_Mod, 71, ty_Mod, rfl, tyk_Mod, nm_Mod, rfl, fj_Mod, rfl, rfl⟩
theorem po_12_43 (x : Nat) : pOk 12 43 (.ref x) := ⟨"CookedLawModel", T_Mod, 71, ty_Mod, rfl, tyk_Mod, nm_Mod, rfl, fj_Mod, rfl, rfl⟩
theorem po_12_44 (x : Int32) : pOk 12 44 (.int x) := ⟨"CookedLawModel", T_Mod, 71, ty_Mod, rfl, tyk_Mod, nm_Mod, rfl, fj_Mod, rfl, rfl⟩
theorem po_12_45 (x : Nat) : pOk 12 45 (.ref x) := ⟨"CookedLawModel", T_Mod, 71, ty_Mod, rfl, tyk_Mod, nm_Mod, rfl, fj_Mod, rfl, rfl⟩
theorem po_12_46 (x : Nat) : pOk 12 46 (.ref x) := ⟨"CookedLawModel", T_Mod, 71, ty_Mod, rfl, tyk_Mod, nm_Mod, rfl, fj_Mod, rfl, rfl⟩
theorem po_12_47 (x : Nat) : pOk 12 47 (.ref x) := ⟨"CookedLawModel", T_Mod, 71, ty_Mod, rfl, tyk_Mod, nm_Mod, rfl, fj_Mod, rfl, rfl⟩
theorem po_12_48 (x : Int32) : pOk 12 48 (.int x) := ⟨"CookedLawModel", T_Mod, 71, ty_Mod, rfl, tyk_Mod, nm_Mod, rfl, fj_Mod, rfl, rfl⟩
theorem po_12_49 (x : Nat) : pOk 12 49 (.ref x) := ⟨"CookedLawModel", T_Mod, 71, ty_Mod, rfl, tyk_Mod, nm_Mod, rfl, fj_Mod, rfl, rfl⟩
theorem po_12_50 (x : Nat) : pOk 12 50 (.ref x) := ⟨"CookedLawModel", T_Mod, 71, ty_Mod, rfl, tyk_Mod, nm_Mod, rfl, fj_Mod, rfl, rfl⟩
theorem po_12_51_0 : pOk 12 51 (.int 0) := ⟨"CookedLawModel", T_Mod, 71, ty_Mod, rfl, tyk_Mod, nm_Mod, rfl, fj_Mod, rfl, rfl⟩
theorem po_12_51_1 : pOk 12 51 (.int 1) := ⟨"CookedLawModel", T_Mod, 71, ty_Mod, rfl, tyk_Mod, nm_Mod, rfl, fj_Mod, rfl, rfl⟩
theorem po_12_52 (x : Nat) : pOk 12 52 (.ref x) := ⟨"CookedLawModel", T_Mod, 71, ty_Mod, rfl, tyk_Mod, nm_Mod, rfl, fj_Mod, rfl, rfl⟩
theorem po_12_53 (x : Nat) : pOk 12 53 (.ref x) := ⟨"CookedLawModel", T_Mod, 71, ty_Mod, rfl, tyk_Mod, nm_Mod, rfl, fj_Mod, rfl, rfl⟩
theorem po_12_54 (x : Int32) : pOk 12 54 (.int x) := ⟨"CookedLawModel", T_Mod, 71, ty_Mod, rfl, tyk_Mod, nm_Mod, rfl, fj_Mod, rfl, rfl⟩
theorem po_12_55 (x : Nat) : pOk 12 55 (.ref x) := ⟨"CookedLawModel", T_Mod, 71, ty_Mod, rfl, tyk_Mod, nm_Mod, rfl, fj_Mod, rfl, rfl⟩
theorem po_12_56 (x : Nat) : pOk 12 56 (.ref x) := ⟨"CookedLawModel", T_Mod, 71, ty_Mod, rfl, tyk_Mod, nm_Mod, rfl, fj_Mod, rfl, rfl⟩
theorem po_12_57 (x : Int32) : pOk 12 57 (.int x) := ⟨"CookedLawModel", T_Mod, 71, ty_Mod, rfl, tyk_Mod, nm_Mod, rfl, fj_Mod, rfl, rfl⟩
theorem po_12_58 (x : Nat) : pOk 12 58 (.ref x) := ⟨"CookedLawModel", T_Mod, 71, ty_Mod, rfl, tyk_Mod, nm_Mod, rfl, fj_Mod, rfl, rfl⟩
theorem po_12_59 (x : Int32) : pOk 12 59 (.int x) := ⟨"CookedLawModel", T_Mod, 71, ty_Mod, rfl, tyk_Mod, nm_Mod, rfl, fj_Mod, rfl, rfl⟩
theorem po_12_60 (x : Int32) : pOk 12 60 (.int x) := ⟨"CookedLawModel", T_Mod, 71, ty_Mod, rfl, tyk_Mod, nm_Mod, rfl, fj_Mod, rfl, rfl⟩
theorem po_12_61 (x : Int32) : pOk 12 61 (.int x) := ⟨"CookedLawModel", T_Mod, 71, ty_Mod, rfl, tyk_Mod, nm_Mod, rfl, fj_Mod, rfl, rfl⟩
theorem po_12_62 (x : Int32) : pOk 12 62 (.int x) := ⟨"CookedLawModel", T_Mod, 71, ty_Mod, rfl, tyk_Mod, nm_Mod, rfl, fj_Mod, rfl, rfl⟩
theorem po_12_63 (x : Int32) : pOk 12 63 (.int x) := ⟨"CookedLawModel", T_Mod, 71, ty_Mod, rfl, tyk_Mod, nm_Mod, rfl, fj_Mod, rfl, rfl⟩
theorem po_12_64 (x : Int32) : pOk 12 64 (.int x) := ⟨"CookedLawModel", T_Mod, 71, ty_Mod, rfl, tyk_Mod, nm_Mod, rfl, fj_Mod, rfl, rfl⟩
theorem po_12_65 (x : Nat) : pOk 12 65 (.ref x) := ⟨"CookedLawModel", T_Mod, 71, ty_Mod, rfl, tyk_Mod, nm_Mod, rfl, fj_Mod, rfl, rfl⟩
theorem po_12_66 (x : Nat) : pOk 12 66 (.ref x) := ⟨"CookedLawModel", T_Mod, 71, ty_Mod, rfl, tyk_Mod, nm_Mod, rfl, fj_Mod, rfl, rfl⟩
theorem po_12_67 (x : Nat) : pOk 12 67 (.ref x) := ⟨"CookedLawModel", T_Mod, 71, ty_Mod, rfl, tyk_Mod, nm_Mod, rfl, fj_Mod, rfl, rfl⟩
theorem po_12_68 (x : Nat) : pOk 12 68 (.ref x) := ⟨"CookedLawModel", T_Mod, 71, ty_Mod, rfl, tyk_Mod, nm_Mod, rfl, fj_Mod, rfl, rfl⟩
theorem po_12_69 (x : Nat) : pOk 12 69 (.ref x) := ⟨"CookedLawModel", T_Mod, 71, ty_Mod, rfl, tyk_Mod, nm_Mod, rfl, fj_Mod, rfl, rfl⟩
theorem po_12_70 (x : Nat) : pOk 12 70 (.ref x) := ⟨"CookedLawModel", T_Mod, 71, ty_Mod, rfl, tyk_Mod, nm_Mod, rfl, fj_Mod, rfl, rfl⟩
set_option maxRecDepth 100000 in
theorem cz_Main : Cond.initialized "CookedLaw" ∈ gtb := (gk_1 (List.mem_of_getElem? (i := 1) rfl) rfl)
theorem cx_Main : "CookedLaw" ≠ "java/lang/invoke/MethodHandle" ∧ "CookedLaw" ≠ "java/lang/invoke/VarHandle" := by decide +kernel
set_option maxRecDepth 100000 in
theorem cz_Tape : Cond.initialized "CookedLaw$Tape" ∈ gtb := (gk_1 (List.mem_of_getElem? (i := 2) rfl) rfl)
theorem cx_Tape : "CookedLaw$Tape" ≠ "java/lang/invoke/MethodHandle" ∧ "CookedLaw$Tape" ≠ "java/lang/invoke/VarHandle" := by decide +kernel
set_option maxRecDepth 100000 in
theorem cz_Reader : Cond.initialized "CookedLaw$Reader" ∈ gtb := (gk_1 (List.mem_of_getElem? (i := 3) rfl) rfl)
theorem cx_Reader : "CookedLaw$Reader" ≠ "java/lang/invoke/MethodHandle" ∧ "CookedLaw$Reader" ≠ "java/lang/invoke/VarHandle" := by decide +kernel
set_option maxRecDepth 100000 in
theorem cz_Tokens : Cond.initialized "CookedLaw$Tokens" ∈ gtb := (gk_1 (List.mem_of_getElem? (i := 4) rfl) rfl)
theorem cx_Tokens : "CookedLaw$Tokens" ≠ "java/lang/invoke/MethodHandle" ∧ "CookedLaw$Tokens" ≠ "java/lang/invoke/VarHandle" := by decide +kernel
set_option maxRecDepth 100000 in
theorem cz_Land : Cond.initialized "CookedLaw$Land" ∈ gtb := (gk_1 (List.mem_of_getElem? (i := 9) rfl) rfl)
theorem cx_Land : "CookedLaw$Land" ≠ "java/lang/invoke/MethodHandle" ∧ "CookedLaw$Land" ≠ "java/lang/invoke/VarHandle" := by decide +kernel
set_option maxRecDepth 100000 in
theorem cz_Law : Cond.initialized "CookedLaw$Law" ∈ gtb := (gk_1 (List.mem_of_getElem? (i := 10) rfl) rfl)
theorem cx_Law : "CookedLaw$Law" ≠ "java/lang/invoke/MethodHandle" ∧ "CookedLaw$Law" ≠ "java/lang/invoke/VarHandle" := by decide +kernel
set_option maxRecDepth 100000 in
theorem cz_State : Cond.initialized "CookedLaw$State" ∈ gtb := (gk_1 (List.mem_of_getElem? (i := 11) rfl) rfl)
theorem cx_State : "CookedLaw$State" ≠ "java/lang/invoke/MethodHandle" ∧ "CookedLaw$State" ≠ "java/lang/invoke/VarHandle" := by decide +kernel
set_option maxRecDepth 100000 in
theorem cz_Past : Cond.initialized "CookedLaw$Past" ∈ gtb := (gk_1 (List.mem_of_getElem? (i := 12) rfl) rfl)
theorem cx_Past : "CookedLaw$Past" ≠ "java/lang/invoke/MethodHandle" ∧ "CookedLaw$Past" ≠ "java/lang/invoke/VarHandle" := by decide +kernel
set_option maxRecDepth 100000 in
theorem cz_Slots : Cond.initialized "CookedLaw$Slots" ∈ gtb := (gk_1 (List.mem_of_getElem? (i := 13) rfl) rfl)
theorem cx_Slots : "CookedLaw$Slots" ≠ "java/lang/invoke/MethodHandle" ∧ "CookedLaw$Slots" ≠ "java/lang/invoke/VarHandle" := by decide +kernel
set_option maxRecDepth 100000 in
theorem cz_Told : Cond.initialized "CookedLaw$Told" ∈ gtb := (gk_1 (List.mem_of_getElem? (i := 14) rfl) rfl)
theorem cx_Told : "CookedLaw$Told" ≠ "java/lang/invoke/MethodHandle" ∧ "CookedLaw$Told" ≠ "java/lang/invoke/VarHandle" := by decide +kernel
set_option maxRecDepth 100000 in
theorem cz_PotSearch : Cond.initialized "CookedLaw$PotSearch" ∈ gtb := (gk_1 (List.mem_of_getElem? (i := 15) rfl) rfl)
theorem cx_PotSearch : "CookedLaw$PotSearch" ≠ "java/lang/invoke/MethodHandle" ∧ "CookedLaw$PotSearch" ≠ "java/lang/invoke/VarHandle" := by decide +kernel
set_option maxRecDepth 100000 in
theorem cz_MenuSearch : Cond.initialized "CookedLaw$MenuSearch" ∈ gtb := (gk_1 (List.mem_of_getElem? (i := 16) rfl) rfl)
theorem cx_MenuSearch : "CookedLaw$MenuSearch" ≠ "java/lang/invoke/MethodHandle" ∧ "CookedLaw$MenuSearch" ≠ "java/lang/invoke/VarHandle" := by decide +kernel
set_option maxRecDepth 100000 in
theorem cz_Mod : Cond.initialized "CookedLawModel" ∈ gtb := (gk_1 (List.mem_of_getElem? (i := 17) rfl) rfl)
theorem cx_Mod : "CookedLawModel" ≠ "java/lang/invoke/MethodHandle" ∧ "CookedLawModel" ≠ "java/lang/invoke/VarHandle" := by decide +kernel
set_option maxRecDepth 100000 in
theorem cz_Int : Cond.initialized "java/lang/Integer" ∈ gtb := (gk_1 (List.mem_of_getElem? (i := 19) rfl) rfl)
theorem cx_Int : "java/lang/Integer" ≠ "java/lang/invoke/MethodHandle" ∧ "java/lang/Integer" ≠ "java/lang/invoke/VarHandle" := by decide +kernel
set_option maxRecDepth 100000 in
theorem mk_Tape_init : Cond.code y_Tape_init.1 y_Tape_init.2.1 y_Tape_init.2.2.1 y_Tape_init.2.2.2.1 ∈ gtb ∧ Cond.initialized y_Tape_init.1.cls ∈ gtb ∧ y_Tape_init.1.cls ≠ "java/lang/invoke/MethodHandle" ∧ y_Tape_init.1.cls ≠ "java/lang/invoke/VarHandle" ∧ (parseMethodDescriptor y_Tape_init.1.desc).map (fun d => d.parameters.length) = some 0 := ⟨(gk_1 (List.mem_of_getElem? (i := 32) rfl) rfl), cz_Tape, cx_Tape.1, cx_Tape.2, by decide +kernel⟩
set_option maxRecDepth 100000 in
theorem mo_Main_11 : mOk "CookedLaw" 11 0 y_Tape_init := ⟨Or.inr ⟨"CookedLaw", (tk_1 (List.mem_of_getElem? (i := 30) rfl))⟩, mk_Tape_init⟩
set_option maxRecDepth 100000 in
theorem mk_Reader_init : Cond.code y_Reader_init.1 y_Reader_init.2.1 y_Reader_init.2.2.1 y_Reader_init.2.2.2.1 ∈ gtb ∧ Cond.initialized y_Reader_init.1.cls ∈ gtb ∧ y_Reader_init.1.cls ≠ "java/lang/invoke/MethodHandle" ∧ y_Reader_init.1.cls ≠ "java/lang/invoke/VarHandle" ∧ (parseMethodDescriptor y_Reader_init.1.desc).map (fun d => d.parameters.length) = some 0 := ⟨(gk_1 (List.mem_of_getElem? (i := 48) rfl) rfl), cz_Reader, cx_Reader.1, cx_Reader.2, by decide +kernel⟩
set_option maxRecDepth 100000 in
theorem mo_Main_18 : mOk "CookedLaw" 18 0 y_Reader_init := ⟨Or.inr ⟨"CookedLaw", (tk_1 (List.mem_of_getElem? (i := 46) rfl))⟩, mk_Reader_init⟩
set_option maxRecDepth 100000 in
theorem mk_Land_init : Cond.code y_Land_init.1 y_Land_init.2.1 y_Land_init.2.2.1 y_Land_init.2.2.2.1 ∈ gtb ∧ Cond.initialized y_Land_init.1.cls ∈ gtb ∧ y_Land_init.1.cls ≠ "java/lang/invoke/MethodHandle" ∧ y_Land_init.1.cls ≠ "java/lang/invoke/VarHandle" ∧ (parseMethodDescriptor y_Land_init.1.desc).map (fun d => d.parameters.length) = some 0 := ⟨(gk_1 (List.mem_of_getElem? (i := 167) rfl) rfl), cz_Land, cx_Land.1, cx_Land.2, by decide +kernel⟩
set_option maxRecDepth 100000 in
theorem mo_Main_25 : mOk "CookedLaw" 25 0 y_Land_init := ⟨Or.inr ⟨"CookedLaw", (tk_1 (List.mem_of_getElem? (i := 165) rfl))⟩, mk_Land_init⟩
set_option maxRecDepth 100000 in
theorem mk_State_init : Cond.code y_State_init.1 y_State_init.2.1 y_State_init.2.2.1 y_State_init.2.2.2.1 ∈ gtb ∧ Cond.initialized y_State_init.1.cls ∈ gtb ∧ y_State_init.1.cls ≠ "java/lang/invoke/MethodHandle" ∧ y_State_init.1.cls ≠ "java/lang/invoke/VarHandle" ∧ (parseMethodDescriptor y_State_init.1.desc).map (fun d => d.parameters.length) = some 0 := ⟨(gk_2 (List.mem_of_getElem? (i := 42) rfl) rfl), cz_State, cx_State.1, cx_State.2, by decide +kernel⟩
set_option maxRecDepth 100000 in
theorem mo_Main_35 : mOk "CookedLaw" 35 0 y_State_init := ⟨Or.inr ⟨"CookedLaw", (tk_2 (List.mem_of_getElem? (i := 40) rfl))⟩, mk_State_init⟩
set_option maxRecDepth 100000 in
theorem mk_Past_init : Cond.code y_Past_init.1 y_Past_init.2.1 y_Past_init.2.2.1 y_Past_init.2.2.2.1 ∈ gtb ∧ Cond.initialized y_Past_init.1.cls ∈ gtb ∧ y_Past_init.1.cls ≠ "java/lang/invoke/MethodHandle" ∧ y_Past_init.1.cls ≠ "java/lang/invoke/VarHandle" ∧ (parseMethodDescriptor y_Past_init.1.desc).map (fun d => d.parameters.length) = some 0 := ⟨(gk_2 (List.mem_of_getElem? (i := 90) rfl) rfl), cz_Past, cx_Past.1, cx_Past.2, by decide +kernel⟩
set_option maxRecDepth 100000 in
theorem mo_Main_45 : mOk "CookedLaw" 45 0 y_Past_init := ⟨Or.inl (gk_2 (List.mem_of_getElem? (i := 88) rfl) rfl), mk_Past_init⟩
set_option maxRecDepth 100000 in
theorem mk_Slots_init : Cond.code y_Slots_init.1 y_Slots_init.2.1 y_Slots_init.2.2.1 y_Slots_init.2.2.2.1 ∈ gtb ∧ Cond.initialized y_Slots_init.1.cls ∈ gtb ∧ y_Slots_init.1.cls ≠ "java/lang/invoke/MethodHandle" ∧ y_Slots_init.1.cls ≠ "java/lang/invoke/VarHandle" ∧ (parseMethodDescriptor y_Slots_init.1.desc).map (fun d => d.parameters.length) = some 0 := ⟨(gk_2 (List.mem_of_getElem? (i := 110) rfl) rfl), cz_Slots, cx_Slots.1, cx_Slots.2, by decide +kernel⟩
set_option maxRecDepth 100000 in
theorem mo_Main_52 : mOk "CookedLaw" 52 0 y_Slots_init := ⟨Or.inl (gk_2 (List.mem_of_getElem? (i := 108) rfl) rfl), mk_Slots_init⟩
set_option maxRecDepth 100000 in
theorem mk_Told_init : Cond.code y_Told_init.1 y_Told_init.2.1 y_Told_init.2.2.1 y_Told_init.2.2.2.1 ∈ gtb ∧ Cond.initialized y_Told_init.1.cls ∈ gtb ∧ y_Told_init.1.cls ≠ "java/lang/invoke/MethodHandle" ∧ y_Told_init.1.cls ≠ "java/lang/invoke/VarHandle" ∧ (parseMethodDescriptor y_Told_init.1.desc).map (fun d => d.parameters.length) = some 0 := ⟨(gk_2 (List.mem_of_getElem? (i := 125) rfl) rfl), cz_Told, cx_Told.1, cx_Told.2, by decide +kernel⟩
set_option maxRecDepth 100000 in
theorem mo_Main_59 : mOk "CookedLaw" 59 0 y_Told_init := ⟨Or.inr ⟨"CookedLaw", (tk_2 (List.mem_of_getElem? (i := 123) rfl))⟩, mk_Told_init⟩
set_option maxRecDepth 100000 in
theorem mk_PotSearch_init : Cond.code y_PotSearch_init.1 y_PotSearch_init.2.1 y_PotSearch_init.2.2.1 y_PotSearch_init.2.2.2.1 ∈ gtb ∧ Cond.initialized y_PotSearch_init.1.cls ∈ gtb ∧ y_PotSearch_init.1.cls ≠ "java/lang/invoke/MethodHandle" ∧ y_PotSearch_init.1.cls ≠ "java/lang/invoke/VarHandle" ∧ (parseMethodDescriptor y_PotSearch_init.1.desc).map (fun d => d.parameters.length) = some 0 := ⟨(gk_2 (List.mem_of_getElem? (i := 161) rfl) rfl), cz_PotSearch, cx_PotSearch.1, cx_PotSearch.2, by decide +kernel⟩
set_option maxRecDepth 100000 in
theorem mo_Main_66 : mOk "CookedLaw" 66 0 y_PotSearch_init := ⟨Or.inr ⟨"CookedLaw", (tk_2 (List.mem_of_getElem? (i := 159) rfl))⟩, mk_PotSearch_init⟩
set_option maxRecDepth 100000 in
theorem mk_MenuSearch_init : Cond.code y_MenuSearch_init.1 y_MenuSearch_init.2.1 y_MenuSearch_init.2.2.1 y_MenuSearch_init.2.2.2.1 ∈ gtb ∧ Cond.initialized y_MenuSearch_init.1.cls ∈ gtb ∧ y_MenuSearch_init.1.cls ≠ "java/lang/invoke/MethodHandle" ∧ y_MenuSearch_init.1.cls ≠ "java/lang/invoke/VarHandle" ∧ (parseMethodDescriptor y_MenuSearch_init.1.desc).map (fun d => d.parameters.length) = some 0 := ⟨(gk_2 (List.mem_of_getElem? (i := 204) rfl) rfl), cz_MenuSearch, cx_MenuSearch.1, cx_MenuSearch.2, by decide +kernel⟩
set_option maxRecDepth 100000 in
theorem mo_Main_73 : mOk "CookedLaw" 73 0 y_MenuSearch_init := ⟨Or.inr ⟨"CookedLaw", (tk_2 (List.mem_of_getElem? (i := 202) rfl))⟩, mk_MenuSearch_init⟩
set_option maxRecDepth 100000 in
theorem mk_Tape_write : Cond.code y_Tape_write.1 y_Tape_write.2.1 y_Tape_write.2.2.1 y_Tape_write.2.2.2.1 ∈ gtb ∧ Cond.initialized y_Tape_write.1.cls ∈ gtb ∧ y_Tape_write.1.cls ≠ "java/lang/invoke/MethodHandle" ∧ y_Tape_write.1.cls ≠ "java/lang/invoke/VarHandle" ∧ (parseMethodDescriptor y_Tape_write.1.desc).map (fun d => d.parameters.length) = some 1 := ⟨(gk_3 (List.mem_of_getElem? (i := 29) rfl) rfl), cz_Tape, cx_Tape.1, cx_Tape.2, by decide +kernel⟩
set_option maxRecDepth 100000 in
theorem mo_Main_85 : mOk "CookedLaw" 85 1 y_Tape_write := ⟨Or.inl (gk_3 (List.mem_of_getElem? (i := 26) rfl) rfl), mk_Tape_write⟩
set_option maxRecDepth 100000 in
theorem mk_Reader_parse : Cond.code y_Reader_parse.1 y_Reader_parse.2.1 y_Reader_parse.2.2.1 y_Reader_parse.2.2.2.1 ∈ gtb ∧ Cond.initialized y_Reader_parse.1.cls ∈ gtb ∧ y_Reader_parse.1.cls ≠ "java/lang/invoke/MethodHandle" ∧ y_Reader_parse.1.cls ≠ "java/lang/invoke/VarHandle" ∧ (parseMethodDescriptor y_Reader_parse.1.desc).map (fun d => d.parameters.length) = some 2 := ⟨(gk_3 (List.mem_of_getElem? (i := 44) rfl) rfl), cz_Reader, cx_Reader.1, cx_Reader.2, by decide +kernel⟩
set_option maxRecDepth 100000 in
theorem mo_Main_89 : mOk "CookedLaw" 89 2 y_Reader_parse := ⟨Or.inl (gk_3 (List.mem_of_getElem? (i := 41) rfl) rfl), mk_Reader_parse⟩
set_option maxRecDepth 100000 in
theorem mk_Reader_placeOfFault : Cond.code y_Reader_placeOfFault.1 y_Reader_placeOfFault.2.1 y_Reader_placeOfFault.2.2.1 y_Reader_placeOfFault.2.2.2.1 ∈ gtb ∧ Cond.initialized y_Reader_placeOfFault.1.cls ∈ gtb ∧ y_Reader_placeOfFault.1.cls ≠ "java/lang/invoke/MethodHandle" ∧ y_Reader_placeOfFault.1.cls ≠ "java/lang/invoke/VarHandle" ∧ (parseMethodDescriptor y_Reader_placeOfFault.1.desc).map (fun d => d.parameters.length) = some 0 := ⟨(gk_3 (List.mem_of_getElem? (i := 216) rfl) rfl), cz_Reader, cx_Reader.1, cx_Reader.2, by decide +kernel⟩
set_option maxRecDepth 100000 in
theorem mo_Main_93 : mOk "CookedLaw" 93 0 y_Reader_placeOfFault := ⟨Or.inl (gk_3 (List.mem_of_getElem? (i := 213) rfl) rfl), mk_Reader_placeOfFault⟩
set_option maxRecDepth 100000 in
theorem mk_Main_beginDraft : Cond.code y_Main_beginDraft.1 y_Main_beginDraft.2.1 y_Main_beginDraft.2.2.1 y_Main_beginDraft.2.2.2.1 ∈ gtb ∧ Cond.initialized y_Main_beginDraft.1.cls ∈ gtb ∧ y_Main_beginDraft.1.cls ≠ "java/lang/invoke/MethodHandle" ∧ y_Main_beginDraft.1.cls ≠ "java/lang/invoke/VarHandle" ∧ (parseMethodDescriptor y_Main_beginDraft.1.desc).map (fun d => d.parameters.length) = some 0 := ⟨(gk_3 (List.mem_of_getElem? (i := 220) rfl) rfl), cz_Main, cx_Main.1, cx_Main.2, by decide +kernel⟩
set_option maxRecDepth 100000 in
theorem mo_Main_97 : mOk "CookedLaw" 97 0 y_Main_beginDraft := ⟨Or.inl (gk_3 (List.mem_of_getElem? (i := 217) rfl) rfl), mk_Main_beginDraft⟩
set_option maxRecDepth 100000 in
theorem mk_State_begin : Cond.code y_State_begin.1 y_State_begin.2.1 y_State_begin.2.2.1 y_State_begin.2.2.2.1 ∈ gtb ∧ Cond.initialized y_State_begin.1.cls ∈ gtb ∧ y_State_begin.1.cls ≠ "java/lang/invoke/MethodHandle" ∧ y_State_begin.1.cls ≠ "java/lang/invoke/VarHandle" ∧ (parseMethodDescriptor y_State_begin.1.desc).map (fun d => d.parameters.length) = some 1 := ⟨(gk_3 (List.mem_of_getElem? (i := 224) rfl) rfl), cz_State, cx_State.1, cx_State.2, by decide +kernel⟩
set_option maxRecDepth 100000 in
theorem mo_Main_100 : mOk "CookedLaw" 100 1 y_State_begin := ⟨Or.inl (gk_3 (List.mem_of_getElem? (i := 221) rfl) rfl), mk_State_begin⟩
set_option maxRecDepth 100000 in
theorem mk_Past_clear : Cond.code y_Past_clear.1 y_Past_clear.2.1 y_Past_clear.2.2.1 y_Past_clear.2.2.2.1 ∈ gtb ∧ Cond.initialized y_Past_clear.1.cls ∈ gtb ∧ y_Past_clear.1.cls ≠ "java/lang/invoke/MethodHandle" ∧ y_Past_clear.1.cls ≠ "java/lang/invoke/VarHandle" ∧ (parseMethodDescriptor y_Past_clear.1.desc).map (fun d => d.parameters.length) = some 0 := ⟨(gk_3 (List.mem_of_getElem? (i := 231) rfl) rfl), cz_Past, cx_Past.1, cx_Past.2, by decide +kernel⟩
set_option maxRecDepth 100000 in
theorem mo_Main_104 : mOk "CookedLaw" 104 0 y_Past_clear := ⟨Or.inl (gk_3 (List.mem_of_getElem? (i := 228) rfl) rfl), mk_Past_clear⟩
set_option maxRecDepth 100000 in
theorem mk_Slots_clear : Cond.code y_Slots_clear.1 y_Slots_clear.2.1 y_Slots_clear.2.2.1 y_Slots_clear.2.2.2.1 ∈ gtb ∧ Cond.initialized y_Slots_clear.1.cls ∈ gtb ∧ y_Slots_clear.1.cls ≠ "java/lang/invoke/MethodHandle" ∧ y_Slots_clear.1.cls ≠ "java/lang/invoke/VarHandle" ∧ (parseMethodDescriptor y_Slots_clear.1.desc).map (fun d => d.parameters.length) = some 0 := ⟨(gk_3 (List.mem_of_getElem? (i := 235) rfl) rfl), cz_Slots, cx_Slots.1, cx_Slots.2, by decide +kernel⟩
set_option maxRecDepth 100000 in
theorem mo_Main_107 : mOk "CookedLaw" 107 0 y_Slots_clear := ⟨Or.inl (gk_3 (List.mem_of_getElem? (i := 232) rfl) rfl), mk_Slots_clear⟩
set_option maxRecDepth 100000 in
theorem mk_Told_clear : Cond.code y_Told_clear.1 y_Told_clear.2.1 y_Told_clear.2.2.1 y_Told_clear.2.2.2.1 ∈ gtb ∧ Cond.initialized y_Told_clear.1.cls ∈ gtb ∧ y_Told_clear.1.cls ≠ "java/lang/invoke/MethodHandle" ∧ y_Told_clear.1.cls ≠ "java/lang/invoke/VarHandle" ∧ (parseMethodDescriptor y_Told_clear.1.desc).map (fun d => d.parameters.length) = some 0 := ⟨(gk_3 (List.mem_of_getElem? (i := 239) rfl) rfl), cz_Told, cx_Told.1, cx_Told.2, by decide +kernel⟩
set_option maxRecDepth 100000 in
theorem mo_Main_108 : mOk "CookedLaw" 108 0 y_Told_clear := ⟨Or.inl (gk_3 (List.mem_of_getElem? (i := 236) rfl) rfl), mk_Told_clear⟩
set_option maxRecDepth 100000 in
theorem mk_Main_isOne : Cond.code y_Main_isOne.1 y_Main_isOne.2.1 y_Main_isOne.2.2.1 y_Main_isOne.2.2.2.1 ∈ gtb ∧ Cond.initialized y_Main_isOne.1.cls ∈ gtb ∧ y_Main_isOne.1.cls ≠ "java/lang/invoke/MethodHandle" ∧ y_Main_isOne.1.cls ≠ "java/lang/invoke/VarHandle" ∧ (parseMethodDescriptor y_Main_isOne.1.desc).map (fun d => d.parameters.length) = some 2 := ⟨(gk_3 (List.mem_of_getElem? (i := 183) rfl) rfl), cz_Main, cx_Main.1, cx_Main.2, by decide +kernel⟩
set_option maxRecDepth 100000 in
theorem mo_Main_112 : mOk "CookedLaw" 112 2 y_Main_isOne := ⟨Or.inl (gk_4 (List.mem_of_getElem? (i := 8) rfl) rfl), mk_Main_isOne⟩
set_option maxRecDepth 100000 in
theorem mk_Main_at : Cond.code y_Main_at.1 y_Main_at.2.1 y_Main_at.2.2.1 y_Main_at.2.2.2.1 ∈ gtb ∧ Cond.initialized y_Main_at.1.cls ∈ gtb ∧ y_Main_at.1.cls ≠ "java/lang/invoke/MethodHandle" ∧ y_Main_at.1.cls ≠ "java/lang/invoke/VarHandle" ∧ (parseMethodDescriptor y_Main_at.1.desc).map (fun d => d.parameters.length) = some 2 := ⟨(gk_3 (List.mem_of_getElem? (i := 101) rfl) rfl), cz_Main, cx_Main.1, cx_Main.2, by decide +kernel⟩
set_option maxRecDepth 100000 in
theorem mo_Main_120 : mOk "CookedLaw" 120 2 y_Main_at := ⟨Or.inl (gk_4 (List.mem_of_getElem? (i := 9) rfl) rfl), mk_Main_at⟩
set_option maxRecDepth 100000 in
theorem mk_Land_broughtBy : Cond.code y_Land_broughtBy.1 y_Land_broughtBy.2.1 y_Land_broughtBy.2.2.1 y_Land_broughtBy.2.2.2.1 ∈ gtb ∧ Cond.initialized y_Land_broughtBy.1.cls ∈ gtb ∧ y_Land_broughtBy.1.cls ≠ "java/lang/invoke/MethodHandle" ∧ y_Land_broughtBy.1.cls ≠ "java/lang/invoke/VarHandle" ∧ (parseMethodDescriptor y_Land_broughtBy.1.desc).map (fun d => d.parameters.length) = some 2 := ⟨(gk_4 (List.mem_of_getElem? (i := 13) rfl) rfl), cz_Land, cx_Land.1, cx_Land.2, by decide +kernel⟩
set_option maxRecDepth 100000 in
theorem mo_Main_127 : mOk "CookedLaw" 127 2 y_Land_broughtBy := ⟨Or.inl (gk_4 (List.mem_of_getElem? (i := 10) rfl) rfl), mk_Land_broughtBy⟩
set_option maxRecDepth 100000 in
theorem mk_Land_manyIn : Cond.code y_Land_manyIn.1 y_Land_manyIn.2.1 y_Land_manyIn.2.2.1 y_Land_manyIn.2.2.2.1 ∈ gtb ∧ Cond.initialized y_Land_manyIn.1.cls ∈ gtb ∧ y_Land_manyIn.1.cls ≠ "java/lang/invoke/MethodHandle" ∧ y_Land_manyIn.1.cls ≠ "java/lang/invoke/VarHandle" ∧ (parseMethodDescriptor y_Land_manyIn.1.desc).map (fun d => d.parameters.length) = some 1 := ⟨(gk_4 (List.mem_of_getElem? (i := 21) rfl) rfl), cz_Land, cx_Land.1, cx_Land.2, by decide +kernel⟩
set_option maxRecDepth 100000 in
theorem mo_Main_137 : mOk "CookedLaw" 137 1 y_Land_manyIn := ⟨Or.inl (gk_4 (List.mem_of_getElem? (i := 18) rfl) rfl), mk_Land_manyIn⟩
set_option maxRecDepth 100000 in
theorem mk_Land_priceOf : Cond.code y_Land_priceOf.1 y_Land_priceOf.2.1 y_Land_priceOf.2.2.1 y_Land_priceOf.2.2.2.1 ∈ gtb ∧ Cond.initialized y_Land_priceOf.1.cls ∈ gtb ∧ y_Land_priceOf.1.cls ≠ "java/lang/invoke/MethodHandle" ∧ y_Land_priceOf.1.cls ≠ "java/lang/invoke/VarHandle" ∧ (parseMethodDescriptor y_Land_priceOf.1.desc).map (fun d => d.parameters.length) = some 1 := ⟨(gk_4 (List.mem_of_getElem? (i := 26) rfl) rfl), cz_Land, cx_Land.1, cx_Land.2, by decide +kernel⟩
set_option maxRecDepth 100000 in
theorem mo_Main_141 : mOk "CookedLaw" 141 1 y_Land_priceOf := ⟨Or.inl (gk_4 (List.mem_of_getElem? (i := 23) rfl) rfl), mk_Land_priceOf⟩
set_option maxRecDepth 100000 in
theorem mk_Land_dishForce : Cond.code y_Land_dishForce.1 y_Land_dishForce.2.1 y_Land_dishForce.2.2.1 y_Land_dishForce.2.2.2.1 ∈ gtb ∧ Cond.initialized y_Land_dishForce.1.cls ∈ gtb ∧ y_Land_dishForce.1.cls ≠ "java/lang/invoke/MethodHandle" ∧ y_Land_dishForce.1.cls ≠ "java/lang/invoke/VarHandle" ∧ (parseMethodDescriptor y_Land_dishForce.1.desc).map (fun d => d.parameters.length) = some 4 := ⟨(gk_4 (List.mem_of_getElem? (i := 30) rfl) rfl), cz_Land, cx_Land.1, cx_Land.2, by decide +kernel⟩
set_option maxRecDepth 100000 in
theorem mo_Main_147 : mOk "CookedLaw" 147 4 y_Land_dishForce := ⟨Or.inl (gk_4 (List.mem_of_getElem? (i := 27) rfl) rfl), mk_Land_dishForce⟩
set_option maxRecDepth 100000 in
theorem mk_Land_inDish : Cond.code y_Land_inDish.1 y_Land_inDish.2.1 y_Land_inDish.2.2.1 y_Land_inDish.2.2.2.1 ∈ gtb ∧ Cond.initialized y_Land_inDish.1.cls ∈ gtb ∧ y_Land_inDish.1.cls ≠ "java/lang/invoke/MethodHandle" ∧ y_Land_inDish.1.cls ≠ "java/lang/invoke/VarHandle" ∧ (parseMethodDescriptor y_Land_inDish.1.desc).map (fun d => d.parameters.length) = some 2 := ⟨(gk_3 (List.mem_of_getElem? (i := 150) rfl) rfl), cz_Land, cx_Land.1, cx_Land.2, by decide +kernel⟩
set_option maxRecDepth 100000 in
theorem mo_Main_154 : mOk "CookedLaw" 154 2 y_Land_inDish := ⟨Or.inl (gk_4 (List.mem_of_getElem? (i := 70) rfl) rfl), mk_Land_inDish⟩
set_option maxRecDepth 100000 in
theorem mk_State_hasEaten : Cond.code y_State_hasEaten.1 y_State_hasEaten.2.1 y_State_hasEaten.2.2.1 y_State_hasEaten.2.2.2.1 ∈ gtb ∧ Cond.initialized y_State_hasEaten.1.cls ∈ gtb ∧ y_State_hasEaten.1.cls ≠ "java/lang/invoke/MethodHandle" ∧ y_State_hasEaten.1.cls ≠ "java/lang/invoke/VarHandle" ∧ (parseMethodDescriptor y_State_hasEaten.1.desc).map (fun d => d.parameters.length) = some 1 := ⟨(gk_4 (List.mem_of_getElem? (i := 78) rfl) rfl), cz_State, cx_State.1, cx_State.2, by decide +kernel⟩
set_option maxRecDepth 100000 in
theorem mo_Main_163 : mOk "CookedLaw" 163 1 y_State_hasEaten := ⟨Or.inl (gk_4 (List.mem_of_getElem? (i := 75) rfl) rfl), mk_State_hasEaten⟩
set_option maxRecDepth 100000 in
theorem mk_State_agoOf : Cond.code y_State_agoOf.1 y_State_agoOf.2.1 y_State_agoOf.2.2.1 y_State_agoOf.2.2.2.1 ∈ gtb ∧ Cond.initialized y_State_agoOf.1.cls ∈ gtb ∧ y_State_agoOf.1.cls ≠ "java/lang/invoke/MethodHandle" ∧ y_State_agoOf.1.cls ≠ "java/lang/invoke/VarHandle" ∧ (parseMethodDescriptor y_State_agoOf.1.desc).map (fun d => d.parameters.length) = some 1 := ⟨(gk_4 (List.mem_of_getElem? (i := 82) rfl) rfl), cz_State, cx_State.1, cx_State.2, by decide +kernel⟩
set_option maxRecDepth 100000 in
theorem mo_Main_167 : mOk "CookedLaw" 167 1 y_State_agoOf := ⟨Or.inl (gk_4 (List.mem_of_getElem? (i := 79) rfl) rfl), mk_State_agoOf⟩
set_option maxRecDepth 100000 in
theorem mk_State_boundOf : Cond.code y_State_boundOf.1 y_State_boundOf.2.1 y_State_boundOf.2.2.1 y_State_boundOf.2.2.2.1 ∈ gtb ∧ Cond.initialized y_State_boundOf.1.cls ∈ gtb ∧ y_State_boundOf.1.cls ≠ "java/lang/invoke/MethodHandle" ∧ y_State_boundOf.1.cls ≠ "java/lang/invoke/VarHandle" ∧ (parseMethodDescriptor y_State_boundOf.1.desc).map (fun d => d.parameters.length) = some 4 := ⟨(gk_4 (List.mem_of_getElem? (i := 86) rfl) rfl), cz_State, cx_State.1, cx_State.2, by decide +kernel⟩
set_option maxRecDepth 100000 in
theorem mo_Main_173 : mOk "CookedLaw" 173 4 y_State_boundOf := ⟨Or.inl (gk_4 (List.mem_of_getElem? (i := 83) rfl) rfl), mk_State_boundOf⟩
set_option maxRecDepth 100000 in
theorem mk_Main_guestsFreeTo : Cond.code y_Main_guestsFreeTo.1 y_Main_guestsFreeTo.2.1 y_Main_guestsFreeTo.2.2.1 y_Main_guestsFreeTo.2.2.2.1 ∈ gtb ∧ Cond.initialized y_Main_guestsFreeTo.1.cls ∈ gtb ∧ y_Main_guestsFreeTo.1.cls ≠ "java/lang/invoke/MethodHandle" ∧ y_Main_guestsFreeTo.1.cls ≠ "java/lang/invoke/VarHandle" ∧ (parseMethodDescriptor y_Main_guestsFreeTo.1.desc).map (fun d => d.parameters.length) = some 1 := ⟨(gk_4 (List.mem_of_getElem? (i := 100) rfl) rfl), cz_Main, cx_Main.1, cx_Main.2, by decide +kernel⟩
set_option maxRecDepth 100000 in
theorem mo_Main_186 : mOk "CookedLaw" 186 1 y_Main_guestsFreeTo := ⟨Or.inl (gk_4 (List.mem_of_getElem? (i := 97) rfl) rfl), mk_Main_guestsFreeTo⟩
set_option maxRecDepth 100000 in
theorem mk_State_freeOf : Cond.code y_State_freeOf.1 y_State_freeOf.2.1 y_State_freeOf.2.2.1 y_State_freeOf.2.2.2.1 ∈ gtb ∧ Cond.initialized y_State_freeOf.1.cls ∈ gtb ∧ y_State_freeOf.1.cls ≠ "java/lang/invoke/MethodHandle" ∧ y_State_freeOf.1.cls ≠ "java/lang/invoke/VarHandle" ∧ (parseMethodDescriptor y_State_freeOf.1.desc).map (fun d => d.parameters.length) = some 3 := ⟨(gk_4 (List.mem_of_getElem? (i := 104) rfl) rfl), cz_State, cx_State.1, cx_State.2, by decide +kernel⟩
set_option maxRecDepth 100000 in
theorem mo_Main_189 : mOk "CookedLaw" 189 3 y_State_freeOf := ⟨Or.inl (gk_4 (List.mem_of_getElem? (i := 101) rfl) rfl), mk_State_freeOf⟩
set_option maxRecDepth 100000 in
theorem mk_Main_hasBit : Cond.code y_Main_hasBit.1 y_Main_hasBit.2.1 y_Main_hasBit.2.2.1 y_Main_hasBit.2.2.2.1 ∈ gtb ∧ Cond.initialized y_Main_hasBit.1.cls ∈ gtb ∧ y_Main_hasBit.1.cls ≠ "java/lang/invoke/MethodHandle" ∧ y_Main_hasBit.1.cls ≠ "java/lang/invoke/VarHandle" ∧ (parseMethodDescriptor y_Main_hasBit.1.desc).map (fun d => d.parameters.length) = some 2 := ⟨(gk_4 (List.mem_of_getElem? (i := 112) rfl) rfl), cz_Main, cx_Main.1, cx_Main.2, by decide +kernel⟩
set_option maxRecDepth 100000 in
theorem mo_Main_193 : mOk "CookedLaw" 193 2 y_Main_hasBit := ⟨Or.inl (gk_4 (List.mem_of_getElem? (i := 110) rfl) rfl), mk_Main_hasBit⟩
set_option maxRecDepth 100000 in
theorem mk_State_inStore : Cond.code y_State_inStore.1 y_State_inStore.2.1 y_State_inStore.2.2.1 y_State_inStore.2.2.2.1 ∈ gtb ∧ Cond.initialized y_State_inStore.1.cls ∈ gtb ∧ y_State_inStore.1.cls ≠ "java/lang/invoke/MethodHandle" ∧ y_State_inStore.1.cls ≠ "java/lang/invoke/VarHandle" ∧ (parseMethodDescriptor y_State_inStore.1.desc).map (fun d => d.parameters.length) = some 2 := ⟨(gk_4 (List.mem_of_getElem? (i := 120) rfl) rfl), cz_State, cx_State.1, cx_State.2, by decide +kernel⟩
set_option maxRecDepth 100000 in
theorem mo_Main_196 : mOk "CookedLaw" 196 2 y_State_inStore := ⟨Or.inl (gk_4 (List.mem_of_getElem? (i := 117) rfl) rfl), mk_State_inStore⟩
set_option maxRecDepth 100000 in
theorem mk_Past_keep : Cond.code y_Past_keep.1 y_Past_keep.2.1 y_Past_keep.2.2.1 y_Past_keep.2.2.2.1 ∈ gtb ∧ Cond.initialized y_Past_keep.1.cls ∈ gtb ∧ y_Past_keep.1.cls ≠ "java/lang/invoke/MethodHandle" ∧ y_Past_keep.1.cls ≠ "java/lang/invoke/VarHandle" ∧ (parseMethodDescriptor y_Past_keep.1.desc).map (fun d => d.parameters.length) = some 1 := ⟨(gk_4 (List.mem_of_getElem? (i := 125) rfl) rfl), cz_Past, cx_Past.1, cx_Past.2, by decide +kernel⟩
set_option maxRecDepth 100000 in
theorem mo_Main_200 : mOk "CookedLaw" 200 1 y_Past_keep := ⟨Or.inl (gk_4 (List.mem_of_getElem? (i := 122) rfl) rfl), mk_Past_keep⟩
set_option maxRecDepth 100000 in
theorem mk_State_cookOne : Cond.code y_State_cookOne.1 y_State_cookOne.2.1 y_State_cookOne.2.2.1 y_State_cookOne.2.2.2.1 ∈ gtb ∧ Cond.initialized y_State_cookOne.1.cls ∈ gtb ∧ y_State_cookOne.1.cls ≠ "java/lang/invoke/MethodHandle" ∧ y_State_cookOne.1.cls ≠ "java/lang/invoke/VarHandle" ∧ (parseMethodDescriptor y_State_cookOne.1.desc).map (fun d => d.parameters.length) = some 2 := ⟨(gk_4 (List.mem_of_getElem? (i := 137) rfl) rfl), cz_State, cx_State.1, cx_State.2, by decide +kernel⟩
set_option maxRecDepth 100000 in
theorem mo_Main_204 : mOk "CookedLaw" 204 2 y_State_cookOne := ⟨Or.inl (gk_4 (List.mem_of_getElem? (i := 134) rfl) rfl), mk_State_cookOne⟩
set_option maxRecDepth 100000 in
theorem mk_State_eatServed : Cond.code y_State_eatServed.1 y_State_eatServed.2.1 y_State_eatServed.2.2.1 y_State_eatServed.2.2.2.1 ∈ gtb ∧ Cond.initialized y_State_eatServed.1.cls ∈ gtb ∧ y_State_eatServed.1.cls ≠ "java/lang/invoke/MethodHandle" ∧ y_State_eatServed.1.cls ≠ "java/lang/invoke/VarHandle" ∧ (parseMethodDescriptor y_State_eatServed.1.desc).map (fun d => d.parameters.length) = some 1 := ⟨(gk_4 (List.mem_of_getElem? (i := 162) rfl) rfl), cz_State, cx_State.1, cx_State.2, by decide +kernel⟩
set_option maxRecDepth 100000 in
theorem mo_Main_211 : mOk "CookedLaw" 211 1 y_State_eatServed := ⟨Or.inl (gk_4 (List.mem_of_getElem? (i := 159) rfl) rfl), mk_State_eatServed⟩
set_option maxRecDepth 100000 in
theorem mk_State_passDays : Cond.code y_State_passDays.1 y_State_passDays.2.1 y_State_passDays.2.2.1 y_State_passDays.2.2.2.1 ∈ gtb ∧ Cond.initialized y_State_passDays.1.cls ∈ gtb ∧ y_State_passDays.1.cls ≠ "java/lang/invoke/MethodHandle" ∧ y_State_passDays.1.cls ≠ "java/lang/invoke/VarHandle" ∧ (parseMethodDescriptor y_State_passDays.1.desc).map (fun d => d.parameters.length) = some 2 := ⟨(gk_4 (List.mem_of_getElem? (i := 170) rfl) rfl), cz_State, cx_State.1, cx_State.2, by decide +kernel⟩
set_option maxRecDepth 100000 in
theorem mo_Main_214 : mOk "CookedLaw" 214 2 y_State_passDays := ⟨Or.inl (gk_4 (List.mem_of_getElem? (i := 167) rfl) rfl), mk_State_passDays⟩
set_option maxRecDepth 100000 in
theorem mk_Past_takeBack : Cond.code y_Past_takeBack.1 y_Past_takeBack.2.1 y_Past_takeBack.2.2.1 y_Past_takeBack.2.2.2.1 ∈ gtb ∧ Cond.initialized y_Past_takeBack.1.cls ∈ gtb ∧ y_Past_takeBack.1.cls ≠ "java/lang/invoke/MethodHandle" ∧ y_Past_takeBack.1.cls ≠ "java/lang/invoke/VarHandle" ∧ (parseMethodDescriptor y_Past_takeBack.1.desc).map (fun d => d.parameters.length) = some 1 := ⟨(gk_4 (List.mem_of_getElem? (i := 183) rfl) rfl), cz_Past, cx_Past.1, cx_Past.2, by decide +kernel⟩
set_option maxRecDepth 100000 in
theorem mo_Main_218 : mOk "CookedLaw" 218 1 y_Past_takeBack := ⟨Or.inl (gk_4 (List.mem_of_getElem? (i := 180) rfl) rfl), mk_Past_takeBack⟩
set_option maxRecDepth 100000 in
theorem mk_PotSearch_find : Cond.code y_PotSearch_find.1 y_PotSearch_find.2.1 y_PotSearch_find.2.2.1 y_PotSearch_find.2.2.2.1 ∈ gtb ∧ Cond.initialized y_PotSearch_find.1.cls ∈ gtb ∧ y_PotSearch_find.1.cls ≠ "java/lang/invoke/MethodHandle" ∧ y_PotSearch_find.1.cls ≠ "java/lang/invoke/VarHandle" ∧ (parseMethodDescriptor y_PotSearch_find.1.desc).map (fun d => d.parameters.length) = some 5 := ⟨(gk_4 (List.mem_of_getElem? (i := 191) rfl) rfl), cz_PotSearch, cx_PotSearch.1, cx_PotSearch.2, by decide +kernel⟩
set_option maxRecDepth 100000 in
theorem mo_Main_222 : mOk "CookedLaw" 222 5 y_PotSearch_find := ⟨Or.inl (gk_4 (List.mem_of_getElem? (i := 188) rfl) rfl), mk_PotSearch_find⟩
set_option maxRecDepth 100000 in
theorem mk_Main_changeBy : Cond.code y_Main_changeBy.1 y_Main_changeBy.2.1 y_Main_changeBy.2.2.1 y_Main_changeBy.2.2.2.1 ∈ gtb ∧ Cond.initialized y_Main_changeBy.1.cls ∈ gtb ∧ y_Main_changeBy.1.cls ≠ "java/lang/invoke/MethodHandle" ∧ y_Main_changeBy.1.cls ≠ "java/lang/invoke/VarHandle" ∧ (parseMethodDescriptor y_Main_changeBy.1.desc).map (fun d => d.parameters.length) = some 2 := ⟨(gk_4 (List.mem_of_getElem? (i := 230) rfl) rfl), cz_Main, cx_Main.1, cx_Main.2, by decide +kernel⟩
set_option maxRecDepth 100000 in
theorem mo_Main_235 : mOk "CookedLaw" 235 2 y_Main_changeBy := ⟨Or.inl (gk_4 (List.mem_of_getElem? (i := 227) rfl) rfl), mk_Main_changeBy⟩
set_option maxRecDepth 100000 in
theorem mk_Main_freestDish : Cond.code y_Main_freestDish.1 y_Main_freestDish.2.1 y_Main_freestDish.2.2.1 y_Main_freestDish.2.2.2.1 ∈ gtb ∧ Cond.initialized y_Main_freestDish.1.cls ∈ gtb ∧ y_Main_freestDish.1.cls ≠ "java/lang/invoke/MethodHandle" ∧ y_Main_freestDish.1.cls ≠ "java/lang/invoke/VarHandle" ∧ (parseMethodDescriptor y_Main_freestDish.1.desc).map (fun d => d.parameters.length) = some 1 := ⟨(gk_5 (List.mem_of_getElem? (i := 1) rfl) rfl), cz_Main, cx_Main.1, cx_Main.2, by decide +kernel⟩
set_option maxRecDepth 100000 in
theorem mo_Main_243 : mOk "CookedLaw" 243 1 y_Main_freestDish := ⟨Or.inl (gk_4 (List.mem_of_getElem? (i := 238) rfl) rfl), mk_Main_freestDish⟩
set_option maxRecDepth 100000 in
theorem mk_Main_freeBehind : Cond.code y_Main_freeBehind.1 y_Main_freeBehind.2.1 y_Main_freeBehind.2.2.1 y_Main_freeBehind.2.2.2.1 ∈ gtb ∧ Cond.initialized y_Main_freeBehind.1.cls ∈ gtb ∧ y_Main_freeBehind.1.cls ≠ "java/lang/invoke/MethodHandle" ∧ y_Main_freeBehind.1.cls ≠ "java/lang/invoke/VarHandle" ∧ (parseMethodDescriptor y_Main_freeBehind.1.desc).map (fun d => d.parameters.length) = some 2 := ⟨(gk_5 (List.mem_of_getElem? (i := 5) rfl) rfl), cz_Main, cx_Main.1, cx_Main.2, by decide +kernel⟩
set_option maxRecDepth 100000 in
theorem mo_Main_246 : mOk "CookedLaw" 246 2 y_Main_freeBehind := ⟨Or.inl (gk_5 (List.mem_of_getElem? (i := 2) rfl) rfl), mk_Main_freeBehind⟩
set_option maxRecDepth 100000 in
theorem mk_Int_bitCount : Cond.code y_Int_bitCount.1 y_Int_bitCount.2.1 y_Int_bitCount.2.2.1 y_Int_bitCount.2.2.2.1 ∈ gtb ∧ Cond.initialized y_Int_bitCount.1.cls ∈ gtb ∧ y_Int_bitCount.1.cls ≠ "java/lang/invoke/MethodHandle" ∧ y_Int_bitCount.1.cls ≠ "java/lang/invoke/VarHandle" ∧ (parseMethodDescriptor y_Int_bitCount.1.desc).map (fun d => d.parameters.length) = some 1 := ⟨(gk_5 (List.mem_of_getElem? (i := 16) rfl) rfl), cz_Int, cx_Int.1, cx_Int.2, by decide +kernel⟩
set_option maxRecDepth 100000 in
theorem mo_Main_249 : mOk "CookedLaw" 249 1 y_Int_bitCount := ⟨Or.inl (gk_5 (List.mem_of_getElem? (i := 14) rfl) rfl), mk_Int_bitCount⟩
set_option maxRecDepth 100000 in
theorem mk_Land_freeByDish : Cond.code y_Land_freeByDish.1 y_Land_freeByDish.2.1 y_Land_freeByDish.2.2.1 y_Land_freeByDish.2.2.2.1 ∈ gtb ∧ Cond.initialized y_Land_freeByDish.1.cls ∈ gtb ∧ y_Land_freeByDish.1.cls ≠ "java/lang/invoke/MethodHandle" ∧ y_Land_freeByDish.1.cls ≠ "java/lang/invoke/VarHandle" ∧ (parseMethodDescriptor y_Land_freeByDish.1.desc).map (fun d => d.parameters.length) = some 4 := ⟨(gk_5 (List.mem_of_getElem? (i := 9) rfl) rfl), cz_Land, cx_Land.1, cx_Land.2, by decide +kernel⟩
set_option maxRecDepth 100000 in
theorem mo_Main_254 : mOk "CookedLaw" 254 4 y_Land_freeByDish := ⟨Or.inl (gk_5 (List.mem_of_getElem? (i := 6) rfl) rfl), mk_Land_freeByDish⟩
set_option maxRecDepth 100000 in
theorem mk_MenuSearch_find : Cond.code y_MenuSearch_find.1 y_MenuSearch_find.2.1 y_MenuSearch_find.2.2.1 y_MenuSearch_find.2.2.2.1 ∈ gtb ∧ Cond.initialized y_MenuSearch_find.1.cls ∈ gtb ∧ y_MenuSearch_find.1.cls ≠ "java/lang/invoke/MethodHandle" ∧ y_MenuSearch_find.1.cls ≠ "java/lang/invoke/VarHandle" ∧ (parseMethodDescriptor y_MenuSearch_find.1.desc).map (fun d => d.parameters.length) = some 5 := ⟨(gk_5 (List.mem_of_getElem? (i := 35) rfl) rfl), cz_MenuSearch, cx_MenuSearch.1, cx_MenuSearch.2, by decide +kernel⟩
set_option maxRecDepth 100000 in
theorem mo_Main_257 : mOk "CookedLaw" 257 5 y_MenuSearch_find := ⟨Or.inl (gk_5 (List.mem_of_getElem? (i := 32) rfl) rfl), mk_MenuSearch_find⟩
set_option maxRecDepth 100000 in
theorem mk_State_copyFrom : Cond.code y_State_copyFrom.1 y_State_copyFrom.2.1 y_State_copyFrom.2.2.1 y_State_copyFrom.2.2.2.1 ∈ gtb ∧ Cond.initialized y_State_copyFrom.1.cls ∈ gtb ∧ y_State_copyFrom.1.cls ≠ "java/lang/invoke/MethodHandle" ∧ y_State_copyFrom.1.cls ≠ "java/lang/invoke/VarHandle" ∧ (parseMethodDescriptor y_State_copyFrom.1.desc).map (fun d => d.parameters.length) = some 1 := ⟨(gk_4 (List.mem_of_getElem? (i := 129) rfl) rfl), cz_State, cx_State.1, cx_State.2, by decide +kernel⟩
set_option maxRecDepth 100000 in
theorem mo_Main_262 : mOk "CookedLaw" 262 1 y_State_copyFrom := ⟨Or.inl (gk_5 (List.mem_of_getElem? (i := 69) rfl) rfl), mk_State_copyFrom⟩
set_option maxRecDepth 100000 in
theorem mk_State_slipInto : Cond.code y_State_slipInto.1 y_State_slipInto.2.1 y_State_slipInto.2.2.1 y_State_slipInto.2.2.2.1 ∈ gtb ∧ Cond.initialized y_State_slipInto.1.cls ∈ gtb ∧ y_State_slipInto.1.cls ≠ "java/lang/invoke/MethodHandle" ∧ y_State_slipInto.1.cls ≠ "java/lang/invoke/VarHandle" ∧ (parseMethodDescriptor y_State_slipInto.1.desc).map (fun d => d.parameters.length) = some 3 := ⟨(gk_4 (List.mem_of_getElem? (i := 141) rfl) rfl), cz_State, cx_State.1, cx_State.2, by decide +kernel⟩
set_option maxRecDepth 100000 in
theorem mo_Main_268 : mOk "CookedLaw" 268 3 y_State_slipInto := ⟨Or.inl (gk_5 (List.mem_of_getElem? (i := 86) rfl) rfl), mk_State_slipInto⟩
set_option maxRecDepth 100000 in
theorem mk_Told_add : Cond.code y_Told_add.1 y_Told_add.2.1 y_Told_add.2.2.1 y_Told_add.2.2.2.1 ∈ gtb ∧ Cond.initialized y_Told_add.1.cls ∈ gtb ∧ y_Told_add.1.cls ≠ "java/lang/invoke/MethodHandle" ∧ y_Told_add.1.cls ≠ "java/lang/invoke/VarHandle" ∧ (parseMethodDescriptor y_Told_add.1.desc).map (fun d => d.parameters.length) = some 3 := ⟨(gk_5 (List.mem_of_getElem? (i := 94) rfl) rfl), cz_Told, cx_Told.1, cx_Told.2, by decide +kernel⟩
set_option maxRecDepth 100000 in
theorem mo_Main_271 : mOk "CookedLaw" 271 3 y_Told_add := ⟨Or.inl (gk_5 (List.mem_of_getElem? (i := 91) rfl) rfl), mk_Told_add⟩
set_option maxRecDepth 100000 in
theorem mk_Told_gather : Cond.code y_Told_gather.1 y_Told_gather.2.1 y_Told_gather.2.2.1 y_Told_gather.2.2.2.1 ∈ gtb ∧ Cond.initialized y_Told_gather.1.cls ∈ gtb ∧ y_Told_gather.1.cls ≠ "java/lang/invoke/MethodHandle" ∧ y_Told_gather.1.cls ≠ "java/lang/invoke/VarHandle" ∧ (parseMethodDescriptor y_Told_gather.1.desc).map (fun d => d.parameters.length) = some 3 := ⟨(gk_5 (List.mem_of_getElem? (i := 107) rfl) rfl), cz_Told, cx_Told.1, cx_Told.2, by decide +kernel⟩
set_option maxRecDepth 100000 in
theorem mo_Main_278 : mOk "CookedLaw" 278 3 y_Told_gather := ⟨Or.inl (gk_5 (List.mem_of_getElem? (i := 104) rfl) rfl), mk_Told_gather⟩
set_option maxRecDepth 100000 in
theorem mk_Told_onlyDish : Cond.code y_Told_onlyDish.1 y_Told_onlyDish.2.1 y_Told_onlyDish.2.2.1 y_Told_onlyDish.2.2.2.1 ∈ gtb ∧ Cond.initialized y_Told_onlyDish.1.cls ∈ gtb ∧ y_Told_onlyDish.1.cls ≠ "java/lang/invoke/MethodHandle" ∧ y_Told_onlyDish.1.cls ≠ "java/lang/invoke/VarHandle" ∧ (parseMethodDescriptor y_Told_onlyDish.1.desc).map (fun d => d.parameters.length) = some 0 := ⟨(gk_5 (List.mem_of_getElem? (i := 133) rfl) rfl), cz_Told, cx_Told.1, cx_Told.2, by decide +kernel⟩
set_option maxRecDepth 100000 in
theorem mo_Main_285 : mOk "CookedLaw" 285 0 y_Told_onlyDish := ⟨Or.inl (gk_5 (List.mem_of_getElem? (i := 130) rfl) rfl), mk_Told_onlyDish⟩
set_option maxRecDepth 100000 in
theorem mk_Told_nextTaste : Cond.code y_Told_nextTaste.1 y_Told_nextTaste.2.1 y_Told_nextTaste.2.2.1 y_Told_nextTaste.2.2.2.1 ∈ gtb ∧ Cond.initialized y_Told_nextTaste.1.cls ∈ gtb ∧ y_Told_nextTaste.1.cls ≠ "java/lang/invoke/MethodHandle" ∧ y_Told_nextTaste.1.cls ≠ "java/lang/invoke/VarHandle" ∧ (parseMethodDescriptor y_Told_nextTaste.1.desc).map (fun d => d.parameters.length) = some 2 := ⟨(gk_5 (List.mem_of_getElem? (i := 141) rfl) rfl), cz_Told, cx_Told.1, cx_Told.2, by decide +kernel⟩
set_option maxRecDepth 100000 in
theorem mo_Main_288 : mOk "CookedLaw" 288 2 y_Told_nextTaste := ⟨Or.inl (gk_5 (List.mem_of_getElem? (i := 138) rfl) rfl), mk_Told_nextTaste⟩
set_option maxRecDepth 100000 in
theorem mk_Slots_keep : Cond.code y_Slots_keep.1 y_Slots_keep.2.1 y_Slots_keep.2.2.1 y_Slots_keep.2.2.2.1 ∈ gtb ∧ Cond.initialized y_Slots_keep.1.cls ∈ gtb ∧ y_Slots_keep.1.cls ≠ "java/lang/invoke/MethodHandle" ∧ y_Slots_keep.1.cls ≠ "java/lang/invoke/VarHandle" ∧ (parseMethodDescriptor y_Slots_keep.1.desc).map (fun d => d.parameters.length) = some 2 := ⟨(gk_5 (List.mem_of_getElem? (i := 155) rfl) rfl), cz_Slots, cx_Slots.1, cx_Slots.2, by decide +kernel⟩
set_option maxRecDepth 100000 in
theorem mo_Main_291 : mOk "CookedLaw" 291 2 y_Slots_keep := ⟨Or.inl (gk_5 (List.mem_of_getElem? (i := 152) rfl) rfl), mk_Slots_keep⟩
set_option maxRecDepth 100000 in
theorem mk_Slots_bring : Cond.code y_Slots_bring.1 y_Slots_bring.2.1 y_Slots_bring.2.2.1 y_Slots_bring.2.2.2.1 ∈ gtb ∧ Cond.initialized y_Slots_bring.1.cls ∈ gtb ∧ y_Slots_bring.1.cls ≠ "java/lang/invoke/MethodHandle" ∧ y_Slots_bring.1.cls ≠ "java/lang/invoke/VarHandle" ∧ (parseMethodDescriptor y_Slots_bring.1.desc).map (fun d => d.parameters.length) = some 2 := ⟨(gk_5 (List.mem_of_getElem? (i := 164) rfl) rfl), cz_Slots, cx_Slots.1, cx_Slots.2, by decide +kernel⟩
set_option maxRecDepth 100000 in
theorem mo_Main_294 : mOk "CookedLaw" 294 2 y_Slots_bring := ⟨Or.inl (gk_5 (List.mem_of_getElem? (i := 161) rfl) rfl), mk_Slots_bring⟩
set_option maxRecDepth 100000 in
theorem mk_Slots_full : Cond.code y_Slots_full.1 y_Slots_full.2.1 y_Slots_full.2.2.1 y_Slots_full.2.2.2.1 ∈ gtb ∧ Cond.initialized y_Slots_full.1.cls ∈ gtb ∧ y_Slots_full.1.cls ≠ "java/lang/invoke/MethodHandle" ∧ y_Slots_full.1.cls ≠ "java/lang/invoke/VarHandle" ∧ (parseMethodDescriptor y_Slots_full.1.desc).map (fun d => d.parameters.length) = some 0 := ⟨(gk_5 (List.mem_of_getElem? (i := 173) rfl) rfl), cz_Slots, cx_Slots.1, cx_Slots.2, by decide +kernel⟩
set_option maxRecDepth 100000 in
theorem mo_Main_304 : mOk "CookedLaw" 304 0 y_Slots_full := ⟨Or.inl (gk_5 (List.mem_of_getElem? (i := 170) rfl) rfl), mk_Slots_full⟩
set_option maxRecDepth 100000 in
theorem mk_State_allMeals : Cond.code y_State_allMeals.1 y_State_allMeals.2.1 y_State_allMeals.2.2.1 y_State_allMeals.2.2.2.1 ∈ gtb ∧ Cond.initialized y_State_allMeals.1.cls ∈ gtb ∧ y_State_allMeals.1.cls ≠ "java/lang/invoke/MethodHandle" ∧ y_State_allMeals.1.cls ≠ "java/lang/invoke/VarHandle" ∧ (parseMethodDescriptor y_State_allMeals.1.desc).map (fun d => d.parameters.length) = some 0 := ⟨(gk_5 (List.mem_of_getElem? (i := 178) rfl) rfl), cz_State, cx_State.1, cx_State.2, by decide +kernel⟩
set_option maxRecDepth 100000 in
theorem mo_Main_310 : mOk "CookedLaw" 310 0 y_State_allMeals := ⟨Or.inl (gk_5 (List.mem_of_getElem? (i := 175) rfl) rfl), mk_State_allMeals⟩
set_option maxRecDepth 100000 in
theorem mk_Law_init : Cond.code y_Law_init.1 y_Law_init.2.1 y_Law_init.2.2.1 y_Law_init.2.2.2.1 ∈ gtb ∧ Cond.initialized y_Law_init.1.cls ∈ gtb ∧ y_Law_init.1.cls ≠ "java/lang/invoke/MethodHandle" ∧ y_Law_init.1.cls ≠ "java/lang/invoke/VarHandle" ∧ (parseMethodDescriptor y_Law_init.1.desc).map (fun d => d.parameters.length) = some 0 := ⟨(gk_1 (List.mem_of_getElem? (i := 173) rfl) rfl), cz_Law, cx_Law.1, cx_Law.2, by decide +kernel⟩
set_option maxRecDepth 100000 in
theorem mo_Land_38 : mOk "CookedLaw$Land" 38 0 y_Law_init := ⟨Or.inr ⟨"CookedLaw", (tk_1 (List.mem_of_getElem? (i := 171) rfl))⟩, mk_Law_init⟩
set_option maxRecDepth 100000 in
theorem mk_Main_wipe : Cond.code y_Main_wipe.1 y_Main_wipe.2.1 y_Main_wipe.2.2.1 y_Main_wipe.2.2.2.1 ∈ gtb ∧ Cond.initialized y_Main_wipe.1.cls ∈ gtb ∧ y_Main_wipe.1.cls ≠ "java/lang/invoke/MethodHandle" ∧ y_Main_wipe.1.cls ≠ "java/lang/invoke/VarHandle" ∧ (parseMethodDescriptor y_Main_wipe.1.desc).map (fun d => d.parameters.length) = some 1 := ⟨(gk_3 (List.mem_of_getElem? (i := 90) rfl) rfl), cz_Main, cx_Main.1, cx_Main.2, by decide +kernel⟩
set_option maxRecDepth 100000 in
theorem mo_Land_71 : mOk "CookedLaw$Land" 71 1 y_Main_wipe := ⟨Or.inr ⟨"CookedLaw", (tk_3 (List.mem_of_getElem? (i := 88) rfl))⟩, mk_Main_wipe⟩
set_option maxRecDepth 100000 in
theorem mk_Law_clear : Cond.code y_Law_clear.1 y_Law_clear.2.1 y_Law_clear.2.2.1 y_Law_clear.2.2.2.1 ∈ gtb ∧ Cond.initialized y_Law_clear.1.cls ∈ gtb ∧ y_Law_clear.1.cls ≠ "java/lang/invoke/MethodHandle" ∧ y_Law_clear.1.cls ≠ "java/lang/invoke/VarHandle" ∧ (parseMethodDescriptor y_Law_clear.1.desc).map (fun d => d.parameters.length) = some 0 := ⟨(gk_3 (List.mem_of_getElem? (i := 94) rfl) rfl), cz_Law, cx_Law.1, cx_Law.2, by decide +kernel⟩
set_option maxRecDepth 100000 in
theorem mo_Land_75 : mOk "CookedLaw$Land" 75 0 y_Law_clear := ⟨Or.inl (gk_3 (List.mem_of_getElem? (i := 91) rfl) rfl), mk_Law_clear⟩
set_option maxRecDepth 100000 in
theorem mo_Land_78 : mOk "CookedLaw$Land" 78 2 y_Main_at := ⟨Or.inr ⟨"CookedLaw", (tk_3 (List.mem_of_getElem? (i := 151) rfl))⟩, mk_Main_at⟩
set_option maxRecDepth 100000 in
theorem mo_Land_82 : mOk "CookedLaw$Land" 82 2 y_Land_inDish := ⟨Or.inl (gk_4 (List.mem_of_getElem? (i := 22) rfl) rfl), mk_Land_inDish⟩
set_option maxRecDepth 100000 in
theorem mo_Land_86 : mOk "CookedLaw$Land" 86 2 y_Land_broughtBy := ⟨Or.inl (gk_4 (List.mem_of_getElem? (i := 35) rfl) rfl), mk_Land_broughtBy⟩
set_option maxRecDepth 100000 in
theorem mk_Law_isTold : Cond.code y_Law_isTold.1 y_Law_isTold.2.1 y_Law_isTold.2.2.1 y_Law_isTold.2.2.2.1 ∈ gtb ∧ Cond.initialized y_Law_isTold.1.cls ∈ gtb ∧ y_Law_isTold.1.cls ≠ "java/lang/invoke/MethodHandle" ∧ y_Law_isTold.1.cls ≠ "java/lang/invoke/VarHandle" ∧ (parseMethodDescriptor y_Law_isTold.1.desc).map (fun d => d.parameters.length) = some 0 := ⟨(gk_4 (List.mem_of_getElem? (i := 44) rfl) rfl), cz_Law, cx_Law.1, cx_Law.2, by decide +kernel⟩
set_option maxRecDepth 100000 in
theorem mo_Land_89 : mOk "CookedLaw$Land" 89 0 y_Law_isTold := ⟨Or.inl (gk_4 (List.mem_of_getElem? (i := 41) rfl) rfl), mk_Law_isTold⟩
set_option maxRecDepth 100000 in
theorem mk_Main_within : Cond.code y_Main_within.1 y_Main_within.2.1 y_Main_within.2.2.1 y_Main_within.2.2.2.1 ∈ gtb ∧ Cond.initialized y_Main_within.1.cls ∈ gtb ∧ y_Main_within.1.cls ≠ "java/lang/invoke/MethodHandle" ∧ y_Main_within.1.cls ≠ "java/lang/invoke/VarHandle" ∧ (parseMethodDescriptor y_Main_within.1.desc).map (fun d => d.parameters.length) = some 3 := ⟨(gk_4 (List.mem_of_getElem? (i := 47) rfl) rfl), cz_Main, cx_Main.1, cx_Main.2, by decide +kernel⟩
set_option maxRecDepth 100000 in
theorem mo_Land_93 : mOk "CookedLaw$Land" 93 3 y_Main_within := ⟨Or.inr ⟨"CookedLaw", (tk_4 (List.mem_of_getElem? (i := 45) rfl))⟩, mk_Main_within⟩
set_option maxRecDepth 100000 in
theorem mk_Law_let : Cond.code y_Law_let.1 y_Law_let.2.1 y_Law_let.2.2.1 y_Law_let.2.2.2.1 ∈ gtb ∧ Cond.initialized y_Law_let.1.cls ∈ gtb ∧ y_Law_let.1.cls ≠ "java/lang/invoke/MethodHandle" ∧ y_Law_let.1.cls ≠ "java/lang/invoke/VarHandle" ∧ (parseMethodDescriptor y_Law_let.1.desc).map (fun d => d.parameters.length) = some 2 := ⟨(gk_4 (List.mem_of_getElem? (i := 57) rfl) rfl), cz_Law, cx_Law.1, cx_Law.2, by decide +kernel⟩
set_option maxRecDepth 100000 in
theorem mo_Land_97 : mOk "CookedLaw$Land" 97 2 y_Law_let := ⟨Or.inl (gk_4 (List.mem_of_getElem? (i := 54) rfl) rfl), mk_Law_let⟩
set_option maxRecDepth 100000 in
theorem mk_Law_value : Cond.code y_Law_value.1 y_Law_value.2.1 y_Law_value.2.2.1 y_Law_value.2.2.2.1 ∈ gtb ∧ Cond.initialized y_Law_value.1.cls ∈ gtb ∧ y_Law_value.1.cls ≠ "java/lang/invoke/MethodHandle" ∧ y_Law_value.1.cls ≠ "java/lang/invoke/VarHandle" ∧ (parseMethodDescriptor y_Law_value.1.desc).map (fun d => d.parameters.length) = some 0 := ⟨(gk_4 (List.mem_of_getElem? (i := 61) rfl) rfl), cz_Law, cx_Law.1, cx_Law.2, by decide +kernel⟩
set_option maxRecDepth 100000 in
theorem mo_Land_101 : mOk "CookedLaw$Land" 101 0 y_Law_value := ⟨Or.inl (gk_4 (List.mem_of_getElem? (i := 58) rfl) rfl), mk_Law_value⟩
set_option maxRecDepth 100000 in
theorem mk_Land_sumOf : Cond.code y_Land_sumOf.1 y_Land_sumOf.2.1 y_Land_sumOf.2.2.1 y_Land_sumOf.2.2.2.1 ∈ gtb ∧ Cond.initialized y_Land_sumOf.1.cls ∈ gtb ∧ y_Land_sumOf.1.cls ≠ "java/lang/invoke/MethodHandle" ∧ y_Land_sumOf.1.cls ≠ "java/lang/invoke/VarHandle" ∧ (parseMethodDescriptor y_Land_sumOf.1.desc).map (fun d => d.parameters.length) = some 2 := ⟨(gk_4 (List.mem_of_getElem? (i := 34) rfl) rfl), cz_Land, cx_Land.1, cx_Land.2, by decide +kernel⟩
set_option maxRecDepth 100000 in
theorem mo_Land_105 : mOk "CookedLaw$Land" 105 2 y_Land_sumOf := ⟨Or.inl (gk_4 (List.mem_of_getElem? (i := 31) rfl) rfl), mk_Land_sumOf⟩
set_option maxRecDepth 100000 in
theorem mo_Land_108 : mOk "CookedLaw$Land" 108 1 y_Land_manyIn := ⟨Or.inl (gk_4 (List.mem_of_getElem? (i := 36) rfl) rfl), mk_Land_manyIn⟩
set_option maxRecDepth 100000 in
theorem mk_Land_potForce : Cond.code y_Land_potForce.1 y_Land_potForce.2.1 y_Land_potForce.2.2.1 y_Land_potForce.2.2.2.1 ∈ gtb ∧ Cond.initialized y_Land_potForce.1.cls ∈ gtb ∧ y_Land_potForce.1.cls ≠ "java/lang/invoke/MethodHandle" ∧ y_Land_potForce.1.cls ≠ "java/lang/invoke/VarHandle" ∧ (parseMethodDescriptor y_Land_potForce.1.desc).map (fun d => d.parameters.length) = some 5 := ⟨(gk_4 (List.mem_of_getElem? (i := 40) rfl) rfl), cz_Land, cx_Land.1, cx_Land.2, by decide +kernel⟩
set_option maxRecDepth 100000 in
theorem mo_Land_112 : mOk "CookedLaw$Land" 112 5 y_Land_potForce := ⟨Or.inl (gk_4 (List.mem_of_getElem? (i := 37) rfl) rfl), mk_Land_potForce⟩
set_option maxRecDepth 100000 in
theorem mo_Land_116 : mOk "CookedLaw$Land" 116 4 y_Land_dishForce := ⟨Or.inl (gk_5 (List.mem_of_getElem? (i := 10) rfl) rfl), mk_Land_dishForce⟩
set_option maxRecDepth 100000 in
theorem mk_Main_put : Cond.code y_Main_put.1 y_Main_put.2.1 y_Main_put.2.2.1 y_Main_put.2.2.2.1 ∈ gtb ∧ Cond.initialized y_Main_put.1.cls ∈ gtb ∧ y_Main_put.1.cls ≠ "java/lang/invoke/MethodHandle" ∧ y_Main_put.1.cls ≠ "java/lang/invoke/VarHandle" ∧ (parseMethodDescriptor y_Main_put.1.desc).map (fun d => d.parameters.length) = some 3 := ⟨(gk_3 (List.mem_of_getElem? (i := 32) rfl) rfl), cz_Main, cx_Main.1, cx_Main.2, by decide +kernel⟩
set_option maxRecDepth 100000 in
theorem mo_Land_120 : mOk "CookedLaw$Land" 120 3 y_Main_put := ⟨Or.inr ⟨"CookedLaw", (tk_5 (List.mem_of_getElem? (i := 11) rfl))⟩, mk_Main_put⟩
set_option maxRecDepth 100000 in
theorem mk_Land_boundBy : Cond.code y_Land_boundBy.1 y_Land_boundBy.2.1 y_Land_boundBy.2.2.1 y_Land_boundBy.2.2.2.1 ∈ gtb ∧ Cond.initialized y_Land_boundBy.1.cls ∈ gtb ∧ y_Land_boundBy.1.cls ≠ "java/lang/invoke/MethodHandle" ∧ y_Land_boundBy.1.cls ≠ "java/lang/invoke/VarHandle" ∧ (parseMethodDescriptor y_Land_boundBy.1.desc).map (fun d => d.parameters.length) = some 5 := ⟨(gk_4 (List.mem_of_getElem? (i := 92) rfl) rfl), cz_Land, cx_Land.1, cx_Land.2, by decide +kernel⟩
set_option maxRecDepth 100000 in
theorem mo_Land_124 : mOk "CookedLaw$Land" 124 5 y_Land_boundBy := ⟨Or.inl (gk_5 (List.mem_of_getElem? (i := 12) rfl) rfl), mk_Land_boundBy⟩
set_option maxRecDepth 100000 in
theorem mk_Land_freeUnder : Cond.code y_Land_freeUnder.1 y_Land_freeUnder.2.1 y_Land_freeUnder.2.2.1 y_Land_freeUnder.2.2.2.1 ∈ gtb ∧ Cond.initialized y_Land_freeUnder.1.cls ∈ gtb ∧ y_Land_freeUnder.1.cls ≠ "java/lang/invoke/MethodHandle" ∧ y_Land_freeUnder.1.cls ≠ "java/lang/invoke/VarHandle" ∧ (parseMethodDescriptor y_Land_freeUnder.1.desc).map (fun d => d.parameters.length) = some 2 := ⟨(gk_4 (List.mem_of_getElem? (i := 109) rfl) rfl), cz_Land, cx_Land.1, cx_Land.2, by decide +kernel⟩
set_option maxRecDepth 100000 in
theorem mo_Land_127 : mOk "CookedLaw$Land" 127 2 y_Land_freeUnder := ⟨Or.inl (gk_5 (List.mem_of_getElem? (i := 13) rfl) rfl), mk_Land_freeUnder⟩
set_option maxRecDepth 100000 in
theorem mk_Land_stirred : Cond.code y_Land_stirred.1 y_Land_stirred.2.1 y_Land_stirred.2.2.1 y_Land_stirred.2.2.2.1 ∈ gtb ∧ Cond.initialized y_Land_stirred.1.cls ∈ gtb ∧ y_Land_stirred.1.cls ≠ "java/lang/invoke/MethodHandle" ∧ y_Land_stirred.1.cls ≠ "java/lang/invoke/VarHandle" ∧ (parseMethodDescriptor y_Land_stirred.1.desc).map (fun d => d.parameters.length) = some 2 := ⟨(gk_4 (List.mem_of_getElem? (i := 147) rfl) rfl), cz_Land, cx_Land.1, cx_Land.2, by decide +kernel⟩
set_option maxRecDepth 100000 in
theorem mo_Land_130 : mOk "CookedLaw$Land" 130 2 y_Land_stirred := ⟨Or.inl (gk_4 (List.mem_of_getElem? (i := 145) rfl) rfl), mk_Land_stirred⟩
set_option maxRecDepth 100000 in
theorem mo_Law_25 : mOk "CookedLaw$Law" 25 3 y_Main_put := ⟨Or.inr ⟨"CookedLaw", (tk_3 (List.mem_of_getElem? (i := 208) rfl))⟩, mk_Main_put⟩
set_option maxRecDepth 100000 in
theorem mk_Law_add : Cond.code y_Law_add.1 y_Law_add.2.1 y_Law_add.2.2.1 y_Law_add.2.2.2.1 ∈ gtb ∧ Cond.initialized y_Law_add.1.cls ∈ gtb ∧ y_Law_add.1.cls ≠ "java/lang/invoke/MethodHandle" ∧ y_Law_add.1.cls ≠ "java/lang/invoke/VarHandle" ∧ (parseMethodDescriptor y_Law_add.1.desc).map (fun d => d.parameters.length) = some 1 := ⟨(gk_3 (List.mem_of_getElem? (i := 180) rfl) rfl), cz_Law, cx_Law.1, cx_Law.2, by decide +kernel⟩
set_option maxRecDepth 100000 in
theorem mo_Law_29 : mOk "CookedLaw$Law" 29 1 y_Law_add := ⟨Or.inl (gk_3 (List.mem_of_getElem? (i := 203) rfl) rfl), mk_Law_add⟩
set_option maxRecDepth 100000 in
theorem mo_Law_33 : mOk "CookedLaw$Law" 33 2 y_Main_at := ⟨Or.inr ⟨"CookedLaw", (tk_4 (List.mem_of_getElem? (i := 62) rfl))⟩, mk_Main_at⟩
set_option maxRecDepth 100000 in
theorem mk_Law_reckon : Cond.code y_Law_reckon.1 y_Law_reckon.2.1 y_Law_reckon.2.2.1 y_Law_reckon.2.2.2.1 ∈ gtb ∧ Cond.initialized y_Law_reckon.1.cls ∈ gtb ∧ y_Law_reckon.1.cls ≠ "java/lang/invoke/MethodHandle" ∧ y_Law_reckon.1.cls ≠ "java/lang/invoke/VarHandle" ∧ (parseMethodDescriptor y_Law_reckon.1.desc).map (fun d => d.parameters.length) = some 3 := ⟨(gk_4 (List.mem_of_getElem? (i := 65) rfl) rfl), cz_Law, cx_Law.1, cx_Law.2, by decide +kernel⟩
set_option maxRecDepth 100000 in
theorem mo_Law_37 : mOk "CookedLaw$Law" 37 3 y_Law_reckon := ⟨Or.inl (gk_4 (List.mem_of_getElem? (i := 63) rfl) rfl), mk_Law_reckon⟩
set_option maxRecDepth 100000 in
theorem mk_MenuSearch_lookUnfed : Cond.code y_MenuSearch_lookUnfed.1 y_MenuSearch_lookUnfed.2.1 y_MenuSearch_lookUnfed.2.2.1 y_MenuSearch_lookUnfed.2.2.2.1 ∈ gtb ∧ Cond.initialized y_MenuSearch_lookUnfed.1.cls ∈ gtb ∧ y_MenuSearch_lookUnfed.1.cls ≠ "java/lang/invoke/MethodHandle" ∧ y_MenuSearch_lookUnfed.1.cls ≠ "java/lang/invoke/VarHandle" ∧ (parseMethodDescriptor y_MenuSearch_lookUnfed.1.desc).map (fun d => d.parameters.length) = some 4 := ⟨(gk_5 (List.mem_of_getElem? (i := 39) rfl) rfl), cz_MenuSearch, cx_MenuSearch.1, cx_MenuSearch.2, by decide +kernel⟩
set_option maxRecDepth 100000 in
theorem mo_MenuSearch_25 : mOk "CookedLaw$MenuSearch" 25 4 y_MenuSearch_lookUnfed := ⟨Or.inl (gk_5 (List.mem_of_getElem? (i := 36) rfl) rfl), mk_MenuSearch_lookUnfed⟩
set_option maxRecDepth 100000 in
theorem mk_MenuSearch_lookFed : Cond.code y_MenuSearch_lookFed.1 y_MenuSearch_lookFed.2.1 y_MenuSearch_lookFed.2.2.1 y_MenuSearch_lookFed.2.2.2.1 ∈ gtb ∧ Cond.initialized y_MenuSearch_lookFed.1.cls ∈ gtb ∧ y_MenuSearch_lookFed.1.cls ≠ "java/lang/invoke/MethodHandle" ∧ y_MenuSearch_lookFed.1.cls ≠ "java/lang/invoke/VarHandle" ∧ (parseMethodDescriptor y_MenuSearch_lookFed.1.desc).map (fun d => d.parameters.length) = some 5 := ⟨(gk_5 (List.mem_of_getElem? (i := 44) rfl) rfl), cz_MenuSearch, cx_MenuSearch.1, cx_MenuSearch.2, by decide +kernel⟩
set_option maxRecDepth 100000 in
theorem mo_MenuSearch_35 : mOk "CookedLaw$MenuSearch" 35 5 y_MenuSearch_lookFed := ⟨Or.inl (gk_5 (List.mem_of_getElem? (i := 41) rfl) rfl), mk_MenuSearch_lookFed⟩
set_option maxRecDepth 100000 in
theorem mo_MenuSearch_39 : mOk "CookedLaw$MenuSearch" 39 1 y_Main_wipe := ⟨Or.inr ⟨"CookedLaw", (tk_5 (List.mem_of_getElem? (i := 49) rfl))⟩, mk_Main_wipe⟩
set_option maxRecDepth 100000 in
theorem mk_MenuSearch_mealsIfAllFree : Cond.code y_MenuSearch_mealsIfAllFree.1 y_MenuSearch_mealsIfAllFree.2.1 y_MenuSearch_mealsIfAllFree.2.2.1 y_MenuSearch_mealsIfAllFree.2.2.2.1 ∈ gtb ∧ Cond.initialized y_MenuSearch_mealsIfAllFree.1.cls ∈ gtb ∧ y_MenuSearch_mealsIfAllFree.1.cls ≠ "java/lang/invoke/MethodHandle" ∧ y_MenuSearch_mealsIfAllFree.1.cls ≠ "java/lang/invoke/VarHandle" ∧ (parseMethodDescriptor y_MenuSearch_mealsIfAllFree.1.desc).map (fun d => d.parameters.length) = some 1 := ⟨(gk_5 (List.mem_of_getElem? (i := 53) rfl) rfl), cz_MenuSearch, cx_MenuSearch.1, cx_MenuSearch.2, by decide +kernel⟩
set_option maxRecDepth 100000 in
theorem mo_MenuSearch_46 : mOk "CookedLaw$MenuSearch" 46 1 y_MenuSearch_mealsIfAllFree := ⟨Or.inl (gk_5 (List.mem_of_getElem? (i := 50) rfl) rfl), mk_MenuSearch_mealsIfAllFree⟩
set_option maxRecDepth 100000 in
theorem mk_Main_copyRow : Cond.code y_Main_copyRow.1 y_Main_copyRow.2.1 y_Main_copyRow.2.2.1 y_Main_copyRow.2.2.2.1 ∈ gtb ∧ Cond.initialized y_Main_copyRow.1.cls ∈ gtb ∧ y_Main_copyRow.1.cls ≠ "java/lang/invoke/MethodHandle" ∧ y_Main_copyRow.1.cls ≠ "java/lang/invoke/VarHandle" ∧ (parseMethodDescriptor y_Main_copyRow.1.desc).map (fun d => d.parameters.length) = some 2 := ⟨(gk_4 (List.mem_of_getElem? (i := 132) rfl) rfl), cz_Main, cx_Main.1, cx_Main.2, by decide +kernel⟩
set_option maxRecDepth 100000 in
theorem mo_MenuSearch_50 : mOk "CookedLaw$MenuSearch" 50 2 y_Main_copyRow := ⟨Or.inr ⟨"CookedLaw", (tk_5 (List.mem_of_getElem? (i := 59) rfl))⟩, mk_Main_copyRow⟩
set_option maxRecDepth 100000 in
theorem mk_MenuSearch_step : Cond.code y_MenuSearch_step.1 y_MenuSearch_step.2.1 y_MenuSearch_step.2.2.1 y_MenuSearch_step.2.2.2.1 ∈ gtb ∧ Cond.initialized y_MenuSearch_step.1.cls ∈ gtb ∧ y_MenuSearch_step.1.cls ≠ "java/lang/invoke/MethodHandle" ∧ y_MenuSearch_step.1.cls ≠ "java/lang/invoke/VarHandle" ∧ (parseMethodDescriptor y_MenuSearch_step.1.desc).map (fun d => d.parameters.length) = some 2 := ⟨(gk_5 (List.mem_of_getElem? (i := 63) rfl) rfl), cz_MenuSearch, cx_MenuSearch.1, cx_MenuSearch.2, by decide +kernel⟩
set_option maxRecDepth 100000 in
theorem mo_MenuSearch_59 : mOk "CookedLaw$MenuSearch" 59 2 y_MenuSearch_step := ⟨Or.inl (gk_5 (List.mem_of_getElem? (i := 60) rfl) rfl), mk_MenuSearch_step⟩
set_option maxRecDepth 100000 in
theorem mo_MenuSearch_63 : mOk "CookedLaw$MenuSearch" 63 3 y_State_freeOf := ⟨Or.inl (gk_5 (List.mem_of_getElem? (i := 40) rfl) rfl), mk_State_freeOf⟩
set_option maxRecDepth 100000 in
theorem mo_MenuSearch_67 : mOk "CookedLaw$MenuSearch" 67 4 y_Land_freeByDish := ⟨Or.inl (gk_5 (List.mem_of_getElem? (i := 45) rfl) rfl), mk_Land_freeByDish⟩
set_option maxRecDepth 100000 in
theorem mk_MenuSearch_indexOf : Cond.code y_MenuSearch_indexOf.1 y_MenuSearch_indexOf.2.1 y_MenuSearch_indexOf.2.2.1 y_MenuSearch_indexOf.2.2.2.1 ∈ gtb ∧ Cond.initialized y_MenuSearch_indexOf.1.cls ∈ gtb ∧ y_MenuSearch_indexOf.1.cls ≠ "java/lang/invoke/MethodHandle" ∧ y_MenuSearch_indexOf.1.cls ≠ "java/lang/invoke/VarHandle" ∧ (parseMethodDescriptor y_MenuSearch_indexOf.1.desc).map (fun d => d.parameters.length) = some 3 := ⟨(gk_5 (List.mem_of_getElem? (i := 48) rfl) rfl), cz_MenuSearch, cx_MenuSearch.1, cx_MenuSearch.2, by decide +kernel⟩
set_option maxRecDepth 100000 in
theorem mo_MenuSearch_71 : mOk "CookedLaw$MenuSearch" 71 3 y_MenuSearch_indexOf := ⟨Or.inl (gk_5 (List.mem_of_getElem? (i := 46) rfl) rfl), mk_MenuSearch_indexOf⟩
set_option maxRecDepth 100000 in
theorem mo_MenuSearch_75 : mOk "CookedLaw$MenuSearch" 75 2 y_Main_at := ⟨Or.inr ⟨"CookedLaw", (tk_5 (List.mem_of_getElem? (i := 54) rfl))⟩, mk_Main_at⟩
set_option maxRecDepth 100000 in
theorem mk_MenuSearch_isFree : Cond.code y_MenuSearch_isFree.1 y_MenuSearch_isFree.2.1 y_MenuSearch_isFree.2.2.1 y_MenuSearch_isFree.2.2.2.1 ∈ gtb ∧ Cond.initialized y_MenuSearch_isFree.1.cls ∈ gtb ∧ y_MenuSearch_isFree.1.cls ≠ "java/lang/invoke/MethodHandle" ∧ y_MenuSearch_isFree.1.cls ≠ "java/lang/invoke/VarHandle" ∧ (parseMethodDescriptor y_MenuSearch_isFree.1.desc).map (fun d => d.parameters.length) = some 3 := ⟨(gk_5 (List.mem_of_getElem? (i := 58) rfl) rfl), cz_MenuSearch, cx_MenuSearch.1, cx_MenuSearch.2, by decide +kernel⟩
set_option maxRecDepth 100000 in
theorem mo_MenuSearch_79 : mOk "CookedLaw$MenuSearch" 79 3 y_MenuSearch_isFree := ⟨Or.inl (gk_5 (List.mem_of_getElem? (i := 55) rfl) rfl), mk_MenuSearch_isFree⟩
set_option maxRecDepth 100000 in
theorem mo_MenuSearch_83 : mOk "CookedLaw$MenuSearch" 83 3 y_Main_put := ⟨Or.inr ⟨"CookedLaw", (tk_5 (List.mem_of_getElem? (i := 64) rfl))⟩, mk_Main_put⟩
set_option maxRecDepth 100000 in
theorem mo_Past_17 : mOk "CookedLaw$Past" 17 0 y_State_init := ⟨Or.inr ⟨"CookedLaw", (tk_2 (List.mem_of_getElem? (i := 94) rfl))⟩, mk_State_init⟩
set_option maxRecDepth 100000 in
theorem mo_Past_25 : mOk "CookedLaw$Past" 25 1 y_State_copyFrom := ⟨Or.inl (gk_4 (List.mem_of_getElem? (i := 126) rfl) rfl), mk_State_copyFrom⟩
set_option maxRecDepth 100000 in
theorem mo_PotSearch_24 : mOk "CookedLaw$PotSearch" 24 3 y_Main_put := ⟨Or.inr ⟨"CookedLaw", (tk_4 (List.mem_of_getElem? (i := 192) rfl))⟩, mk_Main_put⟩
set_option maxRecDepth 100000 in
theorem mk_Law_looksAt : Cond.code y_Law_looksAt.1 y_Law_looksAt.2.1 y_Law_looksAt.2.2.1 y_Law_looksAt.2.2.2.1 ∈ gtb ∧ Cond.initialized y_Law_looksAt.1.cls ∈ gtb ∧ y_Law_looksAt.1.cls ≠ "java/lang/invoke/MethodHandle" ∧ y_Law_looksAt.1.cls ≠ "java/lang/invoke/VarHandle" ∧ (parseMethodDescriptor y_Law_looksAt.1.desc).map (fun d => d.parameters.length) = some 1 := ⟨(gk_4 (List.mem_of_getElem? (i := 196) rfl) rfl), cz_Law, cx_Law.1, cx_Law.2, by decide +kernel⟩
set_option maxRecDepth 100000 in
theorem mo_PotSearch_38 : mOk "CookedLaw$PotSearch" 38 1 y_Law_looksAt := ⟨Or.inl (gk_4 (List.mem_of_getElem? (i := 193) rfl) rfl), mk_Law_looksAt⟩
set_option maxRecDepth 100000 in
theorem mk_PotSearch_fillFrom : Cond.code y_PotSearch_fillFrom.1 y_PotSearch_fillFrom.2.1 y_PotSearch_fillFrom.2.2.1 y_PotSearch_fillFrom.2.2.2.1 ∈ gtb ∧ Cond.initialized y_PotSearch_fillFrom.1.cls ∈ gtb ∧ y_PotSearch_fillFrom.1.cls ≠ "java/lang/invoke/MethodHandle" ∧ y_PotSearch_fillFrom.1.cls ≠ "java/lang/invoke/VarHandle" ∧ (parseMethodDescriptor y_PotSearch_fillFrom.1.desc).map (fun d => d.parameters.length) = some 3 := ⟨(gk_4 (List.mem_of_getElem? (i := 200) rfl) rfl), cz_PotSearch, cx_PotSearch.1, cx_PotSearch.2, by decide +kernel⟩
set_option maxRecDepth 100000 in
theorem mo_PotSearch_48 : mOk "CookedLaw$PotSearch" 48 3 y_PotSearch_fillFrom := ⟨Or.inl (gk_4 (List.mem_of_getElem? (i := 197) rfl) rfl), mk_PotSearch_fillFrom⟩
set_option maxRecDepth 100000 in
theorem mk_PotSearch_weigh : Cond.code y_PotSearch_weigh.1 y_PotSearch_weigh.2.1 y_PotSearch_weigh.2.2.1 y_PotSearch_weigh.2.2.2.1 ∈ gtb ∧ Cond.initialized y_PotSearch_weigh.1.cls ∈ gtb ∧ y_PotSearch_weigh.1.cls ≠ "java/lang/invoke/MethodHandle" ∧ y_PotSearch_weigh.1.cls ≠ "java/lang/invoke/VarHandle" ∧ (parseMethodDescriptor y_PotSearch_weigh.1.desc).map (fun d => d.parameters.length) = some 1 := ⟨(gk_4 (List.mem_of_getElem? (i := 206) rfl) rfl), cz_PotSearch, cx_PotSearch.1, cx_PotSearch.2, by decide +kernel⟩
set_option maxRecDepth 100000 in
theorem mo_PotSearch_52 : mOk "CookedLaw$PotSearch" 52 1 y_PotSearch_weigh := ⟨Or.inl (gk_4 (List.mem_of_getElem? (i := 203) rfl) rfl), mk_PotSearch_weigh⟩
set_option maxRecDepth 100000 in
theorem mk_PotSearch_tryHeats : Cond.code y_PotSearch_tryHeats.1 y_PotSearch_tryHeats.2.1 y_PotSearch_tryHeats.2.2.1 y_PotSearch_tryHeats.2.2.2.1 ∈ gtb ∧ Cond.initialized y_PotSearch_tryHeats.1.cls ∈ gtb ∧ y_PotSearch_tryHeats.1.cls ≠ "java/lang/invoke/MethodHandle" ∧ y_PotSearch_tryHeats.1.cls ≠ "java/lang/invoke/VarHandle" ∧ (parseMethodDescriptor y_PotSearch_tryHeats.1.desc).map (fun d => d.parameters.length) = some 2 := ⟨(gk_4 (List.mem_of_getElem? (i := 212) rfl) rfl), cz_PotSearch, cx_PotSearch.1, cx_PotSearch.2, by decide +kernel⟩
set_option maxRecDepth 100000 in
theorem mo_PotSearch_64 : mOk "CookedLaw$PotSearch" 64 2 y_PotSearch_tryHeats := ⟨Or.inl (gk_4 (List.mem_of_getElem? (i := 209) rfl) rfl), mk_PotSearch_tryHeats⟩
set_option maxRecDepth 100000 in
theorem mk_PotSearch_stepDown : Cond.code y_PotSearch_stepDown.1 y_PotSearch_stepDown.2.1 y_PotSearch_stepDown.2.2.1 y_PotSearch_stepDown.2.2.2.1 ∈ gtb ∧ Cond.initialized y_PotSearch_stepDown.1.cls ∈ gtb ∧ y_PotSearch_stepDown.1.cls ≠ "java/lang/invoke/MethodHandle" ∧ y_PotSearch_stepDown.1.cls ≠ "java/lang/invoke/VarHandle" ∧ (parseMethodDescriptor y_PotSearch_stepDown.1.desc).map (fun d => d.parameters.length) = some 1 := ⟨(gk_4 (List.mem_of_getElem? (i := 222) rfl) rfl), cz_PotSearch, cx_PotSearch.1, cx_PotSearch.2, by decide +kernel⟩
set_option maxRecDepth 100000 in
theorem mo_PotSearch_68 : mOk "CookedLaw$PotSearch" 68 1 y_PotSearch_stepDown := ⟨Or.inl (gk_4 (List.mem_of_getElem? (i := 219) rfl) rfl), mk_PotSearch_stepDown⟩
set_option maxRecDepth 100000 in
theorem mo_PotSearch_75 : mOk "CookedLaw$PotSearch" 75 2 y_Main_at := ⟨Or.inr ⟨"CookedLaw", (tk_4 (List.mem_of_getElem? (i := 201) rfl))⟩, mk_Main_at⟩
set_option maxRecDepth 100000 in
theorem mo_PotSearch_85 : mOk "CookedLaw$PotSearch" 85 1 y_Main_wipe := ⟨Or.inr ⟨"CookedLaw", (tk_4 (List.mem_of_getElem? (i := 207) rfl))⟩, mk_Main_wipe⟩
set_option maxRecDepth 100000 in
theorem mo_PotSearch_94 : mOk "CookedLaw$PotSearch" 94 2 y_Land_broughtBy := ⟨Or.inl (gk_4 (List.mem_of_getElem? (i := 208) rfl) rfl), mk_Land_broughtBy⟩
set_option maxRecDepth 100000 in
theorem mk_PotSearch_isEnough : Cond.code y_PotSearch_isEnough.1 y_PotSearch_isEnough.2.1 y_PotSearch_isEnough.2.2.1 y_PotSearch_isEnough.2.2.2.1 ∈ gtb ∧ Cond.initialized y_PotSearch_isEnough.1.cls ∈ gtb ∧ y_PotSearch_isEnough.1.cls ≠ "java/lang/invoke/MethodHandle" ∧ y_PotSearch_isEnough.1.cls ≠ "java/lang/invoke/VarHandle" ∧ (parseMethodDescriptor y_PotSearch_isEnough.1.desc).map (fun d => d.parameters.length) = some 3 := ⟨(gk_4 (List.mem_of_getElem? (i := 216) rfl) rfl), cz_PotSearch, cx_PotSearch.1, cx_PotSearch.2, by decide +kernel⟩
set_option maxRecDepth 100000 in
theorem mo_PotSearch_106 : mOk "CookedLaw$PotSearch" 106 3 y_PotSearch_isEnough := ⟨Or.inl (gk_4 (List.mem_of_getElem? (i := 213) rfl) rfl), mk_PotSearch_isEnough⟩
set_option maxRecDepth 100000 in
theorem mo_PotSearch_110 : mOk "CookedLaw$PotSearch" 110 2 y_Main_copyRow := ⟨Or.inr ⟨"CookedLaw", (tk_4 (List.mem_of_getElem? (i := 218) rfl))⟩, mk_Main_copyRow⟩
set_option maxRecDepth 100000 in
theorem mo_PotSearch_114 : mOk "CookedLaw$PotSearch" 114 5 y_Land_potForce := ⟨Or.inl (gk_4 (List.mem_of_getElem? (i := 217) rfl) rfl), mk_Land_potForce⟩
set_option maxRecDepth 100000 in
theorem mk_Tokens_init : Cond.code y_Tokens_init.1 y_Tokens_init.2.1 y_Tokens_init.2.2.1 y_Tokens_init.2.2.2.1 ∈ gtb ∧ Cond.initialized y_Tokens_init.1.cls ∈ gtb ∧ y_Tokens_init.1.cls ≠ "java/lang/invoke/MethodHandle" ∧ y_Tokens_init.1.cls ≠ "java/lang/invoke/VarHandle" ∧ (parseMethodDescriptor y_Tokens_init.1.desc).map (fun d => d.parameters.length) = some 0 := ⟨(gk_1 (List.mem_of_getElem? (i := 54) rfl) rfl), cz_Tokens, cx_Tokens.1, cx_Tokens.2, by decide +kernel⟩
set_option maxRecDepth 100000 in
theorem mo_Reader_11 : mOk "CookedLaw$Reader" 11 0 y_Tokens_init := ⟨Or.inl (gk_1 (List.mem_of_getElem? (i := 52) rfl) rfl), mk_Tokens_init⟩
set_option maxRecDepth 100000 in
theorem mk_Tokens_cut : Cond.code y_Tokens_cut.1 y_Tokens_cut.2.1 y_Tokens_cut.2.2.1 y_Tokens_cut.2.2.2.1 ∈ gtb ∧ Cond.initialized y_Tokens_cut.1.cls ∈ gtb ∧ y_Tokens_cut.1.cls ≠ "java/lang/invoke/MethodHandle" ∧ y_Tokens_cut.1.cls ≠ "java/lang/invoke/VarHandle" ∧ (parseMethodDescriptor y_Tokens_cut.1.desc).map (fun d => d.parameters.length) = some 1 := ⟨(gk_3 (List.mem_of_getElem? (i := 48) rfl) rfl), cz_Tokens, cx_Tokens.1, cx_Tokens.2, by decide +kernel⟩
set_option maxRecDepth 100000 in
theorem mo_Reader_29 : mOk "CookedLaw$Reader" 29 1 y_Tokens_cut := ⟨Or.inl (gk_3 (List.mem_of_getElem? (i := 45) rfl) rfl), mk_Tokens_cut⟩
set_option maxRecDepth 100000 in
theorem mk_Land_clear : Cond.code y_Land_clear.1 y_Land_clear.2.1 y_Land_clear.2.2.1 y_Land_clear.2.2.2.1 ∈ gtb ∧ Cond.initialized y_Land_clear.1.cls ∈ gtb ∧ y_Land_clear.1.cls ≠ "java/lang/invoke/MethodHandle" ∧ y_Land_clear.1.cls ≠ "java/lang/invoke/VarHandle" ∧ (parseMethodDescriptor y_Land_clear.1.desc).map (fun d => d.parameters.length) = some 0 := ⟨(gk_3 (List.mem_of_getElem? (i := 87) rfl) rfl), cz_Land, cx_Land.1, cx_Land.2, by decide +kernel⟩
set_option maxRecDepth 100000 in
theorem mo_Reader_33 : mOk "CookedLaw$Reader" 33 0 y_Land_clear := ⟨Or.inl (gk_3 (List.mem_of_getElem? (i := 84) rfl) rfl), mk_Land_clear⟩
set_option maxRecDepth 100000 in
theorem mk_Reader_is : Cond.code y_Reader_is.1 y_Reader_is.2.1 y_Reader_is.2.2.1 y_Reader_is.2.2.2.1 ∈ gtb ∧ Cond.initialized y_Reader_is.1.cls ∈ gtb ∧ y_Reader_is.1.cls ≠ "java/lang/invoke/MethodHandle" ∧ y_Reader_is.1.cls ≠ "java/lang/invoke/VarHandle" ∧ (parseMethodDescriptor y_Reader_is.1.desc).map (fun d => d.parameters.length) = some 1 := ⟨(gk_3 (List.mem_of_getElem? (i := 98) rfl) rfl), cz_Reader, cx_Reader.1, cx_Reader.2, by decide +kernel⟩
set_option maxRecDepth 100000 in
theorem mo_Reader_51 : mOk "CookedLaw$Reader" 51 1 y_Reader_is := ⟨Or.inl (gk_3 (List.mem_of_getElem? (i := 95) rfl) rfl), mk_Reader_is⟩
set_option maxRecDepth 100000 in
theorem mo_Reader_58 : mOk "CookedLaw$Reader" 58 2 y_Main_at := ⟨Or.inr ⟨"CookedLaw", (tk_3 (List.mem_of_getElem? (i := 99) rfl))⟩, mk_Main_at⟩
set_option maxRecDepth 100000 in
theorem mk_Reader_takeFood : Cond.code y_Reader_takeFood.1 y_Reader_takeFood.2.1 y_Reader_takeFood.2.2.1 y_Reader_takeFood.2.2.2.1 ∈ gtb ∧ Cond.initialized y_Reader_takeFood.1.cls ∈ gtb ∧ y_Reader_takeFood.1.cls ≠ "java/lang/invoke/MethodHandle" ∧ y_Reader_takeFood.1.cls ≠ "java/lang/invoke/VarHandle" ∧ (parseMethodDescriptor y_Reader_takeFood.1.desc).map (fun d => d.parameters.length) = some 1 := ⟨(gk_3 (List.mem_of_getElem? (i := 105) rfl) rfl), cz_Reader, cx_Reader.1, cx_Reader.2, by decide +kernel⟩
set_option maxRecDepth 100000 in
theorem mo_Reader_62 : mOk "CookedLaw$Reader" 62 1 y_Reader_takeFood := ⟨Or.inl (gk_3 (List.mem_of_getElem? (i := 102) rfl) rfl), mk_Reader_takeFood⟩
set_option maxRecDepth 100000 in
theorem mk_Reader_takeDish : Cond.code y_Reader_takeDish.1 y_Reader_takeDish.2.1 y_Reader_takeDish.2.2.1 y_Reader_takeDish.2.2.2.1 ∈ gtb ∧ Cond.initialized y_Reader_takeDish.1.cls ∈ gtb ∧ y_Reader_takeDish.1.cls ≠ "java/lang/invoke/MethodHandle" ∧ y_Reader_takeDish.1.cls ≠ "java/lang/invoke/VarHandle" ∧ (parseMethodDescriptor y_Reader_takeDish.1.desc).map (fun d => d.parameters.length) = some 1 := ⟨(gk_3 (List.mem_of_getElem? (i := 142) rfl) rfl), cz_Reader, cx_Reader.1, cx_Reader.2, by decide +kernel⟩
set_option maxRecDepth 100000 in
theorem mo_Reader_66 : mOk "CookedLaw$Reader" 66 1 y_Reader_takeDish := ⟨Or.inl (gk_3 (List.mem_of_getElem? (i := 139) rfl) rfl), mk_Reader_takeDish⟩
set_option maxRecDepth 100000 in
theorem mk_Reader_takeGuest : Cond.code y_Reader_takeGuest.1 y_Reader_takeGuest.2.1 y_Reader_takeGuest.2.2.1 y_Reader_takeGuest.2.2.2.1 ∈ gtb ∧ Cond.initialized y_Reader_takeGuest.1.cls ∈ gtb ∧ y_Reader_takeGuest.1.cls ≠ "java/lang/invoke/MethodHandle" ∧ y_Reader_takeGuest.1.cls ≠ "java/lang/invoke/VarHandle" ∧ (parseMethodDescriptor y_Reader_takeGuest.1.desc).map (fun d => d.parameters.length) = some 1 := ⟨(gk_3 (List.mem_of_getElem? (i := 155) rfl) rfl), cz_Reader, cx_Reader.1, cx_Reader.2, by decide +kernel⟩
set_option maxRecDepth 100000 in
theorem mo_Reader_69 : mOk "CookedLaw$Reader" 69 1 y_Reader_takeGuest := ⟨Or.inl (gk_3 (List.mem_of_getElem? (i := 152) rfl) rfl), mk_Reader_takeGuest⟩
set_option maxRecDepth 100000 in
theorem mk_Reader_takeDeed : Cond.code y_Reader_takeDeed.1 y_Reader_takeDeed.2.1 y_Reader_takeDeed.2.2.1 y_Reader_takeDeed.2.2.2.1 ∈ gtb ∧ Cond.initialized y_Reader_takeDeed.1.cls ∈ gtb ∧ y_Reader_takeDeed.1.cls ≠ "java/lang/invoke/MethodHandle" ∧ y_Reader_takeDeed.1.cls ≠ "java/lang/invoke/VarHandle" ∧ (parseMethodDescriptor y_Reader_takeDeed.1.desc).map (fun d => d.parameters.length) = some 1 := ⟨(gk_3 (List.mem_of_getElem? (i := 159) rfl) rfl), cz_Reader, cx_Reader.1, cx_Reader.2, by decide +kernel⟩
set_option maxRecDepth 100000 in
theorem mo_Reader_72 : mOk "CookedLaw$Reader" 72 1 y_Reader_takeDeed := ⟨Or.inl (gk_3 (List.mem_of_getElem? (i := 156) rfl) rfl), mk_Reader_takeDeed⟩
set_option maxRecDepth 100000 in
theorem mk_Reader_takeLaw : Cond.code y_Reader_takeLaw.1 y_Reader_takeLaw.2.1 y_Reader_takeLaw.2.2.1 y_Reader_takeLaw.2.2.2.1 ∈ gtb ∧ Cond.initialized y_Reader_takeLaw.1.cls ∈ gtb ∧ y_Reader_takeLaw.1.cls ≠ "java/lang/invoke/MethodHandle" ∧ y_Reader_takeLaw.1.cls ≠ "java/lang/invoke/VarHandle" ∧ (parseMethodDescriptor y_Reader_takeLaw.1.desc).map (fun d => d.parameters.length) = some 1 := ⟨(gk_3 (List.mem_of_getElem? (i := 163) rfl) rfl), cz_Reader, cx_Reader.1, cx_Reader.2, by decide +kernel⟩
set_option maxRecDepth 100000 in
theorem mo_Reader_79 : mOk "CookedLaw$Reader" 79 1 y_Reader_takeLaw := ⟨Or.inl (gk_3 (List.mem_of_getElem? (i := 160) rfl) rfl), mk_Reader_takeLaw⟩
set_option maxRecDepth 100000 in
theorem mk_Reader_takeSeed : Cond.code y_Reader_takeSeed.1 y_Reader_takeSeed.2.1 y_Reader_takeSeed.2.2.1 y_Reader_takeSeed.2.2.2.1 ∈ gtb ∧ Cond.initialized y_Reader_takeSeed.1.cls ∈ gtb ∧ y_Reader_takeSeed.1.cls ≠ "java/lang/invoke/MethodHandle" ∧ y_Reader_takeSeed.1.cls ≠ "java/lang/invoke/VarHandle" ∧ (parseMethodDescriptor y_Reader_takeSeed.1.desc).map (fun d => d.parameters.length) = some 1 := ⟨(gk_3 (List.mem_of_getElem? (i := 212) rfl) rfl), cz_Reader, cx_Reader.1, cx_Reader.2, by decide +kernel⟩
set_option maxRecDepth 100000 in
theorem mo_Reader_92 : mOk "CookedLaw$Reader" 92 1 y_Reader_takeSeed := ⟨Or.inl (gk_3 (List.mem_of_getElem? (i := 209) rfl) rfl), mk_Reader_takeSeed⟩
set_option maxRecDepth 100000 in
theorem mk_Reader_stop : Cond.code y_Reader_stop.1 y_Reader_stop.2.1 y_Reader_stop.2.2.1 y_Reader_stop.2.2.2.1 ∈ gtb ∧ Cond.initialized y_Reader_stop.1.cls ∈ gtb ∧ y_Reader_stop.1.cls ≠ "java/lang/invoke/MethodHandle" ∧ y_Reader_stop.1.cls ≠ "java/lang/invoke/VarHandle" ∧ (parseMethodDescriptor y_Reader_stop.1.desc).map (fun d => d.parameters.length) = some 1 := ⟨(gk_3 (List.mem_of_getElem? (i := 109) rfl) rfl), cz_Reader, cx_Reader.1, cx_Reader.2, by decide +kernel⟩
set_option maxRecDepth 100000 in
theorem mo_Reader_95 : mOk "CookedLaw$Reader" 95 1 y_Reader_stop := ⟨Or.inl (gk_3 (List.mem_of_getElem? (i := 106) rfl) rfl), mk_Reader_stop⟩
set_option maxRecDepth 100000 in
theorem mk_Reader_take : Cond.code y_Reader_take.1 y_Reader_take.2.1 y_Reader_take.2.2.1 y_Reader_take.2.2.2.1 ∈ gtb ∧ Cond.initialized y_Reader_take.1.cls ∈ gtb ∧ y_Reader_take.1.cls ≠ "java/lang/invoke/MethodHandle" ∧ y_Reader_take.1.cls ≠ "java/lang/invoke/VarHandle" ∧ (parseMethodDescriptor y_Reader_take.1.desc).map (fun d => d.parameters.length) = some 0 := ⟨(gk_3 (List.mem_of_getElem? (i := 113) rfl) rfl), cz_Reader, cx_Reader.1, cx_Reader.2, by decide +kernel⟩
set_option maxRecDepth 100000 in
theorem mo_Reader_108 : mOk "CookedLaw$Reader" 108 0 y_Reader_take := ⟨Or.inl (gk_3 (List.mem_of_getElem? (i := 110) rfl) rfl), mk_Reader_take⟩
set_option maxRecDepth 100000 in
theorem mk_Tokens_valueAt : Cond.code y_Tokens_valueAt.1 y_Tokens_valueAt.2.1 y_Tokens_valueAt.2.2.1 y_Tokens_valueAt.2.2.2.1 ∈ gtb ∧ Cond.initialized y_Tokens_valueAt.1.cls ∈ gtb ∧ y_Tokens_valueAt.1.cls ≠ "java/lang/invoke/MethodHandle" ∧ y_Tokens_valueAt.1.cls ≠ "java/lang/invoke/VarHandle" ∧ (parseMethodDescriptor y_Tokens_valueAt.1.desc).map (fun d => d.parameters.length) = some 1 := ⟨(gk_3 (List.mem_of_getElem? (i := 121) rfl) rfl), cz_Tokens, cx_Tokens.1, cx_Tokens.2, by decide +kernel⟩
set_option maxRecDepth 100000 in
theorem mo_Reader_111 : mOk "CookedLaw$Reader" 111 1 y_Tokens_valueAt := ⟨Or.inl (gk_3 (List.mem_of_getElem? (i := 118) rfl) rfl), mk_Tokens_valueAt⟩
set_option maxRecDepth 100000 in
theorem mk_Reader_stopLate : Cond.code y_Reader_stopLate.1 y_Reader_stopLate.2.1 y_Reader_stopLate.2.2.1 y_Reader_stopLate.2.2.2.1 ∈ gtb ∧ Cond.initialized y_Reader_stopLate.1.cls ∈ gtb ∧ y_Reader_stopLate.1.cls ≠ "java/lang/invoke/MethodHandle" ∧ y_Reader_stopLate.1.cls ≠ "java/lang/invoke/VarHandle" ∧ (parseMethodDescriptor y_Reader_stopLate.1.desc).map (fun d => d.parameters.length) = some 1 := ⟨(gk_3 (List.mem_of_getElem? (i := 129) rfl) rfl), cz_Reader, cx_Reader.1, cx_Reader.2, by decide +kernel⟩
set_option maxRecDepth 100000 in
theorem mo_Reader_115 : mOk "CookedLaw$Reader" 115 1 y_Reader_stopLate := ⟨Or.inl (gk_3 (List.mem_of_getElem? (i := 126) rfl) rfl), mk_Reader_stopLate⟩
set_option maxRecDepth 100000 in
theorem mk_Reader_need : Cond.code y_Reader_need.1 y_Reader_need.2.1 y_Reader_need.2.2.1 y_Reader_need.2.2.2.1 ∈ gtb ∧ Cond.initialized y_Reader_need.1.cls ∈ gtb ∧ y_Reader_need.1.cls ≠ "java/lang/invoke/MethodHandle" ∧ y_Reader_need.1.cls ≠ "java/lang/invoke/VarHandle" ∧ (parseMethodDescriptor y_Reader_need.1.desc).map (fun d => d.parameters.length) = some 1 := ⟨(gk_3 (List.mem_of_getElem? (i := 133) rfl) rfl), cz_Reader, cx_Reader.1, cx_Reader.2, by decide +kernel⟩
set_option maxRecDepth 100000 in
theorem mo_Reader_118 : mOk "CookedLaw$Reader" 118 1 y_Reader_need := ⟨Or.inl (gk_3 (List.mem_of_getElem? (i := 130) rfl) rfl), mk_Reader_need⟩
set_option maxRecDepth 100000 in
theorem mk_Reader_indexOf : Cond.code y_Reader_indexOf.1 y_Reader_indexOf.2.1 y_Reader_indexOf.2.2.1 y_Reader_indexOf.2.2.2.1 ∈ gtb ∧ Cond.initialized y_Reader_indexOf.1.cls ∈ gtb ∧ y_Reader_indexOf.1.cls ≠ "java/lang/invoke/MethodHandle" ∧ y_Reader_indexOf.1.cls ≠ "java/lang/invoke/VarHandle" ∧ (parseMethodDescriptor y_Reader_indexOf.1.desc).map (fun d => d.parameters.length) = some 1 := ⟨(gk_3 (List.mem_of_getElem? (i := 125) rfl) rfl), cz_Reader, cx_Reader.1, cx_Reader.2, by decide +kernel⟩
set_option maxRecDepth 100000 in
theorem mo_Reader_121 : mOk "CookedLaw$Reader" 121 1 y_Reader_indexOf := ⟨Or.inl (gk_3 (List.mem_of_getElem? (i := 122) rfl) rfl), mk_Reader_indexOf⟩
set_option maxRecDepth 100000 in
theorem mk_Reader_takeNewName : Cond.code y_Reader_takeNewName.1 y_Reader_takeNewName.2.1 y_Reader_takeNewName.2.2.1 y_Reader_takeNewName.2.2.2.1 ∈ gtb ∧ Cond.initialized y_Reader_takeNewName.1.cls ∈ gtb ∧ y_Reader_takeNewName.1.cls ≠ "java/lang/invoke/MethodHandle" ∧ y_Reader_takeNewName.1.cls ≠ "java/lang/invoke/VarHandle" ∧ (parseMethodDescriptor y_Reader_takeNewName.1.desc).map (fun d => d.parameters.length) = some 1 := ⟨(gk_3 (List.mem_of_getElem? (i := 117) rfl) rfl), cz_Reader, cx_Reader.1, cx_Reader.2, by decide +kernel⟩
set_option maxRecDepth 100000 in
theorem mo_Reader_128 : mOk "CookedLaw$Reader" 128 1 y_Reader_takeNewName := ⟨Or.inl (gk_3 (List.mem_of_getElem? (i := 114) rfl) rfl), mk_Reader_takeNewName⟩
set_option maxRecDepth 100000 in
theorem mk_Reader_takeInt : Cond.code y_Reader_takeInt.1 y_Reader_takeInt.2.1 y_Reader_takeInt.2.2.1 y_Reader_takeInt.2.2.2.1 ∈ gtb ∧ Cond.initialized y_Reader_takeInt.1.cls ∈ gtb ∧ y_Reader_takeInt.1.cls ≠ "java/lang/invoke/MethodHandle" ∧ y_Reader_takeInt.1.cls ≠ "java/lang/invoke/VarHandle" ∧ (parseMethodDescriptor y_Reader_takeInt.1.desc).map (fun d => d.parameters.length) = some 1 := ⟨(gk_3 (List.mem_of_getElem? (i := 137) rfl) rfl), cz_Reader, cx_Reader.1, cx_Reader.2, by decide +kernel⟩
set_option maxRecDepth 100000 in
theorem mo_Reader_134 : mOk "CookedLaw$Reader" 134 1 y_Reader_takeInt := ⟨Or.inl (gk_3 (List.mem_of_getElem? (i := 134) rfl) rfl), mk_Reader_takeInt⟩
set_option maxRecDepth 100000 in
theorem mo_Reader_138 : mOk "CookedLaw$Reader" 138 3 y_Main_put := ⟨Or.inr ⟨"CookedLaw", (tk_3 (List.mem_of_getElem? (i := 138) rfl))⟩, mk_Main_put⟩
set_option maxRecDepth 100000 in
theorem mk_Reader_takeIngredient : Cond.code y_Reader_takeIngredient.1 y_Reader_takeIngredient.2.1 y_Reader_takeIngredient.2.2.1 y_Reader_takeIngredient.2.2.2.1 ∈ gtb ∧ Cond.initialized y_Reader_takeIngredient.1.cls ∈ gtb ∧ y_Reader_takeIngredient.1.cls ≠ "java/lang/invoke/MethodHandle" ∧ y_Reader_takeIngredient.1.cls ≠ "java/lang/invoke/VarHandle" ∧ (parseMethodDescriptor y_Reader_takeIngredient.1.desc).map (fun d => d.parameters.length) = some 2 := ⟨(gk_3 (List.mem_of_getElem? (i := 146) rfl) rfl), cz_Reader, cx_Reader.1, cx_Reader.2, by decide +kernel⟩
set_option maxRecDepth 100000 in
theorem mo_Reader_154 : mOk "CookedLaw$Reader" 154 2 y_Reader_takeIngredient := ⟨Or.inl (gk_3 (List.mem_of_getElem? (i := 143) rfl) rfl), mk_Reader_takeIngredient⟩
set_option maxRecDepth 100000 in
theorem mo_Reader_161 : mOk "CookedLaw$Reader" 161 2 y_Land_inDish := ⟨Or.inl (gk_3 (List.mem_of_getElem? (i := 147) rfl) rfl), mk_Land_inDish⟩
set_option maxRecDepth 100000 in
theorem mo_Reader_183 : mOk "CookedLaw$Reader" 183 0 y_Law_clear := ⟨Or.inl (gk_3 (List.mem_of_getElem? (i := 164) rfl) rfl), mk_Law_clear⟩
set_option maxRecDepth 100000 in
theorem mk_Reader_takeSum : Cond.code y_Reader_takeSum.1 y_Reader_takeSum.2.1 y_Reader_takeSum.2.2.1 y_Reader_takeSum.2.2.2.1 ∈ gtb ∧ Cond.initialized y_Reader_takeSum.1.cls ∈ gtb ∧ y_Reader_takeSum.1.cls ≠ "java/lang/invoke/MethodHandle" ∧ y_Reader_takeSum.1.cls ≠ "java/lang/invoke/VarHandle" ∧ (parseMethodDescriptor y_Reader_takeSum.1.desc).map (fun d => d.parameters.length) = some 1 := ⟨(gk_3 (List.mem_of_getElem? (i := 168) rfl) rfl), cz_Reader, cx_Reader.1, cx_Reader.2, by decide +kernel⟩
set_option maxRecDepth 100000 in
theorem mo_Reader_186 : mOk "CookedLaw$Reader" 186 1 y_Reader_takeSum := ⟨Or.inl (gk_3 (List.mem_of_getElem? (i := 165) rfl) rfl), mk_Reader_takeSum⟩
set_option maxRecDepth 100000 in
theorem mk_Law_openIf : Cond.code y_Law_openIf.1 y_Law_openIf.2.1 y_Law_openIf.2.2.1 y_Law_openIf.2.2.2.1 ∈ gtb ∧ Cond.initialized y_Law_openIf.1.cls ∈ gtb ∧ y_Law_openIf.1.cls ≠ "java/lang/invoke/MethodHandle" ∧ y_Law_openIf.1.cls ≠ "java/lang/invoke/VarHandle" ∧ (parseMethodDescriptor y_Law_openIf.1.desc).map (fun d => d.parameters.length) = some 0 := ⟨(gk_3 (List.mem_of_getElem? (i := 202) rfl) rfl), cz_Law, cx_Law.1, cx_Law.2, by decide +kernel⟩
set_option maxRecDepth 100000 in
theorem mo_Reader_189 : mOk "CookedLaw$Reader" 189 0 y_Law_openIf := ⟨Or.inl (gk_3 (List.mem_of_getElem? (i := 199) rfl) rfl), mk_Law_openIf⟩
set_option maxRecDepth 100000 in
theorem mk_Law_closeIf : Cond.code y_Law_closeIf.1 y_Law_closeIf.2.1 y_Law_closeIf.2.2.1 y_Law_closeIf.2.2.2.1 ∈ gtb ∧ Cond.initialized y_Law_closeIf.1.cls ∈ gtb ∧ y_Law_closeIf.1.cls ≠ "java/lang/invoke/MethodHandle" ∧ y_Law_closeIf.1.cls ≠ "java/lang/invoke/VarHandle" ∧ (parseMethodDescriptor y_Law_closeIf.1.desc).map (fun d => d.parameters.length) = some 1 := ⟨(gk_3 (List.mem_of_getElem? (i := 207) rfl) rfl), cz_Law, cx_Law.1, cx_Law.2, by decide +kernel⟩
set_option maxRecDepth 100000 in
theorem mo_Reader_193 : mOk "CookedLaw$Reader" 193 1 y_Law_closeIf := ⟨Or.inl (gk_3 (List.mem_of_getElem? (i := 204) rfl) rfl), mk_Law_closeIf⟩
set_option maxRecDepth 100000 in
theorem mk_Reader_takeUnit : Cond.code y_Reader_takeUnit.1 y_Reader_takeUnit.2.1 y_Reader_takeUnit.2.2.1 y_Reader_takeUnit.2.2.2.1 ∈ gtb ∧ Cond.initialized y_Reader_takeUnit.1.cls ∈ gtb ∧ y_Reader_takeUnit.1.cls ≠ "java/lang/invoke/MethodHandle" ∧ y_Reader_takeUnit.1.cls ≠ "java/lang/invoke/VarHandle" ∧ (parseMethodDescriptor y_Reader_takeUnit.1.desc).map (fun d => d.parameters.length) = some 1 := ⟨(gk_3 (List.mem_of_getElem? (i := 172) rfl) rfl), cz_Reader, cx_Reader.1, cx_Reader.2, by decide +kernel⟩
set_option maxRecDepth 100000 in
theorem mo_Reader_202 : mOk "CookedLaw$Reader" 202 1 y_Reader_takeUnit := ⟨Or.inl (gk_3 (List.mem_of_getElem? (i := 169) rfl) rfl), mk_Reader_takeUnit⟩
set_option maxRecDepth 100000 in
theorem mk_Reader_rank : Cond.code y_Reader_rank.1 y_Reader_rank.2.1 y_Reader_rank.2.2.1 y_Reader_rank.2.2.2.1 ∈ gtb ∧ Cond.initialized y_Reader_rank.1.cls ∈ gtb ∧ y_Reader_rank.1.cls ≠ "java/lang/invoke/MethodHandle" ∧ y_Reader_rank.1.cls ≠ "java/lang/invoke/VarHandle" ∧ (parseMethodDescriptor y_Reader_rank.1.desc).map (fun d => d.parameters.length) = some 1 := ⟨(gk_3 (List.mem_of_getElem? (i := 186) rfl) rfl), cz_Reader, cx_Reader.1, cx_Reader.2, by decide +kernel⟩
set_option maxRecDepth 100000 in
theorem mo_Reader_206 : mOk "CookedLaw$Reader" 206 1 y_Reader_rank := ⟨Or.inl (gk_3 (List.mem_of_getElem? (i := 184) rfl) rfl), mk_Reader_rank⟩
set_option maxRecDepth 100000 in
theorem mk_Reader_takeSign : Cond.code y_Reader_takeSign.1 y_Reader_takeSign.2.1 y_Reader_takeSign.2.2.1 y_Reader_takeSign.2.2.2.1 ∈ gtb ∧ Cond.initialized y_Reader_takeSign.1.cls ∈ gtb ∧ y_Reader_takeSign.1.cls ≠ "java/lang/invoke/MethodHandle" ∧ y_Reader_takeSign.1.cls ≠ "java/lang/invoke/VarHandle" ∧ (parseMethodDescriptor y_Reader_takeSign.1.desc).map (fun d => d.parameters.length) = some 1 := ⟨(gk_3 (List.mem_of_getElem? (i := 190) rfl) rfl), cz_Reader, cx_Reader.1, cx_Reader.2, by decide +kernel⟩
set_option maxRecDepth 100000 in
theorem mo_Reader_209 : mOk "CookedLaw$Reader" 209 1 y_Reader_takeSign := ⟨Or.inl (gk_3 (List.mem_of_getElem? (i := 187) rfl) rfl), mk_Reader_takeSign⟩
set_option maxRecDepth 100000 in
theorem mk_Reader_takeClose : Cond.code y_Reader_takeClose.1 y_Reader_takeClose.2.1 y_Reader_takeClose.2.2.1 y_Reader_takeClose.2.2.2.1 ∈ gtb ∧ Cond.initialized y_Reader_takeClose.1.cls ∈ gtb ∧ y_Reader_takeClose.1.cls ≠ "java/lang/invoke/MethodHandle" ∧ y_Reader_takeClose.1.cls ≠ "java/lang/invoke/VarHandle" ∧ (parseMethodDescriptor y_Reader_takeClose.1.desc).map (fun d => d.parameters.length) = some 1 := ⟨(gk_3 (List.mem_of_getElem? (i := 198) rfl) rfl), cz_Reader, cx_Reader.1, cx_Reader.2, by decide +kernel⟩
set_option maxRecDepth 100000 in
theorem mo_Reader_212 : mOk "CookedLaw$Reader" 212 1 y_Reader_takeClose := ⟨Or.inl (gk_3 (List.mem_of_getElem? (i := 195) rfl) rfl), mk_Reader_takeClose⟩
set_option maxRecDepth 100000 in
theorem mk_Reader_layHeld : Cond.code y_Reader_layHeld.1 y_Reader_layHeld.2.1 y_Reader_layHeld.2.2.1 y_Reader_layHeld.2.2.2.1 ∈ gtb ∧ Cond.initialized y_Reader_layHeld.1.cls ∈ gtb ∧ y_Reader_layHeld.1.cls ≠ "java/lang/invoke/MethodHandle" ∧ y_Reader_layHeld.1.cls ≠ "java/lang/invoke/VarHandle" ∧ (parseMethodDescriptor y_Reader_layHeld.1.desc).map (fun d => d.parameters.length) = some 2 := ⟨(gk_3 (List.mem_of_getElem? (i := 194) rfl) rfl), cz_Reader, cx_Reader.1, cx_Reader.2, by decide +kernel⟩
set_option maxRecDepth 100000 in
theorem mo_Reader_215 : mOk "CookedLaw$Reader" 215 2 y_Reader_layHeld := ⟨Or.inl (gk_3 (List.mem_of_getElem? (i := 191) rfl) rfl), mk_Reader_layHeld⟩
set_option maxRecDepth 100000 in
theorem mk_Reader_holdSign : Cond.code y_Reader_holdSign.1 y_Reader_holdSign.2.1 y_Reader_holdSign.2.2.1 y_Reader_holdSign.2.2.2.1 ∈ gtb ∧ Cond.initialized y_Reader_holdSign.1.cls ∈ gtb ∧ y_Reader_holdSign.1.cls ≠ "java/lang/invoke/MethodHandle" ∧ y_Reader_holdSign.1.cls ≠ "java/lang/invoke/VarHandle" ∧ (parseMethodDescriptor y_Reader_holdSign.1.desc).map (fun d => d.parameters.length) = some 1 := ⟨(gk_3 (List.mem_of_getElem? (i := 176) rfl) rfl), cz_Reader, cx_Reader.1, cx_Reader.2, by decide +kernel⟩
set_option maxRecDepth 100000 in
theorem mo_Reader_219 : mOk "CookedLaw$Reader" 219 1 y_Reader_holdSign := ⟨Or.inl (gk_3 (List.mem_of_getElem? (i := 173) rfl) rfl), mk_Reader_holdSign⟩
set_option maxRecDepth 100000 in
theorem mo_Reader_222 : mOk "CookedLaw$Reader" 222 1 y_Law_add := ⟨Or.inl (gk_3 (List.mem_of_getElem? (i := 177) rfl) rfl), mk_Law_add⟩
set_option maxRecDepth 100000 in
theorem mo_Reader_225 : mOk "CookedLaw$Reader" 225 2 y_Main_isOne := ⟨Or.inr ⟨"CookedLaw", (tk_3 (List.mem_of_getElem? (i := 181) rfl))⟩, mk_Main_isOne⟩
set_option maxRecDepth 100000 in
theorem mo_Slots_17 : mOk "CookedLaw$Slots" 17 0 y_State_init := ⟨Or.inr ⟨"CookedLaw", (tk_2 (List.mem_of_getElem? (i := 113) rfl))⟩, mk_State_init⟩
set_option maxRecDepth 100000 in
theorem mo_Slots_22 : mOk "CookedLaw$Slots" 22 1 y_State_copyFrom := ⟨Or.inl (gk_5 (List.mem_of_getElem? (i := 156) rfl) rfl), mk_State_copyFrom⟩
set_option maxRecDepth 100000 in
theorem mo_Slots_26 : mOk "CookedLaw$Slots" 26 2 y_Main_hasBit := ⟨Or.inr ⟨"CookedLaw", (tk_5 (List.mem_of_getElem? (i := 165) rfl))⟩, mk_Main_hasBit⟩
set_option maxRecDepth 100000 in
theorem mo_Slots_30 : mOk "CookedLaw$Slots" 30 1 y_Int_bitCount := ⟨Or.inl (gk_5 (List.mem_of_getElem? (i := 174) rfl) rfl), mk_Int_bitCount⟩
set_option maxRecDepth 100000 in
theorem mo_State_43 : mOk "CookedLaw$State" 43 1 y_Main_wipe := ⟨Or.inr ⟨"CookedLaw", (tk_3 (List.mem_of_getElem? (i := 225) rfl))⟩, mk_Main_wipe⟩
set_option maxRecDepth 100000 in
theorem mo_State_53 : mOk "CookedLaw$State" 53 2 y_Main_at := ⟨Or.inr ⟨"CookedLaw", (tk_3 (List.mem_of_getElem? (i := 226) rfl))⟩, mk_Main_at⟩
set_option maxRecDepth 100000 in
theorem mo_State_57 : mOk "CookedLaw$State" 57 3 y_Main_put := ⟨Or.inr ⟨"CookedLaw", (tk_3 (List.mem_of_getElem? (i := 227) rfl))⟩, mk_Main_put⟩
set_option maxRecDepth 100000 in
theorem mo_State_61 : mOk "CookedLaw$State" 61 2 y_Main_copyRow := ⟨Or.inr ⟨"CookedLaw", (tk_4 (List.mem_of_getElem? (i := 130) rfl))⟩, mk_Main_copyRow⟩
set_option maxRecDepth 100000 in
theorem mo_State_65 : mOk "CookedLaw$State" 65 2 y_Land_inDish := ⟨Or.inl (gk_4 (List.mem_of_getElem? (i := 121) rfl) rfl), mk_Land_inDish⟩
set_option maxRecDepth 100000 in
theorem mk_Land_lot : Cond.code y_Land_lot.1 y_Land_lot.2.1 y_Land_lot.2.2.1 y_Land_lot.2.2.2.1 ∈ gtb ∧ Cond.initialized y_Land_lot.1.cls ∈ gtb ∧ y_Land_lot.1.cls ≠ "java/lang/invoke/MethodHandle" ∧ y_Land_lot.1.cls ≠ "java/lang/invoke/VarHandle" ∧ (parseMethodDescriptor y_Land_lot.1.desc).map (fun d => d.parameters.length) = some 3 := ⟨(gk_4 (List.mem_of_getElem? (i := 144) rfl) rfl), cz_Land, cx_Land.1, cx_Land.2, by decide +kernel⟩
set_option maxRecDepth 100000 in
theorem mo_State_69 : mOk "CookedLaw$State" 69 3 y_Land_lot := ⟨Or.inl (gk_4 (List.mem_of_getElem? (i := 142) rfl) rfl), mk_Land_lot⟩
set_option maxRecDepth 100000 in
theorem mk_Land_slipsOf : Cond.code y_Land_slipsOf.1 y_Land_slipsOf.2.1 y_Land_slipsOf.2.2.1 y_Land_slipsOf.2.2.2.1 ∈ gtb ∧ Cond.initialized y_Land_slipsOf.1.cls ∈ gtb ∧ y_Land_slipsOf.1.cls ≠ "java/lang/invoke/MethodHandle" ∧ y_Land_slipsOf.1.cls ≠ "java/lang/invoke/VarHandle" ∧ (parseMethodDescriptor y_Land_slipsOf.1.desc).map (fun d => d.parameters.length) = some 2 := ⟨(gk_4 (List.mem_of_getElem? (i := 152) rfl) rfl), cz_Land, cx_Land.1, cx_Land.2, by decide +kernel⟩
set_option maxRecDepth 100000 in
theorem mo_State_73 : mOk "CookedLaw$State" 73 2 y_Land_slipsOf := ⟨Or.inl (gk_4 (List.mem_of_getElem? (i := 149) rfl) rfl), mk_Land_slipsOf⟩
set_option maxRecDepth 100000 in
theorem mo_State_79 : mOk "CookedLaw$State" 79 3 y_State_slipInto := ⟨Or.inl (gk_4 (List.mem_of_getElem? (i := 138) rfl) rfl), mk_State_slipInto⟩
set_option maxRecDepth 100000 in
theorem mo_State_83 : mOk "CookedLaw$State" 83 4 y_Land_dishForce := ⟨Or.inl (gk_4 (List.mem_of_getElem? (i := 153) rfl) rfl), mk_Land_dishForce⟩
set_option maxRecDepth 100000 in
theorem mo_State_87 : mOk "CookedLaw$State" 87 1 y_Land_priceOf := ⟨Or.inl (gk_4 (List.mem_of_getElem? (i := 154) rfl) rfl), mk_Land_priceOf⟩
set_option maxRecDepth 100000 in
theorem mk_Land_fillOf : Cond.code y_Land_fillOf.1 y_Land_fillOf.2.1 y_Land_fillOf.2.2.1 y_Land_fillOf.2.2.2.1 ∈ gtb ∧ Cond.initialized y_Land_fillOf.1.cls ∈ gtb ∧ y_Land_fillOf.1.cls ≠ "java/lang/invoke/MethodHandle" ∧ y_Land_fillOf.1.cls ≠ "java/lang/invoke/VarHandle" ∧ (parseMethodDescriptor y_Land_fillOf.1.desc).map (fun d => d.parameters.length) = some 3 := ⟨(gk_4 (List.mem_of_getElem? (i := 174) rfl) rfl), cz_Land, cx_Land.1, cx_Land.2, by decide +kernel⟩
set_option maxRecDepth 100000 in
theorem mo_State_91 : mOk "CookedLaw$State" 91 3 y_Land_fillOf := ⟨Or.inl (gk_4 (List.mem_of_getElem? (i := 171) rfl) rfl), mk_Land_fillOf⟩
set_option maxRecDepth 100000 in
theorem mo_State_94 : mOk "CookedLaw$State" 94 3 y_Main_within := ⟨Or.inr ⟨"CookedLaw", (tk_4 (List.mem_of_getElem? (i := 175) rfl))⟩, mk_Main_within⟩
set_option maxRecDepth 100000 in
theorem mo_State_97 : mOk "CookedLaw$State" 97 1 y_State_hasEaten := ⟨Or.inl (gk_4 (List.mem_of_getElem? (i := 87) rfl) rfl), mk_State_hasEaten⟩
set_option maxRecDepth 100000 in
theorem mo_State_101 : mOk "CookedLaw$State" 101 1 y_State_agoOf := ⟨Or.inl (gk_4 (List.mem_of_getElem? (i := 88) rfl) rfl), mk_State_agoOf⟩
set_option maxRecDepth 100000 in
theorem mo_State_104 : mOk "CookedLaw$State" 104 5 y_Land_boundBy := ⟨Or.inl (gk_4 (List.mem_of_getElem? (i := 89) rfl) rfl), mk_Land_boundBy⟩
set_option maxRecDepth 100000 in
theorem mo_State_108 : mOk "CookedLaw$State" 108 4 y_State_boundOf := ⟨Or.inl (gk_4 (List.mem_of_getElem? (i := 105) rfl) rfl), mk_State_boundOf⟩
set_option maxRecDepth 100000 in
theorem mo_State_112 : mOk "CookedLaw$State" 112 2 y_Land_freeUnder := ⟨Or.inl (gk_4 (List.mem_of_getElem? (i := 106) rfl) rfl), mk_Land_freeUnder⟩
set_option maxRecDepth 100000 in
theorem mo_Tape_19 : mOk "CookedLaw$Tape" 19 3 y_Main_put := ⟨Or.inr ⟨"CookedLaw", (tk_3 (List.mem_of_getElem? (i := 30) rfl))⟩, mk_Main_put⟩
set_option maxRecDepth 100000 in
theorem mk_Tokens_withLetter : Cond.code y_Tokens_withLetter.1 y_Tokens_withLetter.2.1 y_Tokens_withLetter.2.2.1 y_Tokens_withLetter.2.2.2.1 ∈ gtb ∧ Cond.initialized y_Tokens_withLetter.1.cls ∈ gtb ∧ y_Tokens_withLetter.1.cls ≠ "java/lang/invoke/MethodHandle" ∧ y_Tokens_withLetter.1.cls ≠ "java/lang/invoke/VarHandle" ∧ (parseMethodDescriptor y_Tokens_withLetter.1.desc).map (fun d => d.parameters.length) = some 2 := ⟨(gk_1 (List.mem_of_getElem? (i := 107) rfl) rfl), cz_Tokens, cx_Tokens.1, cx_Tokens.2, by decide +kernel⟩
set_option maxRecDepth 100000 in
theorem mo_Tokens_37 : mOk "CookedLaw$Tokens" 37 2 y_Tokens_withLetter := ⟨Or.inl (gk_1 (List.mem_of_getElem? (i := 105) rfl) rfl), mk_Tokens_withLetter⟩
set_option maxRecDepth 100000 in
theorem mk_Tokens_behindBlanks : Cond.code y_Tokens_behindBlanks.1 y_Tokens_behindBlanks.2.1 y_Tokens_behindBlanks.2.2.1 y_Tokens_behindBlanks.2.2.2.1 ∈ gtb ∧ Cond.initialized y_Tokens_behindBlanks.1.cls ∈ gtb ∧ y_Tokens_behindBlanks.1.cls ≠ "java/lang/invoke/MethodHandle" ∧ y_Tokens_behindBlanks.1.cls ≠ "java/lang/invoke/VarHandle" ∧ (parseMethodDescriptor y_Tokens_behindBlanks.1.desc).map (fun d => d.parameters.length) = some 2 := ⟨(gk_3 (List.mem_of_getElem? (i := 51) rfl) rfl), cz_Tokens, cx_Tokens.1, cx_Tokens.2, by decide +kernel⟩
set_option maxRecDepth 100000 in
theorem mo_Tokens_43 : mOk "CookedLaw$Tokens" 43 2 y_Tokens_behindBlanks := ⟨Or.inl (gk_3 (List.mem_of_getElem? (i := 49) rfl) rfl), mk_Tokens_behindBlanks⟩
set_option maxRecDepth 100000 in
theorem mk_Tokens_cutOne : Cond.code y_Tokens_cutOne.1 y_Tokens_cutOne.2.1 y_Tokens_cutOne.2.2.1 y_Tokens_cutOne.2.2.2.1 ∈ gtb ∧ Cond.initialized y_Tokens_cutOne.1.cls ∈ gtb ∧ y_Tokens_cutOne.1.cls ≠ "java/lang/invoke/MethodHandle" ∧ y_Tokens_cutOne.1.cls ≠ "java/lang/invoke/VarHandle" ∧ (parseMethodDescriptor y_Tokens_cutOne.1.desc).map (fun d => d.parameters.length) = some 3 := ⟨(gk_3 (List.mem_of_getElem? (i := 62) rfl) rfl), cz_Tokens, cx_Tokens.1, cx_Tokens.2, by decide +kernel⟩
set_option maxRecDepth 100000 in
theorem mo_Tokens_47 : mOk "CookedLaw$Tokens" 47 3 y_Tokens_cutOne := ⟨Or.inl (gk_3 (List.mem_of_getElem? (i := 59) rfl) rfl), mk_Tokens_cutOne⟩
set_option maxRecDepth 100000 in
theorem mo_Tokens_51 : mOk "CookedLaw$Tokens" 51 3 y_Main_put := ⟨Or.inr ⟨"CookedLaw", (tk_3 (List.mem_of_getElem? (i := 83) rfl))⟩, mk_Main_put⟩
set_option maxRecDepth 100000 in
theorem mk_Tape_byteAt : Cond.code y_Tape_byteAt.1 y_Tape_byteAt.2.1 y_Tape_byteAt.2.2.1 y_Tape_byteAt.2.2.2.1 ∈ gtb ∧ Cond.initialized y_Tape_byteAt.1.cls ∈ gtb ∧ y_Tape_byteAt.1.cls ≠ "java/lang/invoke/MethodHandle" ∧ y_Tape_byteAt.1.cls ≠ "java/lang/invoke/VarHandle" ∧ (parseMethodDescriptor y_Tape_byteAt.1.desc).map (fun d => d.parameters.length) = some 1 := ⟨(gk_3 (List.mem_of_getElem? (i := 55) rfl) rfl), cz_Tape, cx_Tape.1, cx_Tape.2, by decide +kernel⟩
set_option maxRecDepth 100000 in
theorem mo_Tokens_60 : mOk "CookedLaw$Tokens" 60 1 y_Tape_byteAt := ⟨Or.inl (gk_3 (List.mem_of_getElem? (i := 52) rfl) rfl), mk_Tape_byteAt⟩
set_option maxRecDepth 100000 in
theorem mk_Tokens_isBlank : Cond.code y_Tokens_isBlank.1 y_Tokens_isBlank.2.1 y_Tokens_isBlank.2.2.1 y_Tokens_isBlank.2.2.2.1 ∈ gtb ∧ Cond.initialized y_Tokens_isBlank.1.cls ∈ gtb ∧ y_Tokens_isBlank.1.cls ≠ "java/lang/invoke/MethodHandle" ∧ y_Tokens_isBlank.1.cls ≠ "java/lang/invoke/VarHandle" ∧ (parseMethodDescriptor y_Tokens_isBlank.1.desc).map (fun d => d.parameters.length) = some 1 := ⟨(gk_3 (List.mem_of_getElem? (i := 58) rfl) rfl), cz_Tokens, cx_Tokens.1, cx_Tokens.2, by decide +kernel⟩
set_option maxRecDepth 100000 in
theorem mo_Tokens_64 : mOk "CookedLaw$Tokens" 64 1 y_Tokens_isBlank := ⟨Or.inl (gk_3 (List.mem_of_getElem? (i := 56) rfl) rfl), mk_Tokens_isBlank⟩
set_option maxRecDepth 100000 in
theorem mk_Tokens_cutLetters : Cond.code y_Tokens_cutLetters.1 y_Tokens_cutLetters.2.1 y_Tokens_cutLetters.2.2.1 y_Tokens_cutLetters.2.2.2.1 ∈ gtb ∧ Cond.initialized y_Tokens_cutLetters.1.cls ∈ gtb ∧ y_Tokens_cutLetters.1.cls ≠ "java/lang/invoke/MethodHandle" ∧ y_Tokens_cutLetters.1.cls ≠ "java/lang/invoke/VarHandle" ∧ (parseMethodDescriptor y_Tokens_cutLetters.1.desc).map (fun d => d.parameters.length) = some 3 := ⟨(gk_3 (List.mem_of_getElem? (i := 66) rfl) rfl), cz_Tokens, cx_Tokens.1, cx_Tokens.2, by decide +kernel⟩
set_option maxRecDepth 100000 in
theorem mo_Tokens_68 : mOk "CookedLaw$Tokens" 68 3 y_Tokens_cutLetters := ⟨Or.inl (gk_3 (List.mem_of_getElem? (i := 63) rfl) rfl), mk_Tokens_cutLetters⟩
set_option maxRecDepth 100000 in
theorem mk_Tokens_cutDigits : Cond.code y_Tokens_cutDigits.1 y_Tokens_cutDigits.2.1 y_Tokens_cutDigits.2.2.1 y_Tokens_cutDigits.2.2.2.1 ∈ gtb ∧ Cond.initialized y_Tokens_cutDigits.1.cls ∈ gtb ∧ y_Tokens_cutDigits.1.cls ≠ "java/lang/invoke/MethodHandle" ∧ y_Tokens_cutDigits.1.cls ≠ "java/lang/invoke/VarHandle" ∧ (parseMethodDescriptor y_Tokens_cutDigits.1.desc).map (fun d => d.parameters.length) = some 3 := ⟨(gk_3 (List.mem_of_getElem? (i := 78) rfl) rfl), cz_Tokens, cx_Tokens.1, cx_Tokens.2, by decide +kernel⟩
set_option maxRecDepth 100000 in
theorem mo_Tokens_71 : mOk "CookedLaw$Tokens" 71 3 y_Tokens_cutDigits := ⟨Or.inl (gk_3 (List.mem_of_getElem? (i := 75) rfl) rfl), mk_Tokens_cutDigits⟩
set_option maxRecDepth 100000 in
theorem mk_Tokens_set : Cond.code y_Tokens_set.1 y_Tokens_set.2.1 y_Tokens_set.2.2.1 y_Tokens_set.2.2.2.1 ∈ gtb ∧ Cond.initialized y_Tokens_set.1.cls ∈ gtb ∧ y_Tokens_set.1.cls ≠ "java/lang/invoke/MethodHandle" ∧ y_Tokens_set.1.cls ≠ "java/lang/invoke/VarHandle" ∧ (parseMethodDescriptor y_Tokens_set.1.desc).map (fun d => d.parameters.length) = some 3 := ⟨(gk_3 (List.mem_of_getElem? (i := 74) rfl) rfl), cz_Tokens, cx_Tokens.1, cx_Tokens.2, by decide +kernel⟩
set_option maxRecDepth 100000 in
theorem mo_Tokens_74 : mOk "CookedLaw$Tokens" 74 3 y_Tokens_set := ⟨Or.inl (gk_3 (List.mem_of_getElem? (i := 71) rfl) rfl), mk_Tokens_set⟩
set_option maxRecDepth 100000 in
theorem mk_Tokens_isSign : Cond.code y_Tokens_isSign.1 y_Tokens_isSign.2.1 y_Tokens_isSign.2.2.1 y_Tokens_isSign.2.2.2.1 ∈ gtb ∧ Cond.initialized y_Tokens_isSign.1.cls ∈ gtb ∧ y_Tokens_isSign.1.cls ≠ "java/lang/invoke/MethodHandle" ∧ y_Tokens_isSign.1.cls ≠ "java/lang/invoke/VarHandle" ∧ (parseMethodDescriptor y_Tokens_isSign.1.desc).map (fun d => d.parameters.length) = some 1 := ⟨(gk_3 (List.mem_of_getElem? (i := 82) rfl) rfl), cz_Tokens, cx_Tokens.1, cx_Tokens.2, by decide +kernel⟩
set_option maxRecDepth 100000 in
theorem mo_Tokens_78 : mOk "CookedLaw$Tokens" 78 1 y_Tokens_isSign := ⟨Or.inl (gk_3 (List.mem_of_getElem? (i := 80) rfl) rfl), mk_Tokens_isSign⟩
set_option maxRecDepth 100000 in
theorem mk_Tokens_kindOf : Cond.code y_Tokens_kindOf.1 y_Tokens_kindOf.2.1 y_Tokens_kindOf.2.2.1 y_Tokens_kindOf.2.2.2.1 ∈ gtb ∧ Cond.initialized y_Tokens_kindOf.1.cls ∈ gtb ∧ y_Tokens_kindOf.1.cls ≠ "java/lang/invoke/MethodHandle" ∧ y_Tokens_kindOf.1.cls ≠ "java/lang/invoke/VarHandle" ∧ (parseMethodDescriptor y_Tokens_kindOf.1.desc).map (fun d => d.parameters.length) = some 1 := ⟨(gk_3 (List.mem_of_getElem? (i := 70) rfl) rfl), cz_Tokens, cx_Tokens.1, cx_Tokens.2, by decide +kernel⟩
set_option maxRecDepth 100000 in
theorem mo_Tokens_81 : mOk "CookedLaw$Tokens" 81 1 y_Tokens_kindOf := ⟨Or.inl (gk_3 (List.mem_of_getElem? (i := 67) rfl) rfl), mk_Tokens_kindOf⟩
set_option maxRecDepth 100000 in
theorem mo_Told_37 : mOk "CookedLaw$Told" 37 3 y_Main_put := ⟨Or.inr ⟨"CookedLaw", (tk_5 (List.mem_of_getElem? (i := 95) rfl))⟩, mk_Main_put⟩
set_option maxRecDepth 100000 in
theorem mk_Told_lay : Cond.code y_Told_lay.1 y_Told_lay.2.1 y_Told_lay.2.2.1 y_Told_lay.2.2.2.1 ∈ gtb ∧ Cond.initialized y_Told_lay.1.cls ∈ gtb ∧ y_Told_lay.1.cls ≠ "java/lang/invoke/MethodHandle" ∧ y_Told_lay.1.cls ≠ "java/lang/invoke/VarHandle" ∧ (parseMethodDescriptor y_Told_lay.1.desc).map (fun d => d.parameters.length) = some 3 := ⟨(gk_5 (List.mem_of_getElem? (i := 111) rfl) rfl), cz_Told, cx_Told.1, cx_Told.2, by decide +kernel⟩
set_option maxRecDepth 100000 in
theorem mo_Told_49 : mOk "CookedLaw$Told" 49 3 y_Told_lay := ⟨Or.inl (gk_5 (List.mem_of_getElem? (i := 108) rfl) rfl), mk_Told_lay⟩
set_option maxRecDepth 100000 in
theorem mk_Told_isAsKnown : Cond.code y_Told_isAsKnown.1 y_Told_isAsKnown.2.1 y_Told_isAsKnown.2.2.1 y_Told_isAsKnown.2.2.2.1 ∈ gtb ∧ Cond.initialized y_Told_isAsKnown.1.cls ∈ gtb ∧ y_Told_isAsKnown.1.cls ≠ "java/lang/invoke/MethodHandle" ∧ y_Told_isAsKnown.1.cls ≠ "java/lang/invoke/VarHandle" ∧ (parseMethodDescriptor y_Told_isAsKnown.1.desc).map (fun d => d.parameters.length) = some 3 := ⟨(gk_5 (List.mem_of_getElem? (i := 119) rfl) rfl), cz_Told, cx_Told.1, cx_Told.2, by decide +kernel⟩
set_option maxRecDepth 100000 in
theorem mo_Told_53 : mOk "CookedLaw$Told" 53 3 y_Told_isAsKnown := ⟨Or.inl (gk_5 (List.mem_of_getElem? (i := 116) rfl) rfl), mk_Told_isAsKnown⟩
set_option maxRecDepth 100000 in
theorem mo_Told_56 : mOk "CookedLaw$Told" 56 1 y_Land_manyIn := ⟨Or.inl (gk_5 (List.mem_of_getElem? (i := 112) rfl) rfl), mk_Land_manyIn⟩
set_option maxRecDepth 100000 in
theorem mo_Told_63 : mOk "CookedLaw$Told" 63 2 y_Land_inDish := ⟨Or.inl (gk_5 (List.mem_of_getElem? (i := 113) rfl) rfl), mk_Land_inDish⟩
set_option maxRecDepth 100000 in
theorem mo_Told_67 : mOk "CookedLaw$Told" 67 2 y_Land_broughtBy := ⟨Or.inl (gk_5 (List.mem_of_getElem? (i := 114) rfl) rfl), mk_Land_broughtBy⟩
set_option maxRecDepth 100000 in
theorem mo_Told_70 : mOk "CookedLaw$Told" 70 2 y_Land_sumOf := ⟨Or.inl (gk_5 (List.mem_of_getElem? (i := 115) rfl) rfl), mk_Land_sumOf⟩
set_option maxRecDepth 100000 in
theorem mo_Told_73 : mOk "CookedLaw$Told" 73 2 y_Main_at := ⟨Or.inr ⟨"CookedLaw", (tk_5 (List.mem_of_getElem? (i := 120) rfl))⟩, mk_Main_at⟩
set_option maxRecDepth 100000 in
theorem mk_Told_forceOf : Cond.code y_Told_forceOf.1 y_Told_forceOf.2.1 y_Told_forceOf.2.2.1 y_Told_forceOf.2.2.2.1 ∈ gtb ∧ Cond.initialized y_Told_forceOf.1.cls ∈ gtb ∧ y_Told_forceOf.1.cls ≠ "java/lang/invoke/MethodHandle" ∧ y_Told_forceOf.1.cls ≠ "java/lang/invoke/VarHandle" ∧ (parseMethodDescriptor y_Told_forceOf.1.desc).map (fun d => d.parameters.length) = some 5 := ⟨(gk_5 (List.mem_of_getElem? (i := 124) rfl) rfl), cz_Told, cx_Told.1, cx_Told.2, by decide +kernel⟩
set_option maxRecDepth 100000 in
theorem mo_Told_77 : mOk "CookedLaw$Told" 77 5 y_Told_forceOf := ⟨Or.inl (gk_5 (List.mem_of_getElem? (i := 121) rfl) rfl), mk_Told_forceOf⟩
set_option maxRecDepth 100000 in
theorem mo_Told_81 : mOk "CookedLaw$Told" 81 5 y_Land_potForce := ⟨Or.inl (gk_5 (List.mem_of_getElem? (i := 125) rfl) rfl), mk_Land_potForce⟩
set_option maxRecDepth 100000 in
theorem mk_Told_mostAlike : Cond.code y_Told_mostAlike.1 y_Told_mostAlike.2.1 y_Told_mostAlike.2.2.1 y_Told_mostAlike.2.2.2.1 ∈ gtb ∧ Cond.initialized y_Told_mostAlike.1.cls ∈ gtb ∧ y_Told_mostAlike.1.cls ≠ "java/lang/invoke/MethodHandle" ∧ y_Told_mostAlike.1.cls ≠ "java/lang/invoke/VarHandle" ∧ (parseMethodDescriptor y_Told_mostAlike.1.desc).map (fun d => d.parameters.length) = some 4 := ⟨(gk_5 (List.mem_of_getElem? (i := 145) rfl) rfl), cz_Told, cx_Told.1, cx_Told.2, by decide +kernel⟩
set_option maxRecDepth 100000 in
theorem mo_Told_85 : mOk "CookedLaw$Told" 85 4 y_Told_mostAlike := ⟨Or.inl (gk_5 (List.mem_of_getElem? (i := 142) rfl) rfl), mk_Told_mostAlike⟩
set_option maxRecDepth 100000 in
theorem mo_Told_89 : mOk "CookedLaw$Told" 89 1 y_Main_wipe := ⟨Or.inr ⟨"CookedLaw", (tk_5 (List.mem_of_getElem? (i := 146) rfl))⟩, mk_Main_wipe⟩
set_option maxRecDepth 100000 in
theorem mk_Mod_plain : Cond.code y_Mod_plain.1 y_Mod_plain.2.1 y_Mod_plain.2.2.1 y_Mod_plain.2.2.2.1 ∈ gtb ∧ Cond.initialized y_Mod_plain.1.cls ∈ gtb ∧ y_Mod_plain.1.cls ≠ "java/lang/invoke/MethodHandle" ∧ y_Mod_plain.1.cls ≠ "java/lang/invoke/VarHandle" ∧ (parseMethodDescriptor y_Mod_plain.1.desc).map (fun d => d.parameters.length) = some 1 := ⟨(gk_5 (List.mem_of_getElem? (i := 188) rfl) rfl), cz_Mod, cx_Mod.1, cx_Mod.2, by decide +kernel⟩
set_option maxRecDepth 100000 in
theorem mo_Mod_155 : mOk "CookedLawModel" 155 1 y_Mod_plain := ⟨Or.inl (gk_5 (List.mem_of_getElem? (i := 185) rfl) rfl), mk_Mod_plain⟩
set_option maxRecDepth 100000 in
theorem mk_Mod_word : Cond.code y_Mod_word.1 y_Mod_word.2.1 y_Mod_word.2.2.1 y_Mod_word.2.2.2.1 ∈ gtb ∧ Cond.initialized y_Mod_word.1.cls ∈ gtb ∧ y_Mod_word.1.cls ≠ "java/lang/invoke/MethodHandle" ∧ y_Mod_word.1.cls ≠ "java/lang/invoke/VarHandle" ∧ (parseMethodDescriptor y_Mod_word.1.desc).map (fun d => d.parameters.length) = some 7 := ⟨(gk_5 (List.mem_of_getElem? (i := 191) rfl) rfl), cz_Mod, cx_Mod.1, cx_Mod.2, by decide +kernel⟩
set_option maxRecDepth 100000 in
theorem mo_Mod_159 : mOk "CookedLawModel" 159 7 y_Mod_word := ⟨Or.inl (gk_5 (List.mem_of_getElem? (i := 189) rfl) rfl), mk_Mod_word⟩
set_option maxRecDepth 100000 in
theorem mk_Mod_begins : Cond.code y_Mod_begins.1 y_Mod_begins.2.1 y_Mod_begins.2.2.1 y_Mod_begins.2.2.2.1 ∈ gtb ∧ Cond.initialized y_Mod_begins.1.cls ∈ gtb ∧ y_Mod_begins.1.cls ≠ "java/lang/invoke/MethodHandle" ∧ y_Mod_begins.1.cls ≠ "java/lang/invoke/VarHandle" ∧ (parseMethodDescriptor y_Mod_begins.1.desc).map (fun d => d.parameters.length) = some 0 := ⟨(gk_5 (List.mem_of_getElem? (i := 199) rfl) rfl), cz_Mod, cx_Mod.1, cx_Mod.2, by decide +kernel⟩
set_option maxRecDepth 100000 in
theorem mo_Mod_163 : mOk "CookedLawModel" 163 0 y_Mod_begins := ⟨Or.inl (gk_5 (List.mem_of_getElem? (i := 196) rfl) rfl), mk_Mod_begins⟩
set_option maxRecDepth 100000 in
theorem mk_Mod_keepsRow : Cond.code y_Mod_keepsRow.1 y_Mod_keepsRow.2.1 y_Mod_keepsRow.2.2.1 y_Mod_keepsRow.2.2.2.1 ∈ gtb ∧ Cond.initialized y_Mod_keepsRow.1.cls ∈ gtb ∧ y_Mod_keepsRow.1.cls ≠ "java/lang/invoke/MethodHandle" ∧ y_Mod_keepsRow.1.cls ≠ "java/lang/invoke/VarHandle" ∧ (parseMethodDescriptor y_Mod_keepsRow.1.desc).map (fun d => d.parameters.length) = some 0 := ⟨(gk_5 (List.mem_of_getElem? (i := 203) rfl) rfl), cz_Mod, cx_Mod.1, cx_Mod.2, by decide +kernel⟩
set_option maxRecDepth 100000 in
theorem mo_Mod_166 : mOk "CookedLawModel" 166 0 y_Mod_keepsRow := ⟨Or.inl (gk_5 (List.mem_of_getElem? (i := 200) rfl) rfl), mk_Mod_keepsRow⟩
set_option maxRecDepth 100000 in
theorem mk_Mod_put : Cond.code y_Mod_put.1 y_Mod_put.2.1 y_Mod_put.2.2.1 y_Mod_put.2.2.2.1 ∈ gtb ∧ Cond.initialized y_Mod_put.1.cls ∈ gtb ∧ y_Mod_put.1.cls ≠ "java/lang/invoke/MethodHandle" ∧ y_Mod_put.1.cls ≠ "java/lang/invoke/VarHandle" ∧ (parseMethodDescriptor y_Mod_put.1.desc).map (fun d => d.parameters.length) = some 1 := ⟨(gk_6 (List.mem_of_getElem? (i := 184) rfl) rfl), cz_Mod, cx_Mod.1, cx_Mod.2, by decide +kernel⟩
set_option maxRecDepth 100000 in
theorem mo_Mod_172 : mOk "CookedLawModel" 172 1 y_Mod_put := ⟨Or.inl (gk_6 (List.mem_of_getElem? (i := 181) rfl) rfl), mk_Mod_put⟩
set_option maxRecDepth 100000 in
theorem mk_Mod_appends : Cond.code y_Mod_appends.1 y_Mod_appends.2.1 y_Mod_appends.2.2.1 y_Mod_appends.2.2.2.1 ∈ gtb ∧ Cond.initialized y_Mod_appends.1.cls ∈ gtb ∧ y_Mod_appends.1.cls ≠ "java/lang/invoke/MethodHandle" ∧ y_Mod_appends.1.cls ≠ "java/lang/invoke/VarHandle" ∧ (parseMethodDescriptor y_Mod_appends.1.desc).map (fun d => d.parameters.length) = some 2 := ⟨(gk_5 (List.mem_of_getElem? (i := 194) rfl) rfl), cz_Mod, cx_Mod.1, cx_Mod.2, by decide +kernel⟩
set_option maxRecDepth 100000 in
theorem mo_Mod_180 : mOk "CookedLawModel" 180 2 y_Mod_appends := ⟨Or.inl (gk_5 (List.mem_of_getElem? (i := 192) rfl) rfl), mk_Mod_appends⟩
set_option maxRecDepth 100000 in
theorem mk_Mod_byteAt : Cond.code y_Mod_byteAt.1 y_Mod_byteAt.2.1 y_Mod_byteAt.2.2.1 y_Mod_byteAt.2.2.2.1 ∈ gtb ∧ Cond.initialized y_Mod_byteAt.1.cls ∈ gtb ∧ y_Mod_byteAt.1.cls ≠ "java/lang/invoke/MethodHandle" ∧ y_Mod_byteAt.1.cls ≠ "java/lang/invoke/VarHandle" ∧ (parseMethodDescriptor y_Mod_byteAt.1.desc).map (fun d => d.parameters.length) = some 1 := ⟨(gk_6 (List.mem_of_getElem? (i := 200) rfl) rfl), cz_Mod, cx_Mod.1, cx_Mod.2, by decide +kernel⟩
set_option maxRecDepth 100000 in
theorem mo_Mod_187 : mOk "CookedLawModel" 187 1 y_Mod_byteAt := ⟨Or.inl (gk_6 (List.mem_of_getElem? (i := 197) rfl) rfl), mk_Mod_byteAt⟩
set_option maxRecDepth 100000 in
theorem mk_Mod_token : Cond.code y_Mod_token.1 y_Mod_token.2.1 y_Mod_token.2.2.1 y_Mod_token.2.2.2.1 ∈ gtb ∧ Cond.initialized y_Mod_token.1.cls ∈ gtb ∧ y_Mod_token.1.cls ≠ "java/lang/invoke/MethodHandle" ∧ y_Mod_token.1.cls ≠ "java/lang/invoke/VarHandle" ∧ (parseMethodDescriptor y_Mod_token.1.desc).map (fun d => d.parameters.length) = some 4 := ⟨(gk_6 (List.mem_of_getElem? (i := 204) rfl) rfl), cz_Mod, cx_Mod.1, cx_Mod.2, by decide +kernel⟩
set_option maxRecDepth 100000 in
theorem mo_Mod_191 : mOk "CookedLawModel" 191 4 y_Mod_token := ⟨Or.inl (gk_6 (List.mem_of_getElem? (i := 201) rfl) rfl), mk_Mod_token⟩
set_option maxRecDepth 100000 in
theorem mk_Mod_isLetter : Cond.code y_Mod_isLetter.1 y_Mod_isLetter.2.1 y_Mod_isLetter.2.2.1 y_Mod_isLetter.2.2.2.1 ∈ gtb ∧ Cond.initialized y_Mod_isLetter.1.cls ∈ gtb ∧ y_Mod_isLetter.1.cls ≠ "java/lang/invoke/MethodHandle" ∧ y_Mod_isLetter.1.cls ≠ "java/lang/invoke/VarHandle" ∧ (parseMethodDescriptor y_Mod_isLetter.1.desc).map (fun d => d.parameters.length) = some 1 := ⟨(gk_6 (List.mem_of_getElem? (i := 207) rfl) rfl), cz_Mod, cx_Mod.1, cx_Mod.2, by decide +kernel⟩
set_option maxRecDepth 100000 in
theorem mo_Mod_195 : mOk "CookedLawModel" 195 1 y_Mod_isLetter := ⟨Or.inl (gk_6 (List.mem_of_getElem? (i := 205) rfl) rfl), mk_Mod_isLetter⟩
set_option maxRecDepth 100000 in
theorem mk_Mod_isDigit : Cond.code y_Mod_isDigit.1 y_Mod_isDigit.2.1 y_Mod_isDigit.2.2.1 y_Mod_isDigit.2.2.2.1 ∈ gtb ∧ Cond.initialized y_Mod_isDigit.1.cls ∈ gtb ∧ y_Mod_isDigit.1.cls ≠ "java/lang/invoke/MethodHandle" ∧ y_Mod_isDigit.1.cls ≠ "java/lang/invoke/VarHandle" ∧ (parseMethodDescriptor y_Mod_isDigit.1.desc).map (fun d => d.parameters.length) = some 1 := ⟨(gk_6 (List.mem_of_getElem? (i := 210) rfl) rfl), cz_Mod, cx_Mod.1, cx_Mod.2, by decide +kernel⟩
set_option maxRecDepth 100000 in
theorem mo_Mod_199 : mOk "CookedLawModel" 199 1 y_Mod_isDigit := ⟨Or.inl (gk_6 (List.mem_of_getElem? (i := 208) rfl) rfl), mk_Mod_isDigit⟩
set_option maxRecDepth 100000 in
theorem mk_Mod_sign : Cond.code y_Mod_sign.1 y_Mod_sign.2.1 y_Mod_sign.2.2.1 y_Mod_sign.2.2.2.1 ∈ gtb ∧ Cond.initialized y_Mod_sign.1.cls ∈ gtb ∧ y_Mod_sign.1.cls ≠ "java/lang/invoke/MethodHandle" ∧ y_Mod_sign.1.cls ≠ "java/lang/invoke/VarHandle" ∧ (parseMethodDescriptor y_Mod_sign.1.desc).map (fun d => d.parameters.length) = some 3 := ⟨(gk_6 (List.mem_of_getElem? (i := 214) rfl) rfl), cz_Mod, cx_Mod.1, cx_Mod.2, by decide +kernel⟩
set_option maxRecDepth 100000 in
theorem mo_Mod_202 : mOk "CookedLawModel" 202 3 y_Mod_sign := ⟨Or.inl (gk_6 (List.mem_of_getElem? (i := 211) rfl) rfl), mk_Mod_sign⟩
set_option maxRecDepth 100000 in
theorem mk_Mod_fail : Cond.code y_Mod_fail.1 y_Mod_fail.2.1 y_Mod_fail.2.2.1 y_Mod_fail.2.2.2.1 ∈ gtb ∧ Cond.initialized y_Mod_fail.1.cls ∈ gtb ∧ y_Mod_fail.1.cls ≠ "java/lang/invoke/MethodHandle" ∧ y_Mod_fail.1.cls ≠ "java/lang/invoke/VarHandle" ∧ (parseMethodDescriptor y_Mod_fail.1.desc).map (fun d => d.parameters.length) = some 1 := ⟨(gk_6 (List.mem_of_getElem? (i := 230) rfl) rfl), cz_Mod, cx_Mod.1, cx_Mod.2, by decide +kernel⟩
set_option maxRecDepth 100000 in
theorem mo_Mod_221 : mOk "CookedLawModel" 221 1 y_Mod_fail := ⟨Or.inl (gk_6 (List.mem_of_getElem? (i := 227) rfl) rfl), mk_Mod_fail⟩
set_option maxRecDepth 100000 in
theorem mk_Mod_is : Cond.code y_Mod_is.1 y_Mod_is.2.1 y_Mod_is.2.2.1 y_Mod_is.2.2.2.1 ∈ gtb ∧ Cond.initialized y_Mod_is.1.cls ∈ gtb ∧ y_Mod_is.1.cls ≠ "java/lang/invoke/MethodHandle" ∧ y_Mod_is.1.cls ≠ "java/lang/invoke/VarHandle" ∧ (parseMethodDescriptor y_Mod_is.1.desc).map (fun d => d.parameters.length) = some 1 := ⟨(gk_6 (List.mem_of_getElem? (i := 218) rfl) rfl), cz_Mod, cx_Mod.1, cx_Mod.2, by decide +kernel⟩
set_option maxRecDepth 100000 in
theorem mo_Mod_224 : mOk "CookedLawModel" 224 1 y_Mod_is := ⟨Or.inl (gk_6 (List.mem_of_getElem? (i := 215) rfl) rfl), mk_Mod_is⟩
set_option maxRecDepth 100000 in
theorem mk_Mod_goesOn : Cond.code y_Mod_goesOn.1 y_Mod_goesOn.2.1 y_Mod_goesOn.2.2.1 y_Mod_goesOn.2.2.2.1 ∈ gtb ∧ Cond.initialized y_Mod_goesOn.1.cls ∈ gtb ∧ y_Mod_goesOn.1.cls ≠ "java/lang/invoke/MethodHandle" ∧ y_Mod_goesOn.1.cls ≠ "java/lang/invoke/VarHandle" ∧ (parseMethodDescriptor y_Mod_goesOn.1.desc).map (fun d => d.parameters.length) = some 0 := ⟨(gk_6 (List.mem_of_getElem? (i := 234) rfl) rfl), cz_Mod, cx_Mod.1, cx_Mod.2, by decide +kernel⟩
set_option maxRecDepth 100000 in
theorem mo_Mod_227 : mOk "CookedLawModel" 227 0 y_Mod_goesOn := ⟨Or.inl (gk_6 (List.mem_of_getElem? (i := 231) rfl) rfl), mk_Mod_goesOn⟩
set_option maxRecDepth 100000 in
theorem mk_Mod_cut : Cond.code y_Mod_cut.1 y_Mod_cut.2.1 y_Mod_cut.2.2.1 y_Mod_cut.2.2.2.1 ∈ gtb ∧ Cond.initialized y_Mod_cut.1.cls ∈ gtb ∧ y_Mod_cut.1.cls ≠ "java/lang/invoke/MethodHandle" ∧ y_Mod_cut.1.cls ≠ "java/lang/invoke/VarHandle" ∧ (parseMethodDescriptor y_Mod_cut.1.desc).map (fun d => d.parameters.length) = some 0 := ⟨(gk_6 (List.mem_of_getElem? (i := 196) rfl) rfl), cz_Mod, cx_Mod.1, cx_Mod.2, by decide +kernel⟩
set_option maxRecDepth 100000 in
theorem mo_Mod_230 : mOk "CookedLawModel" 230 0 y_Mod_cut := ⟨Or.inl (gk_6 (List.mem_of_getElem? (i := 193) rfl) rfl), mk_Mod_cut⟩
set_option maxRecDepth 100000 in
theorem mk_Mod_tellOne : Cond.code y_Mod_tellOne.1 y_Mod_tellOne.2.1 y_Mod_tellOne.2.2.1 y_Mod_tellOne.2.2.2.1 ∈ gtb ∧ Cond.initialized y_Mod_tellOne.1.cls ∈ gtb ∧ y_Mod_tellOne.1.cls ≠ "java/lang/invoke/MethodHandle" ∧ y_Mod_tellOne.1.cls ≠ "java/lang/invoke/VarHandle" ∧ (parseMethodDescriptor y_Mod_tellOne.1.desc).map (fun d => d.parameters.length) = some 0 := ⟨(gk_6 (List.mem_of_getElem? (i := 222) rfl) rfl), cz_Mod, cx_Mod.1, cx_Mod.2, by decide +kernel⟩
set_option maxRecDepth 100000 in
theorem mo_Mod_251 : mOk "CookedLawModel" 251 0 y_Mod_tellOne := ⟨Or.inl (gk_6 (List.mem_of_getElem? (i := 219) rfl) rfl), mk_Mod_tellOne⟩
set_option maxRecDepth 100000 in
theorem mk_Mod_roomFor : Cond.code y_Mod_roomFor.1 y_Mod_roomFor.2.1 y_Mod_roomFor.2.2.1 y_Mod_roomFor.2.2.2.1 ∈ gtb ∧ Cond.initialized y_Mod_roomFor.1.cls ∈ gtb ∧ y_Mod_roomFor.1.cls ≠ "java/lang/invoke/MethodHandle" ∧ y_Mod_roomFor.1.cls ≠ "java/lang/invoke/VarHandle" ∧ (parseMethodDescriptor y_Mod_roomFor.1.desc).map (fun d => d.parameters.length) = some 2 := ⟨(gk_6 (List.mem_of_getElem? (i := 226) rfl) rfl), cz_Mod, cx_Mod.1, cx_Mod.2, by decide +kernel⟩
set_option maxRecDepth 100000 in
theorem mo_Mod_260 : mOk "CookedLawModel" 260 2 y_Mod_roomFor := ⟨Or.inl (gk_6 (List.mem_of_getElem? (i := 223) rfl) rfl), mk_Mod_roomFor⟩
set_option maxRecDepth 100000 in
theorem mk_Mod_tellFood : Cond.code y_Mod_tellFood.1 y_Mod_tellFood.2.1 y_Mod_tellFood.2.2.1 y_Mod_tellFood.2.2.2.1 ∈ gtb ∧ Cond.initialized y_Mod_tellFood.1.cls ∈ gtb ∧ y_Mod_tellFood.1.cls ≠ "java/lang/invoke/MethodHandle" ∧ y_Mod_tellFood.1.cls ≠ "java/lang/invoke/VarHandle" ∧ (parseMethodDescriptor y_Mod_tellFood.1.desc).map (fun d => d.parameters.length) = some 0 := ⟨(gk_6 (List.mem_of_getElem? (i := 238) rfl) rfl), cz_Mod, cx_Mod.1, cx_Mod.2, by decide +kernel⟩
set_option maxRecDepth 100000 in
theorem mo_Mod_264 : mOk "CookedLawModel" 264 0 y_Mod_tellFood := ⟨Or.inl (gk_6 (List.mem_of_getElem? (i := 235) rfl) rfl), mk_Mod_tellFood⟩
set_option maxRecDepth 100000 in
theorem mk_Mod_tellDish : Cond.code y_Mod_tellDish.1 y_Mod_tellDish.2.1 y_Mod_tellDish.2.2.1 y_Mod_tellDish.2.2.2.1 ∈ gtb ∧ Cond.initialized y_Mod_tellDish.1.cls ∈ gtb ∧ y_Mod_tellDish.1.cls ≠ "java/lang/invoke/MethodHandle" ∧ y_Mod_tellDish.1.cls ≠ "java/lang/invoke/VarHandle" ∧ (parseMethodDescriptor y_Mod_tellDish.1.desc).map (fun d => d.parameters.length) = some 0 := ⟨(gk_7 (List.mem_of_getElem? (i := 22) rfl) rfl), cz_Mod, cx_Mod.1, cx_Mod.2, by decide +kernel⟩
set_option maxRecDepth 100000 in
theorem mo_Mod_267 : mOk "CookedLawModel" 267 0 y_Mod_tellDish := ⟨Or.inl (gk_7 (List.mem_of_getElem? (i := 19) rfl) rfl), mk_Mod_tellDish⟩
set_option maxRecDepth 100000 in
theorem mk_Mod_named : Cond.code y_Mod_named.1 y_Mod_named.2.1 y_Mod_named.2.2.1 y_Mod_named.2.2.2.1 ∈ gtb ∧ Cond.initialized y_Mod_named.1.cls ∈ gtb ∧ y_Mod_named.1.cls ≠ "java/lang/invoke/MethodHandle" ∧ y_Mod_named.1.cls ≠ "java/lang/invoke/VarHandle" ∧ (parseMethodDescriptor y_Mod_named.1.desc).map (fun d => d.parameters.length) = some 0 := ⟨(gk_7 (List.mem_of_getElem? (i := 2) rfl) rfl), cz_Mod, cx_Mod.1, cx_Mod.2, by decide +kernel⟩
set_option maxRecDepth 100000 in
theorem mo_Mod_270 : mOk "CookedLawModel" 270 0 y_Mod_named := ⟨Or.inl (gk_6 (List.mem_of_getElem? (i := 239) rfl) rfl), mk_Mod_named⟩
set_option maxRecDepth 100000 in
theorem mk_Mod_bounded : Cond.code y_Mod_bounded.1 y_Mod_bounded.2.1 y_Mod_bounded.2.2.1 y_Mod_bounded.2.2.2.1 ∈ gtb ∧ Cond.initialized y_Mod_bounded.1.cls ∈ gtb ∧ y_Mod_bounded.1.cls ≠ "java/lang/invoke/MethodHandle" ∧ y_Mod_bounded.1.cls ≠ "java/lang/invoke/VarHandle" ∧ (parseMethodDescriptor y_Mod_bounded.1.desc).map (fun d => d.parameters.length) = some 2 := ⟨(gk_7 (List.mem_of_getElem? (i := 14) rfl) rfl), cz_Mod, cx_Mod.1, cx_Mod.2, by decide +kernel⟩
set_option maxRecDepth 100000 in
theorem mo_Mod_274 : mOk "CookedLawModel" 274 2 y_Mod_bounded := ⟨Or.inl (gk_7 (List.mem_of_getElem? (i := 11) rfl) rfl), mk_Mod_bounded⟩
set_option maxRecDepth 100000 in
theorem mk_Mod_ends : Cond.code y_Mod_ends.1 y_Mod_ends.2.1 y_Mod_ends.2.2.1 y_Mod_ends.2.2.2.1 ∈ gtb ∧ Cond.initialized y_Mod_ends.1.cls ∈ gtb ∧ y_Mod_ends.1.cls ≠ "java/lang/invoke/MethodHandle" ∧ y_Mod_ends.1.cls ≠ "java/lang/invoke/VarHandle" ∧ (parseMethodDescriptor y_Mod_ends.1.desc).map (fun d => d.parameters.length) = some 2 := ⟨(gk_7 (List.mem_of_getElem? (i := 18) rfl) rfl), cz_Mod, cx_Mod.1, cx_Mod.2, by decide +kernel⟩
set_option maxRecDepth 100000 in
theorem mo_Mod_278 : mOk "CookedLawModel" 278 2 y_Mod_ends := ⟨Or.inl (gk_7 (List.mem_of_getElem? (i := 15) rfl) rfl), mk_Mod_ends⟩
set_option maxRecDepth 100000 in
theorem mk_Mod_must : Cond.code y_Mod_must.1 y_Mod_must.2.1 y_Mod_must.2.2.1 y_Mod_must.2.2.2.1 ∈ gtb ∧ Cond.initialized y_Mod_must.1.cls ∈ gtb ∧ y_Mod_must.1.cls ≠ "java/lang/invoke/MethodHandle" ∧ y_Mod_must.1.cls ≠ "java/lang/invoke/VarHandle" ∧ (parseMethodDescriptor y_Mod_must.1.desc).map (fun d => d.parameters.length) = some 1 := ⟨(gk_7 (List.mem_of_getElem? (i := 6) rfl) rfl), cz_Mod, cx_Mod.1, cx_Mod.2, by decide +kernel⟩
set_option maxRecDepth 100000 in
theorem mo_Mod_281 : mOk "CookedLawModel" 281 1 y_Mod_must := ⟨Or.inl (gk_7 (List.mem_of_getElem? (i := 3) rfl) rfl), mk_Mod_must⟩
set_option maxRecDepth 100000 in
theorem mk_Mod_tellLaw : Cond.code y_Mod_tellLaw.1 y_Mod_tellLaw.2.1 y_Mod_tellLaw.2.2.1 y_Mod_tellLaw.2.2.2.1 ∈ gtb ∧ Cond.initialized y_Mod_tellLaw.1.cls ∈ gtb ∧ y_Mod_tellLaw.1.cls ≠ "java/lang/invoke/MethodHandle" ∧ y_Mod_tellLaw.1.cls ≠ "java/lang/invoke/VarHandle" ∧ (parseMethodDescriptor y_Mod_tellLaw.1.desc).map (fun d => d.parameters.length) = some 1 := ⟨(gk_7 (List.mem_of_getElem? (i := 30) rfl) rfl), cz_Mod, cx_Mod.1, cx_Mod.2, by decide +kernel⟩
set_option maxRecDepth 100000 in
theorem mo_Mod_284 : mOk "CookedLawModel" 284 1 y_Mod_tellLaw := ⟨Or.inl (gk_7 (List.mem_of_getElem? (i := 27) rfl) rfl), mk_Mod_tellLaw⟩
set_option maxRecDepth 100000 in
theorem mk_Mod_wrong : Cond.code y_Mod_wrong.1 y_Mod_wrong.2.1 y_Mod_wrong.2.2.1 y_Mod_wrong.2.2.2.1 ∈ gtb ∧ Cond.initialized y_Mod_wrong.1.cls ∈ gtb ∧ y_Mod_wrong.1.cls ≠ "java/lang/invoke/MethodHandle" ∧ y_Mod_wrong.1.cls ≠ "java/lang/invoke/VarHandle" ∧ (parseMethodDescriptor y_Mod_wrong.1.desc).map (fun d => d.parameters.length) = some 2 := ⟨(gk_7 (List.mem_of_getElem? (i := 10) rfl) rfl), cz_Mod, cx_Mod.1, cx_Mod.2, by decide +kernel⟩
set_option maxRecDepth 100000 in
theorem mo_Mod_287 : mOk "CookedLawModel" 287 2 y_Mod_wrong := ⟨Or.inl (gk_7 (List.mem_of_getElem? (i := 7) rfl) rfl), mk_Mod_wrong⟩
set_option maxRecDepth 100000 in
theorem mk_Mod_knownFood : Cond.code y_Mod_knownFood.1 y_Mod_knownFood.2.1 y_Mod_knownFood.2.2.1 y_Mod_knownFood.2.2.2.1 ∈ gtb ∧ Cond.initialized y_Mod_knownFood.1.cls ∈ gtb ∧ y_Mod_knownFood.1.cls ≠ "java/lang/invoke/MethodHandle" ∧ y_Mod_knownFood.1.cls ≠ "java/lang/invoke/VarHandle" ∧ (parseMethodDescriptor y_Mod_knownFood.1.desc).map (fun d => d.parameters.length) = some 0 := ⟨(gk_7 (List.mem_of_getElem? (i := 26) rfl) rfl), cz_Mod, cx_Mod.1, cx_Mod.2, by decide +kernel⟩
set_option maxRecDepth 100000 in
theorem mo_Mod_290 : mOk "CookedLawModel" 290 0 y_Mod_knownFood := ⟨Or.inl (gk_7 (List.mem_of_getElem? (i := 23) rfl) rfl), mk_Mod_knownFood⟩
set_option maxRecDepth 100000 in
theorem mk_Mod_expression : Cond.code y_Mod_expression.1 y_Mod_expression.2.1 y_Mod_expression.2.2.1 y_Mod_expression.2.2.2.1 ∈ gtb ∧ Cond.initialized y_Mod_expression.1.cls ∈ gtb ∧ y_Mod_expression.1.cls ≠ "java/lang/invoke/MethodHandle" ∧ y_Mod_expression.1.cls ≠ "java/lang/invoke/VarHandle" ∧ (parseMethodDescriptor y_Mod_expression.1.desc).map (fun d => d.parameters.length) = some 0 := ⟨(gk_7 (List.mem_of_getElem? (i := 34) rfl) rfl), cz_Mod, cx_Mod.1, cx_Mod.2, by decide +kernel⟩
set_option maxRecDepth 100000 in
theorem mo_Mod_293 : mOk "CookedLawModel" 293 0 y_Mod_expression := ⟨Or.inl (gk_7 (List.mem_of_getElem? (i := 31) rfl) rfl), mk_Mod_expression⟩
set_option maxRecDepth 100000 in
theorem mk_Mod_term : Cond.code y_Mod_term.1 y_Mod_term.2.1 y_Mod_term.2.2.1 y_Mod_term.2.2.2.1 ∈ gtb ∧ Cond.initialized y_Mod_term.1.cls ∈ gtb ∧ y_Mod_term.1.cls ≠ "java/lang/invoke/MethodHandle" ∧ y_Mod_term.1.cls ≠ "java/lang/invoke/VarHandle" ∧ (parseMethodDescriptor y_Mod_term.1.desc).map (fun d => d.parameters.length) = some 0 := ⟨(gk_7 (List.mem_of_getElem? (i := 50) rfl) rfl), cz_Mod, cx_Mod.1, cx_Mod.2, by decide +kernel⟩
set_option maxRecDepth 100000 in
theorem mo_Mod_296 : mOk "CookedLawModel" 296 0 y_Mod_term := ⟨Or.inl (gk_7 (List.mem_of_getElem? (i := 47) rfl) rfl), mk_Mod_term⟩
set_option maxRecDepth 100000 in
theorem mk_Mod_emit : Cond.code y_Mod_emit.1 y_Mod_emit.2.1 y_Mod_emit.2.2.1 y_Mod_emit.2.2.2.1 ∈ gtb ∧ Cond.initialized y_Mod_emit.1.cls ∈ gtb ∧ y_Mod_emit.1.cls ≠ "java/lang/invoke/MethodHandle" ∧ y_Mod_emit.1.cls ≠ "java/lang/invoke/VarHandle" ∧ (parseMethodDescriptor y_Mod_emit.1.desc).map (fun d => d.parameters.length) = some 2 := ⟨(gk_7 (List.mem_of_getElem? (i := 42) rfl) rfl), cz_Mod, cx_Mod.1, cx_Mod.2, by decide +kernel⟩
set_option maxRecDepth 100000 in
theorem mo_Mod_302 : mOk "CookedLawModel" 302 2 y_Mod_emit := ⟨Or.inl (gk_7 (List.mem_of_getElem? (i := 39) rfl) rfl), mk_Mod_emit⟩
set_option maxRecDepth 100000 in
theorem mk_Mod_unit : Cond.code y_Mod_unit.1 y_Mod_unit.2.1 y_Mod_unit.2.2.1 y_Mod_unit.2.2.2.1 ∈ gtb ∧ Cond.initialized y_Mod_unit.1.cls ∈ gtb ∧ y_Mod_unit.1.cls ≠ "java/lang/invoke/MethodHandle" ∧ y_Mod_unit.1.cls ≠ "java/lang/invoke/VarHandle" ∧ (parseMethodDescriptor y_Mod_unit.1.desc).map (fun d => d.parameters.length) = some 0 := ⟨(gk_7 (List.mem_of_getElem? (i := 38) rfl) rfl), cz_Mod, cx_Mod.1, cx_Mod.2, by decide +kernel⟩
set_option maxRecDepth 100000 in
theorem mo_Mod_305 : mOk "CookedLawModel" 305 0 y_Mod_unit := ⟨Or.inl (gk_7 (List.mem_of_getElem? (i := 35) rfl) rfl), mk_Mod_unit⟩
set_option maxRecDepth 100000 in
theorem mk_Mod_comesOut : Cond.code y_Mod_comesOut.1 y_Mod_comesOut.2.1 y_Mod_comesOut.2.2.1 y_Mod_comesOut.2.2.2.1 ∈ gtb ∧ Cond.initialized y_Mod_comesOut.1.cls ∈ gtb ∧ y_Mod_comesOut.1.cls ≠ "java/lang/invoke/MethodHandle" ∧ y_Mod_comesOut.1.cls ≠ "java/lang/invoke/VarHandle" ∧ (parseMethodDescriptor y_Mod_comesOut.1.desc).map (fun d => d.parameters.length) = some 1 := ⟨(gk_7 (List.mem_of_getElem? (i := 46) rfl) rfl), cz_Mod, cx_Mod.1, cx_Mod.2, by decide +kernel⟩
set_option maxRecDepth 100000 in
theorem mo_Mod_308 : mOk "CookedLawModel" 308 1 y_Mod_comesOut := ⟨Or.inl (gk_7 (List.mem_of_getElem? (i := 43) rfl) rfl), mk_Mod_comesOut⟩
set_option maxRecDepth 100000 in
theorem mk_Mod_in : Cond.code y_Mod_in.1 y_Mod_in.2.1 y_Mod_in.2.2.1 y_Mod_in.2.2.2.1 ∈ gtb ∧ Cond.initialized y_Mod_in.1.cls ∈ gtb ∧ y_Mod_in.1.cls ≠ "java/lang/invoke/MethodHandle" ∧ y_Mod_in.1.cls ≠ "java/lang/invoke/VarHandle" ∧ (parseMethodDescriptor y_Mod_in.1.desc).map (fun d => d.parameters.length) = some 3 := ⟨(gk_7 (List.mem_of_getElem? (i := 65) rfl) rfl), cz_Mod, cx_Mod.1, cx_Mod.2, by decide +kernel⟩
set_option maxRecDepth 100000 in
theorem mo_Mod_316 : mOk "CookedLawModel" 316 3 y_Mod_in := ⟨Or.inl (gk_7 (List.mem_of_getElem? (i := 63) rfl) rfl), mk_Mod_in⟩
set_option maxRecDepth 100000 in
theorem mk_Mod_mixed : Cond.code y_Mod_mixed.1 y_Mod_mixed.2.1 y_Mod_mixed.2.2.1 y_Mod_mixed.2.2.2.1 ∈ gtb ∧ Cond.initialized y_Mod_mixed.1.cls ∈ gtb ∧ y_Mod_mixed.1.cls ≠ "java/lang/invoke/MethodHandle" ∧ y_Mod_mixed.1.cls ≠ "java/lang/invoke/VarHandle" ∧ (parseMethodDescriptor y_Mod_mixed.1.desc).map (fun d => d.parameters.length) = some 2 := ⟨(gk_7 (List.mem_of_getElem? (i := 163) rfl) rfl), cz_Mod, cx_Mod.1, cx_Mod.2, by decide +kernel⟩
set_option maxRecDepth 100000 in
theorem mo_Mod_324 : mOk "CookedLawModel" 324 2 y_Mod_mixed := ⟨Or.inl (gk_7 (List.mem_of_getElem? (i := 161) rfl) rfl), mk_Mod_mixed⟩
set_option maxRecDepth 100000 in
theorem mk_Mod_lawTells : Cond.code y_Mod_lawTells.1 y_Mod_lawTells.2.1 y_Mod_lawTells.2.2.1 y_Mod_lawTells.2.2.2.1 ∈ gtb ∧ Cond.initialized y_Mod_lawTells.1.cls ∈ gtb ∧ y_Mod_lawTells.1.cls ≠ "java/lang/invoke/MethodHandle" ∧ y_Mod_lawTells.1.cls ≠ "java/lang/invoke/VarHandle" ∧ (parseMethodDescriptor y_Mod_lawTells.1.desc).map (fun d => d.parameters.length) = some 1 := ⟨(gk_7 (List.mem_of_getElem? (i := 105) rfl) rfl), cz_Mod, cx_Mod.1, cx_Mod.2, by decide +kernel⟩
set_option maxRecDepth 100000 in
theorem mo_Mod_327 : mOk "CookedLawModel" 327 1 y_Mod_lawTells := ⟨Or.inl (gk_7 (List.mem_of_getElem? (i := 102) rfl) rfl), mk_Mod_lawTells⟩
set_option maxRecDepth 100000 in
theorem mk_Mod_held : Cond.code y_Mod_held.1 y_Mod_held.2.1 y_Mod_held.2.2.1 y_Mod_held.2.2.2.1 ∈ gtb ∧ Cond.initialized y_Mod_held.1.cls ∈ gtb ∧ y_Mod_held.1.cls ≠ "java/lang/invoke/MethodHandle" ∧ y_Mod_held.1.cls ≠ "java/lang/invoke/VarHandle" ∧ (parseMethodDescriptor y_Mod_held.1.desc).map (fun d => d.parameters.length) = some 3 := ⟨(gk_7 (List.mem_of_getElem? (i := 112) rfl) rfl), cz_Mod, cx_Mod.1, cx_Mod.2, by decide +kernel⟩
set_option maxRecDepth 100000 in
theorem mo_Mod_330 : mOk "CookedLawModel" 330 3 y_Mod_held := ⟨Or.inl (gk_7 (List.mem_of_getElem? (i := 110) rfl) rfl), mk_Mod_held⟩
set_option maxRecDepth 100000 in
theorem mk_Mod_termOf : Cond.code y_Mod_termOf.1 y_Mod_termOf.2.1 y_Mod_termOf.2.2.1 y_Mod_termOf.2.2.2.1 ∈ gtb ∧ Cond.initialized y_Mod_termOf.1.cls ∈ gtb ∧ y_Mod_termOf.1.cls ≠ "java/lang/invoke/MethodHandle" ∧ y_Mod_termOf.1.cls ≠ "java/lang/invoke/VarHandle" ∧ (parseMethodDescriptor y_Mod_termOf.1.desc).map (fun d => d.parameters.length) = some 2 := ⟨(gk_7 (List.mem_of_getElem? (i := 109) rfl) rfl), cz_Mod, cx_Mod.1, cx_Mod.2, by decide +kernel⟩
set_option maxRecDepth 100000 in
theorem mo_Mod_333 : mOk "CookedLawModel" 333 2 y_Mod_termOf := ⟨Or.inl (gk_7 (List.mem_of_getElem? (i := 106) rfl) rfl), mk_Mod_termOf⟩
set_option maxRecDepth 100000 in
theorem mk_Mod_looks : Cond.code y_Mod_looks.1 y_Mod_looks.2.1 y_Mod_looks.2.2.1 y_Mod_looks.2.2.2.1 ∈ gtb ∧ Cond.initialized y_Mod_looks.1.cls ∈ gtb ∧ y_Mod_looks.1.cls ≠ "java/lang/invoke/MethodHandle" ∧ y_Mod_looks.1.cls ≠ "java/lang/invoke/VarHandle" ∧ (parseMethodDescriptor y_Mod_looks.1.desc).map (fun d => d.parameters.length) = some 0 := ⟨(gk_7 (List.mem_of_getElem? (i := 97) rfl) rfl), cz_Mod, cx_Mod.1, cx_Mod.2, by decide +kernel⟩
set_option maxRecDepth 100000 in
theorem mo_Mod_336 : mOk "CookedLawModel" 336 0 y_Mod_looks := ⟨Or.inl (gk_7 (List.mem_of_getElem? (i := 94) rfl) rfl), mk_Mod_looks⟩
set_option maxRecDepth 100000 in
theorem mk_Mod_potMany : Cond.code y_Mod_potMany.1 y_Mod_potMany.2.1 y_Mod_potMany.2.2.1 y_Mod_potMany.2.2.2.1 ∈ gtb ∧ Cond.initialized y_Mod_potMany.1.cls ∈ gtb ∧ y_Mod_potMany.1.cls ≠ "java/lang/invoke/MethodHandle" ∧ y_Mod_potMany.1.cls ≠ "java/lang/invoke/VarHandle" ∧ (parseMethodDescriptor y_Mod_potMany.1.desc).map (fun d => d.parameters.length) = some 0 := ⟨(gk_7 (List.mem_of_getElem? (i := 85) rfl) rfl), cz_Mod, cx_Mod.1, cx_Mod.2, by decide +kernel⟩
set_option maxRecDepth 100000 in
theorem mo_Mod_339 : mOk "CookedLawModel" 339 0 y_Mod_potMany := ⟨Or.inl (gk_7 (List.mem_of_getElem? (i := 82) rfl) rfl), mk_Mod_potMany⟩
set_option maxRecDepth 100000 in
theorem mk_Mod_asks : Cond.code y_Mod_asks.1 y_Mod_asks.2.1 y_Mod_asks.2.2.1 y_Mod_asks.2.2.2.1 ∈ gtb ∧ Cond.initialized y_Mod_asks.1.cls ∈ gtb ∧ y_Mod_asks.1.cls ≠ "java/lang/invoke/MethodHandle" ∧ y_Mod_asks.1.cls ≠ "java/lang/invoke/VarHandle" ∧ (parseMethodDescriptor y_Mod_asks.1.desc).map (fun d => d.parameters.length) = some 4 := ⟨(gk_7 (List.mem_of_getElem? (i := 101) rfl) rfl), cz_Mod, cx_Mod.1, cx_Mod.2, by decide +kernel⟩
set_option maxRecDepth 100000 in
theorem mo_Mod_342 : mOk "CookedLawModel" 342 4 y_Mod_asks := ⟨Or.inl (gk_7 (List.mem_of_getElem? (i := 98) rfl) rfl), mk_Mod_asks⟩
set_option maxRecDepth 100000 in
theorem mk_Mod_boundBy : Cond.code y_Mod_boundBy.1 y_Mod_boundBy.2.1 y_Mod_boundBy.2.2.1 y_Mod_boundBy.2.2.2.1 ∈ gtb ∧ Cond.initialized y_Mod_boundBy.1.cls ∈ gtb ∧ y_Mod_boundBy.1.cls ≠ "java/lang/invoke/MethodHandle" ∧ y_Mod_boundBy.1.cls ≠ "java/lang/invoke/VarHandle" ∧ (parseMethodDescriptor y_Mod_boundBy.1.desc).map (fun d => d.parameters.length) = some 4 := ⟨(gk_7 (List.mem_of_getElem? (i := 132) rfl) rfl), cz_Mod, cx_Mod.1, cx_Mod.2, by decide +kernel⟩
set_option maxRecDepth 100000 in
theorem mo_Mod_346 : mOk "CookedLawModel" 346 4 y_Mod_boundBy := ⟨Or.inl (gk_7 (List.mem_of_getElem? (i := 129) rfl) rfl), mk_Mod_boundBy⟩
set_option maxRecDepth 100000 in
theorem mk_Mod_boundNow : Cond.code y_Mod_boundNow.1 y_Mod_boundNow.2.1 y_Mod_boundNow.2.2.1 y_Mod_boundNow.2.2.2.1 ∈ gtb ∧ Cond.initialized y_Mod_boundNow.1.cls ∈ gtb ∧ y_Mod_boundNow.1.cls ≠ "java/lang/invoke/MethodHandle" ∧ y_Mod_boundNow.1.cls ≠ "java/lang/invoke/VarHandle" ∧ (parseMethodDescriptor y_Mod_boundNow.1.desc).map (fun d => d.parameters.length) = some 2 := ⟨(gk_7 (List.mem_of_getElem? (i := 128) rfl) rfl), cz_Mod, cx_Mod.1, cx_Mod.2, by decide +kernel⟩
set_option maxRecDepth 100000 in
theorem mo_Mod_349 : mOk "CookedLawModel" 349 2 y_Mod_boundNow := ⟨Or.inl (gk_7 (List.mem_of_getElem? (i := 125) rfl) rfl), mk_Mod_boundNow⟩
set_option maxRecDepth 100000 in
theorem mk_Mod_isFree : Cond.code y_Mod_isFree.1 y_Mod_isFree.2.1 y_Mod_isFree.2.2.1 y_Mod_isFree.2.2.2.1 ∈ gtb ∧ Cond.initialized y_Mod_isFree.1.cls ∈ gtb ∧ y_Mod_isFree.1.cls ≠ "java/lang/invoke/MethodHandle" ∧ y_Mod_isFree.1.cls ≠ "java/lang/invoke/VarHandle" ∧ (parseMethodDescriptor y_Mod_isFree.1.desc).map (fun d => d.parameters.length) = some 2 := ⟨(gk_7 (List.mem_of_getElem? (i := 144) rfl) rfl), cz_Mod, cx_Mod.1, cx_Mod.2, by decide +kernel⟩
set_option maxRecDepth 100000 in
theorem mo_Mod_352 : mOk "CookedLawModel" 352 2 y_Mod_isFree := ⟨Or.inl (gk_7 (List.mem_of_getElem? (i := 141) rfl) rfl), mk_Mod_isFree⟩
set_option maxRecDepth 100000 in
theorem mk_Mod_fillsPot : Cond.code y_Mod_fillsPot.1 y_Mod_fillsPot.2.1 y_Mod_fillsPot.2.2.1 y_Mod_fillsPot.2.2.2.1 ∈ gtb ∧ Cond.initialized y_Mod_fillsPot.1.cls ∈ gtb ∧ y_Mod_fillsPot.1.cls ≠ "java/lang/invoke/MethodHandle" ∧ y_Mod_fillsPot.1.cls ≠ "java/lang/invoke/VarHandle" ∧ (parseMethodDescriptor y_Mod_fillsPot.1.desc).map (fun d => d.parameters.length) = some 1 := ⟨(gk_7 (List.mem_of_getElem? (i := 81) rfl) rfl), cz_Mod, cx_Mod.1, cx_Mod.2, by decide +kernel⟩
set_option maxRecDepth 100000 in
theorem mo_Mod_356 : mOk "CookedLawModel" 356 1 y_Mod_fillsPot := ⟨Or.inl (gk_7 (List.mem_of_getElem? (i := 78) rfl) rfl), mk_Mod_fillsPot⟩
set_option maxRecDepth 100000 in
theorem mk_Mod_forceBy : Cond.code y_Mod_forceBy.1 y_Mod_forceBy.2.1 y_Mod_forceBy.2.2.1 y_Mod_forceBy.2.2.2.1 ∈ gtb ∧ Cond.initialized y_Mod_forceBy.1.cls ∈ gtb ∧ y_Mod_forceBy.1.cls ≠ "java/lang/invoke/MethodHandle" ∧ y_Mod_forceBy.1.cls ≠ "java/lang/invoke/VarHandle" ∧ (parseMethodDescriptor y_Mod_forceBy.1.desc).map (fun d => d.parameters.length) = some 2 := ⟨(gk_7 (List.mem_of_getElem? (i := 93) rfl) rfl), cz_Mod, cx_Mod.1, cx_Mod.2, by decide +kernel⟩
set_option maxRecDepth 100000 in
theorem mo_Mod_359 : mOk "CookedLawModel" 359 2 y_Mod_forceBy := ⟨Or.inl (gk_7 (List.mem_of_getElem? (i := 90) rfl) rfl), mk_Mod_forceBy⟩
set_option maxRecDepth 100000 in
theorem mk_Mod_potPrice : Cond.code y_Mod_potPrice.1 y_Mod_potPrice.2.1 y_Mod_potPrice.2.2.1 y_Mod_potPrice.2.2.2.1 ∈ gtb ∧ Cond.initialized y_Mod_potPrice.1.cls ∈ gtb ∧ y_Mod_potPrice.1.cls ≠ "java/lang/invoke/MethodHandle" ∧ y_Mod_potPrice.1.cls ≠ "java/lang/invoke/VarHandle" ∧ (parseMethodDescriptor y_Mod_potPrice.1.desc).map (fun d => d.parameters.length) = some 0 := ⟨(gk_7 (List.mem_of_getElem? (i := 89) rfl) rfl), cz_Mod, cx_Mod.1, cx_Mod.2, by decide +kernel⟩
set_option maxRecDepth 100000 in
theorem mo_Mod_362 : mOk "CookedLawModel" 362 0 y_Mod_potPrice := ⟨Or.inl (gk_7 (List.mem_of_getElem? (i := 86) rfl) rfl), mk_Mod_potPrice⟩
set_option maxRecDepth 100000 in
theorem mk_Mod_lotOf : Cond.code y_Mod_lotOf.1 y_Mod_lotOf.2.1 y_Mod_lotOf.2.2.1 y_Mod_lotOf.2.2.2.1 ∈ gtb ∧ Cond.initialized y_Mod_lotOf.1.cls ∈ gtb ∧ y_Mod_lotOf.1.cls ≠ "java/lang/invoke/MethodHandle" ∧ y_Mod_lotOf.1.cls ≠ "java/lang/invoke/VarHandle" ∧ (parseMethodDescriptor y_Mod_lotOf.1.desc).map (fun d => d.parameters.length) = some 2 := ⟨(gk_7 (List.mem_of_getElem? (i := 160) rfl) rfl), cz_Mod, cx_Mod.1, cx_Mod.2, by decide +kernel⟩
set_option maxRecDepth 100000 in
theorem mo_Mod_365 : mOk "CookedLawModel" 365 2 y_Mod_lotOf := ⟨Or.inl (gk_7 (List.mem_of_getElem? (i := 157) rfl) rfl), mk_Mod_lotOf⟩
set_option maxRecDepth 100000 in
theorem mk_Mod_dayGoes : Cond.code y_Mod_dayGoes.1 y_Mod_dayGoes.2.1 y_Mod_dayGoes.2.2.1 y_Mod_dayGoes.2.2.2.1 ∈ gtb ∧ Cond.initialized y_Mod_dayGoes.1.cls ∈ gtb ∧ y_Mod_dayGoes.1.cls ≠ "java/lang/invoke/MethodHandle" ∧ y_Mod_dayGoes.1.cls ≠ "java/lang/invoke/VarHandle" ∧ (parseMethodDescriptor y_Mod_dayGoes.1.desc).map (fun d => d.parameters.length) = some 0 := ⟨(gk_7 (List.mem_of_getElem? (i := 188) rfl) rfl), cz_Mod, cx_Mod.1, cx_Mod.2, by decide +kernel⟩
set_option maxRecDepth 100000 in
theorem mo_Mod_368 : mOk "CookedLawModel" 368 0 y_Mod_dayGoes := ⟨Or.inl (gk_7 (List.mem_of_getElem? (i := 185) rfl) rfl), mk_Mod_dayGoes⟩
set_option maxRecDepth 100000 in
theorem mk_Mod_isFood : Cond.code y_Mod_isFood.1 y_Mod_isFood.2.1 y_Mod_isFood.2.2.1 y_Mod_isFood.2.2.2.1 ∈ gtb ∧ Cond.initialized y_Mod_isFood.1.cls ∈ gtb ∧ y_Mod_isFood.1.cls ≠ "java/lang/invoke/MethodHandle" ∧ y_Mod_isFood.1.cls ≠ "java/lang/invoke/VarHandle" ∧ (parseMethodDescriptor y_Mod_isFood.1.desc).map (fun d => d.parameters.length) = some 1 := ⟨(gk_7 (List.mem_of_getElem? (i := 62) rfl) rfl), cz_Mod, cx_Mod.1, cx_Mod.2, by decide +kernel⟩
set_option maxRecDepth 100000 in
theorem mo_Mod_371 : mOk "CookedLawModel" 371 1 y_Mod_isFood := ⟨Or.inl (gk_7 (List.mem_of_getElem? (i := 59) rfl) rfl), mk_Mod_isFood⟩
set_option maxRecDepth 100000 in
theorem mk_Mod_isDish : Cond.code y_Mod_isDish.1 y_Mod_isDish.2.1 y_Mod_isDish.2.2.1 y_Mod_isDish.2.2.2.1 ∈ gtb ∧ Cond.initialized y_Mod_isDish.1.cls ∈ gtb ∧ y_Mod_isDish.1.cls ≠ "java/lang/invoke/MethodHandle" ∧ y_Mod_isDish.1.cls ≠ "java/lang/invoke/VarHandle" ∧ (parseMethodDescriptor y_Mod_isDish.1.desc).map (fun d => d.parameters.length) = some 1 := ⟨(gk_7 (List.mem_of_getElem? (i := 73) rfl) rfl), cz_Mod, cx_Mod.1, cx_Mod.2, by decide +kernel⟩
set_option maxRecDepth 100000 in
theorem mo_Mod_374 : mOk "CookedLawModel" 374 1 y_Mod_isDish := ⟨Or.inl (gk_7 (List.mem_of_getElem? (i := 70) rfl) rfl), mk_Mod_isDish⟩
set_option maxRecDepth 100000 in
theorem mk_Mod_copies : Cond.code y_Mod_copies.1 y_Mod_copies.2.1 y_Mod_copies.2.2.1 y_Mod_copies.2.2.2.1 ∈ gtb ∧ Cond.initialized y_Mod_copies.1.cls ∈ gtb ∧ y_Mod_copies.1.cls ≠ "java/lang/invoke/MethodHandle" ∧ y_Mod_copies.1.cls ≠ "java/lang/invoke/VarHandle" ∧ (parseMethodDescriptor y_Mod_copies.1.desc).map (fun d => d.parameters.length) = some 0 := ⟨(gk_7 (List.mem_of_getElem? (i := 77) rfl) rfl), cz_Mod, cx_Mod.1, cx_Mod.2, by decide +kernel⟩
set_option maxRecDepth 100000 in
theorem mo_Mod_377 : mOk "CookedLawModel" 377 0 y_Mod_copies := ⟨Or.inl (gk_7 (List.mem_of_getElem? (i := 74) rfl) rfl), mk_Mod_copies⟩
set_option maxRecDepth 100000 in
theorem mk_Mod_isGuest : Cond.code y_Mod_isGuest.1 y_Mod_isGuest.2.1 y_Mod_isGuest.2.2.1 y_Mod_isGuest.2.2.2.1 ∈ gtb ∧ Cond.initialized y_Mod_isGuest.1.cls ∈ gtb ∧ y_Mod_isGuest.1.cls ≠ "java/lang/invoke/MethodHandle" ∧ y_Mod_isGuest.1.cls ≠ "java/lang/invoke/VarHandle" ∧ (parseMethodDescriptor y_Mod_isGuest.1.desc).map (fun d => d.parameters.length) = some 1 := ⟨(gk_7 (List.mem_of_getElem? (i := 124) rfl) rfl), cz_Mod, cx_Mod.1, cx_Mod.2, by decide +kernel⟩
set_option maxRecDepth 100000 in
theorem mo_Mod_380 : mOk "CookedLawModel" 380 1 y_Mod_isGuest := ⟨Or.inl (gk_7 (List.mem_of_getElem? (i := 121) rfl) rfl), mk_Mod_isGuest⟩
set_option maxRecDepth 100000 in
theorem mk_Mod_isDeed : Cond.code y_Mod_isDeed.1 y_Mod_isDeed.2.1 y_Mod_isDeed.2.2.1 y_Mod_isDeed.2.2.2.1 ∈ gtb ∧ Cond.initialized y_Mod_isDeed.1.cls ∈ gtb ∧ y_Mod_isDeed.1.cls ≠ "java/lang/invoke/MethodHandle" ∧ y_Mod_isDeed.1.cls ≠ "java/lang/invoke/VarHandle" ∧ (parseMethodDescriptor y_Mod_isDeed.1.desc).map (fun d => d.parameters.length) = some 1 := ⟨(gk_7 (List.mem_of_getElem? (i := 140) rfl) rfl), cz_Mod, cx_Mod.1, cx_Mod.2, by decide +kernel⟩
set_option maxRecDepth 100000 in
theorem mo_Mod_383 : mOk "CookedLawModel" 383 1 y_Mod_isDeed := ⟨Or.inl (gk_7 (List.mem_of_getElem? (i := 137) rfl) rfl), mk_Mod_isDeed⟩
set_option maxRecDepth 100000 in
theorem mk_Mod_isInStore : Cond.code y_Mod_isInStore.1 y_Mod_isInStore.2.1 y_Mod_isInStore.2.2.1 y_Mod_isInStore.2.2.2.1 ∈ gtb ∧ Cond.initialized y_Mod_isInStore.1.cls ∈ gtb ∧ y_Mod_isInStore.1.cls ≠ "java/lang/invoke/MethodHandle" ∧ y_Mod_isInStore.1.cls ≠ "java/lang/invoke/VarHandle" ∧ (parseMethodDescriptor y_Mod_isInStore.1.desc).map (fun d => d.parameters.length) = some 1 := ⟨(gk_7 (List.mem_of_getElem? (i := 152) rfl) rfl), cz_Mod, cx_Mod.1, cx_Mod.2, by decide +kernel⟩
set_option maxRecDepth 100000 in
theorem mo_Mod_386 : mOk "CookedLawModel" 386 1 y_Mod_isInStore := ⟨Or.inl (gk_7 (List.mem_of_getElem? (i := 149) rfl) rfl), mk_Mod_isInStore⟩
set_option maxRecDepth 100000 in
theorem mk_Mod_cooks : Cond.code y_Mod_cooks.1 y_Mod_cooks.2.1 y_Mod_cooks.2.2.1 y_Mod_cooks.2.2.2.1 ∈ gtb ∧ Cond.initialized y_Mod_cooks.1.cls ∈ gtb ∧ y_Mod_cooks.1.cls ≠ "java/lang/invoke/MethodHandle" ∧ y_Mod_cooks.1.cls ≠ "java/lang/invoke/VarHandle" ∧ (parseMethodDescriptor y_Mod_cooks.1.desc).map (fun d => d.parameters.length) = some 1 := ⟨(gk_7 (List.mem_of_getElem? (i := 156) rfl) rfl), cz_Mod, cx_Mod.1, cx_Mod.2, by decide +kernel⟩
set_option maxRecDepth 100000 in
theorem mo_Mod_389 : mOk "CookedLawModel" 389 1 y_Mod_cooks := ⟨Or.inl (gk_7 (List.mem_of_getElem? (i := 153) rfl) rfl), mk_Mod_cooks⟩
set_option maxRecDepth 100000 in
theorem mk_Mod_records : Cond.code y_Mod_records.1 y_Mod_records.2.1 y_Mod_records.2.2.1 y_Mod_records.2.2.2.1 ∈ gtb ∧ Cond.initialized y_Mod_records.1.cls ∈ gtb ∧ y_Mod_records.1.cls ≠ "java/lang/invoke/MethodHandle" ∧ y_Mod_records.1.cls ≠ "java/lang/invoke/VarHandle" ∧ (parseMethodDescriptor y_Mod_records.1.desc).map (fun d => d.parameters.length) = some 0 := ⟨(gk_7 (List.mem_of_getElem? (i := 168) rfl) rfl), cz_Mod, cx_Mod.1, cx_Mod.2, by decide +kernel⟩
set_option maxRecDepth 100000 in
theorem mo_Mod_392 : mOk "CookedLawModel" 392 0 y_Mod_records := ⟨Or.inl (gk_7 (List.mem_of_getElem? (i := 165) rfl) rfl), mk_Mod_records⟩
set_option maxRecDepth 100000 in
theorem mk_Mod_freeBits : Cond.code y_Mod_freeBits.1 y_Mod_freeBits.2.1 y_Mod_freeBits.2.2.1 y_Mod_freeBits.2.2.2.1 ∈ gtb ∧ Cond.initialized y_Mod_freeBits.1.cls ∈ gtb ∧ y_Mod_freeBits.1.cls ≠ "java/lang/invoke/MethodHandle" ∧ y_Mod_freeBits.1.cls ≠ "java/lang/invoke/VarHandle" ∧ (parseMethodDescriptor y_Mod_freeBits.1.desc).map (fun d => d.parameters.length) = some 1 := ⟨(gk_7 (List.mem_of_getElem? (i := 176) rfl) rfl), cz_Mod, cx_Mod.1, cx_Mod.2, by decide +kernel⟩
set_option maxRecDepth 100000 in
theorem mo_Mod_395 : mOk "CookedLawModel" 395 1 y_Mod_freeBits := ⟨Or.inl (gk_7 (List.mem_of_getElem? (i := 173) rfl) rfl), mk_Mod_freeBits⟩
set_option maxRecDepth 100000 in
theorem mk_Mod_goes : Cond.code y_Mod_goes.1 y_Mod_goes.2.1 y_Mod_goes.2.2.1 y_Mod_goes.2.2.2.1 ∈ gtb ∧ Cond.initialized y_Mod_goes.1.cls ∈ gtb ∧ y_Mod_goes.1.cls ≠ "java/lang/invoke/MethodHandle" ∧ y_Mod_goes.1.cls ≠ "java/lang/invoke/VarHandle" ∧ (parseMethodDescriptor y_Mod_goes.1.desc).map (fun d => d.parameters.length) = some 1 := ⟨(gk_7 (List.mem_of_getElem? (i := 184) rfl) rfl), cz_Mod, cx_Mod.1, cx_Mod.2, by decide +kernel⟩
set_option maxRecDepth 100000 in
theorem mo_Mod_398 : mOk "CookedLawModel" 398 1 y_Mod_goes := ⟨Or.inl (gk_7 (List.mem_of_getElem? (i := 181) rfl) rfl), mk_Mod_goes⟩
set_option maxRecDepth 100000 in
theorem mk_Mod_sevens : Cond.code y_Mod_sevens.1 y_Mod_sevens.2.1 y_Mod_sevens.2.2.1 y_Mod_sevens.2.2.2.1 ∈ gtb ∧ Cond.initialized y_Mod_sevens.1.cls ∈ gtb ∧ y_Mod_sevens.1.cls ≠ "java/lang/invoke/MethodHandle" ∧ y_Mod_sevens.1.cls ≠ "java/lang/invoke/VarHandle" ∧ (parseMethodDescriptor y_Mod_sevens.1.desc).map (fun d => d.parameters.length) = some 1 := ⟨(gk_7 (List.mem_of_getElem? (i := 199) rfl) rfl), cz_Mod, cx_Mod.1, cx_Mod.2, by decide +kernel⟩
set_option maxRecDepth 100000 in
theorem mo_Mod_401 : mOk "CookedLawModel" 401 1 y_Mod_sevens := ⟨Or.inl (gk_7 (List.mem_of_getElem? (i := 197) rfl) rfl), mk_Mod_sevens⟩
set_option maxRecDepth 100000 in
theorem mk_Mod_isPot : Cond.code y_Mod_isPot.1 y_Mod_isPot.2.1 y_Mod_isPot.2.2.1 y_Mod_isPot.2.2.2.1 ∈ gtb ∧ Cond.initialized y_Mod_isPot.1.cls ∈ gtb ∧ y_Mod_isPot.1.cls ≠ "java/lang/invoke/MethodHandle" ∧ y_Mod_isPot.1.cls ≠ "java/lang/invoke/VarHandle" ∧ (parseMethodDescriptor y_Mod_isPot.1.desc).map (fun d => d.parameters.length) = some 1 := ⟨(gk_7 (List.mem_of_getElem? (i := 203) rfl) rfl), cz_Mod, cx_Mod.1, cx_Mod.2, by decide +kernel⟩
set_option maxRecDepth 100000 in
theorem mo_Mod_416 : mOk "CookedLawModel" 416 1 y_Mod_isPot := ⟨Or.inl (gk_7 (List.mem_of_getElem? (i := 200) rfl) rfl), mk_Mod_isPot⟩
set_option maxRecDepth 100000 in
theorem mk_Mod_potAt : Cond.code y_Mod_potAt.1 y_Mod_potAt.2.1 y_Mod_potAt.2.2.1 y_Mod_potAt.2.2.2.1 ∈ gtb ∧ Cond.initialized y_Mod_potAt.1.cls ∈ gtb ∧ y_Mod_potAt.1.cls ≠ "java/lang/invoke/MethodHandle" ∧ y_Mod_potAt.1.cls ≠ "java/lang/invoke/VarHandle" ∧ (parseMethodDescriptor y_Mod_potAt.1.desc).map (fun d => d.parameters.length) = some 3 := ⟨(gk_7 (List.mem_of_getElem? (i := 207) rfl) rfl), cz_Mod, cx_Mod.1, cx_Mod.2, by decide +kernel⟩
set_option maxRecDepth 100000 in
theorem mo_Mod_419 : mOk "CookedLawModel" 419 3 y_Mod_potAt := ⟨Or.inl (gk_7 (List.mem_of_getElem? (i := 204) rfl) rfl), mk_Mod_potAt⟩
set_option maxRecDepth 100000 in
theorem mk_Mod_isBetter : Cond.code y_Mod_isBetter.1 y_Mod_isBetter.2.1 y_Mod_isBetter.2.2.1 y_Mod_isBetter.2.2.2.1 ∈ gtb ∧ Cond.initialized y_Mod_isBetter.1.cls ∈ gtb ∧ y_Mod_isBetter.1.cls ≠ "java/lang/invoke/MethodHandle" ∧ y_Mod_isBetter.1.cls ≠ "java/lang/invoke/VarHandle" ∧ (parseMethodDescriptor y_Mod_isBetter.1.desc).map (fun d => d.parameters.length) = some 1 := ⟨(gk_7 (List.mem_of_getElem? (i := 211) rfl) rfl), cz_Mod, cx_Mod.1, cx_Mod.2, by decide +kernel⟩
set_option maxRecDepth 100000 in
theorem mo_Mod_422 : mOk "CookedLawModel" 422 1 y_Mod_isBetter := ⟨Or.inl (gk_7 (List.mem_of_getElem? (i := 208) rfl) rfl), mk_Mod_isBetter⟩
set_option maxRecDepth 100000 in
theorem mk_Mod_off : Cond.code y_Mod_off.1 y_Mod_off.2.1 y_Mod_off.2.2.1 y_Mod_off.2.2.2.1 ∈ gtb ∧ Cond.initialized y_Mod_off.1.cls ∈ gtb ∧ y_Mod_off.1.cls ≠ "java/lang/invoke/MethodHandle" ∧ y_Mod_off.1.cls ≠ "java/lang/invoke/VarHandle" ∧ (parseMethodDescriptor y_Mod_off.1.desc).map (fun d => d.parameters.length) = some 2 := ⟨(gk_7 (List.mem_of_getElem? (i := 218) rfl) rfl), cz_Mod, cx_Mod.1, cx_Mod.2, by decide +kernel⟩
set_option maxRecDepth 100000 in
theorem mo_Mod_425 : mOk "CookedLawModel" 425 2 y_Mod_off := ⟨Or.inl (gk_7 (List.mem_of_getElem? (i := 216) rfl) rfl), mk_Mod_off⟩
set_option maxRecDepth 100000 in
theorem mk_Mod_eatsDish : Cond.code y_Mod_eatsDish.1 y_Mod_eatsDish.2.1 y_Mod_eatsDish.2.2.1 y_Mod_eatsDish.2.2.2.1 ∈ gtb ∧ Cond.initialized y_Mod_eatsDish.1.cls ∈ gtb ∧ y_Mod_eatsDish.1.cls ≠ "java/lang/invoke/MethodHandle" ∧ y_Mod_eatsDish.1.cls ≠ "java/lang/invoke/VarHandle" ∧ (parseMethodDescriptor y_Mod_eatsDish.1.desc).map (fun d => d.parameters.length) = some 2 := ⟨(gk_7 (List.mem_of_getElem? (i := 230) rfl) rfl), cz_Mod, cx_Mod.1, cx_Mod.2, by decide +kernel⟩
set_option maxRecDepth 100000 in
theorem mo_Mod_431 : mOk "CookedLawModel" 431 2 y_Mod_eatsDish := ⟨Or.inl (gk_7 (List.mem_of_getElem? (i := 227) rfl) rfl), mk_Mod_eatsDish⟩
set_option maxRecDepth 100000 in
theorem mk_Mod_bits : Cond.code y_Mod_bits.1 y_Mod_bits.2.1 y_Mod_bits.2.2.1 y_Mod_bits.2.2.2.1 ∈ gtb ∧ Cond.initialized y_Mod_bits.1.cls ∈ gtb ∧ y_Mod_bits.1.cls ≠ "java/lang/invoke/MethodHandle" ∧ y_Mod_bits.1.cls ≠ "java/lang/invoke/VarHandle" ∧ (parseMethodDescriptor y_Mod_bits.1.desc).map (fun d => d.parameters.length) = some 1 := ⟨(gk_7 (List.mem_of_getElem? (i := 233) rfl) rfl), cz_Mod, cx_Mod.1, cx_Mod.2, by decide +kernel⟩
set_option maxRecDepth 100000 in
theorem mo_Mod_434 : mOk "CookedLawModel" 434 1 y_Mod_bits := ⟨Or.inl (gk_7 (List.mem_of_getElem? (i := 231) rfl) rfl), mk_Mod_bits⟩
set_option maxRecDepth 100000 in
theorem mk_Mod_freestOf : Cond.code y_Mod_freestOf.1 y_Mod_freestOf.2.1 y_Mod_freestOf.2.2.1 y_Mod_freestOf.2.2.2.1 ∈ gtb ∧ Cond.initialized y_Mod_freestOf.1.cls ∈ gtb ∧ y_Mod_freestOf.1.cls ≠ "java/lang/invoke/MethodHandle" ∧ y_Mod_freestOf.1.cls ≠ "java/lang/invoke/VarHandle" ∧ (parseMethodDescriptor y_Mod_freestOf.1.desc).map (fun d => d.parameters.length) = some 1 := ⟨(gk_7 (List.mem_of_getElem? (i := 226) rfl) rfl), cz_Mod, cx_Mod.1, cx_Mod.2, by decide +kernel⟩
set_option maxRecDepth 100000 in
theorem mo_Mod_437 : mOk "CookedLawModel" 437 1 y_Mod_freestOf := ⟨Or.inl (gk_7 (List.mem_of_getElem? (i := 223) rfl) rfl), mk_Mod_freestOf⟩
set_option maxRecDepth 100000 in
theorem mk_Mod_sixes : Cond.code y_Mod_sixes.1 y_Mod_sixes.2.1 y_Mod_sixes.2.2.1 y_Mod_sixes.2.2.2.1 ∈ gtb ∧ Cond.initialized y_Mod_sixes.1.cls ∈ gtb ∧ y_Mod_sixes.1.cls ≠ "java/lang/invoke/MethodHandle" ∧ y_Mod_sixes.1.cls ≠ "java/lang/invoke/VarHandle" ∧ (parseMethodDescriptor y_Mod_sixes.1.desc).map (fun d => d.parameters.length) = some 1 := ⟨(gk_8 (List.mem_of_getElem? (i := 8) rfl) rfl), cz_Mod, cx_Mod.1, cx_Mod.2, by decide +kernel⟩
set_option maxRecDepth 100000 in
theorem mo_Mod_440 : mOk "CookedLawModel" 440 1 y_Mod_sixes := ⟨Or.inl (gk_8 (List.mem_of_getElem? (i := 6) rfl) rfl), mk_Mod_sixes⟩
set_option maxRecDepth 100000 in
theorem mk_Mod_mealsBy : Cond.code y_Mod_mealsBy.1 y_Mod_mealsBy.2.1 y_Mod_mealsBy.2.2.1 y_Mod_mealsBy.2.2.2.1 ∈ gtb ∧ Cond.initialized y_Mod_mealsBy.1.cls ∈ gtb ∧ y_Mod_mealsBy.1.cls ≠ "java/lang/invoke/MethodHandle" ∧ y_Mod_mealsBy.1.cls ≠ "java/lang/invoke/VarHandle" ∧ (parseMethodDescriptor y_Mod_mealsBy.1.desc).map (fun d => d.parameters.length) = some 4 := ⟨(gk_8 (List.mem_of_getElem? (i := 12) rfl) rfl), cz_Mod, cx_Mod.1, cx_Mod.2, by decide +kernel⟩
set_option maxRecDepth 100000 in
theorem mo_Mod_443 : mOk "CookedLawModel" 443 4 y_Mod_mealsBy := ⟨Or.inl (gk_8 (List.mem_of_getElem? (i := 9) rfl) rfl), mk_Mod_mealsBy⟩
set_option maxRecDepth 100000 in
theorem mk_Mod_isLong : Cond.code y_Mod_isLong.1 y_Mod_isLong.2.1 y_Mod_isLong.2.2.1 y_Mod_isLong.2.2.2.1 ∈ gtb ∧ Cond.initialized y_Mod_isLong.1.cls ∈ gtb ∧ y_Mod_isLong.1.cls ≠ "java/lang/invoke/MethodHandle" ∧ y_Mod_isLong.1.cls ≠ "java/lang/invoke/VarHandle" ∧ (parseMethodDescriptor y_Mod_isLong.1.desc).map (fun d => d.parameters.length) = some 1 := ⟨(gk_8 (List.mem_of_getElem? (i := 27) rfl) rfl), cz_Mod, cx_Mod.1, cx_Mod.2, by decide +kernel⟩
set_option maxRecDepth 100000 in
theorem mo_Mod_446 : mOk "CookedLawModel" 446 1 y_Mod_isLong := ⟨Or.inl (gk_8 (List.mem_of_getElem? (i := 25) rfl) rfl), mk_Mod_isLong⟩
set_option maxRecDepth 100000 in
theorem mk_Mod_fillsWay : Cond.code y_Mod_fillsWay.1 y_Mod_fillsWay.2.1 y_Mod_fillsWay.2.2.1 y_Mod_fillsWay.2.2.2.1 ∈ gtb ∧ Cond.initialized y_Mod_fillsWay.1.cls ∈ gtb ∧ y_Mod_fillsWay.1.cls ≠ "java/lang/invoke/MethodHandle" ∧ y_Mod_fillsWay.1.cls ≠ "java/lang/invoke/VarHandle" ∧ (parseMethodDescriptor y_Mod_fillsWay.1.desc).map (fun d => d.parameters.length) = some 1 := ⟨(gk_8 (List.mem_of_getElem? (i := 55) rfl) rfl), cz_Mod, cx_Mod.1, cx_Mod.2, by decide +kernel⟩
set_option maxRecDepth 100000 in
theorem mo_Mod_449 : mOk "CookedLawModel" 449 1 y_Mod_fillsWay := ⟨Or.inl (gk_8 (List.mem_of_getElem? (i := 52) rfl) rfl), mk_Mod_fillsWay⟩
set_option maxRecDepth 100000 in
theorem mk_Mod_isAsKnown : Cond.code y_Mod_isAsKnown.1 y_Mod_isAsKnown.2.1 y_Mod_isAsKnown.2.2.1 y_Mod_isAsKnown.2.2.2.1 ∈ gtb ∧ Cond.initialized y_Mod_isAsKnown.1.cls ∈ gtb ∧ y_Mod_isAsKnown.1.cls ≠ "java/lang/invoke/MethodHandle" ∧ y_Mod_isAsKnown.1.cls ≠ "java/lang/invoke/VarHandle" ∧ (parseMethodDescriptor y_Mod_isAsKnown.1.desc).map (fun d => d.parameters.length) = some 1 := ⟨(gk_8 (List.mem_of_getElem? (i := 59) rfl) rfl), cz_Mod, cx_Mod.1, cx_Mod.2, by decide +kernel⟩
set_option maxRecDepth 100000 in
theorem mo_Mod_452 : mOk "CookedLawModel" 452 1 y_Mod_isAsKnown := ⟨Or.inl (gk_8 (List.mem_of_getElem? (i := 56) rfl) rfl), mk_Mod_isAsKnown⟩
set_option maxRecDepth 100000 in
theorem mk_Mod_isWay : Cond.code y_Mod_isWay.1 y_Mod_isWay.2.1 y_Mod_isWay.2.2.1 y_Mod_isWay.2.2.2.1 ∈ gtb ∧ Cond.initialized y_Mod_isWay.1.cls ∈ gtb ∧ y_Mod_isWay.1.cls ≠ "java/lang/invoke/MethodHandle" ∧ y_Mod_isWay.1.cls ≠ "java/lang/invoke/VarHandle" ∧ (parseMethodDescriptor y_Mod_isWay.1.desc).map (fun d => d.parameters.length) = some 2 := ⟨(gk_8 (List.mem_of_getElem? (i := 51) rfl) rfl), cz_Mod, cx_Mod.1, cx_Mod.2, by decide +kernel⟩
set_option maxRecDepth 100000 in
theorem mo_Mod_455 : mOk "CookedLawModel" 455 2 y_Mod_isWay := ⟨Or.inl (gk_8 (List.mem_of_getElem? (i := 48) rfl) rfl), mk_Mod_isWay⟩
set_option maxRecDepth 100000 in
theorem ms_Main_at : Cond.static y_Main_at.1 ∈ gtb := (gk_3 (List.mem_of_getElem? (i := 100) rfl) rfl)
set_option maxRecDepth 100000 in
theorem mi_Main_beginDraft : Cond.instanceMethod y_Main_beginDraft.1 ∈ gtb := (gk_3 (List.mem_of_getElem? (i := 219) rfl) rfl)
set_option maxRecDepth 100000 in
theorem mv_Main_beginDraft : Cond.selects y_Main_beginDraft.1.cls y_Main_beginDraft.1 y_Main_beginDraft.1 ∈ gtb := gtb_of (List.mem_append_left _ (List.mem_of_getElem? (i := 26) rfl)) rfl
set_option maxRecDepth 100000 in
theorem mi_Main_changeBy : Cond.instanceMethod y_Main_changeBy.1 ∈ gtb := (gk_4 (List.mem_of_getElem? (i := 229) rfl) rfl)
set_option maxRecDepth 100000 in
theorem mv_Main_changeBy : Cond.selects y_Main_changeBy.1.cls y_Main_changeBy.1 y_Main_changeBy.1 ∈ gtb := gtb_of (List.mem_append_left _ (List.mem_of_getElem? (i := 33) rfl)) rfl
set_option maxRecDepth 100000 in
theorem ms_Main_copyRow : Cond.static y_Main_copyRow.1 ∈ gtb := (gk_4 (List.mem_of_getElem? (i := 131) rfl) rfl)
set_option maxRecDepth 100000 in
theorem mi_Main_freeBehind : Cond.instanceMethod y_Main_freeBehind.1 ∈ gtb := (gk_5 (List.mem_of_getElem? (i := 4) rfl) rfl)
set_option maxRecDepth 100000 in
theorem mv_Main_freeBehind : Cond.selects y_Main_freeBehind.1.cls y_Main_freeBehind.1 y_Main_freeBehind.1 ∈ gtb := gtb_of (List.mem_append_left _ (List.mem_of_getElem? (i := 35) rfl)) rfl
set_option maxRecDepth 100000 in
theorem mi_Main_freestDish : Cond.instanceMethod y_Main_freestDish.1 ∈ gtb := (gk_5 (List.mem_of_getElem? (i := 0) rfl) rfl)
set_option maxRecDepth 100000 in
theorem mv_Main_freestDish : Cond.selects y_Main_freestDish.1.cls y_Main_freestDish.1 y_Main_freestDish.1 ∈ gtb := gtb_of (List.mem_append_left _ (List.mem_of_getElem? (i := 34) rfl)) rfl
set_option maxRecDepth 100000 in
theorem mi_Main_guestsFreeTo : Cond.instanceMethod y_Main_guestsFreeTo.1 ∈ gtb := (gk_4 (List.mem_of_getElem? (i := 99) rfl) rfl)
set_option maxRecDepth 100000 in
theorem mv_Main_guestsFreeTo : Cond.selects y_Main_guestsFreeTo.1.cls y_Main_guestsFreeTo.1 y_Main_guestsFreeTo.1 ∈ gtb := gtb_of (List.mem_append_left _ (List.mem_of_getElem? (i := 27) rfl)) rfl
set_option maxRecDepth 100000 in
theorem ms_Main_hasBit : Cond.static y_Main_hasBit.1 ∈ gtb := (gk_4 (List.mem_of_getElem? (i := 111) rfl) rfl)
set_option maxRecDepth 100000 in
theorem ms_Main_isOne : Cond.static y_Main_isOne.1 ∈ gtb := (gk_3 (List.mem_of_getElem? (i := 182) rfl) rfl)
set_option maxRecDepth 100000 in
theorem ms_Main_put : Cond.static y_Main_put.1 ∈ gtb := (gk_3 (List.mem_of_getElem? (i := 31) rfl) rfl)
set_option maxRecDepth 100000 in
theorem ms_Main_wipe : Cond.static y_Main_wipe.1 ∈ gtb := (gk_3 (List.mem_of_getElem? (i := 89) rfl) rfl)
set_option maxRecDepth 100000 in
theorem ms_Main_within : Cond.static y_Main_within.1 ∈ gtb := (gk_4 (List.mem_of_getElem? (i := 46) rfl) rfl)
set_option maxRecDepth 100000 in
theorem mi_Land_init : Cond.instanceMethod y_Land_init.1 ∈ gtb := (gk_1 (List.mem_of_getElem? (i := 166) rfl) rfl)
set_option maxRecDepth 100000 in
theorem mi_Land_boundBy : Cond.instanceMethod y_Land_boundBy.1 ∈ gtb := (gk_4 (List.mem_of_getElem? (i := 90) rfl) rfl)
set_option maxRecDepth 100000 in
theorem mv_Land_boundBy : Cond.selects y_Land_boundBy.1.cls y_Land_boundBy.1 y_Land_boundBy.1 ∈ gtb := (gk_4 (List.mem_of_getElem? (i := 91) rfl) rfl)
set_option maxRecDepth 100000 in
theorem mi_Land_broughtBy : Cond.instanceMethod y_Land_broughtBy.1 ∈ gtb := (gk_4 (List.mem_of_getElem? (i := 11) rfl) rfl)
set_option maxRecDepth 100000 in
theorem mv_Land_broughtBy : Cond.selects y_Land_broughtBy.1.cls y_Land_broughtBy.1 y_Land_broughtBy.1 ∈ gtb := (gk_4 (List.mem_of_getElem? (i := 12) rfl) rfl)
set_option maxRecDepth 100000 in
theorem mi_Land_clear : Cond.instanceMethod y_Land_clear.1 ∈ gtb := (gk_3 (List.mem_of_getElem? (i := 85) rfl) rfl)
set_option maxRecDepth 100000 in
theorem mv_Land_clear : Cond.selects y_Land_clear.1.cls y_Land_clear.1 y_Land_clear.1 ∈ gtb := (gk_3 (List.mem_of_getElem? (i := 86) rfl) rfl)
set_option maxRecDepth 100000 in
theorem mi_Land_dishForce : Cond.instanceMethod y_Land_dishForce.1 ∈ gtb := (gk_4 (List.mem_of_getElem? (i := 28) rfl) rfl)
set_option maxRecDepth 100000 in
theorem mv_Land_dishForce : Cond.selects y_Land_dishForce.1.cls y_Land_dishForce.1 y_Land_dishForce.1 ∈ gtb := (gk_4 (List.mem_of_getElem? (i := 29) rfl) rfl)
set_option maxRecDepth 100000 in
theorem mi_Land_fillOf : Cond.instanceMethod y_Land_fillOf.1 ∈ gtb := (gk_4 (List.mem_of_getElem? (i := 172) rfl) rfl)
set_option maxRecDepth 100000 in
theorem mv_Land_fillOf : Cond.selects y_Land_fillOf.1.cls y_Land_fillOf.1 y_Land_fillOf.1 ∈ gtb := (gk_4 (List.mem_of_getElem? (i := 173) rfl) rfl)
set_option maxRecDepth 100000 in
theorem mi_Land_freeByDish : Cond.instanceMethod y_Land_freeByDish.1 ∈ gtb := (gk_5 (List.mem_of_getElem? (i := 7) rfl) rfl)
set_option maxRecDepth 100000 in
theorem mv_Land_freeByDish : Cond.selects y_Land_freeByDish.1.cls y_Land_freeByDish.1 y_Land_freeByDish.1 ∈ gtb := (gk_5 (List.mem_of_getElem? (i := 8) rfl) rfl)
set_option maxRecDepth 100000 in
theorem mi_Land_freeUnder : Cond.instanceMethod y_Land_freeUnder.1 ∈ gtb := (gk_4 (List.mem_of_getElem? (i := 107) rfl) rfl)
set_option maxRecDepth 100000 in
theorem mv_Land_freeUnder : Cond.selects y_Land_freeUnder.1.cls y_Land_freeUnder.1 y_Land_freeUnder.1 ∈ gtb := (gk_4 (List.mem_of_getElem? (i := 108) rfl) rfl)
set_option maxRecDepth 100000 in
theorem mi_Land_inDish : Cond.instanceMethod y_Land_inDish.1 ∈ gtb := (gk_3 (List.mem_of_getElem? (i := 148) rfl) rfl)
set_option maxRecDepth 100000 in
theorem mv_Land_inDish : Cond.selects y_Land_inDish.1.cls y_Land_inDish.1 y_Land_inDish.1 ∈ gtb := (gk_3 (List.mem_of_getElem? (i := 149) rfl) rfl)
set_option maxRecDepth 100000 in
theorem ms_Land_lot : Cond.static y_Land_lot.1 ∈ gtb := (gk_4 (List.mem_of_getElem? (i := 143) rfl) rfl)
set_option maxRecDepth 100000 in
theorem mi_Land_manyIn : Cond.instanceMethod y_Land_manyIn.1 ∈ gtb := (gk_4 (List.mem_of_getElem? (i := 19) rfl) rfl)
set_option maxRecDepth 100000 in
theorem mv_Land_manyIn : Cond.selects y_Land_manyIn.1.cls y_Land_manyIn.1 y_Land_manyIn.1 ∈ gtb := (gk_4 (List.mem_of_getElem? (i := 20) rfl) rfl)
set_option maxRecDepth 100000 in
theorem mi_Land_potForce : Cond.instanceMethod y_Land_potForce.1 ∈ gtb := (gk_4 (List.mem_of_getElem? (i := 38) rfl) rfl)
set_option maxRecDepth 100000 in
theorem mv_Land_potForce : Cond.selects y_Land_potForce.1.cls y_Land_potForce.1 y_Land_potForce.1 ∈ gtb := (gk_4 (List.mem_of_getElem? (i := 39) rfl) rfl)
set_option maxRecDepth 100000 in
theorem mi_Land_priceOf : Cond.instanceMethod y_Land_priceOf.1 ∈ gtb := (gk_4 (List.mem_of_getElem? (i := 24) rfl) rfl)
set_option maxRecDepth 100000 in
theorem mv_Land_priceOf : Cond.selects y_Land_priceOf.1.cls y_Land_priceOf.1 y_Land_priceOf.1 ∈ gtb := (gk_4 (List.mem_of_getElem? (i := 25) rfl) rfl)
set_option maxRecDepth 100000 in
theorem mi_Land_slipsOf : Cond.instanceMethod y_Land_slipsOf.1 ∈ gtb := (gk_4 (List.mem_of_getElem? (i := 150) rfl) rfl)
set_option maxRecDepth 100000 in
theorem mv_Land_slipsOf : Cond.selects y_Land_slipsOf.1.cls y_Land_slipsOf.1 y_Land_slipsOf.1 ∈ gtb := (gk_4 (List.mem_of_getElem? (i := 151) rfl) rfl)
set_option maxRecDepth 100000 in
theorem ms_Land_stirred : Cond.static y_Land_stirred.1 ∈ gtb := (gk_4 (List.mem_of_getElem? (i := 146) rfl) rfl)
set_option maxRecDepth 100000 in
theorem mi_Land_sumOf : Cond.instanceMethod y_Land_sumOf.1 ∈ gtb := (gk_4 (List.mem_of_getElem? (i := 32) rfl) rfl)
set_option maxRecDepth 100000 in
theorem mv_Land_sumOf : Cond.selects y_Land_sumOf.1.cls y_Land_sumOf.1 y_Land_sumOf.1 ∈ gtb := (gk_4 (List.mem_of_getElem? (i := 33) rfl) rfl)
set_option maxRecDepth 100000 in
theorem mi_Law_init : Cond.instanceMethod y_Law_init.1 ∈ gtb := (gk_1 (List.mem_of_getElem? (i := 172) rfl) rfl)
set_option maxRecDepth 100000 in
theorem mi_Law_add : Cond.instanceMethod y_Law_add.1 ∈ gtb := (gk_3 (List.mem_of_getElem? (i := 178) rfl) rfl)
set_option maxRecDepth 100000 in
theorem mv_Law_add : Cond.selects y_Law_add.1.cls y_Law_add.1 y_Law_add.1 ∈ gtb := (gk_3 (List.mem_of_getElem? (i := 179) rfl) rfl)
set_option maxRecDepth 100000 in
theorem mi_Law_clear : Cond.instanceMethod y_Law_clear.1 ∈ gtb := (gk_3 (List.mem_of_getElem? (i := 92) rfl) rfl)
set_option maxRecDepth 100000 in
theorem mv_Law_clear : Cond.selects y_Law_clear.1.cls y_Law_clear.1 y_Law_clear.1 ∈ gtb := (gk_3 (List.mem_of_getElem? (i := 93) rfl) rfl)
set_option maxRecDepth 100000 in
theorem mi_Law_closeIf : Cond.instanceMethod y_Law_closeIf.1 ∈ gtb := (gk_3 (List.mem_of_getElem? (i := 205) rfl) rfl)
set_option maxRecDepth 100000 in
theorem mv_Law_closeIf : Cond.selects y_Law_closeIf.1.cls y_Law_closeIf.1 y_Law_closeIf.1 ∈ gtb := (gk_3 (List.mem_of_getElem? (i := 206) rfl) rfl)
set_option maxRecDepth 100000 in
theorem mi_Law_isTold : Cond.instanceMethod y_Law_isTold.1 ∈ gtb := (gk_4 (List.mem_of_getElem? (i := 42) rfl) rfl)
set_option maxRecDepth 100000 in
theorem mv_Law_isTold : Cond.selects y_Law_isTold.1.cls y_Law_isTold.1 y_Law_isTold.1 ∈ gtb := (gk_4 (List.mem_of_getElem? (i := 43) rfl) rfl)
set_option maxRecDepth 100000 in
theorem mi_Law_let : Cond.instanceMethod y_Law_let.1 ∈ gtb := (gk_4 (List.mem_of_getElem? (i := 55) rfl) rfl)
set_option maxRecDepth 100000 in
theorem mv_Law_let : Cond.selects y_Law_let.1.cls y_Law_let.1 y_Law_let.1 ∈ gtb := (gk_4 (List.mem_of_getElem? (i := 56) rfl) rfl)
set_option maxRecDepth 100000 in
theorem mi_Law_looksAt : Cond.instanceMethod y_Law_looksAt.1 ∈ gtb := (gk_4 (List.mem_of_getElem? (i := 194) rfl) rfl)
set_option maxRecDepth 100000 in
theorem mv_Law_looksAt : Cond.selects y_Law_looksAt.1.cls y_Law_looksAt.1 y_Law_looksAt.1 ∈ gtb := (gk_4 (List.mem_of_getElem? (i := 195) rfl) rfl)
set_option maxRecDepth 100000 in
theorem mi_Law_openIf : Cond.instanceMethod y_Law_openIf.1 ∈ gtb := (gk_3 (List.mem_of_getElem? (i := 200) rfl) rfl)
set_option maxRecDepth 100000 in
theorem mv_Law_openIf : Cond.selects y_Law_openIf.1.cls y_Law_openIf.1 y_Law_openIf.1 ∈ gtb := (gk_3 (List.mem_of_getElem? (i := 201) rfl) rfl)
set_option maxRecDepth 100000 in
theorem ms_Law_reckon : Cond.static y_Law_reckon.1 ∈ gtb := (gk_4 (List.mem_of_getElem? (i := 64) rfl) rfl)
set_option maxRecDepth 100000 in
theorem mi_Law_value : Cond.instanceMethod y_Law_value.1 ∈ gtb := (gk_4 (List.mem_of_getElem? (i := 59) rfl) rfl)
set_option maxRecDepth 100000 in
theorem mv_Law_value : Cond.selects y_Law_value.1.cls y_Law_value.1 y_Law_value.1 ∈ gtb := (gk_4 (List.mem_of_getElem? (i := 60) rfl) rfl)
set_option maxRecDepth 100000 in
theorem mi_MenuSearch_init : Cond.instanceMethod y_MenuSearch_init.1 ∈ gtb := (gk_2 (List.mem_of_getElem? (i := 203) rfl) rfl)
set_option maxRecDepth 100000 in
theorem mi_MenuSearch_find : Cond.instanceMethod y_MenuSearch_find.1 ∈ gtb := (gk_5 (List.mem_of_getElem? (i := 33) rfl) rfl)
set_option maxRecDepth 100000 in
theorem mv_MenuSearch_find : Cond.selects y_MenuSearch_find.1.cls y_MenuSearch_find.1 y_MenuSearch_find.1 ∈ gtb := (gk_5 (List.mem_of_getElem? (i := 34) rfl) rfl)
set_option maxRecDepth 100000 in
theorem ms_MenuSearch_indexOf : Cond.static y_MenuSearch_indexOf.1 ∈ gtb := (gk_5 (List.mem_of_getElem? (i := 47) rfl) rfl)
set_option maxRecDepth 100000 in
theorem mi_MenuSearch_isFree : Cond.instanceMethod y_MenuSearch_isFree.1 ∈ gtb := (gk_5 (List.mem_of_getElem? (i := 57) rfl) rfl)
set_option maxRecDepth 100000 in
theorem mv_MenuSearch_isFree : Cond.selects y_MenuSearch_isFree.1.cls y_MenuSearch_isFree.1 y_MenuSearch_isFree.1 ∈ gtb := gtb_of (List.mem_append_left _ (List.mem_of_getElem? (i := 39) rfl)) rfl
set_option maxRecDepth 100000 in
theorem mi_MenuSearch_lookFed : Cond.instanceMethod y_MenuSearch_lookFed.1 ∈ gtb := (gk_5 (List.mem_of_getElem? (i := 43) rfl) rfl)
set_option maxRecDepth 100000 in
theorem mv_MenuSearch_lookFed : Cond.selects y_MenuSearch_lookFed.1.cls y_MenuSearch_lookFed.1 y_MenuSearch_lookFed.1 ∈ gtb := gtb_of (List.mem_append_left _ (List.mem_of_getElem? (i := 37) rfl)) rfl
set_option maxRecDepth 100000 in
theorem mi_MenuSearch_lookUnfed : Cond.instanceMethod y_MenuSearch_lookUnfed.1 ∈ gtb := (gk_5 (List.mem_of_getElem? (i := 38) rfl) rfl)
set_option maxRecDepth 100000 in
theorem mv_MenuSearch_lookUnfed : Cond.selects y_MenuSearch_lookUnfed.1.cls y_MenuSearch_lookUnfed.1 y_MenuSearch_lookUnfed.1 ∈ gtb := gtb_of (List.mem_append_left _ (List.mem_of_getElem? (i := 36) rfl)) rfl
set_option maxRecDepth 100000 in
theorem mi_MenuSearch_mealsIfAllFree : Cond.instanceMethod y_MenuSearch_mealsIfAllFree.1 ∈ gtb := (gk_5 (List.mem_of_getElem? (i := 52) rfl) rfl)
set_option maxRecDepth 100000 in
theorem mv_MenuSearch_mealsIfAllFree : Cond.selects y_MenuSearch_mealsIfAllFree.1.cls y_MenuSearch_mealsIfAllFree.1 y_MenuSearch_mealsIfAllFree.1 ∈ gtb := gtb_of (List.mem_append_left _ (List.mem_of_getElem? (i := 38) rfl)) rfl
set_option maxRecDepth 100000 in
theorem mi_MenuSearch_step : Cond.instanceMethod y_MenuSearch_step.1 ∈ gtb := (gk_5 (List.mem_of_getElem? (i := 62) rfl) rfl)
set_option maxRecDepth 100000 in
theorem mv_MenuSearch_step : Cond.selects y_MenuSearch_step.1.cls y_MenuSearch_step.1 y_MenuSearch_step.1 ∈ gtb := gtb_of (List.mem_append_left _ (List.mem_of_getElem? (i := 40) rfl)) rfl
set_option maxRecDepth 100000 in
theorem mi_Past_init : Cond.instanceMethod y_Past_init.1 ∈ gtb := (gk_2 (List.mem_of_getElem? (i := 89) rfl) rfl)
set_option maxRecDepth 100000 in
theorem mi_Past_clear : Cond.instanceMethod y_Past_clear.1 ∈ gtb := (gk_3 (List.mem_of_getElem? (i := 229) rfl) rfl)
set_option maxRecDepth 100000 in
theorem mv_Past_clear : Cond.selects y_Past_clear.1.cls y_Past_clear.1 y_Past_clear.1 ∈ gtb := (gk_3 (List.mem_of_getElem? (i := 230) rfl) rfl)
set_option maxRecDepth 100000 in
theorem mi_Past_keep : Cond.instanceMethod y_Past_keep.1 ∈ gtb := (gk_4 (List.mem_of_getElem? (i := 123) rfl) rfl)
set_option maxRecDepth 100000 in
theorem mv_Past_keep : Cond.selects y_Past_keep.1.cls y_Past_keep.1 y_Past_keep.1 ∈ gtb := (gk_4 (List.mem_of_getElem? (i := 124) rfl) rfl)
set_option maxRecDepth 100000 in
theorem mi_Past_takeBack : Cond.instanceMethod y_Past_takeBack.1 ∈ gtb := (gk_4 (List.mem_of_getElem? (i := 181) rfl) rfl)
set_option maxRecDepth 100000 in
theorem mv_Past_takeBack : Cond.selects y_Past_takeBack.1.cls y_Past_takeBack.1 y_Past_takeBack.1 ∈ gtb := (gk_4 (List.mem_of_getElem? (i := 182) rfl) rfl)
set_option maxRecDepth 100000 in
theorem mi_PotSearch_init : Cond.instanceMethod y_PotSearch_init.1 ∈ gtb := (gk_2 (List.mem_of_getElem? (i := 160) rfl) rfl)
set_option maxRecDepth 100000 in
theorem mi_PotSearch_fillFrom : Cond.instanceMethod y_PotSearch_fillFrom.1 ∈ gtb := (gk_4 (List.mem_of_getElem? (i := 199) rfl) rfl)
set_option maxRecDepth 100000 in
theorem mv_PotSearch_fillFrom : Cond.selects y_PotSearch_fillFrom.1.cls y_PotSearch_fillFrom.1 y_PotSearch_fillFrom.1 ∈ gtb := gtb_of (List.mem_append_left _ (List.mem_of_getElem? (i := 28) rfl)) rfl
set_option maxRecDepth 100000 in
theorem mi_PotSearch_find : Cond.instanceMethod y_PotSearch_find.1 ∈ gtb := (gk_4 (List.mem_of_getElem? (i := 189) rfl) rfl)
set_option maxRecDepth 100000 in
theorem mv_PotSearch_find : Cond.selects y_PotSearch_find.1.cls y_PotSearch_find.1 y_PotSearch_find.1 ∈ gtb := (gk_4 (List.mem_of_getElem? (i := 190) rfl) rfl)
set_option maxRecDepth 100000 in
theorem mi_PotSearch_isEnough : Cond.instanceMethod y_PotSearch_isEnough.1 ∈ gtb := (gk_4 (List.mem_of_getElem? (i := 215) rfl) rfl)
set_option maxRecDepth 100000 in
theorem mv_PotSearch_isEnough : Cond.selects y_PotSearch_isEnough.1.cls y_PotSearch_isEnough.1 y_PotSearch_isEnough.1 ∈ gtb := gtb_of (List.mem_append_left _ (List.mem_of_getElem? (i := 31) rfl)) rfl
set_option maxRecDepth 100000 in
theorem mi_PotSearch_stepDown : Cond.instanceMethod y_PotSearch_stepDown.1 ∈ gtb := (gk_4 (List.mem_of_getElem? (i := 221) rfl) rfl)
set_option maxRecDepth 100000 in
theorem mv_PotSearch_stepDown : Cond.selects y_PotSearch_stepDown.1.cls y_PotSearch_stepDown.1 y_PotSearch_stepDown.1 ∈ gtb := gtb_of (List.mem_append_left _ (List.mem_of_getElem? (i := 32) rfl)) rfl
set_option maxRecDepth 100000 in
theorem mi_PotSearch_tryHeats : Cond.instanceMethod y_PotSearch_tryHeats.1 ∈ gtb := (gk_4 (List.mem_of_getElem? (i := 211) rfl) rfl)
set_option maxRecDepth 100000 in
theorem mv_PotSearch_tryHeats : Cond.selects y_PotSearch_tryHeats.1.cls y_PotSearch_tryHeats.1 y_PotSearch_tryHeats.1 ∈ gtb := gtb_of (List.mem_append_left _ (List.mem_of_getElem? (i := 30) rfl)) rfl
set_option maxRecDepth 100000 in
theorem mi_PotSearch_weigh : Cond.instanceMethod y_PotSearch_weigh.1 ∈ gtb := (gk_4 (List.mem_of_getElem? (i := 205) rfl) rfl)
set_option maxRecDepth 100000 in
theorem mv_PotSearch_weigh : Cond.selects y_PotSearch_weigh.1.cls y_PotSearch_weigh.1 y_PotSearch_weigh.1 ∈ gtb := gtb_of (List.mem_append_left _ (List.mem_of_getElem? (i := 29) rfl)) rfl
set_option maxRecDepth 100000 in
theorem mi_Reader_init : Cond.instanceMethod y_Reader_init.1 ∈ gtb := (gk_1 (List.mem_of_getElem? (i := 47) rfl) rfl)
set_option maxRecDepth 100000 in
theorem mi_Reader_holdSign : Cond.instanceMethod y_Reader_holdSign.1 ∈ gtb := (gk_3 (List.mem_of_getElem? (i := 175) rfl) rfl)
set_option maxRecDepth 100000 in
theorem mv_Reader_holdSign : Cond.selects y_Reader_holdSign.1.cls y_Reader_holdSign.1 y_Reader_holdSign.1 ∈ gtb := gtb_of (List.mem_append_left _ (List.mem_of_getElem? (i := 21) rfl)) rfl
set_option maxRecDepth 100000 in
theorem mi_Reader_indexOf : Cond.instanceMethod y_Reader_indexOf.1 ∈ gtb := (gk_3 (List.mem_of_getElem? (i := 124) rfl) rfl)
set_option maxRecDepth 100000 in
theorem mv_Reader_indexOf : Cond.selects y_Reader_indexOf.1.cls y_Reader_indexOf.1 y_Reader_indexOf.1 ∈ gtb := gtb_of (List.mem_append_left _ (List.mem_of_getElem? (i := 10) rfl)) rfl
set_option maxRecDepth 100000 in
theorem mi_Reader_is : Cond.instanceMethod y_Reader_is.1 ∈ gtb := (gk_3 (List.mem_of_getElem? (i := 97) rfl) rfl)
set_option maxRecDepth 100000 in
theorem mv_Reader_is : Cond.selects y_Reader_is.1.cls y_Reader_is.1 y_Reader_is.1 ∈ gtb := gtb_of (List.mem_append_left _ (List.mem_of_getElem? (i := 5) rfl)) rfl
set_option maxRecDepth 100000 in
theorem mi_Reader_layHeld : Cond.instanceMethod y_Reader_layHeld.1 ∈ gtb := (gk_3 (List.mem_of_getElem? (i := 193) rfl) rfl)
set_option maxRecDepth 100000 in
theorem mv_Reader_layHeld : Cond.selects y_Reader_layHeld.1.cls y_Reader_layHeld.1 y_Reader_layHeld.1 ∈ gtb := gtb_of (List.mem_append_left _ (List.mem_of_getElem? (i := 23) rfl)) rfl
set_option maxRecDepth 100000 in
theorem mi_Reader_need : Cond.instanceMethod y_Reader_need.1 ∈ gtb := (gk_3 (List.mem_of_getElem? (i := 132) rfl) rfl)
set_option maxRecDepth 100000 in
theorem mv_Reader_need : Cond.selects y_Reader_need.1.cls y_Reader_need.1 y_Reader_need.1 ∈ gtb := gtb_of (List.mem_append_left _ (List.mem_of_getElem? (i := 12) rfl)) rfl
set_option maxRecDepth 100000 in
theorem mi_Reader_parse : Cond.instanceMethod y_Reader_parse.1 ∈ gtb := (gk_3 (List.mem_of_getElem? (i := 42) rfl) rfl)
set_option maxRecDepth 100000 in
theorem mv_Reader_parse : Cond.selects y_Reader_parse.1.cls y_Reader_parse.1 y_Reader_parse.1 ∈ gtb := (gk_3 (List.mem_of_getElem? (i := 43) rfl) rfl)
set_option maxRecDepth 100000 in
theorem mi_Reader_placeOfFault : Cond.instanceMethod y_Reader_placeOfFault.1 ∈ gtb := (gk_3 (List.mem_of_getElem? (i := 214) rfl) rfl)
set_option maxRecDepth 100000 in
theorem mv_Reader_placeOfFault : Cond.selects y_Reader_placeOfFault.1.cls y_Reader_placeOfFault.1 y_Reader_placeOfFault.1 ∈ gtb := (gk_3 (List.mem_of_getElem? (i := 215) rfl) rfl)
set_option maxRecDepth 100000 in
theorem ms_Reader_rank : Cond.static y_Reader_rank.1 ∈ gtb := (gk_3 (List.mem_of_getElem? (i := 185) rfl) rfl)
set_option maxRecDepth 100000 in
theorem mi_Reader_stop : Cond.instanceMethod y_Reader_stop.1 ∈ gtb := (gk_3 (List.mem_of_getElem? (i := 108) rfl) rfl)
set_option maxRecDepth 100000 in
theorem mv_Reader_stop : Cond.selects y_Reader_stop.1.cls y_Reader_stop.1 y_Reader_stop.1 ∈ gtb := gtb_of (List.mem_append_left _ (List.mem_of_getElem? (i := 7) rfl)) rfl
set_option maxRecDepth 100000 in
theorem mi_Reader_stopLate : Cond.instanceMethod y_Reader_stopLate.1 ∈ gtb := (gk_3 (List.mem_of_getElem? (i := 128) rfl) rfl)
set_option maxRecDepth 100000 in
theorem mv_Reader_stopLate : Cond.selects y_Reader_stopLate.1.cls y_Reader_stopLate.1 y_Reader_stopLate.1 ∈ gtb := gtb_of (List.mem_append_left _ (List.mem_of_getElem? (i := 11) rfl)) rfl
set_option maxRecDepth 100000 in
theorem mi_Reader_take : Cond.instanceMethod y_Reader_take.1 ∈ gtb := (gk_3 (List.mem_of_getElem? (i := 112) rfl) rfl)
set_option maxRecDepth 100000 in
theorem mv_Reader_take : Cond.selects y_Reader_take.1.cls y_Reader_take.1 y_Reader_take.1 ∈ gtb := gtb_of (List.mem_append_left _ (List.mem_of_getElem? (i := 8) rfl)) rfl
set_option maxRecDepth 100000 in
theorem mi_Reader_takeClose : Cond.instanceMethod y_Reader_takeClose.1 ∈ gtb := (gk_3 (List.mem_of_getElem? (i := 197) rfl) rfl)
set_option maxRecDepth 100000 in
theorem mv_Reader_takeClose : Cond.selects y_Reader_takeClose.1.cls y_Reader_takeClose.1 y_Reader_takeClose.1 ∈ gtb := gtb_of (List.mem_append_left _ (List.mem_of_getElem? (i := 24) rfl)) rfl
set_option maxRecDepth 100000 in
theorem mi_Reader_takeDeed : Cond.instanceMethod y_Reader_takeDeed.1 ∈ gtb := (gk_3 (List.mem_of_getElem? (i := 158) rfl) rfl)
set_option maxRecDepth 100000 in
theorem mv_Reader_takeDeed : Cond.selects y_Reader_takeDeed.1.cls y_Reader_takeDeed.1 y_Reader_takeDeed.1 ∈ gtb := gtb_of (List.mem_append_left _ (List.mem_of_getElem? (i := 17) rfl)) rfl
set_option maxRecDepth 100000 in
theorem mi_Reader_takeDish : Cond.instanceMethod y_Reader_takeDish.1 ∈ gtb := (gk_3 (List.mem_of_getElem? (i := 141) rfl) rfl)
set_option maxRecDepth 100000 in
theorem mv_Reader_takeDish : Cond.selects y_Reader_takeDish.1.cls y_Reader_takeDish.1 y_Reader_takeDish.1 ∈ gtb := gtb_of (List.mem_append_left _ (List.mem_of_getElem? (i := 14) rfl)) rfl
set_option maxRecDepth 100000 in
theorem mi_Reader_takeFood : Cond.instanceMethod y_Reader_takeFood.1 ∈ gtb := (gk_3 (List.mem_of_getElem? (i := 104) rfl) rfl)
set_option maxRecDepth 100000 in
theorem mv_Reader_takeFood : Cond.selects y_Reader_takeFood.1.cls y_Reader_takeFood.1 y_Reader_takeFood.1 ∈ gtb := gtb_of (List.mem_append_left _ (List.mem_of_getElem? (i := 6) rfl)) rfl
set_option maxRecDepth 100000 in
theorem mi_Reader_takeGuest : Cond.instanceMethod y_Reader_takeGuest.1 ∈ gtb := (gk_3 (List.mem_of_getElem? (i := 154) rfl) rfl)
set_option maxRecDepth 100000 in
theorem mv_Reader_takeGuest : Cond.selects y_Reader_takeGuest.1.cls y_Reader_takeGuest.1 y_Reader_takeGuest.1 ∈ gtb := gtb_of (List.mem_append_left _ (List.mem_of_getElem? (i := 16) rfl)) rfl
set_option maxRecDepth 100000 in
theorem mi_Reader_takeIngredient : Cond.instanceMethod y_Reader_takeIngredient.1 ∈ gtb := (gk_3 (List.mem_of_getElem? (i := 145) rfl) rfl)
set_option maxRecDepth 100000 in
theorem mv_Reader_takeIngredient : Cond.selects y_Reader_takeIngredient.1.cls y_Reader_takeIngredient.1 y_Reader_takeIngredient.1 ∈ gtb := gtb_of (List.mem_append_left _ (List.mem_of_getElem? (i := 15) rfl)) rfl
set_option maxRecDepth 100000 in
theorem mi_Reader_takeInt : Cond.instanceMethod y_Reader_takeInt.1 ∈ gtb := (gk_3 (List.mem_of_getElem? (i := 136) rfl) rfl)
set_option maxRecDepth 100000 in
theorem mv_Reader_takeInt : Cond.selects y_Reader_takeInt.1.cls y_Reader_takeInt.1 y_Reader_takeInt.1 ∈ gtb := gtb_of (List.mem_append_left _ (List.mem_of_getElem? (i := 13) rfl)) rfl
set_option maxRecDepth 100000 in
theorem mi_Reader_takeLaw : Cond.instanceMethod y_Reader_takeLaw.1 ∈ gtb := (gk_3 (List.mem_of_getElem? (i := 162) rfl) rfl)
set_option maxRecDepth 100000 in
theorem mv_Reader_takeLaw : Cond.selects y_Reader_takeLaw.1.cls y_Reader_takeLaw.1 y_Reader_takeLaw.1 ∈ gtb := gtb_of (List.mem_append_left _ (List.mem_of_getElem? (i := 18) rfl)) rfl
set_option maxRecDepth 100000 in
theorem mi_Reader_takeNewName : Cond.instanceMethod y_Reader_takeNewName.1 ∈ gtb := (gk_3 (List.mem_of_getElem? (i := 116) rfl) rfl)
set_option maxRecDepth 100000 in
theorem mv_Reader_takeNewName : Cond.selects y_Reader_takeNewName.1.cls y_Reader_takeNewName.1 y_Reader_takeNewName.1 ∈ gtb := gtb_of (List.mem_append_left _ (List.mem_of_getElem? (i := 9) rfl)) rfl
set_option maxRecDepth 100000 in
theorem mi_Reader_takeSeed : Cond.instanceMethod y_Reader_takeSeed.1 ∈ gtb := (gk_3 (List.mem_of_getElem? (i := 211) rfl) rfl)
set_option maxRecDepth 100000 in
theorem mv_Reader_takeSeed : Cond.selects y_Reader_takeSeed.1.cls y_Reader_takeSeed.1 y_Reader_takeSeed.1 ∈ gtb := gtb_of (List.mem_append_left _ (List.mem_of_getElem? (i := 25) rfl)) rfl
set_option maxRecDepth 100000 in
theorem mi_Reader_takeSign : Cond.instanceMethod y_Reader_takeSign.1 ∈ gtb := (gk_3 (List.mem_of_getElem? (i := 189) rfl) rfl)
set_option maxRecDepth 100000 in
theorem mv_Reader_takeSign : Cond.selects y_Reader_takeSign.1.cls y_Reader_takeSign.1 y_Reader_takeSign.1 ∈ gtb := gtb_of (List.mem_append_left _ (List.mem_of_getElem? (i := 22) rfl)) rfl
set_option maxRecDepth 100000 in
theorem mi_Reader_takeSum : Cond.instanceMethod y_Reader_takeSum.1 ∈ gtb := (gk_3 (List.mem_of_getElem? (i := 167) rfl) rfl)
set_option maxRecDepth 100000 in
theorem mv_Reader_takeSum : Cond.selects y_Reader_takeSum.1.cls y_Reader_takeSum.1 y_Reader_takeSum.1 ∈ gtb := gtb_of (List.mem_append_left _ (List.mem_of_getElem? (i := 19) rfl)) rfl
set_option maxRecDepth 100000 in
theorem mi_Reader_takeUnit : Cond.instanceMethod y_Reader_takeUnit.1 ∈ gtb := (gk_3 (List.mem_of_getElem? (i := 171) rfl) rfl)
set_option maxRecDepth 100000 in
theorem mv_Reader_takeUnit : Cond.selects y_Reader_takeUnit.1.cls y_Reader_takeUnit.1 y_Reader_takeUnit.1 ∈ gtb := gtb_of (List.mem_append_left _ (List.mem_of_getElem? (i := 20) rfl)) rfl
set_option maxRecDepth 100000 in
theorem mi_Slots_init : Cond.instanceMethod y_Slots_init.1 ∈ gtb := (gk_2 (List.mem_of_getElem? (i := 109) rfl) rfl)
set_option maxRecDepth 100000 in
theorem mi_Slots_bring : Cond.instanceMethod y_Slots_bring.1 ∈ gtb := (gk_5 (List.mem_of_getElem? (i := 162) rfl) rfl)
set_option maxRecDepth 100000 in
theorem mv_Slots_bring : Cond.selects y_Slots_bring.1.cls y_Slots_bring.1 y_Slots_bring.1 ∈ gtb := (gk_5 (List.mem_of_getElem? (i := 163) rfl) rfl)
set_option maxRecDepth 100000 in
theorem mi_Slots_clear : Cond.instanceMethod y_Slots_clear.1 ∈ gtb := (gk_3 (List.mem_of_getElem? (i := 233) rfl) rfl)
set_option maxRecDepth 100000 in
theorem mv_Slots_clear : Cond.selects y_Slots_clear.1.cls y_Slots_clear.1 y_Slots_clear.1 ∈ gtb := (gk_3 (List.mem_of_getElem? (i := 234) rfl) rfl)
set_option maxRecDepth 100000 in
theorem mi_Slots_full : Cond.instanceMethod y_Slots_full.1 ∈ gtb := (gk_5 (List.mem_of_getElem? (i := 171) rfl) rfl)
set_option maxRecDepth 100000 in
theorem mv_Slots_full : Cond.selects y_Slots_full.1.cls y_Slots_full.1 y_Slots_full.1 ∈ gtb := (gk_5 (List.mem_of_getElem? (i := 172) rfl) rfl)
set_option maxRecDepth 100000 in
theorem mi_Slots_keep : Cond.instanceMethod y_Slots_keep.1 ∈ gtb := (gk_5 (List.mem_of_getElem? (i := 153) rfl) rfl)
set_option maxRecDepth 100000 in
theorem mv_Slots_keep : Cond.selects y_Slots_keep.1.cls y_Slots_keep.1 y_Slots_keep.1 ∈ gtb := (gk_5 (List.mem_of_getElem? (i := 154) rfl) rfl)
set_option maxRecDepth 100000 in
theorem mi_State_init : Cond.instanceMethod y_State_init.1 ∈ gtb := (gk_2 (List.mem_of_getElem? (i := 41) rfl) rfl)
set_option maxRecDepth 100000 in
theorem mi_State_agoOf : Cond.instanceMethod y_State_agoOf.1 ∈ gtb := (gk_4 (List.mem_of_getElem? (i := 80) rfl) rfl)
set_option maxRecDepth 100000 in
theorem mv_State_agoOf : Cond.selects y_State_agoOf.1.cls y_State_agoOf.1 y_State_agoOf.1 ∈ gtb := (gk_4 (List.mem_of_getElem? (i := 81) rfl) rfl)
set_option maxRecDepth 100000 in
theorem mi_State_allMeals : Cond.instanceMethod y_State_allMeals.1 ∈ gtb := (gk_5 (List.mem_of_getElem? (i := 176) rfl) rfl)
set_option maxRecDepth 100000 in
theorem mv_State_allMeals : Cond.selects y_State_allMeals.1.cls y_State_allMeals.1 y_State_allMeals.1 ∈ gtb := (gk_5 (List.mem_of_getElem? (i := 177) rfl) rfl)
set_option maxRecDepth 100000 in
theorem mi_State_begin : Cond.instanceMethod y_State_begin.1 ∈ gtb := (gk_3 (List.mem_of_getElem? (i := 222) rfl) rfl)
set_option maxRecDepth 100000 in
theorem mv_State_begin : Cond.selects y_State_begin.1.cls y_State_begin.1 y_State_begin.1 ∈ gtb := (gk_3 (List.mem_of_getElem? (i := 223) rfl) rfl)
set_option maxRecDepth 100000 in
theorem mi_State_boundOf : Cond.instanceMethod y_State_boundOf.1 ∈ gtb := (gk_4 (List.mem_of_getElem? (i := 84) rfl) rfl)
set_option maxRecDepth 100000 in
theorem mv_State_boundOf : Cond.selects y_State_boundOf.1.cls y_State_boundOf.1 y_State_boundOf.1 ∈ gtb := (gk_4 (List.mem_of_getElem? (i := 85) rfl) rfl)
set_option maxRecDepth 100000 in
theorem mi_State_cookOne : Cond.instanceMethod y_State_cookOne.1 ∈ gtb := (gk_4 (List.mem_of_getElem? (i := 135) rfl) rfl)
set_option maxRecDepth 100000 in
theorem mv_State_cookOne : Cond.selects y_State_cookOne.1.cls y_State_cookOne.1 y_State_cookOne.1 ∈ gtb := (gk_4 (List.mem_of_getElem? (i := 136) rfl) rfl)
set_option maxRecDepth 100000 in
theorem mi_State_copyFrom : Cond.instanceMethod y_State_copyFrom.1 ∈ gtb := (gk_4 (List.mem_of_getElem? (i := 127) rfl) rfl)
set_option maxRecDepth 100000 in
theorem mv_State_copyFrom : Cond.selects y_State_copyFrom.1.cls y_State_copyFrom.1 y_State_copyFrom.1 ∈ gtb := (gk_4 (List.mem_of_getElem? (i := 128) rfl) rfl)
set_option maxRecDepth 100000 in
theorem mi_State_eatServed : Cond.instanceMethod y_State_eatServed.1 ∈ gtb := (gk_4 (List.mem_of_getElem? (i := 160) rfl) rfl)
set_option maxRecDepth 100000 in
theorem mv_State_eatServed : Cond.selects y_State_eatServed.1.cls y_State_eatServed.1 y_State_eatServed.1 ∈ gtb := (gk_4 (List.mem_of_getElem? (i := 161) rfl) rfl)
set_option maxRecDepth 100000 in
theorem mi_State_freeOf : Cond.instanceMethod y_State_freeOf.1 ∈ gtb := (gk_4 (List.mem_of_getElem? (i := 102) rfl) rfl)
set_option maxRecDepth 100000 in
theorem mv_State_freeOf : Cond.selects y_State_freeOf.1.cls y_State_freeOf.1 y_State_freeOf.1 ∈ gtb := (gk_4 (List.mem_of_getElem? (i := 103) rfl) rfl)
set_option maxRecDepth 100000 in
theorem mi_State_hasEaten : Cond.instanceMethod y_State_hasEaten.1 ∈ gtb := (gk_4 (List.mem_of_getElem? (i := 76) rfl) rfl)
set_option maxRecDepth 100000 in
theorem mv_State_hasEaten : Cond.selects y_State_hasEaten.1.cls y_State_hasEaten.1 y_State_hasEaten.1 ∈ gtb := (gk_4 (List.mem_of_getElem? (i := 77) rfl) rfl)
set_option maxRecDepth 100000 in
theorem mi_State_inStore : Cond.instanceMethod y_State_inStore.1 ∈ gtb := (gk_4 (List.mem_of_getElem? (i := 118) rfl) rfl)
set_option maxRecDepth 100000 in
theorem mv_State_inStore : Cond.selects y_State_inStore.1.cls y_State_inStore.1 y_State_inStore.1 ∈ gtb := (gk_4 (List.mem_of_getElem? (i := 119) rfl) rfl)
set_option maxRecDepth 100000 in
theorem mi_State_passDays : Cond.instanceMethod y_State_passDays.1 ∈ gtb := (gk_4 (List.mem_of_getElem? (i := 168) rfl) rfl)
set_option maxRecDepth 100000 in
theorem mv_State_passDays : Cond.selects y_State_passDays.1.cls y_State_passDays.1 y_State_passDays.1 ∈ gtb := (gk_4 (List.mem_of_getElem? (i := 169) rfl) rfl)
set_option maxRecDepth 100000 in
theorem mi_State_slipInto : Cond.instanceMethod y_State_slipInto.1 ∈ gtb := (gk_4 (List.mem_of_getElem? (i := 139) rfl) rfl)
set_option maxRecDepth 100000 in
theorem mv_State_slipInto : Cond.selects y_State_slipInto.1.cls y_State_slipInto.1 y_State_slipInto.1 ∈ gtb := (gk_4 (List.mem_of_getElem? (i := 140) rfl) rfl)
set_option maxRecDepth 100000 in
theorem mi_Tape_init : Cond.instanceMethod y_Tape_init.1 ∈ gtb := (gk_1 (List.mem_of_getElem? (i := 31) rfl) rfl)
set_option maxRecDepth 100000 in
theorem mi_Tape_byteAt : Cond.instanceMethod y_Tape_byteAt.1 ∈ gtb := (gk_3 (List.mem_of_getElem? (i := 53) rfl) rfl)
set_option maxRecDepth 100000 in
theorem mv_Tape_byteAt : Cond.selects y_Tape_byteAt.1.cls y_Tape_byteAt.1 y_Tape_byteAt.1 ∈ gtb := (gk_3 (List.mem_of_getElem? (i := 54) rfl) rfl)
set_option maxRecDepth 100000 in
theorem mi_Tape_write : Cond.instanceMethod y_Tape_write.1 ∈ gtb := (gk_3 (List.mem_of_getElem? (i := 27) rfl) rfl)
set_option maxRecDepth 100000 in
theorem mv_Tape_write : Cond.selects y_Tape_write.1.cls y_Tape_write.1 y_Tape_write.1 ∈ gtb := (gk_3 (List.mem_of_getElem? (i := 28) rfl) rfl)
set_option maxRecDepth 100000 in
theorem mi_Tokens_init : Cond.instanceMethod y_Tokens_init.1 ∈ gtb := (gk_1 (List.mem_of_getElem? (i := 53) rfl) rfl)
set_option maxRecDepth 100000 in
theorem ms_Tokens_behindBlanks : Cond.static y_Tokens_behindBlanks.1 ∈ gtb := (gk_3 (List.mem_of_getElem? (i := 50) rfl) rfl)
set_option maxRecDepth 100000 in
theorem mi_Tokens_cut : Cond.instanceMethod y_Tokens_cut.1 ∈ gtb := (gk_3 (List.mem_of_getElem? (i := 46) rfl) rfl)
set_option maxRecDepth 100000 in
theorem mv_Tokens_cut : Cond.selects y_Tokens_cut.1.cls y_Tokens_cut.1 y_Tokens_cut.1 ∈ gtb := (gk_3 (List.mem_of_getElem? (i := 47) rfl) rfl)
set_option maxRecDepth 100000 in
theorem mi_Tokens_cutDigits : Cond.instanceMethod y_Tokens_cutDigits.1 ∈ gtb := (gk_3 (List.mem_of_getElem? (i := 77) rfl) rfl)
set_option maxRecDepth 100000 in
theorem mv_Tokens_cutDigits : Cond.selects y_Tokens_cutDigits.1.cls y_Tokens_cutDigits.1 y_Tokens_cutDigits.1 ∈ gtb := gtb_of (List.mem_append_left _ (List.mem_of_getElem? (i := 4) rfl)) rfl
set_option maxRecDepth 100000 in
theorem mi_Tokens_cutLetters : Cond.instanceMethod y_Tokens_cutLetters.1 ∈ gtb := (gk_3 (List.mem_of_getElem? (i := 65) rfl) rfl)
set_option maxRecDepth 100000 in
theorem mv_Tokens_cutLetters : Cond.selects y_Tokens_cutLetters.1.cls y_Tokens_cutLetters.1 y_Tokens_cutLetters.1 ∈ gtb := gtb_of (List.mem_append_left _ (List.mem_of_getElem? (i := 1) rfl)) rfl
set_option maxRecDepth 100000 in
theorem mi_Tokens_cutOne : Cond.instanceMethod y_Tokens_cutOne.1 ∈ gtb := (gk_3 (List.mem_of_getElem? (i := 61) rfl) rfl)
set_option maxRecDepth 100000 in
theorem mv_Tokens_cutOne : Cond.selects y_Tokens_cutOne.1.cls y_Tokens_cutOne.1 y_Tokens_cutOne.1 ∈ gtb := gtb_of (List.mem_append_left _ (List.mem_of_getElem? (i := 0) rfl)) rfl
set_option maxRecDepth 100000 in
theorem ms_Tokens_isBlank : Cond.static y_Tokens_isBlank.1 ∈ gtb := (gk_3 (List.mem_of_getElem? (i := 57) rfl) rfl)
set_option maxRecDepth 100000 in
theorem ms_Tokens_isSign : Cond.static y_Tokens_isSign.1 ∈ gtb := (gk_3 (List.mem_of_getElem? (i := 81) rfl) rfl)
set_option maxRecDepth 100000 in
theorem mi_Tokens_kindOf : Cond.instanceMethod y_Tokens_kindOf.1 ∈ gtb := (gk_3 (List.mem_of_getElem? (i := 69) rfl) rfl)
set_option maxRecDepth 100000 in
theorem mv_Tokens_kindOf : Cond.selects y_Tokens_kindOf.1.cls y_Tokens_kindOf.1 y_Tokens_kindOf.1 ∈ gtb := gtb_of (List.mem_append_left _ (List.mem_of_getElem? (i := 2) rfl)) rfl
set_option maxRecDepth 100000 in
theorem mi_Tokens_set : Cond.instanceMethod y_Tokens_set.1 ∈ gtb := (gk_3 (List.mem_of_getElem? (i := 73) rfl) rfl)
set_option maxRecDepth 100000 in
theorem mv_Tokens_set : Cond.selects y_Tokens_set.1.cls y_Tokens_set.1 y_Tokens_set.1 ∈ gtb := gtb_of (List.mem_append_left _ (List.mem_of_getElem? (i := 3) rfl)) rfl
set_option maxRecDepth 100000 in
theorem mi_Tokens_valueAt : Cond.instanceMethod y_Tokens_valueAt.1 ∈ gtb := (gk_3 (List.mem_of_getElem? (i := 119) rfl) rfl)
set_option maxRecDepth 100000 in
theorem mv_Tokens_valueAt : Cond.selects y_Tokens_valueAt.1.cls y_Tokens_valueAt.1 y_Tokens_valueAt.1 ∈ gtb := (gk_3 (List.mem_of_getElem? (i := 120) rfl) rfl)
set_option maxRecDepth 100000 in
theorem ms_Tokens_withLetter : Cond.static y_Tokens_withLetter.1 ∈ gtb := (gk_1 (List.mem_of_getElem? (i := 106) rfl) rfl)
set_option maxRecDepth 100000 in
theorem mi_Told_init : Cond.instanceMethod y_Told_init.1 ∈ gtb := (gk_2 (List.mem_of_getElem? (i := 124) rfl) rfl)
set_option maxRecDepth 100000 in
theorem mi_Told_add : Cond.instanceMethod y_Told_add.1 ∈ gtb := (gk_5 (List.mem_of_getElem? (i := 92) rfl) rfl)
set_option maxRecDepth 100000 in
theorem mv_Told_add : Cond.selects y_Told_add.1.cls y_Told_add.1 y_Told_add.1 ∈ gtb := (gk_5 (List.mem_of_getElem? (i := 93) rfl) rfl)
set_option maxRecDepth 100000 in
theorem mi_Told_clear : Cond.instanceMethod y_Told_clear.1 ∈ gtb := (gk_3 (List.mem_of_getElem? (i := 237) rfl) rfl)
set_option maxRecDepth 100000 in
theorem mv_Told_clear : Cond.selects y_Told_clear.1.cls y_Told_clear.1 y_Told_clear.1 ∈ gtb := (gk_3 (List.mem_of_getElem? (i := 238) rfl) rfl)
set_option maxRecDepth 100000 in
theorem mi_Told_forceOf : Cond.instanceMethod y_Told_forceOf.1 ∈ gtb := (gk_5 (List.mem_of_getElem? (i := 123) rfl) rfl)
set_option maxRecDepth 100000 in
theorem mv_Told_forceOf : Cond.selects y_Told_forceOf.1.cls y_Told_forceOf.1 y_Told_forceOf.1 ∈ gtb := gtb_of (List.mem_append_left _ (List.mem_of_getElem? (i := 43) rfl)) rfl
set_option maxRecDepth 100000 in
theorem mi_Told_gather : Cond.instanceMethod y_Told_gather.1 ∈ gtb := (gk_5 (List.mem_of_getElem? (i := 105) rfl) rfl)
set_option maxRecDepth 100000 in
theorem mv_Told_gather : Cond.selects y_Told_gather.1.cls y_Told_gather.1 y_Told_gather.1 ∈ gtb := (gk_5 (List.mem_of_getElem? (i := 106) rfl) rfl)
set_option maxRecDepth 100000 in
theorem mi_Told_isAsKnown : Cond.instanceMethod y_Told_isAsKnown.1 ∈ gtb := (gk_5 (List.mem_of_getElem? (i := 118) rfl) rfl)
set_option maxRecDepth 100000 in
theorem mv_Told_isAsKnown : Cond.selects y_Told_isAsKnown.1.cls y_Told_isAsKnown.1 y_Told_isAsKnown.1 ∈ gtb := gtb_of (List.mem_append_left _ (List.mem_of_getElem? (i := 42) rfl)) rfl
set_option maxRecDepth 100000 in
theorem mi_Told_lay : Cond.instanceMethod y_Told_lay.1 ∈ gtb := (gk_5 (List.mem_of_getElem? (i := 110) rfl) rfl)
set_option maxRecDepth 100000 in
theorem mv_Told_lay : Cond.selects y_Told_lay.1.cls y_Told_lay.1 y_Told_lay.1 ∈ gtb := gtb_of (List.mem_append_left _ (List.mem_of_getElem? (i := 41) rfl)) rfl
set_option maxRecDepth 100000 in
theorem mi_Told_mostAlike : Cond.instanceMethod y_Told_mostAlike.1 ∈ gtb := (gk_5 (List.mem_of_getElem? (i := 144) rfl) rfl)
set_option maxRecDepth 100000 in
theorem mv_Told_mostAlike : Cond.selects y_Told_mostAlike.1.cls y_Told_mostAlike.1 y_Told_mostAlike.1 ∈ gtb := gtb_of (List.mem_append_left _ (List.mem_of_getElem? (i := 44) rfl)) rfl
set_option maxRecDepth 100000 in
theorem mi_Told_nextTaste : Cond.instanceMethod y_Told_nextTaste.1 ∈ gtb := (gk_5 (List.mem_of_getElem? (i := 139) rfl) rfl)
set_option maxRecDepth 100000 in
theorem mv_Told_nextTaste : Cond.selects y_Told_nextTaste.1.cls y_Told_nextTaste.1 y_Told_nextTaste.1 ∈ gtb := (gk_5 (List.mem_of_getElem? (i := 140) rfl) rfl)
set_option maxRecDepth 100000 in
theorem mi_Told_onlyDish : Cond.instanceMethod y_Told_onlyDish.1 ∈ gtb := (gk_5 (List.mem_of_getElem? (i := 131) rfl) rfl)
set_option maxRecDepth 100000 in
theorem mv_Told_onlyDish : Cond.selects y_Told_onlyDish.1.cls y_Told_onlyDish.1 y_Told_onlyDish.1 ∈ gtb := (gk_5 (List.mem_of_getElem? (i := 132) rfl) rfl)
set_option maxRecDepth 100000 in
theorem ms_Mod_appends : Cond.static y_Mod_appends.1 ∈ gtb := (gk_5 (List.mem_of_getElem? (i := 193) rfl) rfl)
set_option maxRecDepth 100000 in
theorem mi_Mod_asks : Cond.instanceMethod y_Mod_asks.1 ∈ gtb := (gk_7 (List.mem_of_getElem? (i := 100) rfl) rfl)
set_option maxRecDepth 100000 in
theorem mv_Mod_asks : Cond.selects y_Mod_asks.1.cls y_Mod_asks.1 y_Mod_asks.1 ∈ gtb := gtb_of (List.mem_append_left _ (List.mem_of_getElem? (i := 80) rfl)) rfl
set_option maxRecDepth 100000 in
theorem mi_Mod_begins : Cond.instanceMethod y_Mod_begins.1 ∈ gtb := (gk_5 (List.mem_of_getElem? (i := 198) rfl) rfl)
set_option maxRecDepth 100000 in
theorem mv_Mod_begins : Cond.selects y_Mod_begins.1.cls y_Mod_begins.1 y_Mod_begins.1 ∈ gtb := gtb_of (List.mem_append_left _ (List.mem_of_getElem? (i := 46) rfl)) rfl
set_option maxRecDepth 100000 in
theorem ms_Mod_bits : Cond.static y_Mod_bits.1 ∈ gtb := (gk_7 (List.mem_of_getElem? (i := 232) rfl) rfl)
set_option maxRecDepth 100000 in
theorem mi_Mod_boundBy : Cond.instanceMethod y_Mod_boundBy.1 ∈ gtb := (gk_7 (List.mem_of_getElem? (i := 131) rfl) rfl)
set_option maxRecDepth 100000 in
theorem mv_Mod_boundBy : Cond.selects y_Mod_boundBy.1.cls y_Mod_boundBy.1 y_Mod_boundBy.1 ∈ gtb := gtb_of (List.mem_append_left _ (List.mem_of_getElem? (i := 85) rfl)) rfl
set_option maxRecDepth 100000 in
theorem mi_Mod_boundNow : Cond.instanceMethod y_Mod_boundNow.1 ∈ gtb := (gk_7 (List.mem_of_getElem? (i := 127) rfl) rfl)
set_option maxRecDepth 100000 in
theorem mv_Mod_boundNow : Cond.selects y_Mod_boundNow.1.cls y_Mod_boundNow.1 y_Mod_boundNow.1 ∈ gtb := gtb_of (List.mem_append_left _ (List.mem_of_getElem? (i := 84) rfl)) rfl
set_option maxRecDepth 100000 in
theorem mi_Mod_bounded : Cond.instanceMethod y_Mod_bounded.1 ∈ gtb := (gk_7 (List.mem_of_getElem? (i := 13) rfl) rfl)
set_option maxRecDepth 100000 in
theorem mv_Mod_bounded : Cond.selects y_Mod_bounded.1.cls y_Mod_bounded.1 y_Mod_bounded.1 ∈ gtb := gtb_of (List.mem_append_left _ (List.mem_of_getElem? (i := 62) rfl)) rfl
set_option maxRecDepth 100000 in
theorem mi_Mod_byteAt : Cond.instanceMethod y_Mod_byteAt.1 ∈ gtb := (gk_6 (List.mem_of_getElem? (i := 199) rfl) rfl)
set_option maxRecDepth 100000 in
theorem mv_Mod_byteAt : Cond.selects y_Mod_byteAt.1.cls y_Mod_byteAt.1 y_Mod_byteAt.1 ∈ gtb := gtb_of (List.mem_append_left _ (List.mem_of_getElem? (i := 50) rfl)) rfl
set_option maxRecDepth 100000 in
theorem mi_Mod_comesOut : Cond.instanceMethod y_Mod_comesOut.1 ∈ gtb := (gk_7 (List.mem_of_getElem? (i := 45) rfl) rfl)
set_option maxRecDepth 100000 in
theorem mv_Mod_comesOut : Cond.selects y_Mod_comesOut.1.cls y_Mod_comesOut.1 y_Mod_comesOut.1 ∈ gtb := gtb_of (List.mem_append_left _ (List.mem_of_getElem? (i := 70) rfl)) rfl
set_option maxRecDepth 100000 in
theorem mi_Mod_cooks : Cond.instanceMethod y_Mod_cooks.1 ∈ gtb := (gk_7 (List.mem_of_getElem? (i := 155) rfl) rfl)
set_option maxRecDepth 100000 in
theorem mv_Mod_cooks : Cond.selects y_Mod_cooks.1.cls y_Mod_cooks.1 y_Mod_cooks.1 ∈ gtb := gtb_of (List.mem_append_left _ (List.mem_of_getElem? (i := 89) rfl)) rfl
set_option maxRecDepth 100000 in
theorem mi_Mod_copies : Cond.instanceMethod y_Mod_copies.1 ∈ gtb := (gk_7 (List.mem_of_getElem? (i := 76) rfl) rfl)
set_option maxRecDepth 100000 in
theorem mv_Mod_copies : Cond.selects y_Mod_copies.1.cls y_Mod_copies.1 y_Mod_copies.1 ∈ gtb := gtb_of (List.mem_append_left _ (List.mem_of_getElem? (i := 74) rfl)) rfl
set_option maxRecDepth 100000 in
theorem mi_Mod_cut : Cond.instanceMethod y_Mod_cut.1 ∈ gtb := (gk_6 (List.mem_of_getElem? (i := 195) rfl) rfl)
set_option maxRecDepth 100000 in
theorem mv_Mod_cut : Cond.selects y_Mod_cut.1.cls y_Mod_cut.1 y_Mod_cut.1 ∈ gtb := gtb_of (List.mem_append_left _ (List.mem_of_getElem? (i := 49) rfl)) rfl
set_option maxRecDepth 100000 in
theorem mi_Mod_dayGoes : Cond.instanceMethod y_Mod_dayGoes.1 ∈ gtb := (gk_7 (List.mem_of_getElem? (i := 187) rfl) rfl)
set_option maxRecDepth 100000 in
theorem mv_Mod_dayGoes : Cond.selects y_Mod_dayGoes.1.cls y_Mod_dayGoes.1 y_Mod_dayGoes.1 ∈ gtb := gtb_of (List.mem_append_left _ (List.mem_of_getElem? (i := 94) rfl)) rfl
set_option maxRecDepth 100000 in
theorem mi_Mod_eatsDish : Cond.instanceMethod y_Mod_eatsDish.1 ∈ gtb := (gk_7 (List.mem_of_getElem? (i := 229) rfl) rfl)
set_option maxRecDepth 100000 in
theorem mv_Mod_eatsDish : Cond.selects y_Mod_eatsDish.1.cls y_Mod_eatsDish.1 y_Mod_eatsDish.1 ∈ gtb := gtb_of (List.mem_append_left _ (List.mem_of_getElem? (i := 99) rfl)) rfl
set_option maxRecDepth 100000 in
theorem mi_Mod_emit : Cond.instanceMethod y_Mod_emit.1 ∈ gtb := (gk_7 (List.mem_of_getElem? (i := 41) rfl) rfl)
set_option maxRecDepth 100000 in
theorem mv_Mod_emit : Cond.selects y_Mod_emit.1.cls y_Mod_emit.1 y_Mod_emit.1 ∈ gtb := gtb_of (List.mem_append_left _ (List.mem_of_getElem? (i := 69) rfl)) rfl
set_option maxRecDepth 100000 in
theorem mi_Mod_ends : Cond.instanceMethod y_Mod_ends.1 ∈ gtb := (gk_7 (List.mem_of_getElem? (i := 17) rfl) rfl)
set_option maxRecDepth 100000 in
theorem mv_Mod_ends : Cond.selects y_Mod_ends.1.cls y_Mod_ends.1 y_Mod_ends.1 ∈ gtb := gtb_of (List.mem_append_left _ (List.mem_of_getElem? (i := 63) rfl)) rfl
set_option maxRecDepth 100000 in
theorem mi_Mod_expression : Cond.instanceMethod y_Mod_expression.1 ∈ gtb := (gk_7 (List.mem_of_getElem? (i := 33) rfl) rfl)
set_option maxRecDepth 100000 in
theorem mv_Mod_expression : Cond.selects y_Mod_expression.1.cls y_Mod_expression.1 y_Mod_expression.1 ∈ gtb := gtb_of (List.mem_append_left _ (List.mem_of_getElem? (i := 67) rfl)) rfl
set_option maxRecDepth 100000 in
theorem mi_Mod_fail : Cond.instanceMethod y_Mod_fail.1 ∈ gtb := (gk_6 (List.mem_of_getElem? (i := 229) rfl) rfl)
set_option maxRecDepth 100000 in
theorem mv_Mod_fail : Cond.selects y_Mod_fail.1.cls y_Mod_fail.1 y_Mod_fail.1 ∈ gtb := gtb_of (List.mem_append_left _ (List.mem_of_getElem? (i := 56) rfl)) rfl
set_option maxRecDepth 100000 in
theorem mi_Mod_fillsPot : Cond.instanceMethod y_Mod_fillsPot.1 ∈ gtb := (gk_7 (List.mem_of_getElem? (i := 80) rfl) rfl)
set_option maxRecDepth 100000 in
theorem mv_Mod_fillsPot : Cond.selects y_Mod_fillsPot.1.cls y_Mod_fillsPot.1 y_Mod_fillsPot.1 ∈ gtb := gtb_of (List.mem_append_left _ (List.mem_of_getElem? (i := 75) rfl)) rfl
set_option maxRecDepth 100000 in
theorem mi_Mod_fillsWay : Cond.instanceMethod y_Mod_fillsWay.1 ∈ gtb := (gk_8 (List.mem_of_getElem? (i := 54) rfl) rfl)
set_option maxRecDepth 100000 in
theorem mv_Mod_fillsWay : Cond.selects y_Mod_fillsWay.1.cls y_Mod_fillsWay.1 y_Mod_fillsWay.1 ∈ gtb := gtb_of (List.mem_append_left _ (List.mem_of_getElem? (i := 102) rfl)) rfl
set_option maxRecDepth 100000 in
theorem mi_Mod_forceBy : Cond.instanceMethod y_Mod_forceBy.1 ∈ gtb := (gk_7 (List.mem_of_getElem? (i := 92) rfl) rfl)
set_option maxRecDepth 100000 in
theorem mv_Mod_forceBy : Cond.selects y_Mod_forceBy.1.cls y_Mod_forceBy.1 y_Mod_forceBy.1 ∈ gtb := gtb_of (List.mem_append_left _ (List.mem_of_getElem? (i := 78) rfl)) rfl
set_option maxRecDepth 100000 in
theorem mi_Mod_freeBits : Cond.instanceMethod y_Mod_freeBits.1 ∈ gtb := (gk_7 (List.mem_of_getElem? (i := 175) rfl) rfl)
set_option maxRecDepth 100000 in
theorem mv_Mod_freeBits : Cond.selects y_Mod_freeBits.1.cls y_Mod_freeBits.1 y_Mod_freeBits.1 ∈ gtb := gtb_of (List.mem_append_left _ (List.mem_of_getElem? (i := 92) rfl)) rfl
set_option maxRecDepth 100000 in
theorem mi_Mod_freestOf : Cond.instanceMethod y_Mod_freestOf.1 ∈ gtb := (gk_7 (List.mem_of_getElem? (i := 225) rfl) rfl)
set_option maxRecDepth 100000 in
theorem mv_Mod_freestOf : Cond.selects y_Mod_freestOf.1.cls y_Mod_freestOf.1 y_Mod_freestOf.1 ∈ gtb := gtb_of (List.mem_append_left _ (List.mem_of_getElem? (i := 98) rfl)) rfl
set_option maxRecDepth 100000 in
theorem mi_Mod_goes : Cond.instanceMethod y_Mod_goes.1 ∈ gtb := (gk_7 (List.mem_of_getElem? (i := 183) rfl) rfl)
set_option maxRecDepth 100000 in
theorem mv_Mod_goes : Cond.selects y_Mod_goes.1.cls y_Mod_goes.1 y_Mod_goes.1 ∈ gtb := gtb_of (List.mem_append_left _ (List.mem_of_getElem? (i := 93) rfl)) rfl
set_option maxRecDepth 100000 in
theorem mi_Mod_goesOn : Cond.instanceMethod y_Mod_goesOn.1 ∈ gtb := (gk_6 (List.mem_of_getElem? (i := 233) rfl) rfl)
set_option maxRecDepth 100000 in
theorem mv_Mod_goesOn : Cond.selects y_Mod_goesOn.1.cls y_Mod_goesOn.1 y_Mod_goesOn.1 ∈ gtb := gtb_of (List.mem_append_left _ (List.mem_of_getElem? (i := 57) rfl)) rfl
set_option maxRecDepth 100000 in
theorem ms_Mod_held : Cond.static y_Mod_held.1 ∈ gtb := (gk_7 (List.mem_of_getElem? (i := 111) rfl) rfl)
set_option maxRecDepth 100000 in
theorem ms_Mod_in : Cond.static y_Mod_in.1 ∈ gtb := (gk_7 (List.mem_of_getElem? (i := 64) rfl) rfl)
set_option maxRecDepth 100000 in
theorem mi_Mod_is : Cond.instanceMethod y_Mod_is.1 ∈ gtb := (gk_6 (List.mem_of_getElem? (i := 217) rfl) rfl)
set_option maxRecDepth 100000 in
theorem mv_Mod_is : Cond.selects y_Mod_is.1.cls y_Mod_is.1 y_Mod_is.1 ∈ gtb := gtb_of (List.mem_append_left _ (List.mem_of_getElem? (i := 53) rfl)) rfl
set_option maxRecDepth 100000 in
theorem mi_Mod_isAsKnown : Cond.instanceMethod y_Mod_isAsKnown.1 ∈ gtb := (gk_8 (List.mem_of_getElem? (i := 58) rfl) rfl)
set_option maxRecDepth 100000 in
theorem mv_Mod_isAsKnown : Cond.selects y_Mod_isAsKnown.1.cls y_Mod_isAsKnown.1 y_Mod_isAsKnown.1 ∈ gtb := gtb_of (List.mem_append_left _ (List.mem_of_getElem? (i := 103) rfl)) rfl
set_option maxRecDepth 100000 in
theorem mi_Mod_isBetter : Cond.instanceMethod y_Mod_isBetter.1 ∈ gtb := (gk_7 (List.mem_of_getElem? (i := 210) rfl) rfl)
set_option maxRecDepth 100000 in
theorem mv_Mod_isBetter : Cond.selects y_Mod_isBetter.1.cls y_Mod_isBetter.1 y_Mod_isBetter.1 ∈ gtb := gtb_of (List.mem_append_left _ (List.mem_of_getElem? (i := 97) rfl)) rfl
set_option maxRecDepth 100000 in
theorem mi_Mod_isDeed : Cond.instanceMethod y_Mod_isDeed.1 ∈ gtb := (gk_7 (List.mem_of_getElem? (i := 139) rfl) rfl)
set_option maxRecDepth 100000 in
theorem mv_Mod_isDeed : Cond.selects y_Mod_isDeed.1.cls y_Mod_isDeed.1 y_Mod_isDeed.1 ∈ gtb := gtb_of (List.mem_append_left _ (List.mem_of_getElem? (i := 86) rfl)) rfl
set_option maxRecDepth 100000 in
theorem ms_Mod_isDigit : Cond.static y_Mod_isDigit.1 ∈ gtb := (gk_6 (List.mem_of_getElem? (i := 209) rfl) rfl)
set_option maxRecDepth 100000 in
theorem mi_Mod_isDish : Cond.instanceMethod y_Mod_isDish.1 ∈ gtb := (gk_7 (List.mem_of_getElem? (i := 72) rfl) rfl)
set_option maxRecDepth 100000 in
theorem mv_Mod_isDish : Cond.selects y_Mod_isDish.1.cls y_Mod_isDish.1 y_Mod_isDish.1 ∈ gtb := gtb_of (List.mem_append_left _ (List.mem_of_getElem? (i := 73) rfl)) rfl
set_option maxRecDepth 100000 in
theorem mi_Mod_isFood : Cond.instanceMethod y_Mod_isFood.1 ∈ gtb := (gk_7 (List.mem_of_getElem? (i := 61) rfl) rfl)
set_option maxRecDepth 100000 in
theorem mv_Mod_isFood : Cond.selects y_Mod_isFood.1.cls y_Mod_isFood.1 y_Mod_isFood.1 ∈ gtb := gtb_of (List.mem_append_left _ (List.mem_of_getElem? (i := 72) rfl)) rfl
set_option maxRecDepth 100000 in
theorem mi_Mod_isFree : Cond.instanceMethod y_Mod_isFree.1 ∈ gtb := (gk_7 (List.mem_of_getElem? (i := 143) rfl) rfl)
set_option maxRecDepth 100000 in
theorem mv_Mod_isFree : Cond.selects y_Mod_isFree.1.cls y_Mod_isFree.1 y_Mod_isFree.1 ∈ gtb := gtb_of (List.mem_append_left _ (List.mem_of_getElem? (i := 87) rfl)) rfl
set_option maxRecDepth 100000 in
theorem mi_Mod_isGuest : Cond.instanceMethod y_Mod_isGuest.1 ∈ gtb := (gk_7 (List.mem_of_getElem? (i := 123) rfl) rfl)
set_option maxRecDepth 100000 in
theorem mv_Mod_isGuest : Cond.selects y_Mod_isGuest.1.cls y_Mod_isGuest.1 y_Mod_isGuest.1 ∈ gtb := gtb_of (List.mem_append_left _ (List.mem_of_getElem? (i := 83) rfl)) rfl
set_option maxRecDepth 100000 in
theorem mi_Mod_isInStore : Cond.instanceMethod y_Mod_isInStore.1 ∈ gtb := (gk_7 (List.mem_of_getElem? (i := 151) rfl) rfl)
set_option maxRecDepth 100000 in
theorem mv_Mod_isInStore : Cond.selects y_Mod_isInStore.1.cls y_Mod_isInStore.1 y_Mod_isInStore.1 ∈ gtb := gtb_of (List.mem_append_left _ (List.mem_of_getElem? (i := 88) rfl)) rfl
set_option maxRecDepth 100000 in
theorem ms_Mod_isLetter : Cond.static y_Mod_isLetter.1 ∈ gtb := (gk_6 (List.mem_of_getElem? (i := 206) rfl) rfl)
set_option maxRecDepth 100000 in
theorem ms_Mod_isLong : Cond.static y_Mod_isLong.1 ∈ gtb := (gk_8 (List.mem_of_getElem? (i := 26) rfl) rfl)
set_option maxRecDepth 100000 in
theorem mi_Mod_isPot : Cond.instanceMethod y_Mod_isPot.1 ∈ gtb := (gk_7 (List.mem_of_getElem? (i := 202) rfl) rfl)
set_option maxRecDepth 100000 in
theorem mv_Mod_isPot : Cond.selects y_Mod_isPot.1.cls y_Mod_isPot.1 y_Mod_isPot.1 ∈ gtb := gtb_of (List.mem_append_left _ (List.mem_of_getElem? (i := 95) rfl)) rfl
set_option maxRecDepth 100000 in
theorem mi_Mod_isWay : Cond.instanceMethod y_Mod_isWay.1 ∈ gtb := (gk_8 (List.mem_of_getElem? (i := 50) rfl) rfl)
set_option maxRecDepth 100000 in
theorem mv_Mod_isWay : Cond.selects y_Mod_isWay.1.cls y_Mod_isWay.1 y_Mod_isWay.1 ∈ gtb := gtb_of (List.mem_append_left _ (List.mem_of_getElem? (i := 101) rfl)) rfl
set_option maxRecDepth 100000 in
theorem mi_Mod_keepsRow : Cond.instanceMethod y_Mod_keepsRow.1 ∈ gtb := (gk_5 (List.mem_of_getElem? (i := 202) rfl) rfl)
set_option maxRecDepth 100000 in
theorem mv_Mod_keepsRow : Cond.selects y_Mod_keepsRow.1.cls y_Mod_keepsRow.1 y_Mod_keepsRow.1 ∈ gtb := gtb_of (List.mem_append_left _ (List.mem_of_getElem? (i := 47) rfl)) rfl
set_option maxRecDepth 100000 in
theorem mi_Mod_knownFood : Cond.instanceMethod y_Mod_knownFood.1 ∈ gtb := (gk_7 (List.mem_of_getElem? (i := 25) rfl) rfl)
set_option maxRecDepth 100000 in
theorem mv_Mod_knownFood : Cond.selects y_Mod_knownFood.1.cls y_Mod_knownFood.1 y_Mod_knownFood.1 ∈ gtb := gtb_of (List.mem_append_left _ (List.mem_of_getElem? (i := 65) rfl)) rfl
set_option maxRecDepth 100000 in
theorem mi_Mod_lawTells : Cond.instanceMethod y_Mod_lawTells.1 ∈ gtb := (gk_7 (List.mem_of_getElem? (i := 104) rfl) rfl)
set_option maxRecDepth 100000 in
theorem mv_Mod_lawTells : Cond.selects y_Mod_lawTells.1.cls y_Mod_lawTells.1 y_Mod_lawTells.1 ∈ gtb := gtb_of (List.mem_append_left _ (List.mem_of_getElem? (i := 81) rfl)) rfl
set_option maxRecDepth 100000 in
theorem mi_Mod_looks : Cond.instanceMethod y_Mod_looks.1 ∈ gtb := (gk_7 (List.mem_of_getElem? (i := 96) rfl) rfl)
set_option maxRecDepth 100000 in
theorem mv_Mod_looks : Cond.selects y_Mod_looks.1.cls y_Mod_looks.1 y_Mod_looks.1 ∈ gtb := gtb_of (List.mem_append_left _ (List.mem_of_getElem? (i := 79) rfl)) rfl
set_option maxRecDepth 100000 in
theorem mi_Mod_lotOf : Cond.instanceMethod y_Mod_lotOf.1 ∈ gtb := (gk_7 (List.mem_of_getElem? (i := 159) rfl) rfl)
set_option maxRecDepth 100000 in
theorem mv_Mod_lotOf : Cond.selects y_Mod_lotOf.1.cls y_Mod_lotOf.1 y_Mod_lotOf.1 ∈ gtb := gtb_of (List.mem_append_left _ (List.mem_of_getElem? (i := 90) rfl)) rfl
set_option maxRecDepth 100000 in
theorem mi_Mod_mealsBy : Cond.instanceMethod y_Mod_mealsBy.1 ∈ gtb := (gk_8 (List.mem_of_getElem? (i := 11) rfl) rfl)
set_option maxRecDepth 100000 in
theorem mv_Mod_mealsBy : Cond.selects y_Mod_mealsBy.1.cls y_Mod_mealsBy.1 y_Mod_mealsBy.1 ∈ gtb := gtb_of (List.mem_append_left _ (List.mem_of_getElem? (i := 100) rfl)) rfl
set_option maxRecDepth 100000 in
theorem ms_Mod_mixed : Cond.static y_Mod_mixed.1 ∈ gtb := (gk_7 (List.mem_of_getElem? (i := 162) rfl) rfl)
set_option maxRecDepth 100000 in
theorem mi_Mod_must : Cond.instanceMethod y_Mod_must.1 ∈ gtb := (gk_7 (List.mem_of_getElem? (i := 5) rfl) rfl)
set_option maxRecDepth 100000 in
theorem mv_Mod_must : Cond.selects y_Mod_must.1.cls y_Mod_must.1 y_Mod_must.1 ∈ gtb := gtb_of (List.mem_append_left _ (List.mem_of_getElem? (i := 60) rfl)) rfl
set_option maxRecDepth 100000 in
theorem mi_Mod_named : Cond.instanceMethod y_Mod_named.1 ∈ gtb := (gk_7 (List.mem_of_getElem? (i := 1) rfl) rfl)
set_option maxRecDepth 100000 in
theorem mv_Mod_named : Cond.selects y_Mod_named.1.cls y_Mod_named.1 y_Mod_named.1 ∈ gtb := gtb_of (List.mem_append_left _ (List.mem_of_getElem? (i := 59) rfl)) rfl
set_option maxRecDepth 100000 in
theorem ms_Mod_off : Cond.static y_Mod_off.1 ∈ gtb := (gk_7 (List.mem_of_getElem? (i := 217) rfl) rfl)
set_option maxRecDepth 100000 in
theorem mi_Mod_plain : Cond.instanceMethod y_Mod_plain.1 ∈ gtb := (gk_5 (List.mem_of_getElem? (i := 187) rfl) rfl)
set_option maxRecDepth 100000 in
theorem mv_Mod_plain : Cond.selects y_Mod_plain.1.cls y_Mod_plain.1 y_Mod_plain.1 ∈ gtb := gtb_of (List.mem_append_left _ (List.mem_of_getElem? (i := 45) rfl)) rfl
set_option maxRecDepth 100000 in
theorem mi_Mod_potAt : Cond.instanceMethod y_Mod_potAt.1 ∈ gtb := (gk_7 (List.mem_of_getElem? (i := 206) rfl) rfl)
set_option maxRecDepth 100000 in
theorem mv_Mod_potAt : Cond.selects y_Mod_potAt.1.cls y_Mod_potAt.1 y_Mod_potAt.1 ∈ gtb := gtb_of (List.mem_append_left _ (List.mem_of_getElem? (i := 96) rfl)) rfl
set_option maxRecDepth 100000 in
theorem mi_Mod_potMany : Cond.instanceMethod y_Mod_potMany.1 ∈ gtb := (gk_7 (List.mem_of_getElem? (i := 84) rfl) rfl)
set_option maxRecDepth 100000 in
theorem mv_Mod_potMany : Cond.selects y_Mod_potMany.1.cls y_Mod_potMany.1 y_Mod_potMany.1 ∈ gtb := gtb_of (List.mem_append_left _ (List.mem_of_getElem? (i := 76) rfl)) rfl
set_option maxRecDepth 100000 in
theorem mi_Mod_potPrice : Cond.instanceMethod y_Mod_potPrice.1 ∈ gtb := (gk_7 (List.mem_of_getElem? (i := 88) rfl) rfl)
set_option maxRecDepth 100000 in
theorem mv_Mod_potPrice : Cond.selects y_Mod_potPrice.1.cls y_Mod_potPrice.1 y_Mod_potPrice.1 ∈ gtb := gtb_of (List.mem_append_left _ (List.mem_of_getElem? (i := 77) rfl)) rfl
set_option maxRecDepth 100000 in
theorem mi_Mod_put : Cond.instanceMethod y_Mod_put.1 ∈ gtb := (gk_6 (List.mem_of_getElem? (i := 183) rfl) rfl)
set_option maxRecDepth 100000 in
theorem mv_Mod_put : Cond.selects y_Mod_put.1.cls y_Mod_put.1 y_Mod_put.1 ∈ gtb := gtb_of (List.mem_append_left _ (List.mem_of_getElem? (i := 48) rfl)) rfl
set_option maxRecDepth 100000 in
theorem mi_Mod_records : Cond.instanceMethod y_Mod_records.1 ∈ gtb := (gk_7 (List.mem_of_getElem? (i := 167) rfl) rfl)
set_option maxRecDepth 100000 in
theorem mv_Mod_records : Cond.selects y_Mod_records.1.cls y_Mod_records.1 y_Mod_records.1 ∈ gtb := gtb_of (List.mem_append_left _ (List.mem_of_getElem? (i := 91) rfl)) rfl
set_option maxRecDepth 100000 in
theorem mi_Mod_roomFor : Cond.instanceMethod y_Mod_roomFor.1 ∈ gtb := (gk_6 (List.mem_of_getElem? (i := 225) rfl) rfl)
set_option maxRecDepth 100000 in
theorem mv_Mod_roomFor : Cond.selects y_Mod_roomFor.1.cls y_Mod_roomFor.1 y_Mod_roomFor.1 ∈ gtb := gtb_of (List.mem_append_left _ (List.mem_of_getElem? (i := 55) rfl)) rfl
set_option maxRecDepth 100000 in
theorem ms_Mod_sevens : Cond.static y_Mod_sevens.1 ∈ gtb := (gk_7 (List.mem_of_getElem? (i := 198) rfl) rfl)
set_option maxRecDepth 100000 in
theorem mi_Mod_sign : Cond.instanceMethod y_Mod_sign.1 ∈ gtb := (gk_6 (List.mem_of_getElem? (i := 213) rfl) rfl)
set_option maxRecDepth 100000 in
theorem mv_Mod_sign : Cond.selects y_Mod_sign.1.cls y_Mod_sign.1 y_Mod_sign.1 ∈ gtb := gtb_of (List.mem_append_left _ (List.mem_of_getElem? (i := 52) rfl)) rfl
set_option maxRecDepth 100000 in
theorem ms_Mod_sixes : Cond.static y_Mod_sixes.1 ∈ gtb := (gk_8 (List.mem_of_getElem? (i := 7) rfl) rfl)
set_option maxRecDepth 100000 in
theorem mi_Mod_tellDish : Cond.instanceMethod y_Mod_tellDish.1 ∈ gtb := (gk_7 (List.mem_of_getElem? (i := 21) rfl) rfl)
set_option maxRecDepth 100000 in
theorem mv_Mod_tellDish : Cond.selects y_Mod_tellDish.1.cls y_Mod_tellDish.1 y_Mod_tellDish.1 ∈ gtb := gtb_of (List.mem_append_left _ (List.mem_of_getElem? (i := 64) rfl)) rfl
set_option maxRecDepth 100000 in
theorem mi_Mod_tellFood : Cond.instanceMethod y_Mod_tellFood.1 ∈ gtb := (gk_6 (List.mem_of_getElem? (i := 237) rfl) rfl)
set_option maxRecDepth 100000 in
theorem mv_Mod_tellFood : Cond.selects y_Mod_tellFood.1.cls y_Mod_tellFood.1 y_Mod_tellFood.1 ∈ gtb := gtb_of (List.mem_append_left _ (List.mem_of_getElem? (i := 58) rfl)) rfl
set_option maxRecDepth 100000 in
theorem mi_Mod_tellLaw : Cond.instanceMethod y_Mod_tellLaw.1 ∈ gtb := (gk_7 (List.mem_of_getElem? (i := 29) rfl) rfl)
set_option maxRecDepth 100000 in
theorem mv_Mod_tellLaw : Cond.selects y_Mod_tellLaw.1.cls y_Mod_tellLaw.1 y_Mod_tellLaw.1 ∈ gtb := gtb_of (List.mem_append_left _ (List.mem_of_getElem? (i := 66) rfl)) rfl
set_option maxRecDepth 100000 in
theorem mi_Mod_tellOne : Cond.instanceMethod y_Mod_tellOne.1 ∈ gtb := (gk_6 (List.mem_of_getElem? (i := 221) rfl) rfl)
set_option maxRecDepth 100000 in
theorem mv_Mod_tellOne : Cond.selects y_Mod_tellOne.1.cls y_Mod_tellOne.1 y_Mod_tellOne.1 ∈ gtb := gtb_of (List.mem_append_left _ (List.mem_of_getElem? (i := 54) rfl)) rfl
set_option maxRecDepth 100000 in
theorem mi_Mod_term : Cond.instanceMethod y_Mod_term.1 ∈ gtb := (gk_7 (List.mem_of_getElem? (i := 49) rfl) rfl)
set_option maxRecDepth 100000 in
theorem mv_Mod_term : Cond.selects y_Mod_term.1.cls y_Mod_term.1 y_Mod_term.1 ∈ gtb := gtb_of (List.mem_append_left _ (List.mem_of_getElem? (i := 71) rfl)) rfl
set_option maxRecDepth 100000 in
theorem mi_Mod_termOf : Cond.instanceMethod y_Mod_termOf.1 ∈ gtb := (gk_7 (List.mem_of_getElem? (i := 108) rfl) rfl)
set_option maxRecDepth 100000 in
theorem mv_Mod_termOf : Cond.selects y_Mod_termOf.1.cls y_Mod_termOf.1 y_Mod_termOf.1 ∈ gtb := gtb_of (List.mem_append_left _ (List.mem_of_getElem? (i := 82) rfl)) rfl
set_option maxRecDepth 100000 in
theorem mi_Mod_token : Cond.instanceMethod y_Mod_token.1 ∈ gtb := (gk_6 (List.mem_of_getElem? (i := 203) rfl) rfl)
set_option maxRecDepth 100000 in
theorem mv_Mod_token : Cond.selects y_Mod_token.1.cls y_Mod_token.1 y_Mod_token.1 ∈ gtb := gtb_of (List.mem_append_left _ (List.mem_of_getElem? (i := 51) rfl)) rfl
set_option maxRecDepth 100000 in
theorem mi_Mod_unit : Cond.instanceMethod y_Mod_unit.1 ∈ gtb := (gk_7 (List.mem_of_getElem? (i := 37) rfl) rfl)
set_option maxRecDepth 100000 in
theorem mv_Mod_unit : Cond.selects y_Mod_unit.1.cls y_Mod_unit.1 y_Mod_unit.1 ∈ gtb := gtb_of (List.mem_append_left _ (List.mem_of_getElem? (i := 68) rfl)) rfl
set_option maxRecDepth 100000 in
theorem ms_Mod_word : Cond.static y_Mod_word.1 ∈ gtb := (gk_5 (List.mem_of_getElem? (i := 190) rfl) rfl)
set_option maxRecDepth 100000 in
theorem mi_Mod_wrong : Cond.instanceMethod y_Mod_wrong.1 ∈ gtb := (gk_7 (List.mem_of_getElem? (i := 9) rfl) rfl)
set_option maxRecDepth 100000 in
theorem mv_Mod_wrong : Cond.selects y_Mod_wrong.1.cls y_Mod_wrong.1 y_Mod_wrong.1 ∈ gtb := gtb_of (List.mem_append_left _ (List.mem_of_getElem? (i := 61) rfl)) rfl
set_option maxRecDepth 100000 in
theorem ms_Int_bitCount : Cond.static y_Int_bitCount.1 ∈ gtb := (gk_5 (List.mem_of_getElem? (i := 15) rfl) rfl)
set_option maxRecDepth 100000 in
theorem ml_Main_3 : Cond.methodLink "CookedLaw" 3 Lib.objectInit ∈ gtb := (gk_1 (List.mem_of_getElem? (i := 25) rfl) rfl)
set_option maxRecDepth 100000 in
theorem mm_Main_238 : Cond.methodLink "CookedLaw" 238 Lib.Math.abs.name ∈ gtb ∧ Cond.static Lib.Math.abs.name ∈ gtb ∧ Cond.initialized "java/lang/Math" ∈ gtb ∧ Cond.code Lib.Math.abs.name Lib.Math.abs.code 1 (some .int) ∈ gtb := ⟨(gk_4 (List.mem_of_getElem? (i := 231) rfl) rfl), (gk_4 (List.mem_of_getElem? (i := 232) rfl) rfl), (gk_1 (List.mem_of_getElem? (i := 18) rfl) rfl), (gk_4 (List.mem_of_getElem? (i := 233) rfl) rfl)⟩
set_option maxRecDepth 100000 in
theorem mm_Main_313 : Cond.methodLink "CookedLaw" 313 Lib.Math.min.name ∈ gtb ∧ Cond.static Lib.Math.min.name ∈ gtb ∧ Cond.initialized "java/lang/Math" ∈ gtb ∧ Cond.code Lib.Math.min.name Lib.Math.min.code 2 (some .int) ∈ gtb := ⟨(gk_4 (List.mem_of_getElem? (i := 48) rfl) rfl), (gk_4 (List.mem_of_getElem? (i := 49) rfl) rfl), (gk_1 (List.mem_of_getElem? (i := 18) rfl) rfl), (gk_4 (List.mem_of_getElem? (i := 50) rfl) rfl)⟩
set_option maxRecDepth 100000 in
theorem mm_Main_316 : Cond.methodLink "CookedLaw" 316 Lib.Math.max.name ∈ gtb ∧ Cond.static Lib.Math.max.name ∈ gtb ∧ Cond.initialized "java/lang/Math" ∈ gtb ∧ Cond.code Lib.Math.max.name Lib.Math.max.code 2 (some .int) ∈ gtb := ⟨(gk_4 (List.mem_of_getElem? (i := 51) rfl) rfl), (gk_4 (List.mem_of_getElem? (i := 52) rfl) rfl), (gk_1 (List.mem_of_getElem? (i := 18) rfl) rfl), (gk_4 (List.mem_of_getElem? (i := 53) rfl) rfl)⟩
set_option maxRecDepth 100000 in
theorem ml_Land_3 : Cond.methodLink "CookedLaw$Land" 3 Lib.objectInit ∈ gtb := (gk_1 (List.mem_of_getElem? (i := 168) rfl) rfl)
set_option maxRecDepth 100000 in
theorem ml_Law_5 : Cond.methodLink "CookedLaw$Law" 5 Lib.objectInit ∈ gtb := (gk_1 (List.mem_of_getElem? (i := 174) rfl) rfl)
set_option maxRecDepth 100000 in
theorem ml_MenuSearch_3 : Cond.methodLink "CookedLaw$MenuSearch" 3 Lib.objectInit ∈ gtb := (gk_2 (List.mem_of_getElem? (i := 205) rfl) rfl)
set_option maxRecDepth 100000 in
theorem ml_Past_3 : Cond.methodLink "CookedLaw$Past" 3 Lib.objectInit ∈ gtb := (gk_2 (List.mem_of_getElem? (i := 91) rfl) rfl)
set_option maxRecDepth 100000 in
theorem mm_Past_29 : Cond.methodLink "CookedLaw$Past" 29 Lib.Math.min.name ∈ gtb ∧ Cond.static Lib.Math.min.name ∈ gtb ∧ Cond.initialized "java/lang/Math" ∈ gtb ∧ Cond.code Lib.Math.min.name Lib.Math.min.code 2 (some .int) ∈ gtb := ⟨(gk_4 (List.mem_of_getElem? (i := 133) rfl) rfl), (gk_4 (List.mem_of_getElem? (i := 49) rfl) rfl), (gk_1 (List.mem_of_getElem? (i := 18) rfl) rfl), (gk_4 (List.mem_of_getElem? (i := 50) rfl) rfl)⟩
set_option maxRecDepth 100000 in
theorem ml_PotSearch_3 : Cond.methodLink "CookedLaw$PotSearch" 3 Lib.objectInit ∈ gtb := (gk_2 (List.mem_of_getElem? (i := 162) rfl) rfl)
set_option maxRecDepth 100000 in
theorem mm_PotSearch_79 : Cond.methodLink "CookedLaw$PotSearch" 79 Lib.Math.min.name ∈ gtb ∧ Cond.static Lib.Math.min.name ∈ gtb ∧ Cond.initialized "java/lang/Math" ∈ gtb ∧ Cond.code Lib.Math.min.name Lib.Math.min.code 2 (some .int) ∈ gtb := ⟨(gk_4 (List.mem_of_getElem? (i := 202) rfl) rfl), (gk_4 (List.mem_of_getElem? (i := 49) rfl) rfl), (gk_1 (List.mem_of_getElem? (i := 18) rfl) rfl), (gk_4 (List.mem_of_getElem? (i := 50) rfl) rfl)⟩
set_option maxRecDepth 100000 in
theorem ml_Reader_3 : Cond.methodLink "CookedLaw$Reader" 3 Lib.objectInit ∈ gtb := (gk_1 (List.mem_of_getElem? (i := 49) rfl) rfl)
set_option maxRecDepth 100000 in
theorem ml_Slots_3 : Cond.methodLink "CookedLaw$Slots" 3 Lib.objectInit ∈ gtb := (gk_2 (List.mem_of_getElem? (i := 111) rfl) rfl)
set_option maxRecDepth 100000 in
theorem ml_State_3 : Cond.methodLink "CookedLaw$State" 3 Lib.objectInit ∈ gtb := (gk_2 (List.mem_of_getElem? (i := 43) rfl) rfl)
set_option maxRecDepth 100000 in
theorem ml_Tape_3 : Cond.methodLink "CookedLaw$Tape" 3 Lib.objectInit ∈ gtb := (gk_1 (List.mem_of_getElem? (i := 33) rfl) rfl)
set_option maxRecDepth 100000 in
theorem ml_Tokens_3 : Cond.methodLink "CookedLaw$Tokens" 3 Lib.objectInit ∈ gtb := (gk_1 (List.mem_of_getElem? (i := 55) rfl) rfl)
set_option maxRecDepth 100000 in
theorem ml_Told_5 : Cond.methodLink "CookedLaw$Told" 5 Lib.objectInit ∈ gtb := (gk_2 (List.mem_of_getElem? (i := 126) rfl) rfl)
set_option maxRecDepth 100000 in
theorem mm_Told_93 : Cond.methodLink "CookedLaw$Told" 93 Lib.Math.max.name ∈ gtb ∧ Cond.static Lib.Math.max.name ∈ gtb ∧ Cond.initialized "java/lang/Math" ∈ gtb ∧ Cond.code Lib.Math.max.name Lib.Math.max.code 2 (some .int) ∈ gtb := ⟨(gk_5 (List.mem_of_getElem? (i := 147) rfl) rfl), (gk_4 (List.mem_of_getElem? (i := 52) rfl) rfl), (gk_1 (List.mem_of_getElem? (i := 18) rfl) rfl), (gk_4 (List.mem_of_getElem? (i := 53) rfl) rfl)⟩
set_option maxRecDepth 100000 in
theorem ml_Mod_7 : Cond.methodLink "CookedLawModel" 7 Lib.objectInit ∈ gtb := (gk_5 (List.mem_of_getElem? (i := 184) rfl) rfl)
set_option maxRecDepth 100000 in
theorem mi_objectInit : Cond.instanceMethod Lib.objectInit ∈ gtb := (gk_1 (List.mem_of_getElem? (i := 26) rfl) rfl)
set_option maxRecDepth 100000 in
theorem mc_objectInit : Cond.code Lib.objectInit ⟨#[0xb1]⟩ 1 none ∈ gtb := (gk_1 (List.mem_of_getElem? (i := 27) rfl) rfl)
set_option maxRecDepth 100000 in
theorem co_Land_133 : Cond.constant "CookedLaw$Land" 133 1103515245 ∈ gtb := (gk_4 (List.mem_of_getElem? (i := 148) rfl) rfl)
set_option maxRecDepth 100000 in
theorem co_Tokens_41 : Cond.constantLong "CookedLaw$Tokens" 41 32 ∈ gtb := (gk_1 (List.mem_of_getElem? (i := 108) rfl) rfl)
set_option maxRecDepth 100000 in
theorem co_Tokens_85 : Cond.constantLong "CookedLaw$Tokens" 85 10 ∈ gtb := (gk_3 (List.mem_of_getElem? (i := 79) rfl) rfl)
set_option maxRecDepth 100000 in
theorem co_Mod_178 : Cond.constantLong "CookedLawModel" 178 27 ∈ gtb := (gk_5 (List.mem_of_getElem? (i := 195) rfl) rfl)
set_option maxRecDepth 100000 in
theorem co_Mod_323 : Cond.constant "CookedLawModel" 323 1103515245 ∈ gtb := (gk_7 (List.mem_of_getElem? (i := 164) rfl) rfl)
set_option maxRecDepth 100000 in
theorem co_Int_265 : Cond.constant "java/lang/Integer" 265 1431655765 ∈ gtb := (gk_5 (List.mem_of_getElem? (i := 17) rfl) rfl)
set_option maxRecDepth 100000 in
theorem co_Int_266 : Cond.constant "java/lang/Integer" 266 858993459 ∈ gtb := (gk_5 (List.mem_of_getElem? (i := 18) rfl) rfl)
set_option maxRecDepth 100000 in
theorem co_Int_267 : Cond.constant "java/lang/Integer" 267 252645135 ∈ gtb := (gk_5 (List.mem_of_getElem? (i := 19) rfl) rfl)
set_option maxRecDepth 100000 in
theorem ck_Main_9 : Cond.classLink "CookedLaw" 9 "CookedLaw$Tape" ∈ gtb := (gk_1 (List.mem_of_getElem? (i := 28) rfl) rfl)
set_option maxRecDepth 100000 in
theorem ck_Main_16 : Cond.classLink "CookedLaw" 16 "CookedLaw$Reader" ∈ gtb := (gk_1 (List.mem_of_getElem? (i := 44) rfl) rfl)
set_option maxRecDepth 100000 in
theorem ck_Main_23 : Cond.classLink "CookedLaw" 23 "CookedLaw$Land" ∈ gtb := (gk_1 (List.mem_of_getElem? (i := 163) rfl) rfl)
set_option maxRecDepth 100000 in
theorem ck_Main_33 : Cond.classLink "CookedLaw" 33 "CookedLaw$State" ∈ gtb := (gk_2 (List.mem_of_getElem? (i := 38) rfl) rfl)
set_option maxRecDepth 100000 in
theorem ck_Main_43 : Cond.classLink "CookedLaw" 43 "CookedLaw$Past" ∈ gtb := (gk_2 (List.mem_of_getElem? (i := 86) rfl) rfl)
set_option maxRecDepth 100000 in
theorem ck_Main_50 : Cond.classLink "CookedLaw" 50 "CookedLaw$Slots" ∈ gtb := (gk_2 (List.mem_of_getElem? (i := 106) rfl) rfl)
set_option maxRecDepth 100000 in
theorem ck_Main_57 : Cond.classLink "CookedLaw" 57 "CookedLaw$Told" ∈ gtb := (gk_2 (List.mem_of_getElem? (i := 121) rfl) rfl)
set_option maxRecDepth 100000 in
theorem ck_Main_64 : Cond.classLink "CookedLaw" 64 "CookedLaw$PotSearch" ∈ gtb := (gk_2 (List.mem_of_getElem? (i := 157) rfl) rfl)
set_option maxRecDepth 100000 in
theorem ck_Main_71 : Cond.classLink "CookedLaw" 71 "CookedLaw$MenuSearch" ∈ gtb := (gk_2 (List.mem_of_getElem? (i := 200) rfl) rfl)
set_option maxRecDepth 100000 in
theorem ck_Land_36 : Cond.classLink "CookedLaw$Land" 36 "CookedLaw$Law" ∈ gtb := (gk_1 (List.mem_of_getElem? (i := 169) rfl) rfl)
set_option maxRecDepth 100000 in
theorem ck_Past_9 : Cond.classLink "CookedLaw$Past" 9 "CookedLaw$State" ∈ gtb := (gk_2 (List.mem_of_getElem? (i := 92) rfl) rfl)
set_option maxRecDepth 100000 in
theorem ck_Reader_9 : Cond.classLink "CookedLaw$Reader" 9 "CookedLaw$Tokens" ∈ gtb := (gk_1 (List.mem_of_getElem? (i := 50) rfl) rfl)
set_option maxRecDepth 100000 in
theorem ck_Slots_9 : Cond.classLink "CookedLaw$Slots" 9 "CookedLaw$State" ∈ gtb := (gk_2 (List.mem_of_getElem? (i := 112) rfl) rfl)
set_option maxRecDepth 100000 in
theorem ck_Law0_7 : Cond.classLink "CookedLawLaw" 7 "CookedLaw" ∈ gtb := (gk_1 (List.mem_of_getElem? (i := 20) rfl) rfl)
set_option maxRecDepth 100000 in
theorem ck_Law0_10 : Cond.classLink "CookedLawLaw" 10 "CookedLawModel" ∈ gtb := (gk_5 (List.mem_of_getElem? (i := 179) rfl) rfl)
set_option maxRecDepth 100000 in
theorem cn_Main : Cond.instantiable "CookedLaw" 12 ∈ gtb := (gk_1 (List.mem_of_getElem? (i := 21) rfl) rfl)
set_option maxRecDepth 100000 in
theorem cn_Tape : Cond.instantiable "CookedLaw$Tape" 2 ∈ gtb := (gk_1 (List.mem_of_getElem? (i := 29) rfl) rfl)
set_option maxRecDepth 100000 in
theorem cn_Reader : Cond.instantiable "CookedLaw$Reader" 12 ∈ gtb := (gk_1 (List.mem_of_getElem? (i := 45) rfl) rfl)
set_option maxRecDepth 100000 in
theorem cn_Tokens : Cond.instantiable "CookedLaw$Tokens" 4 ∈ gtb := (gk_1 (List.mem_of_getElem? (i := 51) rfl) rfl)
set_option maxRecDepth 100000 in
theorem cn_Land : Cond.instantiable "CookedLaw$Land" 18 ∈ gtb := (gk_1 (List.mem_of_getElem? (i := 164) rfl) rfl)
set_option maxRecDepth 100000 in
theorem cn_Law : Cond.instantiable "CookedLaw$Law" 4 ∈ gtb := (gk_1 (List.mem_of_getElem? (i := 170) rfl) rfl)
set_option maxRecDepth 100000 in
theorem cn_State : Cond.instantiable "CookedLaw$State" 10 ∈ gtb := (gk_2 (List.mem_of_getElem? (i := 39) rfl) rfl)
set_option maxRecDepth 100000 in
theorem cn_Past : Cond.instantiable "CookedLaw$Past" 3 ∈ gtb := (gk_2 (List.mem_of_getElem? (i := 87) rfl) rfl)
set_option maxRecDepth 100000 in
theorem cn_Slots : Cond.instantiable "CookedLaw$Slots" 2 ∈ gtb := (gk_2 (List.mem_of_getElem? (i := 107) rfl) rfl)
set_option maxRecDepth 100000 in
theorem cn_Told : Cond.instantiable "CookedLaw$Told" 9 ∈ gtb := (gk_2 (List.mem_of_getElem? (i := 122) rfl) rfl)
set_option maxRecDepth 100000 in
theorem cn_PotSearch : Cond.instantiable "CookedLaw$PotSearch" 11 ∈ gtb := (gk_2 (List.mem_of_getElem? (i := 158) rfl) rfl)
set_option maxRecDepth 100000 in
theorem cn_MenuSearch : Cond.instantiable "CookedLaw$MenuSearch" 5 ∈ gtb := (gk_2 (List.mem_of_getElem? (i := 201) rfl) rfl)
set_option maxRecDepth 100000 in
theorem cn_Mod : Cond.instantiable "CookedLawModel" 71 ∈ gtb := (gk_5 (List.mem_of_getElem? (i := 180) rfl) rfl)
set_option maxRecDepth 100000 in
theorem ca_int : Cond.arrayClass .int ∈ gtb := (gk_1 (List.mem_of_getElem? (i := 43) rfl) rfl)
set_option maxRecDepth 100000 in
theorem ca_byte : Cond.arrayClass .byte ∈ gtb := (gk_1 (List.mem_of_getElem? (i := 125) rfl) rfl)
set_option maxRecDepth 100000 in
theorem ca_boolean : Cond.arrayClass .boolean ∈ gtb := (gk_2 (List.mem_of_getElem? (i := 224) rfl) rfl)
set_option maxRecDepth 100000 in
theorem ca_long : Cond.arrayClass .long ∈ gtb := (gk_1 (List.mem_of_getElem? (i := 124) rfl) rfl)
end MG0x4
section MG0x5
/-! names for values and memories on the way; what a method leaves alone -/
section RULES4
variable {l : Launch} {Y : gY} {E : Nat × Nat × Nat} {n k z pc pc1 : Nat} {lv lv' : List (Nat × Value)} {st : List Value} {M : gM} {L : gL} {R : gR} {Q : Option Value → gM → gL → gR → Prop}
theorem Wp.topi {x : Int32} (kk : ∀ y : Int32, y = x → Wp l Y E n k z pc lv (.int y :: st) M L R Q) : Wp l Y E n k z pc lv (.int x :: st) M L R Q := kk x rfl
theorem Wp.topl {x : Int64} (kk : ∀ y : Int64, y = x → Wp l Y E n k z pc lv (.long y :: st) M L R Q) : Wp l Y E n k z pc lv (.long x :: st) M L R Q := kk x rfl
theorem Wp.vali {x y : Int32} (h : x = y) (kk : Wp l Y E n k z pc lv (.int y :: st) M L R Q) : Wp l Y E n k z pc lv (.int x :: st) M L R Q := by rw [h]; exact kk
theorem Wp.topM (kk : ∀ M' : gM, M' = M → Wp l Y E n k z pc lv st M' L R Q) : Wp l Y E n k z pc lv st M L R Q := kk M rfl
theorem Wp.topL (kk : ∀ L' : gL, L' = L → Wp l Y E n k z pc lv st M L' R Q) : Wp l Y E n k z pc lv st M L R Q := kk L rfl
theorem g_callS0 {Y' : gY} {idx np : Nat} {As rest : List Value} (hd : decode Y.2.1 pc = .ok (.invokestatic idx, 3)) (hp : pc + 3 = pc1) (hm : mOk Y.1.cls idx np Y') (hst : Cond.static Y'.1 ∈ gtb) (hR : Y'.2.2.2.2 + 1 ≤ Y.2.2.2.2 ∧ 8 + (Y'.2.2.1 + 11) + 40 * Y'.2.2.2.2 ≤ 40 * Y.2.2.2.2) (hn : As.length = np) (hst0 : st = As.reverse ++ rest) (hcat : (rest.map fun v => v.category).sum ≤ 8)
    (hT : Tm l Y' (0, 0, n) n As M L R (fun r M' L' R' => Wp l Y (0, 0, n) n 0 0 pc1 lv (psh r rest) M' L' R' Q)) : Wp l Y (0, 0, n) n 0 0 pc lv st M L R Q :=
  g_callS (E' := (0, 0, n)) hd hp hm hst hR hn hst0 hcat ⟨Nat.le_refl 0, Nat.le_refl 0⟩ rfl hT
theorem g_callV0 {Y' : gY} {idx np a ci N : Nat} {T : u_T} {As rest : List Value} (hd : decode Y.2.1 pc = .ok (.invokevirtual idx, 3)) (hp : pc + 3 = pc1) (hm : mOk Y.1.cls idx np Y') (hins : Cond.instanceMethod Y'.1 ∈ gtb) (hsel : Cond.selects Y'.1.cls Y'.1 Y'.1 ∈ gtb) (hc : cls[ci]? = some (Y'.1.cls, T, N)) (hs : SH a = (0, ci)) (ha : a < n) (hR : Y'.2.2.2.2 + 1 ≤ Y.2.2.2.2 ∧ 8 + (Y'.2.2.1 + 11) + 40 * Y'.2.2.2.2 ≤ 40 * Y.2.2.2.2) (hn : As.length = np) (hst0 : st = As.reverse ++ .ref a :: rest) (hcat : (rest.map fun v => v.category).sum ≤ 8)
    (hT : Tm l Y' (0, 0, n) n (.ref a :: As) M L R (fun r M' L' R' => Wp l Y (0, 0, n) n 0 0 pc1 lv (psh r rest) M' L' R' Q)) : Wp l Y (0, 0, n) n 0 0 pc lv st M L R Q :=
  g_callV (E' := (0, 0, n)) hd hp hm hins hsel hc hs ha hR hn hst0 hcat ⟨Nat.le_refl 0, Nat.le_refl 0⟩ rfl hT
theorem g_tabK {dflt lo hi : Int} {offs : Array Int} {len : Nat} {x c : Int32} {off : Int} {tgt : Nat} (hd : decode Y.2.1 pc = .ok (.tableswitch dflt lo hi offs, len)) (hx : x = c) (h1 : ¬ c.toInt < lo) (h2 : ¬ hi < c.toInt) (ho : offs[(c.toInt - lo).toNat]? = some off) (ht : (pc : Int) + off = (tgt : Int)) (kk : Wp l Y E n k z tgt lv st M L R Q) : Wp l Y E n k z pc lv (.int x :: st) M L R Q := by
  subst hx
  exact g_tabIn hd h1 h2 ho ht kk
end RULES4
def Kp (S : Nat → Bool) (M : gM) (L : gL) (M' : gM) (L' : gL) : Prop := ∀ c, S c = false → M' c = M c ∧ L' c = L c
theorem Kp.rf {S : Nat → Bool} {M : gM} {L : gL} : Kp S M L M L := fun _ _ => ⟨rfl, rfl⟩
theorem Kp.trans {S : Nat → Bool} {M M1 M2 : gM} {L L1 L2 : gL} (h : Kp S M L M1 L1) (g : Kp S M1 L1 M2 L2) : Kp S M L M2 L2 := fun c hc => ⟨(g c hc).1.trans (h c hc).1, (g c hc).2.trans (h c hc).2⟩
theorem Kp.mono {S S' : Nat → Bool} {M M' : gM} {L L' : gL} (h : Kp S M L M' L') (f : ∀ c, S c = true → S' c = true) : Kp S' M L M' L' := fun c hc => h c (by
  cases e : S c with
  | false => rfl
  | true => rw [f c e] at hc; cases hc)
theorem Kp.wM {S : Nat → Bool} {M M1 M2 : gM} {L L1 : gL} {a i : Nat} {x : Int32} (h : Kp S M L M1 L1) (ha : S a = true) (e : M2 = uM M1 a i x) : Kp S M L M2 L1 := fun c hc => by
  have hne : c ≠ a := fun q => by rw [q, ha] at hc; cases hc
  exact ⟨by rw [e, uM_ne _ _ _ hne]; exact (h c hc).1, (h c hc).2⟩
theorem Kp.wL {S : Nat → Bool} {M M1 : gM} {L L1 L2 : gL} {a i : Nat} {x : Int64} (h : Kp S M L M1 L1) (ha : S a = true) (e : L2 = uL L1 a i x) : Kp S M L M1 L2 := fun c hc => by
  have hne : c ≠ a := fun q => by rw [q, ha] at hc; cases hc
  exact ⟨(h c hc).1, by rw [e, uL_ne _ _ _ hne]; exact (h c hc).2⟩
theorem Kp.m {S : Nat → Bool} {M M' : gM} {L L' : gL} (h : Kp S M L M' L') {c : Nat} (hc : S c = false) (j : Nat) : M' c j = M c j := congrFun (h c hc).1 j
theorem Kp.l {S : Nat → Bool} {M M' : gM} {L L' : gL} (h : Kp S M L M' L') {c : Nat} (hc : S c = false) (j : Nat) : L' c j = L c j := congrFun (h c hc).2 j
def one (a : Nat) : Nat → Bool := fun c => c == a
theorem one_S {S : Nat → Bool} {a : Nat} (h : S a = true) : ∀ c, one a c = true → S c = true := fun c hc => by
  have : c = a := by simpa [one] using hc
  rw [this]; exact h
/-- indices, counters -/
theorem i_lt {x y : Int32} : x < y ↔ x.toInt < y.toInt := Int32.lt_iff_toInt_lt
theorem i_le {x y : Int32} : x ≤ y ↔ x.toInt ≤ y.toInt := Int32.le_iff_toInt_le
theorem i_nl {x y : Int32} (q : y ≤ x) : ¬ x < y := by
  rw [i_lt]; rw [i_le] at q; omega
theorem i_b (x : Int32) : -2147483648 ≤ x.toInt ∧ x.toInt < 2147483648 := by
  have h1 := Int32.le_toInt x
  have h2 := Int32.toInt_lt x
  omega
theorem i_nN {N : Nat} (h : N < 2 ^ 31) : (Int32.ofNat N).toInt = (N : Int) := nI_toInt h
theorem i_cl {x : Int32} (h : ¬ x < 0) : (x.toNatClampNeg : Int) = x.toInt := by
  have h' : 0 ≤ x.toInt := by
    have := mt i_lt.mpr h
    rw [Int32.toInt_zero] at this
    omega
  rw [← Int32.toNat_toInt]
  omega
theorem vin_of {x : Int32} {N : Nat} (h1 : ¬ x < 0) (h2 : ¬ Int32.ofNat N ≤ x) (hN : N < 2 ^ 31) : vp_in x N := by
  rintro (h | h)
  · exact h1 h
  · apply h2
    rw [i_le, i_nN hN]
    have := i_cl h1
    omega
theorem vin_c {x : Int32} {N : Nat} (h1 : ¬ x < 0) (h2 : x.toInt < N) : vp_in x N := by
  rintro (h | h)
  · exact h1 h
  · have := i_cl h1
    omega
theorem i_add1 {x y : Int32} (h : x < y) : (x + 1).toInt = x.toInt + 1 := by
  have h1 := i_lt.mp h
  have h2 := i_b y
  have h3 := i_b x
  rw [Int32.toInt_add]
  have e : (1 : Int32).toInt = 1 := by decide
  rw [e]
  rw [Int.bmod_eq_of_le (by omega) (by omega)]
theorem i_sub1 {x : Int32} (h : ¬ x < 0) : (x + (-1)).toInt = x.toInt - 1 := by
  have h1 := mt i_lt.mpr h
  have h3 := i_b x
  rw [Int32.toInt_zero] at h1
  rw [Int32.toInt_add]
  have e : (-1 : Int32).toInt = -1 := by decide
  rw [e]
  rw [Int.bmod_eq_of_le (by omega) (by omega)]
  omega
theorem md_up {x x' y : Int32} {f : Nat} (h : ¬ y ≤ x) (e : x' = x + 1) (hm : (y.toInt - x.toInt).toNat < f + 1) : (y.toInt - x'.toInt).toNat < f := by
  have h1 : x < y := by rw [i_lt]; rw [i_le] at h; omega
  have h2 := i_add1 h1
  have h3 := i_lt.mp h1
  rw [e, h2]
  omega
theorem md_dn {x x' : Int32} {f : Nat} (h : ¬ x < 0) (e : x' = x + (-1)) (hm : (x.toInt + 1).toNat < f + 1) : (x'.toInt + 1).toNat < f := by
  have h2 := i_sub1 h
  have h1 := mt i_lt.mpr h
  rw [Int32.toInt_zero] at h1
  rw [e, h2]
  omega
theorem neT {x c : Int32} {a : Int} (h : ¬ x = c) (hk : c.toInt = a) : ¬ x.toInt = a := lv_neT h hk
theorem nar01 {r : Int32} (h : r = 0 ∨ r = 1) : narrow .boolean (.int r) = .int r := by
  rcases h with rfl | rfl <;> rfl
theorem i_sub {x c : Int32} (h : ¬ x < c) (hc : 0 ≤ c.toInt) : (x - c).toInt = x.toInt - c.toInt := by
  have h1 := mt i_lt.mpr h
  have h2 := i_b x
  rw [Int32.toInt_sub, Int.bmod_eq_of_le (by omega) (by omega)]
theorem vin_s2 {x : Int32} (h1 : ¬ x < 2) (h2 : x ≤ 32) : vp_in (x - 2) 32 := by
  have e := i_sub h1 (by decide)
  have e2 : (2 : Int32).toInt = 2 := by decide
  have e3 : (32 : Int32).toInt = 32 := by decide
  rw [i_lt] at h1
  rw [i_le] at h2
  refine vin_c ?_ (by omega)
  rw [i_lt, Int32.toInt_zero]
  omega
theorem vin_s1 {x : Int32} (h1 : ¬ x < 2) (h2 : x ≤ 32) : vp_in (x - 1) 32 := by
  have e2 : (2 : Int32).toInt = 2 := by decide
  have e1 : (1 : Int32).toInt = 1 := by decide
  have e3 : (32 : Int32).toInt = 32 := by decide
  rw [i_lt] at h1
  rw [i_le] at h2
  have e : (x - 1).toInt = x.toInt - 1 := by rw [i_sub (c := 1) (by rw [i_lt]; omega) (by decide), e1]
  refine vin_c ?_ (by omega)
  rw [i_lt, Int32.toInt_zero]
  omega
theorem nn_sub1 {x : Int32} (h : ¬ x ≤ 0) : ¬ x - 1 < 0 := by
  have e1 : (1 : Int32).toInt = 1 := by decide
  rw [i_le, Int32.toInt_zero] at h
  have e : (x - 1).toInt = x.toInt - 1 := by rw [i_sub (c := 1) (by rw [i_lt]; omega) (by decide), e1]
  rw [i_lt, Int32.toInt_zero]
  omega
theorem vin_a2 {x : Int32} (h1 : ¬ x < 2) (h2 : x ≤ 32) : vp_in (x + (-2)) 32 := by
  have e : x + (-2) = x - 2 := by rw [Int32.sub_eq_add_neg]
  rw [e]
  exact vin_s2 h1 h2
theorem md_lay {x x' : Int32} {f : Nat} (h : ¬ x ≤ 0) (e : x' = x - 1) (hm : x.toInt.toNat < f + 1) : x'.toInt.toNat < f := by
  have e1 : (1 : Int32).toInt = 1 := by decide
  rw [i_le, Int32.toInt_zero] at h
  rw [e, i_sub (c := 1) (by rw [i_lt]; omega) (by decide), e1]
  omega
theorem vin_lit {x : Int32} {N : Nat} (h : ¬ x < 0 ∧ x.toInt < N) : vp_in x N := vin_c h.1 h.2
theorem rd_ne {M' M : gM} {a i c j : Nat} {x : Int32} (e : M' = uM M a i x) (h : ¬ (c = a ∧ j = i)) : M' c j = M c j := by rw [e, uM_at, if_neg h]
theorem rd_eq {M' M : gM} {a i : Nat} {x : Int32} (e : M' = uM M a i x) : M' a i = x := by rw [e, uM_at, if_pos ⟨rfl, rfl⟩]
end MG0x5
