-- ===== PART A: goes FIRST, ahead of the names: the tables' words, and 'selects' of the private methods out of them =====
/-- a private method of a class that the tables say can be made, by its rows of tables_1 -/
def lw_okq (q : MethodName × Nat) : Prop := (q.1.cls ≠ "java/lang/invoke/MethodHandle" ∧ q.1.cls ≠ "java/lang/invoke/VarHandle") ∧ Cond.instantiable q.1.cls q.2 ∈ tables_1 ∧ Cond.privateMethod q.1 ∈ tables_1 ∧ Cond.instanceMethod q.1 ∈ tables_1
theorem lw_p0 : lw_okq (⟨"NobodyTwice", "bad", "()I"⟩, 12) := ⟨⟨by decide +kernel, by decide +kernel⟩, List.mem_of_getElem? (i := 23) (by decide +kernel), List.mem_of_getElem? (i := 300) (by decide +kernel), List.mem_of_getElem? (i := 301) (by decide +kernel)⟩
theorem lw_p1 : lw_okq (⟨"NobodyTwice", "full", "()I"⟩, 12) := ⟨⟨by decide +kernel, by decide +kernel⟩, List.mem_of_getElem? (i := 23) (by decide +kernel), List.mem_of_getElem? (i := 315) (by decide +kernel), List.mem_of_getElem? (i := 316) (by decide +kernel)⟩
theorem lw_p2 : lw_okq (⟨"NobodyTwice$Script", "advance", "()V"⟩, 6) := ⟨⟨by decide +kernel, by decide +kernel⟩, List.mem_of_getElem? (i := 225) (by decide +kernel), List.mem_of_getElem? (i := 344) (by decide +kernel), List.mem_of_getElem? (i := 345) (by decide +kernel)⟩
theorem lw_p3 : lw_okq (⟨"NobodyTwice$Script", "takeFigures", "()V"⟩, 6) := ⟨⟨by decide +kernel, by decide +kernel⟩, List.mem_of_getElem? (i := 225) (by decide +kernel), List.mem_of_getElem? (i := 354) (by decide +kernel), List.mem_of_getElem? (i := 355) (by decide +kernel)⟩
theorem lw_p4 : lw_okq (⟨"NobodyTwice$Script", "isWord", "(Ljava/lang/String;)Z"⟩, 6) := ⟨⟨by decide +kernel, by decide +kernel⟩, List.mem_of_getElem? (i := 225) (by decide +kernel), List.mem_of_getElem? (i := 359) (by decide +kernel), List.mem_of_getElem? (i := 360) (by decide +kernel)⟩
theorem lw_p5 : lw_okq (⟨"NobodyTwice$Script", "endsItem", "()Z"⟩, 6) := ⟨⟨by decide +kernel, by decide +kernel⟩, List.mem_of_getElem? (i := 225) (by decide +kernel), List.mem_of_getElem? (i := 411) (by decide +kernel), List.mem_of_getElem? (i := 412) (by decide +kernel)⟩
theorem lw_p6 : lw_okq (⟨"NobodyTwice$Script", "tellPrize", "(LNobodyTwice$Valley;)Z"⟩, 6) := ⟨⟨by decide +kernel, by decide +kernel⟩, List.mem_of_getElem? (i := 225) (by decide +kernel), List.mem_of_getElem? (i := 416) (by decide +kernel), List.mem_of_getElem? (i := 417) (by decide +kernel)⟩
theorem lw_p7 : lw_okq (⟨"NobodyTwice$Script", "hasNumber", "(II)Z"⟩, 6) := ⟨⟨by decide +kernel, by decide +kernel⟩, List.mem_of_getElem? (i := 225) (by decide +kernel), List.mem_of_getElem? (i := 420) (by decide +kernel), List.mem_of_getElem? (i := 421) (by decide +kernel)⟩
theorem lw_p8 : lw_okq (⟨"NobodyTwice$Script", "tellOne", "(LNobodyTwice$Valley;)Z"⟩, 6) := ⟨⟨by decide +kernel, by decide +kernel⟩, List.mem_of_getElem? (i := 225) (by decide +kernel), List.mem_of_getElem? (i := 427) (by decide +kernel), List.mem_of_getElem? (i := 428) (by decide +kernel)⟩
theorem lw_p9 : lw_okq (⟨"NobodyTwice", "no", "()I"⟩, 12) := ⟨⟨by decide +kernel, by decide +kernel⟩, List.mem_of_getElem? (i := 23) (by decide +kernel), List.mem_of_getElem? (i := 453) (by decide +kernel), List.mem_of_getElem? (i := 454) (by decide +kernel)⟩
theorem lw_p10 : lw_okq (⟨"NobodyTwice", "isOne", "(I)Z"⟩, 12) := ⟨⟨by decide +kernel, by decide +kernel⟩, List.mem_of_getElem? (i := 23) (by decide +kernel), List.mem_of_getElem? (i := 545) (by decide +kernel), List.mem_of_getElem? (i := 546) (by decide +kernel)⟩
theorem lw_p11 : lw_okq (⟨"NobodyTwice", "isToCome", "(I)Z"⟩, 12) := ⟨⟨by decide +kernel, by decide +kernel⟩, List.mem_of_getElem? (i := 23) (by decide +kernel), List.mem_of_getElem? (i := 566) (by decide +kernel), List.mem_of_getElem? (i := 567) (by decide +kernel)⟩
theorem lw_p12 : lw_okq (⟨"NobodyTwice$Foresight", "rests", "(III)Z"⟩, 4) := ⟨⟨by decide +kernel, by decide +kernel⟩, List.mem_of_getElem? (i := 203) (by decide +kernel), List.mem_of_getElem? (i := 638) (by decide +kernel), List.mem_of_getElem? (i := 639) (by decide +kernel)⟩
theorem lw_p13 : lw_okq (⟨"NobodyTwice$Contest", "kindFits", "(LNobodyTwice$Table;II)Z"⟩, 5) := ⟨⟨by decide +kernel, by decide +kernel⟩, List.mem_of_getElem? (i := 127) (by decide +kernel), List.mem_of_getElem? (i := 690) (by decide +kernel), List.mem_of_getElem? (i := 691) (by decide +kernel)⟩
theorem lw_p14 : lw_okq (⟨"NobodyTwice$Contest", "isSoWith", "(LNobodyTwice$Valley;III)Z"⟩, 5) := ⟨⟨by decide +kernel, by decide +kernel⟩, List.mem_of_getElem? (i := 127) (by decide +kernel), List.mem_of_getElem? (i := 715) (by decide +kernel), List.mem_of_getElem? (i := 716) (by decide +kernel)⟩
theorem lw_p15 : lw_okq (⟨"NobodyTwice", "setFraction", "(II)V"⟩, 12) := ⟨⟨by decide +kernel, by decide +kernel⟩, List.mem_of_getElem? (i := 23) (by decide +kernel), List.mem_of_getElem? (i := 736) (by decide +kernel), List.mem_of_getElem? (i := 737) (by decide +kernel)⟩
def lw_privs_1 : List (MethodName × Nat) := [(⟨"NobodyTwice", "bad", "()I"⟩, 12), (⟨"NobodyTwice", "full", "()I"⟩, 12), (⟨"NobodyTwice$Script", "advance", "()V"⟩, 6), (⟨"NobodyTwice$Script", "takeFigures", "()V"⟩, 6), (⟨"NobodyTwice$Script", "isWord", "(Ljava/lang/String;)Z"⟩, 6), (⟨"NobodyTwice$Script", "endsItem", "()Z"⟩, 6), (⟨"NobodyTwice$Script", "tellPrize", "(LNobodyTwice$Valley;)Z"⟩, 6), (⟨"NobodyTwice$Script", "hasNumber", "(II)Z"⟩, 6), (⟨"NobodyTwice$Script", "tellOne", "(LNobodyTwice$Valley;)Z"⟩, 6), (⟨"NobodyTwice", "no", "()I"⟩, 12), (⟨"NobodyTwice", "isOne", "(I)Z"⟩, 12), (⟨"NobodyTwice", "isToCome", "(I)Z"⟩, 12), (⟨"NobodyTwice$Foresight", "rests", "(III)Z"⟩, 4), (⟨"NobodyTwice$Contest", "kindFits", "(LNobodyTwice$Table;II)Z"⟩, 5), (⟨"NobodyTwice$Contest", "isSoWith", "(LNobodyTwice$Valley;III)Z"⟩, 5), (⟨"NobodyTwice", "setFraction", "(II)V"⟩, 12)]
theorem lw_r1 : ∀ q ∈ lw_privs_1, lw_okq q := List.forall_mem_cons.mpr ⟨lw_p0, List.forall_mem_cons.mpr ⟨lw_p1, List.forall_mem_cons.mpr ⟨lw_p2, List.forall_mem_cons.mpr ⟨lw_p3, List.forall_mem_cons.mpr ⟨lw_p4, List.forall_mem_cons.mpr ⟨lw_p5, List.forall_mem_cons.mpr ⟨lw_p6, List.forall_mem_cons.mpr ⟨lw_p7, List.forall_mem_cons.mpr ⟨lw_p8, List.forall_mem_cons.mpr ⟨lw_p9, List.forall_mem_cons.mpr ⟨lw_p10, List.forall_mem_cons.mpr ⟨lw_p11, List.forall_mem_cons.mpr ⟨lw_p12, List.forall_mem_cons.mpr ⟨lw_p13, List.forall_mem_cons.mpr ⟨lw_p14, List.forall_mem_cons.mpr ⟨lw_p15, fun _ h => absurd h List.not_mem_nil⟩⟩⟩⟩⟩⟩⟩⟩⟩⟩⟩⟩⟩⟩⟩⟩
theorem lw_p16 : lw_okq (⟨"NobodyTwice", "amount", "(I)I"⟩, 12) := ⟨⟨by decide +kernel, by decide +kernel⟩, List.mem_of_getElem? (i := 23) (by decide +kernel), List.mem_of_getElem? (i := 777) (by decide +kernel), List.mem_of_getElem? (i := 778) (by decide +kernel)⟩
theorem lw_p17 : lw_okq (⟨"NobodyTwiceModel", "many", "()I"⟩, 21) := ⟨⟨by decide +kernel, by decide +kernel⟩, List.mem_of_getElem? (i := 806) (by decide +kernel), List.mem_of_getElem? (i := 883) (by decide +kernel), List.mem_of_getElem? (i := 884) (by decide +kernel)⟩
theorem lw_p18 : lw_okq (⟨"NobodyTwiceModel", "bad", "(I)I"⟩, 21) := ⟨⟨by decide +kernel, by decide +kernel⟩, List.mem_of_getElem? (i := 806) (by decide +kernel), List.mem_of_getElem? (i := 903) (by decide +kernel), List.mem_of_getElem? (i := 904) (by decide +kernel)⟩
theorem lw_p19 : lw_okq (⟨"NobodyTwiceModel", "full", "()I"⟩, 21) := ⟨⟨by decide +kernel, by decide +kernel⟩, List.mem_of_getElem? (i := 806) (by decide +kernel), List.mem_of_getElem? (i := 913) (by decide +kernel), List.mem_of_getElem? (i := 914) (by decide +kernel)⟩
theorem lw_p20 : lw_okq (⟨"NobodyTwiceModel", "no", "()I"⟩, 21) := ⟨⟨by decide +kernel, by decide +kernel⟩, List.mem_of_getElem? (i := 806) (by decide +kernel), List.mem_of_getElem? (i := 924) (by decide +kernel), List.mem_of_getElem? (i := 925) (by decide +kernel)⟩
theorem lw_p21 : lw_okq (⟨"NobodyTwiceModel", "keep", "()V"⟩, 21) := ⟨⟨by decide +kernel, by decide +kernel⟩, List.mem_of_getElem? (i := 806) (by decide +kernel), List.mem_of_getElem? (i := 928) (by decide +kernel), List.mem_of_getElem? (i := 929) (by decide +kernel)⟩
theorem lw_p22 : lw_okq (⟨"NobodyTwiceModel", "layHand", "()V"⟩, 21) := ⟨⟨by decide +kernel, by decide +kernel⟩, List.mem_of_getElem? (i := 806) (by decide +kernel), List.mem_of_getElem? (i := 932) (by decide +kernel), List.mem_of_getElem? (i := 933) (by decide +kernel)⟩
theorem lw_p23 : lw_okq (⟨"NobodyTwiceModel", "goYear", "(I)I"⟩, 21) := ⟨⟨by decide +kernel, by decide +kernel⟩, List.mem_of_getElem? (i := 806) (by decide +kernel), List.mem_of_getElem? (i := 936) (by decide +kernel), List.mem_of_getElem? (i := 937) (by decide +kernel)⟩
theorem lw_p24 : lw_okq (⟨"NobodyTwiceModel", "bestIn", "(II)I"⟩, 21) := ⟨⟨by decide +kernel, by decide +kernel⟩, List.mem_of_getElem? (i := 806) (by decide +kernel), List.mem_of_getElem? (i := 940) (by decide +kernel), List.mem_of_getElem? (i := 941) (by decide +kernel)⟩
theorem lw_p25 : lw_okq (⟨"NobodyTwiceModel", "enters", "(II)Z"⟩, 21) := ⟨⟨by decide +kernel, by decide +kernel⟩, List.mem_of_getElem? (i := 806) (by decide +kernel), List.mem_of_getElem? (i := 944) (by decide +kernel), List.mem_of_getElem? (i := 945) (by decide +kernel)⟩
theorem lw_p26 : lw_okq (⟨"NobodyTwiceModel", "isBarred", "(I)Z"⟩, 21) := ⟨⟨by decide +kernel, by decide +kernel⟩, List.mem_of_getElem? (i := 806) (by decide +kernel), List.mem_of_getElem? (i := 948) (by decide +kernel), List.mem_of_getElem? (i := 949) (by decide +kernel)⟩
theorem lw_p27 : lw_okq (⟨"NobodyTwiceModel", "tries", "(II)Z"⟩, 21) := ⟨⟨by decide +kernel, by decide +kernel⟩, List.mem_of_getElem? (i := 806) (by decide +kernel), List.mem_of_getElem? (i := 958) (by decide +kernel), List.mem_of_getElem? (i := 959) (by decide +kernel)⟩
theorem lw_p28 : lw_okq (⟨"NobodyTwiceModel", "goodOf", "(III)I"⟩, 21) := ⟨⟨by decide +kernel, by decide +kernel⟩, List.mem_of_getElem? (i := 806) (by decide +kernel), List.mem_of_getElem? (i := 965) (by decide +kernel), List.mem_of_getElem? (i := 966) (by decide +kernel)⟩
theorem lw_p29 : lw_okq (⟨"NobodyTwiceModel", "isOne", "(I)Z"⟩, 21) := ⟨⟨by decide +kernel, by decide +kernel⟩, List.mem_of_getElem? (i := 806) (by decide +kernel), List.mem_of_getElem? (i := 980) (by decide +kernel), List.mem_of_getElem? (i := 981) (by decide +kernel)⟩
theorem lw_p30 : lw_okq (⟨"NobodyTwiceModel", "isToCome", "(I)Z"⟩, 21) := ⟨⟨by decide +kernel, by decide +kernel⟩, List.mem_of_getElem? (i := 806) (by decide +kernel), List.mem_of_getElem? (i := 997) (by decide +kernel), List.mem_of_getElem? (i := 998) (by decide +kernel)⟩
theorem lw_p31 : lw_okq (⟨"NobodyTwiceModel", "goTill", "(I)V"⟩, 21) := ⟨⟨by decide +kernel, by decide +kernel⟩, List.mem_of_getElem? (i := 806) (by decide +kernel), List.mem_of_getElem? (i := 1001) (by decide +kernel), List.mem_of_getElem? (i := 1002) (by decide +kernel)⟩
def lw_privs_2 : List (MethodName × Nat) := [(⟨"NobodyTwice", "amount", "(I)I"⟩, 12), (⟨"NobodyTwiceModel", "many", "()I"⟩, 21), (⟨"NobodyTwiceModel", "bad", "(I)I"⟩, 21), (⟨"NobodyTwiceModel", "full", "()I"⟩, 21), (⟨"NobodyTwiceModel", "no", "()I"⟩, 21), (⟨"NobodyTwiceModel", "keep", "()V"⟩, 21), (⟨"NobodyTwiceModel", "layHand", "()V"⟩, 21), (⟨"NobodyTwiceModel", "goYear", "(I)I"⟩, 21), (⟨"NobodyTwiceModel", "bestIn", "(II)I"⟩, 21), (⟨"NobodyTwiceModel", "enters", "(II)Z"⟩, 21), (⟨"NobodyTwiceModel", "isBarred", "(I)Z"⟩, 21), (⟨"NobodyTwiceModel", "tries", "(II)Z"⟩, 21), (⟨"NobodyTwiceModel", "goodOf", "(III)I"⟩, 21), (⟨"NobodyTwiceModel", "isOne", "(I)Z"⟩, 21), (⟨"NobodyTwiceModel", "isToCome", "(I)Z"⟩, 21), (⟨"NobodyTwiceModel", "goTill", "(I)V"⟩, 21)]
theorem lw_r2 : ∀ q ∈ lw_privs_2, lw_okq q := List.forall_mem_cons.mpr ⟨lw_p16, List.forall_mem_cons.mpr ⟨lw_p17, List.forall_mem_cons.mpr ⟨lw_p18, List.forall_mem_cons.mpr ⟨lw_p19, List.forall_mem_cons.mpr ⟨lw_p20, List.forall_mem_cons.mpr ⟨lw_p21, List.forall_mem_cons.mpr ⟨lw_p22, List.forall_mem_cons.mpr ⟨lw_p23, List.forall_mem_cons.mpr ⟨lw_p24, List.forall_mem_cons.mpr ⟨lw_p25, List.forall_mem_cons.mpr ⟨lw_p26, List.forall_mem_cons.mpr ⟨lw_p27, List.forall_mem_cons.mpr ⟨lw_p28, List.forall_mem_cons.mpr ⟨lw_p29, List.forall_mem_cons.mpr ⟨lw_p30, List.forall_mem_cons.mpr ⟨lw_p31, fun _ h => absurd h List.not_mem_nil⟩⟩⟩⟩⟩⟩⟩⟩⟩⟩⟩⟩⟩⟩⟩⟩
theorem lw_p32 : lw_okq (⟨"NobodyTwiceModel", "worthOf", "(I)I"⟩, 21) := ⟨⟨by decide +kernel, by decide +kernel⟩, List.mem_of_getElem? (i := 806) (by decide +kernel), List.mem_of_getElem? (i := 1013) (by decide +kernel), List.mem_of_getElem? (i := 1014) (by decide +kernel)⟩
theorem lw_p33 : lw_okq (⟨"NobodyTwiceModel", "winsBy", "(II)I"⟩, 21) := ⟨⟨by decide +kernel, by decide +kernel⟩, List.mem_of_getElem? (i := 806) (by decide +kernel), List.mem_of_getElem? (i := 1028) (by decide +kernel), List.mem_of_getElem? (i := 1029) (by decide +kernel)⟩
theorem lw_p34 : lw_okq (⟨"NobodyTwiceModel", "rests", "(II)Z"⟩, 21) := ⟨⟨by decide +kernel, by decide +kernel⟩, List.mem_of_getElem? (i := 806) (by decide +kernel), List.mem_of_getElem? (i := 1036) (by decide +kernel), List.mem_of_getElem? (i := 1037) (by decide +kernel)⟩
theorem lw_p35 : lw_okq (⟨"NobodyTwiceModel", "kindsOf", "(I)I"⟩, 21) := ⟨⟨by decide +kernel, by decide +kernel⟩, List.mem_of_getElem? (i := 806) (by decide +kernel), List.mem_of_getElem? (i := 1064) (by decide +kernel), List.mem_of_getElem? (i := 1065) (by decide +kernel)⟩
theorem lw_p36 : lw_okq (⟨"NobodyTwiceModel", "isBeaten", "(III)Z"⟩, 21) := ⟨⟨by decide +kernel, by decide +kernel⟩, List.mem_of_getElem? (i := 806) (by decide +kernel), List.mem_of_getElem? (i := 1077) (by decide +kernel), List.mem_of_getElem? (i := 1078) (by decide +kernel)⟩
theorem lw_p37 : lw_okq (⟨"NobodyTwiceModel", "goodThen", "(IIII)I"⟩, 21) := ⟨⟨by decide +kernel, by decide +kernel⟩, List.mem_of_getElem? (i := 806) (by decide +kernel), List.mem_of_getElem? (i := 1081) (by decide +kernel), List.mem_of_getElem? (i := 1082) (by decide +kernel)⟩
theorem lw_p38 : lw_okq (⟨"NobodyTwiceModel", "fraction", "(JJ)V"⟩, 21) := ⟨⟨by decide +kernel, by decide +kernel⟩, List.mem_of_getElem? (i := 806) (by decide +kernel), List.mem_of_getElem? (i := 1093) (by decide +kernel), List.mem_of_getElem? (i := 1094) (by decide +kernel)⟩
theorem lw_p39 : lw_okq (⟨"NobodyTwiceModel", "lookAt", "(I)V"⟩, 21) := ⟨⟨by decide +kernel, by decide +kernel⟩, List.mem_of_getElem? (i := 806) (by decide +kernel), List.mem_of_getElem? (i := 1122) (by decide +kernel), List.mem_of_getElem? (i := 1123) (by decide +kernel)⟩
theorem lw_p40 : lw_okq (⟨"NobodyTwiceModel", "spells", "(IIIIIII)Z"⟩, 21) := ⟨⟨by decide +kernel, by decide +kernel⟩, List.mem_of_getElem? (i := 806) (by decide +kernel), List.mem_of_getElem? (i := 1136) (by decide +kernel), List.mem_of_getElem? (i := 1137) (by decide +kernel)⟩
theorem lw_p41 : lw_okq (⟨"NobodyTwiceModel", "goBehind", "()V"⟩, 21) := ⟨⟨by decide +kernel, by decide +kernel⟩, List.mem_of_getElem? (i := 806) (by decide +kernel), List.mem_of_getElem? (i := 1140) (by decide +kernel), List.mem_of_getElem? (i := 1141) (by decide +kernel)⟩
theorem lw_p42 : lw_okq (⟨"NobodyTwiceModel", "takesItem", "()Z"⟩, 21) := ⟨⟨by decide +kernel, by decide +kernel⟩, List.mem_of_getElem? (i := 806) (by decide +kernel), List.mem_of_getElem? (i := 1144) (by decide +kernel), List.mem_of_getElem? (i := 1145) (by decide +kernel)⟩
theorem lw_p43 : lw_okq (⟨"NobodyTwiceModel", "takesPrize", "()Z"⟩, 21) := ⟨⟨by decide +kernel, by decide +kernel⟩, List.mem_of_getElem? (i := 806) (by decide +kernel), List.mem_of_getElem? (i := 1148) (by decide +kernel), List.mem_of_getElem? (i := 1149) (by decide +kernel)⟩
theorem lw_p44 : lw_okq (⟨"NobodyTwiceModel", "takes", "(III)Z"⟩, 21) := ⟨⟨by decide +kernel, by decide +kernel⟩, List.mem_of_getElem? (i := 806) (by decide +kernel), List.mem_of_getElem? (i := 1152) (by decide +kernel), List.mem_of_getElem? (i := 1153) (by decide +kernel)⟩
theorem lw_p45 : lw_okq (⟨"NobodyTwiceModel", "takesOne", "()Z"⟩, 21) := ⟨⟨by decide +kernel, by decide +kernel⟩, List.mem_of_getElem? (i := 806) (by decide +kernel), List.mem_of_getElem? (i := 1156) (by decide +kernel), List.mem_of_getElem? (i := 1157) (by decide +kernel)⟩
theorem lw_p46 : lw_okq (⟨"NobodyTwiceModel", "counted", "(I)I"⟩, 21) := ⟨⟨by decide +kernel, by decide +kernel⟩, List.mem_of_getElem? (i := 806) (by decide +kernel), List.mem_of_getElem? (i := 1180) (by decide +kernel), List.mem_of_getElem? (i := 1181) (by decide +kernel)⟩
theorem lw_p47 : lw_okq (⟨"NobodyTwiceModel", "manyPrizes", "()I"⟩, 21) := ⟨⟨by decide +kernel, by decide +kernel⟩, List.mem_of_getElem? (i := 806) (by decide +kernel), List.mem_of_getElem? (i := 1184) (by decide +kernel), List.mem_of_getElem? (i := 1185) (by decide +kernel)⟩
def lw_privs_3 : List (MethodName × Nat) := [(⟨"NobodyTwiceModel", "worthOf", "(I)I"⟩, 21), (⟨"NobodyTwiceModel", "winsBy", "(II)I"⟩, 21), (⟨"NobodyTwiceModel", "rests", "(II)Z"⟩, 21), (⟨"NobodyTwiceModel", "kindsOf", "(I)I"⟩, 21), (⟨"NobodyTwiceModel", "isBeaten", "(III)Z"⟩, 21), (⟨"NobodyTwiceModel", "goodThen", "(IIII)I"⟩, 21), (⟨"NobodyTwiceModel", "fraction", "(JJ)V"⟩, 21), (⟨"NobodyTwiceModel", "lookAt", "(I)V"⟩, 21), (⟨"NobodyTwiceModel", "spells", "(IIIIIII)Z"⟩, 21), (⟨"NobodyTwiceModel", "goBehind", "()V"⟩, 21), (⟨"NobodyTwiceModel", "takesItem", "()Z"⟩, 21), (⟨"NobodyTwiceModel", "takesPrize", "()Z"⟩, 21), (⟨"NobodyTwiceModel", "takes", "(III)Z"⟩, 21), (⟨"NobodyTwiceModel", "takesOne", "()Z"⟩, 21), (⟨"NobodyTwiceModel", "counted", "(I)I"⟩, 21), (⟨"NobodyTwiceModel", "manyPrizes", "()I"⟩, 21)]
theorem lw_r3 : ∀ q ∈ lw_privs_3, lw_okq q := List.forall_mem_cons.mpr ⟨lw_p32, List.forall_mem_cons.mpr ⟨lw_p33, List.forall_mem_cons.mpr ⟨lw_p34, List.forall_mem_cons.mpr ⟨lw_p35, List.forall_mem_cons.mpr ⟨lw_p36, List.forall_mem_cons.mpr ⟨lw_p37, List.forall_mem_cons.mpr ⟨lw_p38, List.forall_mem_cons.mpr ⟨lw_p39, List.forall_mem_cons.mpr ⟨lw_p40, List.forall_mem_cons.mpr ⟨lw_p41, List.forall_mem_cons.mpr ⟨lw_p42, List.forall_mem_cons.mpr ⟨lw_p43, List.forall_mem_cons.mpr ⟨lw_p44, List.forall_mem_cons.mpr ⟨lw_p45, List.forall_mem_cons.mpr ⟨lw_p46, List.forall_mem_cons.mpr ⟨lw_p47, fun _ h => absurd h List.not_mem_nil⟩⟩⟩⟩⟩⟩⟩⟩⟩⟩⟩⟩⟩⟩⟩⟩
theorem lw_p48 : lw_okq (⟨"NobodyTwiceModel", "manyWins", "()I"⟩, 21) := ⟨⟨by decide +kernel, by decide +kernel⟩, List.mem_of_getElem? (i := 806) (by decide +kernel), List.mem_of_getElem? (i := 1188) (by decide +kernel), List.mem_of_getElem? (i := 1189) (by decide +kernel)⟩
theorem lw_p49 : lw_okq (⟨"NobodyTwiceModel", "sums", "(JII)J"⟩, 21) := ⟨⟨by decide +kernel, by decide +kernel⟩, List.mem_of_getElem? (i := 806) (by decide +kernel), List.mem_of_getElem? (i := 1198) (by decide +kernel), List.mem_of_getElem? (i := 1199) (by decide +kernel)⟩
def lw_privs_4 : List (MethodName × Nat) := [(⟨"NobodyTwiceModel", "manyWins", "()I"⟩, 21), (⟨"NobodyTwiceModel", "sums", "(JII)J"⟩, 21)]
theorem lw_r4 : ∀ q ∈ lw_privs_4, lw_okq q := List.forall_mem_cons.mpr ⟨lw_p48, List.forall_mem_cons.mpr ⟨lw_p49, fun _ h => absurd h List.not_mem_nil⟩⟩
def lw_privs : List (MethodName × Nat) := lw_privs_1 ++ (lw_privs_2 ++ (lw_privs_3 ++ (lw_privs_4)))
def lw_tbl : List Cond := k2_sels lw_privs ++ tables_1
theorem lw_privs_ok : ∀ q ∈ lw_privs, lw_okq q := by
  show ∀ q ∈ lw_privs_1 ++ (lw_privs_2 ++ (lw_privs_3 ++ (lw_privs_4))), lw_okq q
  exact List.forall_mem_append.mpr ⟨lw_r1, List.forall_mem_append.mpr ⟨lw_r2, List.forall_mem_append.mpr ⟨lw_r3, lw_r4⟩⟩⟩

def RX0 : String := "NobodyTwice$Contest"
def TX0 : u_T := fun k => match k with
  | 0 => ("NobodyTwice$Contest", "ways", "[LNobodyTwice$Plain;", true)
  | 1 => ("NobodyTwice$Contest", "chosen", "[I", true)
  | 2 => ("NobodyTwice$Contest", "entrants", "I", false)
  | 3 => ("NobodyTwice$Contest", "first", "I", false)
  | _ => ("NobodyTwice$Contest", "second", "I", false)
def tyX0 : Nat → FieldType := fun k => match k with
  | 0 => .array (.object "NobodyTwice$Plain")
  | 1 => .array .int
  | 2 => .int
  | 3 => .int
  | _ => .int
abbrev wsX00 : List Cond := u_ws RX0 TX0 5
theorem nmX0 : ∀ a, a < 5 → ∀ b, b < 5 → a ≠ b → (TX0 a).2.1 ≠ (TX0 b).2.1 := by decide +kernel
theorem tyX0_ok : ∀ k, k < 5 → parseFieldDescriptor (TX0 k).2.2.1 = some (tyX0 k) := by decide +kernel
abbrev cX0_init : ByteArray := prog_2_method_1_code
def yX0_init : MethodName := ⟨RX0, "<init>", "()V"⟩
abbrev cX0_allByKind : ByteArray := prog_2_method_2_code
def yX0_allByKind : MethodName := ⟨RX0, "allByKind", "()V"⟩
abbrev cX0_choose : ByteArray := prog_2_method_3_code
def yX0_choose : MethodName := ⟨RX0, "choose", "(II)V"⟩
abbrev cX0_skillBy : ByteArray := prog_2_method_4_code
def yX0_skillBy : MethodName := ⟨RX0, "skillBy", "(III)I"⟩
abbrev cX0_isBarred : ByteArray := prog_2_method_5_code
def yX0_isBarred : MethodName := ⟨RX0, "isBarred", "(LNobodyTwice$Valley;I)Z"⟩
abbrev cX0_strength : ByteArray := prog_2_method_6_code
def yX0_strength : MethodName := ⟨RX0, "strength", "(LNobodyTwice$Valley;II)I"⟩
abbrev cX0_strengthOfAll : ByteArray := prog_2_method_7_code
def yX0_strengthOfAll : MethodName := ⟨RX0, "strengthOfAll", "(LNobodyTwice$Valley;I)I"⟩
abbrev cX0_hold : ByteArray := prog_2_method_8_code
def yX0_hold : MethodName := ⟨RX0, "hold", "(LNobodyTwice$Valley;I)V"⟩
abbrev cX0_handicapOf : ByteArray := prog_2_method_9_code
def yX0_handicapOf : MethodName := ⟨RX0, "handicapOf", "(LNobodyTwice$Valley;I)I"⟩
abbrev cX0_kindsThatFit : ByteArray := prog_2_method_10_code
def yX0_kindsThatFit : MethodName := ⟨RX0, "kindsThatFit", "(LNobodyTwice$Table;I)I"⟩
abbrev cX0_kindFits : ByteArray := prog_2_method_11_code
def yX0_kindFits : MethodName := ⟨RX0, "kindFits", "(LNobodyTwice$Table;II)Z"⟩
abbrev cX0_tellingWorth : ByteArray := prog_2_method_12_code
def yX0_tellingWorth : MethodName := ⟨RX0, "tellingWorth", "(II)I"⟩
abbrev cX0_isSo : ByteArray := prog_2_method_13_code
def yX0_isSo : MethodName := ⟨RX0, "isSo", "(LNobodyTwice$Valley;I)Z"⟩
abbrev cX0_isSoWith : ByteArray := prog_2_method_14_code
def yX0_isSoWith : MethodName := ⟨RX0, "isSoWith", "(LNobodyTwice$Valley;III)Z"⟩
abbrev cX0_artFits : ByteArray := prog_2_method_15_code
def yX0_artFits : MethodName := ⟨RX0, "artFits", "(LNobodyTwice$Valley;III)Z"⟩
def RX1 : String := "NobodyTwice$Dog"
def TX1 : u_T := fun k => match k with
  | _ => ("", "", "", false)
def tyX1 : Nat → FieldType := fun k => match k with
  | _ => .int
abbrev wsX10 : List Cond := u_ws RX1 TX1 0
theorem nmX1 : ∀ a, a < 0 → ∀ b, b < 0 → a ≠ b → (TX1 a).2.1 ≠ (TX1 b).2.1 := by decide +kernel
theorem tyX1_ok : ∀ k, k < 0 → parseFieldDescriptor (TX1 k).2.2.1 = some (tyX1 k) := by decide +kernel
abbrev cX1_init : ByteArray := prog_3_method_1_code
def yX1_init : MethodName := ⟨RX1, "<init>", "()V"⟩
abbrev cX1_skill : ByteArray := prog_3_method_2_code
def yX1_skill : MethodName := ⟨RX1, "skill", "(II)I"⟩
def RX2 : String := "NobodyTwice$Foresight"
def TX2 : u_T := fun k => match k with
  | 0 => ("NobodyTwice$Foresight", "contest", "LNobodyTwice$Contest;", true)
  | 1 => ("NobodyTwice$Foresight", "trial", "LNobodyTwice$Valley;", true)
  | 2 => ("NobodyTwice$Foresight", "worthsOfA", "[I", true)
  | _ => ("NobodyTwice$Foresight", "worthsOfB", "[I", true)
def tyX2 : Nat → FieldType := fun k => match k with
  | 0 => .object "NobodyTwice$Contest"
  | 1 => .object "NobodyTwice$Valley"
  | 2 => .array .int
  | _ => .array .int
abbrev wsX20 : List Cond := u_ws RX2 TX2 4
theorem nmX2 : ∀ a, a < 4 → ∀ b, b < 4 → a ≠ b → (TX2 a).2.1 ≠ (TX2 b).2.1 := by decide +kernel
theorem tyX2_ok : ∀ k, k < 4 → parseFieldDescriptor (TX2 k).2.2.1 = some (tyX2 k) := by decide +kernel
abbrev cX2_init : ByteArray := prog_4_method_1_code
def yX2_init : MethodName := ⟨RX2, "<init>", "(LNobodyTwice$Contest;)V"⟩
abbrev cX2_begin : ByteArray := prog_4_method_2_code
def yX2_begin : MethodName := ⟨RX2, "begin", "(LNobodyTwice$Valley;)V"⟩
abbrev cX2_runTo : ByteArray := prog_4_method_3_code
def yX2_runTo : MethodName := ⟨RX2, "runTo", "(I)V"⟩
abbrev cX2_contestOf : ByteArray := prog_4_method_4_code
def yX2_contestOf : MethodName := ⟨RX2, "contestOf", "(LNobodyTwice$Valley;I)V"⟩
abbrev cX2_untaken : ByteArray := prog_4_method_5_code
def yX2_untaken : MethodName := ⟨RX2, "untaken", "(LNobodyTwice$Valley;)I"⟩
abbrev cX2_bestYear : ByteArray := prog_4_method_6_code
def yX2_bestYear : MethodName := ⟨RX2, "bestYear", "(LNobodyTwice$Valley;I)I"⟩
abbrev cX2_weighRivals : ByteArray := prog_4_method_7_code
def yX2_weighRivals : MethodName := ⟨RX2, "weighRivals", "(LNobodyTwice$Valley;II)V"⟩
abbrev cX2_resting : ByteArray := prog_4_method_8_code
def yX2_resting : MethodName := ⟨RX2, "resting", "(II)I"⟩
abbrev cX2_rests : ByteArray := prog_4_method_9_code
def yX2_rests : MethodName := ⟨RX2, "rests", "(III)Z"⟩
abbrev cX2_bestSwap : ByteArray := prog_4_method_10_code
def yX2_bestSwap : MethodName := ⟨RX2, "bestSwap", "(LNobodyTwice$Valley;I)I"⟩
abbrev cX2_worthInValleys : ByteArray := prog_4_method_11_code
def yX2_worthInValleys : MethodName := ⟨RX2, "worthInValleys", "(LNobodyTwice$Valley;II)I"⟩
def RX3 : String := "NobodyTwice$Hider"
def TX3 : u_T := fun k => match k with
  | _ => ("", "", "", false)
def tyX3 : Nat → FieldType := fun k => match k with
  | _ => .int
abbrev wsX30 : List Cond := u_ws RX3 TX3 0
theorem nmX3 : ∀ a, a < 0 → ∀ b, b < 0 → a ≠ b → (TX3 a).2.1 ≠ (TX3 b).2.1 := by decide +kernel
theorem tyX3_ok : ∀ k, k < 0 → parseFieldDescriptor (TX3 k).2.2.1 = some (tyX3 k) := by decide +kernel
abbrev cX3_init : ByteArray := prog_5_method_1_code
def yX3_init : MethodName := ⟨RX3, "<init>", "()V"⟩
abbrev cX3_barredBy : ByteArray := prog_5_method_2_code
def yX3_barredBy : MethodName := ⟨RX3, "barredBy", "(I)Z"⟩
def RX4 : String := "NobodyTwice$Old"
def TX4 : u_T := fun k => match k with
  | _ => ("", "", "", false)
def tyX4 : Nat → FieldType := fun k => match k with
  | _ => .int
abbrev wsX40 : List Cond := u_ws RX4 TX4 0
theorem nmX4 : ∀ a, a < 0 → ∀ b, b < 0 → a ≠ b → (TX4 a).2.1 ≠ (TX4 b).2.1 := by decide +kernel
theorem tyX4_ok : ∀ k, k < 0 → parseFieldDescriptor (TX4 k).2.2.1 = some (tyX4 k) := by decide +kernel
abbrev cX4_init : ByteArray := prog_6_method_1_code
def yX4_init : MethodName := ⟨RX4, "<init>", "()V"⟩
abbrev cX4_skill : ByteArray := prog_6_method_2_code
def yX4_skill : MethodName := ⟨RX4, "skill", "(II)I"⟩
def RX5 : String := "NobodyTwice$Plain"
def TX5 : u_T := fun k => match k with
  | _ => ("", "", "", false)
def tyX5 : Nat → FieldType := fun k => match k with
  | _ => .int
abbrev wsX50 : List Cond := u_ws RX5 TX5 0
theorem nmX5 : ∀ a, a < 0 → ∀ b, b < 0 → a ≠ b → (TX5 a).2.1 ≠ (TX5 b).2.1 := by decide +kernel
theorem tyX5_ok : ∀ k, k < 0 → parseFieldDescriptor (TX5 k).2.2.1 = some (tyX5 k) := by decide +kernel
abbrev cX5_init : ByteArray := prog_7_method_1_code
def yX5_init : MethodName := ⟨RX5, "<init>", "()V"⟩
abbrev cX5_wants : ByteArray := prog_7_method_2_code
def yX5_wants : MethodName := ⟨RX5, "wants", "(II)Z"⟩
abbrev cX5_skill : ByteArray := prog_7_method_3_code
def yX5_skill : MethodName := ⟨RX5, "skill", "(II)I"⟩
abbrev cX5_barredBy : ByteArray := prog_7_method_4_code
def yX5_barredBy : MethodName := ⟨RX5, "barredBy", "(I)Z"⟩
def RX6 : String := "NobodyTwice$Proud"
def TX6 : u_T := fun k => match k with
  | _ => ("", "", "", false)
def tyX6 : Nat → FieldType := fun k => match k with
  | _ => .int
abbrev wsX60 : List Cond := u_ws RX6 TX6 0
theorem nmX6 : ∀ a, a < 0 → ∀ b, b < 0 → a ≠ b → (TX6 a).2.1 ≠ (TX6 b).2.1 := by decide +kernel
theorem tyX6_ok : ∀ k, k < 0 → parseFieldDescriptor (TX6 k).2.2.1 = some (tyX6 k) := by decide +kernel
abbrev cX6_init : ByteArray := prog_8_method_1_code
def yX6_init : MethodName := ⟨RX6, "<init>", "()V"⟩
abbrev cX6_wants : ByteArray := prog_8_method_2_code
def yX6_wants : MethodName := ⟨RX6, "wants", "(II)Z"⟩
abbrev cX6_skill : ByteArray := prog_8_method_3_code
def yX6_skill : MethodName := ⟨RX6, "skill", "(II)I"⟩
def RX7 : String := "NobodyTwice$Saver"
def TX7 : u_T := fun k => match k with
  | _ => ("", "", "", false)
def tyX7 : Nat → FieldType := fun k => match k with
  | _ => .int
abbrev wsX70 : List Cond := u_ws RX7 TX7 0
theorem nmX7 : ∀ a, a < 0 → ∀ b, b < 0 → a ≠ b → (TX7 a).2.1 ≠ (TX7 b).2.1 := by decide +kernel
theorem tyX7_ok : ∀ k, k < 0 → parseFieldDescriptor (TX7 k).2.2.1 = some (tyX7 k) := by decide +kernel
abbrev cX7_init : ByteArray := prog_9_method_1_code
def yX7_init : MethodName := ⟨RX7, "<init>", "()V"⟩
abbrev cX7_wants : ByteArray := prog_9_method_2_code
def yX7_wants : MethodName := ⟨RX7, "wants", "(II)Z"⟩
def RX8 : String := "NobodyTwice$Script"
def TX8 : u_T := fun k => match k with
  | 0 => ("NobodyTwice$Script", "bytes", "[I", true)
  | 1 => ("NobodyTwice$Script", "length", "I", false)
  | 2 => ("NobodyTwice$Script", "start", "I", false)
  | 3 => ("NobodyTwice$Script", "end", "I", false)
  | 4 => ("NobodyTwice$Script", "token", "I", false)
  | _ => ("NobodyTwice$Script", "number", "I", false)
def tyX8 : Nat → FieldType := fun k => match k with
  | 0 => .array .int
  | 1 => .int
  | 2 => .int
  | 3 => .int
  | 4 => .int
  | _ => .int
abbrev wsX80 : List Cond := u_ws RX8 TX8 6
theorem nmX8 : ∀ a, a < 6 → ∀ b, b < 6 → a ≠ b → (TX8 a).2.1 ≠ (TX8 b).2.1 := by decide +kernel
theorem tyX8_ok : ∀ k, k < 6 → parseFieldDescriptor (TX8 k).2.2.1 = some (tyX8 k) := by decide +kernel
abbrev cX8_init : ByteArray := prog_10_method_1_code
def yX8_init : MethodName := ⟨RX8, "<init>", "()V"⟩
abbrev cX8_append : ByteArray := prog_10_method_2_code
def yX8_append : MethodName := ⟨RX8, "append", "(I)V"⟩
abbrev cX8_tellInto : ByteArray := prog_10_method_3_code
def yX8_tellInto : MethodName := ⟨RX8, "tellInto", "(LNobodyTwice$Valley;)I"⟩
abbrev cX8_tellPrize : ByteArray := prog_10_method_4_code
def yX8_tellPrize : MethodName := ⟨RX8, "tellPrize", "(LNobodyTwice$Valley;)Z"⟩
abbrev cX8_tellOne : ByteArray := prog_10_method_5_code
def yX8_tellOne : MethodName := ⟨RX8, "tellOne", "(LNobodyTwice$Valley;)Z"⟩
abbrev cX8_hasNumber : ByteArray := prog_10_method_6_code
def yX8_hasNumber : MethodName := ⟨RX8, "hasNumber", "(II)Z"⟩
abbrev cX8_endsItem : ByteArray := prog_10_method_7_code
def yX8_endsItem : MethodName := ⟨RX8, "endsItem", "()Z"⟩
abbrev cX8_isWord : ByteArray := prog_10_method_8_code
def yX8_isWord : MethodName := ⟨RX8, "isWord", "(Ljava/lang/String;)Z"⟩
abbrev cX8_advance : ByteArray := prog_10_method_9_code
def yX8_advance : MethodName := ⟨RX8, "advance", "()V"⟩
abbrev cX8_takeFigures : ByteArray := prog_10_method_10_code
def yX8_takeFigures : MethodName := ⟨RX8, "takeFigures", "()V"⟩
abbrev cX8_isLetter : ByteArray := prog_10_method_11_code
def yX8_isLetter : MethodName := ⟨RX8, "isLetter", "(I)Z"⟩
abbrev cX8_isFigure : ByteArray := prog_10_method_12_code
def yX8_isFigure : MethodName := ⟨RX8, "isFigure", "(I)Z"⟩
def RX9 : String := "NobodyTwice$Table"
def TX9 : u_T := fun k => match k with
  | 0 => ("NobodyTwice$Table", "cells", "[I", true)
  | _ => ("NobodyTwice$Table", "rows", "I", false)
def tyX9 : Nat → FieldType := fun k => match k with
  | 0 => .array .int
  | _ => .int
abbrev wsX90 : List Cond := u_ws RX9 TX9 2
theorem nmX9 : ∀ a, a < 2 → ∀ b, b < 2 → a ≠ b → (TX9 a).2.1 ≠ (TX9 b).2.1 := by decide +kernel
theorem tyX9_ok : ∀ k, k < 2 → parseFieldDescriptor (TX9 k).2.2.1 = some (tyX9 k) := by decide +kernel
abbrev cX9_init : ByteArray := prog_11_method_1_code
def yX9_init : MethodName := ⟨RX9, "<init>", "()V"⟩
abbrev cX9_add : ByteArray := prog_11_method_2_code
def yX9_add : MethodName := ⟨RX9, "add", "(IIII)V"⟩
abbrev cX9_cell : ByteArray := prog_11_method_3_code
def yX9_cell : MethodName := ⟨RX9, "cell", "(II)I"⟩
abbrev cX9_takeRows : ByteArray := prog_11_method_4_code
def yX9_takeRows : MethodName := ⟨RX9, "takeRows", "(LNobodyTwice$Table;)V"⟩
abbrev cX9_mixedInto : ByteArray := prog_11_method_5_code
def yX9_mixedInto : MethodName := ⟨RX9, "mixedInto", "(J)J"⟩
def RX10 : String := "NobodyTwice$Valley"
def TX10 : u_T := fun k => match k with
  | 0 => ("NobodyTwice$Valley", "sorts", "[I", true)
  | 1 => ("NobodyTwice$Valley", "worths", "[I", true)
  | 2 => ("NobodyTwice$Valley", "kinds", "[I", true)
  | 3 => ("NobodyTwice$Valley", "arts", "[I", true)
  | 4 => ("NobodyTwice$Valley", "wins", "[I", true)
  | 5 => ("NobodyTwice$Valley", "seconds", "[I", true)
  | 6 => ("NobodyTwice$Valley", "firstOf", "[I", true)
  | 7 => ("NobodyTwice$Valley", "secondOf", "[I", true)
  | 8 => ("NobodyTwice$Valley", "notes", "LNobodyTwice$Table;", true)
  | 9 => ("NobodyTwice$Valley", "beatings", "LNobodyTwice$Table;", true)
  | 10 => ("NobodyTwice$Valley", "people", "I", false)
  | 11 => ("NobodyTwice$Valley", "year", "I", false)
  | _ => ("NobodyTwice$Valley", "undoable", "I", false)
def tyX10 : Nat → FieldType := fun k => match k with
  | 0 => .array .int
  | 1 => .array .int
  | 2 => .array .int
  | 3 => .array .int
  | 4 => .array .int
  | 5 => .array .int
  | 6 => .array .int
  | 7 => .array .int
  | 8 => .object "NobodyTwice$Table"
  | 9 => .object "NobodyTwice$Table"
  | 10 => .int
  | 11 => .int
  | _ => .int
abbrev wsX100 : List Cond := u_ws RX10 TX10 13
theorem nmX10 : ∀ a, a < 13 → ∀ b, b < 13 → a ≠ b → (TX10 a).2.1 ≠ (TX10 b).2.1 := by decide +kernel
theorem tyX10_ok : ∀ k, k < 13 → parseFieldDescriptor (TX10 k).2.2.1 = some (tyX10 k) := by decide +kernel
abbrev cX10_init : ByteArray := prog_12_method_1_code
def yX10_init : MethodName := ⟨RX10, "<init>", "()V"⟩
abbrev cX10_empty : ByteArray := prog_12_method_2_code
def yX10_empty : MethodName := ⟨RX10, "empty", "()V"⟩
abbrev cX10_setPrize : ByteArray := prog_12_method_3_code
def yX10_setPrize : MethodName := ⟨RX10, "setPrize", "(III)V"⟩
abbrev cX10_addOne : ByteArray := prog_12_method_4_code
def yX10_addOne : MethodName := ⟨RX10, "addOne", "(IIII)V"⟩
abbrev cX10_takeCourse : ByteArray := prog_12_method_5_code
def yX10_takeCourse : MethodName := ⟨RX10, "takeCourse", "(LNobodyTwice$Valley;)V"⟩
abbrev cX10_take : ByteArray := prog_12_method_6_code
def yX10_take : MethodName := ⟨RX10, "take", "(LNobodyTwice$Valley;)V"⟩
abbrev cX10_pass : ByteArray := prog_12_method_7_code
def yX10_pass : MethodName := ⟨RX10, "pass", "(II)V"⟩
abbrev cX10_takeBack : ByteArray := prog_12_method_8_code
def yX10_takeBack : MethodName := ⟨RX10, "takeBack", "()V"⟩
abbrev cX10_swapPrizes : ByteArray := prog_12_method_9_code
def yX10_swapPrizes : MethodName := ⟨RX10, "swapPrizes", "(II)V"⟩
abbrev cX10_worthWonBy : ByteArray := prog_12_method_10_code
def yX10_worthWonBy : MethodName := ⟨RX10, "worthWonBy", "(I)I"⟩
abbrev cX10_worthWonIn : ByteArray := prog_12_method_11_code
def yX10_worthWonIn : MethodName := ⟨RX10, "worthWonIn", "(II)I"⟩
abbrev cX10_prizesTold : ByteArray := prog_12_method_12_code
def yX10_prizesTold : MethodName := ⟨RX10, "prizesTold", "()I"⟩
abbrev cX10_winsOfAll : ByteArray := prog_12_method_13_code
def yX10_winsOfAll : MethodName := ⟨RX10, "winsOfAll", "()I"⟩
abbrev cX10_mixedInto : ByteArray := prog_12_method_14_code
def yX10_mixedInto : MethodName := ⟨RX10, "mixedInto", "(J)J"⟩
def RX11 : String := "NobodyTwice"
def TX11 : u_T := fun k => match k with
  | 0 => ("NobodyTwice", "now", "LNobodyTwice$Valley;", true)
  | 1 => ("NobodyTwice", "draft", "LNobodyTwice$Valley;", true)
  | 2 => ("NobodyTwice", "images", "[LNobodyTwice$Valley;", true)
  | 3 => ("NobodyTwice", "kept", "[Z", true)
  | 4 => ("NobodyTwice", "contest", "LNobodyTwice$Contest;", true)
  | 5 => ("NobodyTwice", "foresight", "LNobodyTwice$Foresight;", true)
  | 6 => ("NobodyTwice", "script", "LNobodyTwice$Script;", true)
  | 7 => ("NobodyTwice", "above", "J", false)
  | 8 => ("NobodyTwice", "below", "J", false)
  | 9 => ("NobodyTwice", "refusedBad", "I", false)
  | 10 => ("NobodyTwice", "refusedNo", "I", false)
  | _ => ("NobodyTwice", "refusedFull", "I", false)
def tyX11 : Nat → FieldType := fun k => match k with
  | 0 => .object "NobodyTwice$Valley"
  | 1 => .object "NobodyTwice$Valley"
  | 2 => .array (.object "NobodyTwice$Valley")
  | 3 => .array .boolean
  | 4 => .object "NobodyTwice$Contest"
  | 5 => .object "NobodyTwice$Foresight"
  | 6 => .object "NobodyTwice$Script"
  | 7 => .long
  | 8 => .long
  | 9 => .int
  | 10 => .int
  | _ => .int
abbrev wsX110 : List Cond := u_ws RX11 TX11 12
theorem nmX11 : ∀ a, a < 12 → ∀ b, b < 12 → a ≠ b → (TX11 a).2.1 ≠ (TX11 b).2.1 := by decide +kernel
theorem tyX11_ok : ∀ k, k < 12 → parseFieldDescriptor (TX11 k).2.2.1 = some (tyX11 k) := by decide +kernel
abbrev cX11_init : ByteArray := prog_1_method_1_code
def yX11_init : MethodName := ⟨RX11, "<init>", "()V"⟩
abbrev cX11_valley : ByteArray := prog_1_method_2_code
def yX11_valley : MethodName := ⟨RX11, "valley", "()I"⟩
abbrev cX11_prize : ByteArray := prog_1_method_3_code
def yX11_prize : MethodName := ⟨RX11, "prize", "(III)I"⟩
abbrev cX11_one : ByteArray := prog_1_method_4_code
def yX11_one : MethodName := ⟨RX11, "one", "(IIII)I"⟩
abbrev cX11_type : ByteArray := prog_1_method_5_code
def yX11_type : MethodName := ⟨RX11, "type", "(I)I"⟩
abbrev cX11_clear : ByteArray := prog_1_method_6_code
def yX11_clear : MethodName := ⟨RX11, "clear", "()I"⟩
abbrev cX11_read : ByteArray := prog_1_method_7_code
def yX11_read : MethodName := ⟨RX11, "read", "()I"⟩
abbrev cX11_year : ByteArray := prog_1_method_8_code
def yX11_year : MethodName := ⟨RX11, "year", "()I"⟩
abbrev cX11_undo : ByteArray := prog_1_method_9_code
def yX11_undo : MethodName := ⟨RX11, "undo", "()I"⟩
abbrev cX11_of : ByteArray := prog_1_method_10_code
def yX11_of : MethodName := ⟨RX11, "of", "(II)I"⟩
abbrev cX11_about : ByteArray := prog_1_method_11_code
def yX11_about : MethodName := ⟨RX11, "about", "(II)I"⟩
abbrev cX11_good : ByteArray := prog_1_method_12_code
def yX11_good : MethodName := ⟨RX11, "good", "(III)I"⟩
abbrev cX11_enter : ByteArray := prog_1_method_13_code
def yX11_enter : MethodName := ⟨RX11, "enter", "(I)I"⟩
abbrev cX11_winner : ByteArray := prog_1_method_14_code
def yX11_winner : MethodName := ⟨RX11, "winner", "(II)I"⟩
abbrev cX11_end : ByteArray := prog_1_method_15_code
def yX11_end : MethodName := ⟨RX11, "end", "(II)I"⟩
abbrev cX11_left : ByteArray := prog_1_method_16_code
def yX11_left : MethodName := ⟨RX11, "left", "()I"⟩
abbrev cX11_best : ByteArray := prog_1_method_17_code
def yX11_best : MethodName := ⟨RX11, "best", "(II)I"⟩
abbrev cX11_rivals : ByteArray := prog_1_method_18_code
def yX11_rivals : MethodName := ⟨RX11, "rivals", "(III)I"⟩
abbrev cX11_handicap : ByteArray := prog_1_method_19_code
def yX11_handicap : MethodName := ⟨RX11, "handicap", "(I)I"⟩
abbrev cX11_order : ByteArray := prog_1_method_20_code
def yX11_order : MethodName := ⟨RX11, "order", "(I)I"⟩
abbrev cX11_note : ByteArray := prog_1_method_21_code
def yX11_note : MethodName := ⟨RX11, "note", "(IIII)I"⟩
abbrev cX11_beaten : ByteArray := prog_1_method_22_code
def yX11_beaten : MethodName := ⟨RX11, "beaten", "(IIII)I"⟩
abbrev cX11_forget : ByteArray := prog_1_method_23_code
def yX11_forget : MethodName := ⟨RX11, "forget", "(I)I"⟩
abbrev cX11_is : ByteArray := prog_1_method_24_code
def yX11_is : MethodName := ⟨RX11, "is", "(I)I"⟩
abbrev cX11_offer : ByteArray := prog_1_method_25_code
def yX11_offer : MethodName := ⟨RX11, "offer", "(I)I"⟩
abbrev cX11_may : ByteArray := prog_1_method_26_code
def yX11_may : MethodName := ⟨RX11, "may", "(II)I"⟩
abbrev cX11_clash : ByteArray := prog_1_method_27_code
def yX11_clash : MethodName := ⟨RX11, "clash", "()I"⟩
abbrev cX11_odds : ByteArray := prog_1_method_28_code
def yX11_odds : MethodName := ⟨RX11, "odds", "(II)I"⟩
abbrev cX11_valleys : ByteArray := prog_1_method_29_code
def yX11_valleys : MethodName := ⟨RX11, "valleys", "(II)I"⟩
abbrev cX11_part : ByteArray := prog_1_method_30_code
def yX11_part : MethodName := ⟨RX11, "part", "(I)J"⟩
abbrev cX11_image : ByteArray := prog_1_method_31_code
def yX11_image : MethodName := ⟨RX11, "image", "(I)I"⟩
abbrev cX11_from : ByteArray := prog_1_method_32_code
def yX11_from : MethodName := ⟨RX11, "from", "(I)I"⟩
abbrev cX11_status : ByteArray := prog_1_method_33_code
def yX11_status : MethodName := ⟨RX11, "status", "(I)I"⟩
abbrev cX11_count : ByteArray := prog_1_method_34_code
def yX11_count : MethodName := ⟨RX11, "count", "(I)I"⟩
abbrev cX11_digest : ByteArray := prog_1_method_35_code
def yX11_digest : MethodName := ⟨RX11, "digest", "()J"⟩
abbrev cX11_within : ByteArray := prog_1_method_36_code
def yX11_within : MethodName := ⟨RX11, "within", "(III)Z"⟩
abbrev cX11_isArt : ByteArray := prog_1_method_37_code
def yX11_isArt : MethodName := ⟨RX11, "isArt", "(I)Z"⟩
abbrev cX11_isOne : ByteArray := prog_1_method_38_code
def yX11_isOne : MethodName := ⟨RX11, "isOne", "(I)Z"⟩
abbrev cX11_isToCome : ByteArray := prog_1_method_39_code
def yX11_isToCome : MethodName := ⟨RX11, "isToCome", "(I)Z"⟩
abbrev cX11_bad : ByteArray := prog_1_method_40_code
def yX11_bad : MethodName := ⟨RX11, "bad", "()I"⟩
abbrev cX11_no : ByteArray := prog_1_method_41_code
def yX11_no : MethodName := ⟨RX11, "no", "()I"⟩
abbrev cX11_full : ByteArray := prog_1_method_42_code
def yX11_full : MethodName := ⟨RX11, "full", "()I"⟩
abbrev cX11_amount : ByteArray := prog_1_method_43_code
def yX11_amount : MethodName := ⟨RX11, "amount", "(I)I"⟩
abbrev cX11_setFraction : ByteArray := prog_1_method_44_code
def yX11_setFraction : MethodName := ⟨RX11, "setFraction", "(II)V"⟩
def RX12 : String := "NobodyTwiceModel"
def TX12 : u_T := fun k => match k with
  | 0 => ("NobodyTwiceModel", "now", "[I", true)
  | 1 => ("NobodyTwiceModel", "kept", "[I", true)
  | 2 => ("NobodyTwiceModel", "isKept", "[Z", true)
  | 3 => ("NobodyTwiceModel", "refused", "[I", true)
  | 4 => ("NobodyTwiceModel", "above", "J", false)
  | 5 => ("NobodyTwiceModel", "below", "J", false)
  | 6 => ("NobodyTwiceModel", "wins", "[I", true)
  | 7 => ("NobodyTwiceModel", "seconds", "[I", true)
  | 8 => ("NobodyTwiceModel", "sorts", "[I", true)
  | 9 => ("NobodyTwiceModel", "worths", "[I", true)
  | 10 => ("NobodyTwiceModel", "triesIn", "[I", true)
  | 11 => ("NobodyTwiceModel", "his", "[I", true)
  | 12 => ("NobodyTwiceModel", "theirs", "[I", true)
  | 13 => ("NobodyTwiceModel", "bytes", "[I", true)
  | 14 => ("NobodyTwiceModel", "bytesLong", "I", false)
  | 15 => ("NobodyTwiceModel", "tokenAt", "I", false)
  | 16 => ("NobodyTwiceModel", "tokenLong", "I", false)
  | 17 => ("NobodyTwiceModel", "token", "I", false)
  | 18 => ("NobodyTwiceModel", "value", "I", false)
  | 19 => ("NobodyTwiceModel", "anew", "[I", true)
  | _ => ("NobodyTwiceModel", "values", "[I", true)
def tyX12 : Nat → FieldType := fun k => match k with
  | 0 => .array .int
  | 1 => .array .int
  | 2 => .array .boolean
  | 3 => .array .int
  | 4 => .long
  | 5 => .long
  | 6 => .array .int
  | 7 => .array .int
  | 8 => .array .int
  | 9 => .array .int
  | 10 => .array .int
  | 11 => .array .int
  | 12 => .array .int
  | 13 => .array .int
  | 14 => .int
  | 15 => .int
  | 16 => .int
  | 17 => .int
  | 18 => .int
  | 19 => .array .int
  | _ => .array .int
abbrev wsX120 : List Cond := u_ws RX12 TX12 21
theorem nmX12 : ∀ a, a < 21 → ∀ b, b < 21 → a ≠ b → (TX12 a).2.1 ≠ (TX12 b).2.1 := by decide +kernel
theorem tyX12_ok : ∀ k, k < 21 → parseFieldDescriptor (TX12 k).2.2.1 = some (tyX12 k) := by decide +kernel
abbrev cX12_init : ByteArray := prog_14_method_1_code
def yX12_init : MethodName := ⟨RX12, "<init>", "()V"⟩
abbrev cX12_in : ByteArray := prog_14_method_3_code
def yX12_in : MethodName := ⟨RX12, "in", "(JJJ)Z"⟩
abbrev cX12_bad : ByteArray := prog_14_method_4_code
def yX12_bad : MethodName := ⟨RX12, "bad", "(I)I"⟩
abbrev cX12_no : ByteArray := prog_14_method_5_code
def yX12_no : MethodName := ⟨RX12, "no", "()I"⟩
abbrev cX12_full : ByteArray := prog_14_method_6_code
def yX12_full : MethodName := ⟨RX12, "full", "()I"⟩
abbrev cX12_bits : ByteArray := prog_14_method_7_code
def yX12_bits : MethodName := ⟨RX12, "bits", "(I)I"⟩
abbrev cX12_has : ByteArray := prog_14_method_8_code
def yX12_has : MethodName := ⟨RX12, "has", "(II)Z"⟩
abbrev cX12_begin : ByteArray := prog_14_method_9_code
def yX12_begin : MethodName := ⟨RX12, "begin", "([I)V"⟩
abbrev cX12_many : ByteArray := prog_14_method_10_code
def yX12_many : MethodName := ⟨RX12, "many", "()I"⟩
abbrev cX12_isOne : ByteArray := prog_14_method_11_code
def yX12_isOne : MethodName := ⟨RX12, "isOne", "(I)Z"⟩
abbrev cX12_isYear : ByteArray := prog_14_method_12_code
def yX12_isYear : MethodName := ⟨RX12, "isYear", "(I)Z"⟩
abbrev cX12_isToCome : ByteArray := prog_14_method_13_code
def yX12_isToCome : MethodName := ⟨RX12, "isToCome", "(I)Z"⟩
abbrev cX12_isSort : ByteArray := prog_14_method_14_code
def yX12_isSort : MethodName := ⟨RX12, "isSort", "(I)Z"⟩
abbrev cX12_valley : ByteArray := prog_14_method_15_code
def yX12_valley : MethodName := ⟨RX12, "valley", "()I"⟩
abbrev cX12_prize : ByteArray := prog_14_method_16_code
def yX12_prize : MethodName := ⟨RX12, "prize", "(III)I"⟩
abbrev cX12_layOne : ByteArray := prog_14_method_17_code
def yX12_layOne : MethodName := ⟨RX12, "layOne", "([IIIII)V"⟩
abbrev cX12_one : ByteArray := prog_14_method_18_code
def yX12_one : MethodName := ⟨RX12, "one", "(IIII)I"⟩
abbrev cX12_triesAs : ByteArray := prog_14_method_19_code
def yX12_triesAs : MethodName := ⟨RX12, "triesAs", "(III)Z"⟩
abbrev cX12_goodAs : ByteArray := prog_14_method_20_code
def yX12_goodAs : MethodName := ⟨RX12, "goodAs", "(III)I"⟩
abbrev cX12_isBarredBy : ByteArray := prog_14_method_21_code
def yX12_isBarredBy : MethodName := ⟨RX12, "isBarredBy", "(II)Z"⟩
abbrev cX12_goodOf : ByteArray := prog_14_method_22_code
def yX12_goodOf : MethodName := ⟨RX12, "goodOf", "(III)I"⟩
abbrev cX12_layHand : ByteArray := prog_14_method_23_code
def yX12_layHand : MethodName := ⟨RX12, "layHand", "()V"⟩
abbrev cX12_tries : ByteArray := prog_14_method_24_code
def yX12_tries : MethodName := ⟨RX12, "tries", "(II)Z"⟩
abbrev cX12_isBarred : ByteArray := prog_14_method_25_code
def yX12_isBarred : MethodName := ⟨RX12, "isBarred", "(I)Z"⟩
abbrev cX12_enters : ByteArray := prog_14_method_26_code
def yX12_enters : MethodName := ⟨RX12, "enters", "(II)Z"⟩
abbrev cX12_bestIn : ByteArray := prog_14_method_27_code
def yX12_bestIn : MethodName := ⟨RX12, "bestIn", "(II)I"⟩
abbrev cX12_goYear : ByteArray := prog_14_method_28_code
def yX12_goYear : MethodName := ⟨RX12, "goYear", "(I)I"⟩
abbrev cX12_goTill : ByteArray := prog_14_method_29_code
def yX12_goTill : MethodName := ⟨RX12, "goTill", "(I)V"⟩
abbrev cX12_worthOf : ByteArray := prog_14_method_30_code
def yX12_worthOf : MethodName := ⟨RX12, "worthOf", "(I)I"⟩
abbrev cX12_keep : ByteArray := prog_14_method_31_code
def yX12_keep : MethodName := ⟨RX12, "keep", "()V"⟩
abbrev cX12_year : ByteArray := prog_14_method_32_code
def yX12_year : MethodName := ⟨RX12, "year", "()I"⟩
abbrev cX12_undo : ByteArray := prog_14_method_33_code
def yX12_undo : MethodName := ⟨RX12, "undo", "()I"⟩
abbrev cX12_of : ByteArray := prog_14_method_34_code
def yX12_of : MethodName := ⟨RX12, "of", "(II)I"⟩
abbrev cX12_about : ByteArray := prog_14_method_35_code
def yX12_about : MethodName := ⟨RX12, "about", "(II)I"⟩
abbrev cX12_good : ByteArray := prog_14_method_36_code
def yX12_good : MethodName := ⟨RX12, "good", "(III)I"⟩
abbrev cX12_enter : ByteArray := prog_14_method_37_code
def yX12_enter : MethodName := ⟨RX12, "enter", "(I)I"⟩
abbrev cX12_winner : ByteArray := prog_14_method_38_code
def yX12_winner : MethodName := ⟨RX12, "winner", "(II)I"⟩
abbrev cX12_end : ByteArray := prog_14_method_39_code
def yX12_end : MethodName := ⟨RX12, "end", "(II)I"⟩
abbrev cX12_left : ByteArray := prog_14_method_40_code
def yX12_left : MethodName := ⟨RX12, "left", "()I"⟩
abbrev cX12_winsBy : ByteArray := prog_14_method_41_code
def yX12_winsBy : MethodName := ⟨RX12, "winsBy", "(II)I"⟩
abbrev cX12_best : ByteArray := prog_14_method_42_code
def yX12_best : MethodName := ⟨RX12, "best", "(II)I"⟩
abbrev cX12_rests : ByteArray := prog_14_method_43_code
def yX12_rests : MethodName := ⟨RX12, "rests", "(II)Z"⟩
abbrev cX12_rivals : ByteArray := prog_14_method_44_code
def yX12_rivals : MethodName := ⟨RX12, "rivals", "(III)I"⟩
abbrev cX12_handicap : ByteArray := prog_14_method_45_code
def yX12_handicap : MethodName := ⟨RX12, "handicap", "(I)I"⟩
abbrev cX12_order : ByteArray := prog_14_method_46_code
def yX12_order : MethodName := ⟨RX12, "order", "(I)I"⟩
abbrev cX12_note : ByteArray := prog_14_method_47_code
def yX12_note : MethodName := ⟨RX12, "note", "(IIII)I"⟩
abbrev cX12_beaten : ByteArray := prog_14_method_48_code
def yX12_beaten : MethodName := ⟨RX12, "beaten", "(IIII)I"⟩
abbrev cX12_forget : ByteArray := prog_14_method_49_code
def yX12_forget : MethodName := ⟨RX12, "forget", "(I)I"⟩
abbrev cX12_kindsOf : ByteArray := prog_14_method_50_code
def yX12_kindsOf : MethodName := ⟨RX12, "kindsOf", "(I)I"⟩
abbrev cX12_is : ByteArray := prog_14_method_51_code
def yX12_is : MethodName := ⟨RX12, "is", "(I)I"⟩
abbrev cX12_offer : ByteArray := prog_14_method_52_code
def yX12_offer : MethodName := ⟨RX12, "offer", "(I)I"⟩
abbrev cX12_goodThen : ByteArray := prog_14_method_53_code
def yX12_goodThen : MethodName := ⟨RX12, "goodThen", "(IIII)I"⟩
abbrev cX12_isBeaten : ByteArray := prog_14_method_54_code
def yX12_isBeaten : MethodName := ⟨RX12, "isBeaten", "(III)Z"⟩
abbrev cX12_may : ByteArray := prog_14_method_55_code
def yX12_may : MethodName := ⟨RX12, "may", "(II)I"⟩
abbrev cX12_clash : ByteArray := prog_14_method_56_code
def yX12_clash : MethodName := ⟨RX12, "clash", "()I"⟩
abbrev cX12_fraction : ByteArray := prog_14_method_57_code
def yX12_fraction : MethodName := ⟨RX12, "fraction", "(JJ)V"⟩
abbrev cX12_odds : ByteArray := prog_14_method_58_code
def yX12_odds : MethodName := ⟨RX12, "odds", "(II)I"⟩
abbrev cX12_valleys : ByteArray := prog_14_method_59_code
def yX12_valleys : MethodName := ⟨RX12, "valleys", "(II)I"⟩
abbrev cX12_type : ByteArray := prog_14_method_60_code
def yX12_type : MethodName := ⟨RX12, "type", "(I)I"⟩
abbrev cX12_clear : ByteArray := prog_14_method_61_code
def yX12_clear : MethodName := ⟨RX12, "clear", "()I"⟩
abbrev cX12_isSmall : ByteArray := prog_14_method_62_code
def yX12_isSmall : MethodName := ⟨RX12, "isSmall", "(I)Z"⟩
abbrev cX12_isFigure : ByteArray := prog_14_method_63_code
def yX12_isFigure : MethodName := ⟨RX12, "isFigure", "(I)Z"⟩
abbrev cX12_lookAt : ByteArray := prog_14_method_64_code
def yX12_lookAt : MethodName := ⟨RX12, "lookAt", "(I)V"⟩
abbrev cX12_goBehind : ByteArray := prog_14_method_65_code
def yX12_goBehind : MethodName := ⟨RX12, "goBehind", "()V"⟩
abbrev cX12_spells : ByteArray := prog_14_method_66_code
def yX12_spells : MethodName := ⟨RX12, "spells", "(IIIIIII)Z"⟩
abbrev cX12_takes : ByteArray := prog_14_method_67_code
def yX12_takes : MethodName := ⟨RX12, "takes", "(III)Z"⟩
abbrev cX12_takesPrize : ByteArray := prog_14_method_68_code
def yX12_takesPrize : MethodName := ⟨RX12, "takesPrize", "()Z"⟩
abbrev cX12_takesOne : ByteArray := prog_14_method_69_code
def yX12_takesOne : MethodName := ⟨RX12, "takesOne", "()Z"⟩
abbrev cX12_takesItem : ByteArray := prog_14_method_70_code
def yX12_takesItem : MethodName := ⟨RX12, "takesItem", "()Z"⟩
abbrev cX12_read : ByteArray := prog_14_method_71_code
def yX12_read : MethodName := ⟨RX12, "read", "()I"⟩
abbrev cX12_part : ByteArray := prog_14_method_72_code
def yX12_part : MethodName := ⟨RX12, "part", "(I)J"⟩
abbrev cX12_image : ByteArray := prog_14_method_73_code
def yX12_image : MethodName := ⟨RX12, "image", "(I)I"⟩
abbrev cX12_from : ByteArray := prog_14_method_74_code
def yX12_from : MethodName := ⟨RX12, "from", "(I)I"⟩
abbrev cX12_status : ByteArray := prog_14_method_75_code
def yX12_status : MethodName := ⟨RX12, "status", "(I)I"⟩
abbrev cX12_manyPrizes : ByteArray := prog_14_method_76_code
def yX12_manyPrizes : MethodName := ⟨RX12, "manyPrizes", "()I"⟩
abbrev cX12_manyWins : ByteArray := prog_14_method_77_code
def yX12_manyWins : MethodName := ⟨RX12, "manyWins", "()I"⟩
abbrev cX12_counted : ByteArray := prog_14_method_78_code
def yX12_counted : MethodName := ⟨RX12, "counted", "(I)I"⟩
abbrev cX12_count : ByteArray := prog_14_method_79_code
def yX12_count : MethodName := ⟨RX12, "count", "(I)I"⟩
abbrev cX12_sums : ByteArray := prog_14_method_80_code
def yX12_sums : MethodName := ⟨RX12, "sums", "(JII)J"⟩
abbrev cX12_digest : ByteArray := prog_14_method_81_code
def yX12_digest : MethodName := ⟨RX12, "digest", "()J"⟩
def RJx145de : String := "java/io/Serializable"
def TJx145de : u_T := fun k => match k with
  | _ => ("", "", "", false)
def tyJx145de : Nat → FieldType := fun k => match k with
  | _ => .int
abbrev wsJx145de0 : List Cond := u_ws RJx145de TJx145de 0
theorem nmJx145de : ∀ a, a < 0 → ∀ b, b < 0 → a ≠ b → (TJx145de a).2.1 ≠ (TJx145de b).2.1 := by decide +kernel
theorem tyJx145de_ok : ∀ k, k < 0 → parseFieldDescriptor (TJx145de k).2.2.1 = some (tyJx145de k) := by decide +kernel
def RJx9f9b0 : String := "java/lang/CharSequence"
def TJx9f9b0 : u_T := fun k => match k with
  | _ => ("", "", "", false)
def tyJx9f9b0 : Nat → FieldType := fun k => match k with
  | _ => .int
abbrev wsJx9f9b00 : List Cond := u_ws RJx9f9b0 TJx9f9b0 0
theorem nmJx9f9b0 : ∀ a, a < 0 → ∀ b, b < 0 → a ≠ b → (TJx9f9b0 a).2.1 ≠ (TJx9f9b0 b).2.1 := by decide +kernel
theorem tyJx9f9b0_ok : ∀ k, k < 0 → parseFieldDescriptor (TJx9f9b0 k).2.2.1 = some (tyJx9f9b0 k) := by decide +kernel
def RJxb160c : String := "java/lang/Comparable"
def TJxb160c : u_T := fun k => match k with
  | _ => ("", "", "", false)
def tyJxb160c : Nat → FieldType := fun k => match k with
  | _ => .int
abbrev wsJxb160c0 : List Cond := u_ws RJxb160c TJxb160c 0
theorem nmJxb160c : ∀ a, a < 0 → ∀ b, b < 0 → a ≠ b → (TJxb160c a).2.1 ≠ (TJxb160c b).2.1 := by decide +kernel
theorem tyJxb160c_ok : ∀ k, k < 0 → parseFieldDescriptor (TJxb160c k).2.2.1 = some (tyJxb160c k) := by decide +kernel
def RJ6 : String := "java/lang/Integer"
def TJ6 : u_T := fun k => match k with
  | _ => ("", "", "", false)
def tyJ6 : Nat → FieldType := fun k => match k with
  | _ => .int
abbrev wsJ60 : List Cond := u_ws RJ6 TJ6 0
theorem nmJ6 : ∀ a, a < 0 → ∀ b, b < 0 → a ≠ b → (TJ6 a).2.1 ≠ (TJ6 b).2.1 := by decide +kernel
theorem tyJ6_ok : ∀ k, k < 0 → parseFieldDescriptor (TJ6 k).2.2.1 = some (tyJ6 k) := by decide +kernel
abbrev cJ6_bitCount_0f7a4 : ByteArray := prog_15_method_49_code
def yJ6_bitCount_0f7a4 : MethodName := ⟨RJ6, "bitCount", "(I)I"⟩
def RJ9 : String := "java/lang/Math"
def TJ9 : u_T := fun k => match k with
  | _ => ("", "", "", false)
def tyJ9 : Nat → FieldType := fun k => match k with
  | _ => .int
abbrev wsJ90 : List Cond := u_ws RJ9 TJ9 0
theorem nmJ9 : ∀ a, a < 0 → ∀ b, b < 0 → a ≠ b → (TJ9 a).2.1 ≠ (TJ9 b).2.1 := by decide +kernel
theorem tyJ9_ok : ∀ k, k < 0 → parseFieldDescriptor (TJ9 k).2.2.1 = some (tyJ9 k) := by decide +kernel
abbrev cJ9_max_7cf53 : ByteArray := prog_16_method_65_code
def yJ9_max_7cf53 : MethodName := ⟨RJ9, "max", "(II)I"⟩
def RJ0 : String := "java/lang/String"
def TJ0 : u_T := fun k => match k with
  | _ => ("", "", "", false)
def tyJ0 : Nat → FieldType := fun k => match k with
  | _ => .int
abbrev wsJ00 : List Cond := u_ws RJ0 TJ0 0
theorem nmJ0 : ∀ a, a < 0 → ∀ b, b < 0 → a ≠ b → (TJ0 a).2.1 ≠ (TJ0 b).2.1 := by decide +kernel
theorem tyJ0_ok : ∀ k, k < 0 → parseFieldDescriptor (TJ0 k).2.2.1 = some (tyJ0 k) := by decide +kernel
abbrev cJ0_length_8abf5 : ByteArray := prog_17_method_54_code
def yJ0_length_8abf5 : MethodName := ⟨RJ0, "length", "()I"⟩
abbrev cJ0_charAt_5068e : ByteArray := prog_17_method_56_code
def yJ0_charAt_5068e : MethodName := ⟨RJ0, "charAt", "(I)C"⟩
abbrev cJ0_coder_7d493 : ByteArray := prog_17_method_152_code
def yJ0_coder_7d493 : MethodName := ⟨RJ0, "coder", "()B"⟩
abbrev cJ0_isLatin1_aae02 : ByteArray := prog_17_method_154_code
def yJ0_isLatin1_aae02 : MethodName := ⟨RJ0, "isLatin1", "()Z"⟩
abbrev cJ0_checkIndex_df160 : ByteArray := prog_17_method_155_code
def yJ0_checkIndex_df160 : MethodName := ⟨RJ0, "checkIndex", "(II)V"⟩
def RJ1 : String := "java/lang/StringLatin1"
def TJ1 : u_T := fun k => match k with
  | _ => ("", "", "", false)
def tyJ1 : Nat → FieldType := fun k => match k with
  | _ => .int
abbrev wsJ10 : List Cond := u_ws RJ1 TJ1 0
theorem nmJ1 : ∀ a, a < 0 → ∀ b, b < 0 → a ≠ b → (TJ1 a).2.1 ≠ (TJ1 b).2.1 := by decide +kernel
theorem tyJ1_ok : ∀ k, k < 0 → parseFieldDescriptor (TJ1 k).2.2.1 = some (tyJ1 k) := by decide +kernel
abbrev cJ1_charAt_3b067 : ByteArray := prog_18_method_2_code
def yJ1_charAt_3b067 : MethodName := ⟨RJ1, "charAt", "([BI)C"⟩
def RJ2 : String := "java/lang/StringUTF16"
def TJ2 : u_T := fun k => match k with
  | _ => ("", "", "", false)
def tyJ2 : Nat → FieldType := fun k => match k with
  | _ => .int
abbrev wsJ20 : List Cond := u_ws RJ2 TJ2 0
theorem nmJ2 : ∀ a, a < 0 → ∀ b, b < 0 → a ≠ b → (TJ2 a).2.1 ≠ (TJ2 b).2.1 := by decide +kernel
theorem tyJ2_ok : ∀ k, k < 0 → parseFieldDescriptor (TJ2 k).2.2.1 = some (tyJ2 k) := by decide +kernel
abbrev cJ2_getChar_3b067 : ByteArray := prog_19_method_5_code
def yJ2_getChar_3b067 : MethodName := ⟨RJ2, "getChar", "([BI)C"⟩
abbrev cJ2_length_9d52b : ByteArray := prog_19_method_6_code
def yJ2_length_9d52b : MethodName := ⟨RJ2, "length", "([B)I"⟩
abbrev cJ2_charAt_3b067 : ByteArray := prog_19_method_83_code
def yJ2_charAt_3b067 : MethodName := ⟨RJ2, "charAt", "([BI)C"⟩
abbrev cJ2_checkIndex_2214a : ByteArray := prog_19_method_91_code
def yJ2_checkIndex_2214a : MethodName := ⟨RJ2, "checkIndex", "(I[B)V"⟩
def RJ10 : String := "java/lang/System"
def TJ10 : u_T := fun k => match k with
  | _ => ("", "", "", false)
def tyJ10 : Nat → FieldType := fun k => match k with
  | _ => .int
abbrev wsJ100 : List Cond := u_ws RJ10 TJ10 0
theorem nmJ10 : ∀ a, a < 0 → ∀ b, b < 0 → a ≠ b → (TJ10 a).2.1 ≠ (TJ10 b).2.1 := by decide +kernel
theorem tyJ10_ok : ∀ k, k < 0 → parseFieldDescriptor (TJ10 k).2.2.1 = some (tyJ10 k) := by decide +kernel
def RJxfd54e : String := "java/lang/constant/Constable"
def TJxfd54e : u_T := fun k => match k with
  | _ => ("", "", "", false)
def tyJxfd54e : Nat → FieldType := fun k => match k with
  | _ => .int
abbrev wsJxfd54e0 : List Cond := u_ws RJxfd54e TJxfd54e 0
theorem nmJxfd54e : ∀ a, a < 0 → ∀ b, b < 0 → a ≠ b → (TJxfd54e a).2.1 ≠ (TJxfd54e b).2.1 := by decide +kernel
theorem tyJxfd54e_ok : ∀ k, k < 0 → parseFieldDescriptor (TJxfd54e k).2.2.1 = some (tyJxfd54e k) := by decide +kernel
def RJx3cf43 : String := "java/lang/constant/ConstantDesc"
def TJx3cf43 : u_T := fun k => match k with
  | _ => ("", "", "", false)
def tyJx3cf43 : Nat → FieldType := fun k => match k with
  | _ => .int
abbrev wsJx3cf430 : List Cond := u_ws RJx3cf43 TJx3cf43 0
theorem nmJx3cf43 : ∀ a, a < 0 → ∀ b, b < 0 → a ≠ b → (TJx3cf43 a).2.1 ≠ (TJx3cf43 b).2.1 := by decide +kernel
theorem tyJx3cf43_ok : ∀ k, k < 0 → parseFieldDescriptor (TJx3cf43 k).2.2.1 = some (tyJx3cf43 k) := by decide +kernel
def RJ7 : String := "java/util/Arrays"
def TJ7 : u_T := fun k => match k with
  | _ => ("", "", "", false)
def tyJ7 : Nat → FieldType := fun k => match k with
  | _ => .int
abbrev wsJ70 : List Cond := u_ws RJ7 TJ7 0
theorem nmJ7 : ∀ a, a < 0 → ∀ b, b < 0 → a ≠ b → (TJ7 a).2.1 ≠ (TJ7 b).2.1 := by decide +kernel
theorem tyJ7_ok : ∀ k, k < 0 → parseFieldDescriptor (TJ7 k).2.2.1 = some (tyJ7 k) := by decide +kernel
abbrev cJ7_fill_53178 : ByteArray := prog_21_method_103_code
def yJ7_fill_53178 : MethodName := ⟨RJ7, "fill", "([II)V"⟩
def RJ3 : String := "jdk/internal/util/Preconditions"
def TJ3 : u_T := fun k => match k with
  | _ => ("", "", "", false)
def tyJ3 : Nat → FieldType := fun k => match k with
  | _ => .int
abbrev wsJ30 : List Cond := u_ws RJ3 TJ3 0
theorem nmJ3 : ∀ a, a < 0 → ∀ b, b < 0 → a ≠ b → (TJ3 a).2.1 ≠ (TJ3 b).2.1 := by decide +kernel
theorem tyJ3_ok : ∀ k, k < 0 → parseFieldDescriptor (TJ3 k).2.2.1 = some (tyJ3 k) := by decide +kernel
abbrev cJ3_checkIndex_8e157 : ByteArray := prog_22_method_11_code
def yJ3_checkIndex_8e157 : MethodName := ⟨RJ3, "checkIndex", "(IILjava/util/function/BiFunction;)I"⟩
def RL : String := "NobodyTwiceLaw"
abbrev cL_law : ByteArray := code
def yL_law : MethodName := ⟨RL, "law", "([I)Z"⟩
