section
-- ===== PART A: goes FIRST, ahead of the names: the tables' words, and 'selects' of the private methods out of them =====
/-- a private method of a class that the tables say can be made, by its rows of tables_1 -/
def lw_okq (q : MethodName × Nat) : Prop := (q.1.cls ≠ "java/lang/invoke/MethodHandle" ∧ q.1.cls ≠ "java/lang/invoke/VarHandle") ∧ Cond.instantiable q.1.cls q.2 ∈ tables_1 ∧ Cond.privateMethod q.1 ∈ tables_1 ∧ Cond.instanceMethod q.1 ∈ tables_1
theorem lw_p0 : lw_okq (⟨"NobodyTwice", "bad", "()I"⟩, 12) := ⟨⟨by decide +kernel, by decide +kernel⟩, List.mem_of_getElem? (i := 23) (by decide +kernel), List.mem_of_getElem? (i := 300) (by decide +kernel), List.mem_of_getElem? (i := 301) (by decide +kernel)⟩
theorem lw_p1 : lw_okq (⟨"NobodyTwice", "full", "()I"⟩, 12) := ⟨⟨by decide +kernel, by decide +kernel⟩, List.mem_of_getElem? (i := 23) (by decide +kernel), List.mem_of_getElem? (i := 315) (by decide +kernel), List.mem_of_getElem? (i := 316) (by decide +kernel)⟩
theorem lw_p2 : lw_okq (⟨"NobodyTwice$Script", "advance", "()V"⟩, 6) := ⟨⟨by decide +kernel, by decide +kernel⟩, List.mem_of_getElem? (i := 225) (by decide +kernel), List.mem_of_getElem? (i := 344) (by decide +kernel), List.mem_of_getElem? (i := 345) (by decide +kernel)⟩
theorem lw_p3 : lw_okq (⟨"NobodyTwice$Script", "takeFigures", "()V"⟩, 6) := ⟨⟨by decide +kernel, by decide +kernel⟩, List.mem_of_getElem? (i := 225) (by decide +kernel), List.mem_of_getElem? (i := 354) (by decide +kernel), List.mem_of_getElem? (i := 355) (by decide +kernel)⟩
theorem lw_p4 : lw_okq (⟨"NobodyTwice$Script", "isWord", "(Ljava/lang/String;)Z"⟩, 6) := ⟨⟨by decide +kernel, by decide +kernel⟩, List.mem_of_getElem? (i := 225) (by decide +kernel), List.mem_of_getElem? (i := 359) (by decide +kernel), List.mem_of_getElem? (i := 360) (by decide +kernel)⟩
theorem lw_p5 : lw_okq (⟨"NobodyTwice$Script", "endsItem", "()Z"⟩, 6) := ⟨⟨by decide +kernel, by decide +kernel⟩, List.mem_of_getElem? (i := 225) (by decide +kernel), List.mem_of_getElem? (i := 411) (by decide +kernel), List.mem_of_getElem? (i := 412) (by decide +kernel)⟩
theorem lw_p6 : lw_okq (⟨"NobodyTwice$Script", "tellPrize", "(LNobodyTwice$Valley;)Z"⟩, 6) := ⟨⟨by decide +kernel, by decide +kernel⟩, List.mem_of_getElem? (i := 225) (by decide +kernel), List.mem_of_getElem? (i := 416) (by decide +kernel), List.mem_of_getElem? (i := 417) (by decide +kernel)⟩
theorem lw_p7 : lw_okq (⟨"NobodyTwice$Script", "hasNumber", "(II)Z"⟩, 6) := ⟨⟨by decide +kernel, by decide +kernel⟩, List.mem_of_getElem? (i := 225) (by decide +kernel), List.mem_of_getElem? (i := 420) (by decide +kernel), List.mem_of_getElem? (i := 421) (by decide +kernel)⟩
theorem lw_p8 : lw_okq (⟨"NobodyTwice$Script", "tellOne", "(LNobodyTwice$Valley;)Z"⟩, 6) := ⟨⟨by decide +kernel, by decide +kernel⟩, List.mem_of_getElem? (i := 225) (by decide +kernel), List.mem_of_getElem? (i := 427) (by decide +kernel), List.mem_of_getElem? (i := 428) (by decide +kernel)⟩
theorem lw_p9 : lw_okq (⟨"NobodyTwice", "no", "()I"⟩, 12) := ⟨⟨by decide +kernel, by decide +kernel⟩, List.mem_of_getElem? (i := 23) (by decide +kernel), List.mem_of_getElem? (i := 453) (by decide +kernel), List.mem_of_getElem? (i := 454) (by decide +kernel)⟩
theorem lw_p10 : lw_okq (⟨"NobodyTwice", "isOne", "(I)Z"⟩, 12) := ⟨⟨by decide +kernel, by decide +kernel⟩, List.mem_of_getElem? (i := 23) (by decide +kernel), List.mem_of_getElem? (i := 545) (by decide +kernel), List.mem_of_getElem? (i := 546) (by decide +kernel)⟩
theorem lw_p11 : lw_okq (⟨"NobodyTwice", "isToCome", "(I)Z"⟩, 12) := ⟨⟨by decide +kernel, by decide +kernel⟩, List.mem_of_getElem? (i := 23) (by decide +kernel), List.mem_of_getElem? (i := 566) (by decide +kernel), List.mem_of_getElem? (i := 567) (by decide +kernel)⟩
theorem lw_p12 : lw_okq (⟨"NobodyTwice$Foresight", "rests", "(III)Z"⟩, 4) := ⟨⟨by decide +kernel, by decide +kernel⟩, List.mem_of_getElem? (i := 203) (by decide +kernel), List.mem_of_getElem? (i := 638) (by decide +kernel), List.mem_of_getElem? (i := 639) (by decide +kernel)⟩
theorem lw_p13 : lw_okq (⟨"NobodyTwice$Contest", "kindFits", "(LNobodyTwice$Table;II)Z"⟩, 5) := ⟨⟨by decide +kernel, by decide +kernel⟩, List.mem_of_getElem? (i := 127) (by decide +kernel), List.mem_of_getElem? (i := 690) (by decide +kernel), List.mem_of_getElem? (i := 691) (by decide +kernel)⟩
theorem lw_p14 : lw_okq (⟨"NobodyTwice$Contest", "isSoWith", "(LNobodyTwice$Valley;III)Z"⟩, 5) := ⟨⟨by decide +kernel, by decide +kernel⟩, List.mem_of_getElem? (i := 127) (by decide +kernel), List.mem_of_getElem? (i := 715) (by decide +kernel), List.mem_of_getElem? (i := 716) (by decide +kernel)⟩
theorem lw_p15 : lw_okq (⟨"NobodyTwice", "setFraction", "(II)V"⟩, 12) := ⟨⟨by decide +kernel, by decide +kernel⟩, List.mem_of_getElem? (i := 23) (by decide +kernel), List.mem_of_getElem? (i := 736) (by decide +kernel), List.mem_of_getElem? (i := 737) (by decide +kernel)⟩
def lw_privs_1 : List (MethodName × Nat) := [(⟨"NobodyTwice", "bad", "()I"⟩, 12), (⟨"NobodyTwice", "full", "()I"⟩, 12), (⟨"NobodyTwice$Script", "advance", "()V"⟩, 6), (⟨"NobodyTwice$Script", "takeFigures", "()V"⟩, 6), (⟨"NobodyTwice$Script", "isWord", "(Ljava/lang/String;)Z"⟩, 6), (⟨"NobodyTwice$Script", "endsItem", "()Z"⟩, 6), (⟨"NobodyTwice$Script", "tellPrize", "(LNobodyTwice$Valley;)Z"⟩, 6), (⟨"NobodyTwice$Script", "hasNumber", "(II)Z"⟩, 6), (⟨"NobodyTwice$Script", "tellOne", "(LNobodyTwice$Valley;)Z"⟩, 6), (⟨"NobodyTwice", "no", "()I"⟩, 12), (⟨"NobodyTwice", "isOne", "(I)Z"⟩, 12), (⟨"NobodyTwice", "isToCome", "(I)Z"⟩, 12), (⟨"NobodyTwice$Foresight", "rests", "(III)Z"⟩, 4), (⟨"NobodyTwice$Contest", "kindFits", "(LNobodyTwice$Table;II)Z"⟩, 5), (⟨"NobodyTwice$Contest", "isSoWith", "(LNobodyTwice$Valley;III)Z"⟩, 5), (⟨"NobodyTwice", "setFraction", "(II)V"⟩, 12)]
theorem lw_r1 : ∀ q ∈ lw_privs_1, lw_okq q := List.forall_mem_cons.mpr ⟨lw_p0, List.forall_mem_cons.mpr ⟨lw_p1, List.forall_mem_cons.mpr ⟨lw_p2, List.forall_mem_cons.mpr ⟨lw_p3, List.forall_mem_cons.mpr ⟨lw_p4, List.forall_mem_cons.mpr ⟨lw_p5, List.forall_mem_cons.mpr ⟨lw_p6, List.forall_mem_cons.mpr ⟨lw_p7, List.forall_mem_cons.mpr ⟨lw_p8, List.forall_mem_cons.mpr ⟨lw_p9, List.forall_mem_cons.mpr ⟨lw_p10, List.forall_mem_cons.mpr ⟨lw_p11, List.forall_mem_cons.mpr ⟨lw_p12, List.forall_mem_cons.mpr ⟨lw_p13, List.forall_mem_cons.mpr ⟨lw_p14, List.forall_mem_cons.mpr ⟨lw_p15, fun _ h => absurd h List.not_mem_nil⟩⟩⟩⟩⟩⟩⟩⟩⟩⟩⟩⟩⟩⟩⟩⟩
theorem lw_p16 : lw_okq (⟨"NobodyTwice", "amount", "(I)I"⟩, 12) := ⟨⟨by decide +kernel, by decide +kernel⟩, List.mem_of_getElem? (i := 23) (by decide +kernel), List.mem_of_getElem? (i := 777) (by decide +kernel), List.mem_of_getElem? (i := 778) (by decide +kernel)⟩
theorem lw_p17 : lw_okq (⟨"NobodyTwiceModel", "many", "()I"⟩, 21) := ⟨⟨by decide +kernel, by decide +kernel⟩, List.mem_of_getElem? (i := 806) (by decide +kernel), List.mem_of_getElem? (i := 883) (by decide +kernel), List.mem_of_getElem? (i := 884) (by decide +kernel)⟩
theorem lw_p18 : lw_okq (⟨"NobodyTwiceModel", "bad", "(I)I"⟩, 21) := ⟨⟨by decide +kernel, by decide +kernel⟩, List.mem_of_getElem? (i := 806) (by decide +kernel), List.mem_of_getElem? (i := 903) (by decide +kernel), List.mem_of_getElem? (i := 904) (by decide +kernel)⟩
theorem lw_p19 : lw_okq (⟨"NobodyTwiceModel", "full", "()I"⟩, 21) := ⟨⟨by decide +kernel, by decide +kernel⟩, List.mem_of_getElem? (i := 806) (by decide +kernel), List.mem_of_getElem? (i := 913) (by decide +kernel), List.mem_of_getElem? (i := 914) (by decide +kernel)⟩
theorem lw_p20 : lw_okq (⟨"NobodyTwiceModel", "no", "()I"⟩, 21) := ⟨⟨by decide +kernel, by decide +kernel⟩, List.mem_of_getElem? (i := 806) (by decide +kernel), List.mem_of_getElem? (i := 924) (by decide +kernel), List.mem_of_getElem? (i := 925) (by decide +kernel)⟩
theorem lw_p21 : lw_okq (⟨"NobodyTwiceModel", "keep", "()V"⟩, 21) := ⟨⟨by decide +kernel, by decide +kernel⟩, List.mem_of_getElem? (i := 806) (by decide +kernel), List.mem_of_getElem? (i := 928) (by decide +kernel), List.mem_of_getElem? (i := 929) (by decide +kernel)⟩
theorem lw_p22 : lw_okq (⟨"NobodyTwiceModel", "layHand", "()V"⟩, 21) := ⟨⟨by decide +kernel, by decide +kernel⟩, List.mem_of_getElem? (i := 806) (by decide +kernel), List.mem_of_getElem? (i := 932) (by decide +kernel), List.mem_of_getElem? (i := 933) (by decide +kernel)⟩
theorem lw_p23 : lw_okq (⟨"NobodyTwiceModel", "goYear", "(I)I"⟩, 21) := ⟨⟨by decide +kernel, by decide +kernel⟩, List.mem_of_getElem? (i := 806) (by decide +kernel), List.mem_of_getElem? (i := 936) (by decide +kernel), List.mem_of_getElem? (i := 937) (by decide +kernel)⟩
theorem lw_p24 : lw_okq (⟨"NobodyTwiceModel", "bestIn", "(II)I"⟩, 21) := ⟨⟨by decide +kernel, by decide +kernel⟩, List.mem_of_getElem? (i := 806) (by decide +kernel), List.mem_of_getElem? (i := 940) (by decide +kernel), List.mem_of_getElem? (i := 941) (by decide +kernel)⟩
theorem lw_p25 : lw_okq (⟨"NobodyTwiceModel", "enters", "(II)Z"⟩, 21) := ⟨⟨by decide +kernel, by decide +kernel⟩, List.mem_of_getElem? (i := 806) (by decide +kernel), List.mem_of_getElem? (i := 944) (by decide +kernel), List.mem_of_getElem? (i := 945) (by decide +kernel)⟩
theorem lw_p26 : lw_okq (⟨"NobodyTwiceModel", "isBarred", "(I)Z"⟩, 21) := ⟨⟨by decide +kernel, by decide +kernel⟩, List.mem_of_getElem? (i := 806) (by decide +kernel), List.mem_of_getElem? (i := 948) (by decide +kernel), List.mem_of_getElem? (i := 949) (by decide +kernel)⟩
theorem lw_p27 : lw_okq (⟨"NobodyTwiceModel", "tries", "(II)Z"⟩, 21) := ⟨⟨by decide +kernel, by decide +kernel⟩, List.mem_of_getElem? (i := 806) (by decide +kernel), List.mem_of_getElem? (i := 958) (by decide +kernel), List.mem_of_getElem? (i := 959) (by decide +kernel)⟩
theorem lw_p28 : lw_okq (⟨"NobodyTwiceModel", "goodOf", "(III)I"⟩, 21) := ⟨⟨by decide +kernel, by decide +kernel⟩, List.mem_of_getElem? (i := 806) (by decide +kernel), List.mem_of_getElem? (i := 965) (by decide +kernel), List.mem_of_getElem? (i := 966) (by decide +kernel)⟩
theorem lw_p29 : lw_okq (⟨"NobodyTwiceModel", "isOne", "(I)Z"⟩, 21) := ⟨⟨by decide +kernel, by decide +kernel⟩, List.mem_of_getElem? (i := 806) (by decide +kernel), List.mem_of_getElem? (i := 980) (by decide +kernel), List.mem_of_getElem? (i := 981) (by decide +kernel)⟩
theorem lw_p30 : lw_okq (⟨"NobodyTwiceModel", "isToCome", "(I)Z"⟩, 21) := ⟨⟨by decide +kernel, by decide +kernel⟩, List.mem_of_getElem? (i := 806) (by decide +kernel), List.mem_of_getElem? (i := 997) (by decide +kernel), List.mem_of_getElem? (i := 998) (by decide +kernel)⟩
theorem lw_p31 : lw_okq (⟨"NobodyTwiceModel", "goTill", "(I)V"⟩, 21) := ⟨⟨by decide +kernel, by decide +kernel⟩, List.mem_of_getElem? (i := 806) (by decide +kernel), List.mem_of_getElem? (i := 1001) (by decide +kernel), List.mem_of_getElem? (i := 1002) (by decide +kernel)⟩
def lw_privs_2 : List (MethodName × Nat) := [(⟨"NobodyTwice", "amount", "(I)I"⟩, 12), (⟨"NobodyTwiceModel", "many", "()I"⟩, 21), (⟨"NobodyTwiceModel", "bad", "(I)I"⟩, 21), (⟨"NobodyTwiceModel", "full", "()I"⟩, 21), (⟨"NobodyTwiceModel", "no", "()I"⟩, 21), (⟨"NobodyTwiceModel", "keep", "()V"⟩, 21), (⟨"NobodyTwiceModel", "layHand", "()V"⟩, 21), (⟨"NobodyTwiceModel", "goYear", "(I)I"⟩, 21), (⟨"NobodyTwiceModel", "bestIn", "(II)I"⟩, 21), (⟨"NobodyTwiceModel", "enters", "(II)Z"⟩, 21), (⟨"NobodyTwiceModel", "isBarred", "(I)Z"⟩, 21), (⟨"NobodyTwiceModel", "tries", "(II)Z"⟩, 21), (⟨"NobodyTwiceModel", "goodOf", "(III)I"⟩, 21), (⟨"NobodyTwiceModel", "isOne", "(I)Z"⟩, 21), (⟨"NobodyTwiceModel", "isToCome", "(I)Z"⟩, 21), (⟨"NobodyTwiceModel", "goTill", "(I)V"⟩, 21)]
theorem lw_r2 : ∀ q ∈ lw_privs_2, lw_okq q := List.forall_mem_cons.mpr ⟨lw_p16, List.forall_mem_cons.mpr ⟨lw_p17, List.forall_mem_cons.mpr ⟨lw_p18, List.forall_mem_cons.mpr ⟨lw_p19, List.forall_mem_cons.mpr ⟨lw_p20, List.forall_mem_cons.mpr ⟨lw_p21, List.forall_mem_cons.mpr ⟨lw_p22, List.forall_mem_cons.mpr ⟨lw_p23, List.forall_mem_cons.mpr ⟨lw_p24, List.forall_mem_cons.mpr ⟨lw_p25, List.forall_mem_cons.mpr ⟨lw_p26, List.forall_mem_cons.mpr ⟨lw_p27, List.forall_mem_cons.mpr ⟨lw_p28, List.forall_mem_cons.mpr ⟨lw_p29, List.forall_mem_cons.mpr ⟨lw_p30, List.forall_mem_cons.mpr ⟨lw_p31, fun _ h => absurd h List.not_mem_nil⟩⟩⟩⟩⟩⟩⟩⟩⟩⟩⟩⟩⟩⟩⟩⟩
theorem lw_p32 : lw_okq (⟨"NobodyTwiceModel", "worthOf", "(I)I"⟩, 21) := ⟨⟨by decide +kernel, by decide +kernel⟩, List.mem_of_getElem? (i := 806) (by decide +kernel), List.mem_of_getElem? (i := 1013) (by decide +kernel), List.mem_of_getElem? (i := 1014) (by decide +kernel)⟩
theorem lw_p33 : lw_okq (⟨"NobodyTwiceModel", "winsBy", "(II)I"⟩, 21) := ⟨⟨by decide +kernel, by decide +kernel⟩, List.mem_of_getElem? (i := 806) (by decide +kernel), List.mem_of_getElem? (i := 1028) (by decide +kernel), List.mem_of_getElem? (i := 1029) (by decide +kernel)⟩
theorem lw_p34 : lw_okq (⟨"NobodyTwiceModel", "rests", "(II)Z"⟩, 21) := ⟨⟨by decide +kernel, by decide +kernel⟩, List.mem_of_getElem? (i := 806) (by decide +kernel), List.mem_of_getElem? (i := 1036) (by decide +kernel), List.mem_of_getElem? (i := 1037) (by decide +kernel)⟩
theorem lw_p35 : lw_okq (⟨"NobodyTwiceModel", "kindsOf", "(I)I"⟩, 21) := ⟨⟨by decide +kernel, by decide +kernel⟩, List.mem_of_getElem? (i := 806) (by decide +kernel), List.mem_of_getElem? (i := 1064) (by decide +kernel), List.mem_of_getElem? (i := 1065) (by decide +kernel)⟩
theorem lw_p36 : lw_okq (⟨"NobodyTwiceModel", "isBeaten", "(III)Z"⟩, 21) := ⟨⟨by decide +kernel, by decide +kernel⟩, List.mem_of_getElem? (i := 806) (by decide +kernel), List.mem_of_getElem? (i := 1077) (by decide +kernel), List.mem_of_getElem? (i := 1078) (by decide +kernel)⟩
theorem lw_p37 : lw_okq (⟨"NobodyTwiceModel", "goodThen", "(IIII)I"⟩, 21) := ⟨⟨by decide +kernel, by decide +kernel⟩, List.mem_of_getElem? (i := 806) (by decide +kernel), List.mem_of_getElem? (i := 1081) (by decide +kernel), List.mem_of_getElem? (i := 1082) (by decide +kernel)⟩
theorem lw_p38 : lw_okq (⟨"NobodyTwiceModel", "fraction", "(JJ)V"⟩, 21) := ⟨⟨by decide +kernel, by decide +kernel⟩, List.mem_of_getElem? (i := 806) (by decide +kernel), List.mem_of_getElem? (i := 1093) (by decide +kernel), List.mem_of_getElem? (i := 1094) (by decide +kernel)⟩
theorem lw_p39 : lw_okq (⟨"NobodyTwiceModel", "lookAt", "(I)V"⟩, 21) := ⟨⟨by decide +kernel, by decide +kernel⟩, List.mem_of_getElem? (i := 806) (by decide +kernel), List.mem_of_getElem? (i := 1122) (by decide +kernel), List.mem_of_getElem? (i := 1123) (by decide +kernel)⟩
theorem lw_p40 : lw_okq (⟨"NobodyTwiceModel", "spells", "(IIIIIII)Z"⟩, 21) := ⟨⟨by decide +kernel, by decide +kernel⟩, List.mem_of_getElem? (i := 806) (by decide +kernel), List.mem_of_getElem? (i := 1136) (by decide +kernel), List.mem_of_getElem? (i := 1137) (by decide +kernel)⟩
theorem lw_p41 : lw_okq (⟨"NobodyTwiceModel", "goBehind", "()V"⟩, 21) := ⟨⟨by decide +kernel, by decide +kernel⟩, List.mem_of_getElem? (i := 806) (by decide +kernel), List.mem_of_getElem? (i := 1140) (by decide +kernel), List.mem_of_getElem? (i := 1141) (by decide +kernel)⟩
theorem lw_p42 : lw_okq (⟨"NobodyTwiceModel", "takesItem", "()Z"⟩, 21) := ⟨⟨by decide +kernel, by decide +kernel⟩, List.mem_of_getElem? (i := 806) (by decide +kernel), List.mem_of_getElem? (i := 1144) (by decide +kernel), List.mem_of_getElem? (i := 1145) (by decide +kernel)⟩
theorem lw_p43 : lw_okq (⟨"NobodyTwiceModel", "takesPrize", "()Z"⟩, 21) := ⟨⟨by decide +kernel, by decide +kernel⟩, List.mem_of_getElem? (i := 806) (by decide +kernel), List.mem_of_getElem? (i := 1148) (by decide +kernel), List.mem_of_getElem? (i := 1149) (by decide +kernel)⟩
theorem lw_p44 : lw_okq (⟨"NobodyTwiceModel", "takes", "(III)Z"⟩, 21) := ⟨⟨by decide +kernel, by decide +kernel⟩, List.mem_of_getElem? (i := 806) (by decide +kernel), List.mem_of_getElem? (i := 1152) (by decide +kernel), List.mem_of_getElem? (i := 1153) (by decide +kernel)⟩
theorem lw_p45 : lw_okq (⟨"NobodyTwiceModel", "takesOne", "()Z"⟩, 21) := ⟨⟨by decide +kernel, by decide +kernel⟩, List.mem_of_getElem? (i := 806) (by decide +kernel), List.mem_of_getElem? (i := 1156) (by decide +kernel), List.mem_of_getElem? (i := 1157) (by decide +kernel)⟩
theorem lw_p46 : lw_okq (⟨"NobodyTwiceModel", "counted", "(I)I"⟩, 21) := ⟨⟨by decide +kernel, by decide +kernel⟩, List.mem_of_getElem? (i := 806) (by decide +kernel), List.mem_of_getElem? (i := 1180) (by decide +kernel), List.mem_of_getElem? (i := 1181) (by decide +kernel)⟩
theorem lw_p47 : lw_okq (⟨"NobodyTwiceModel", "manyPrizes", "()I"⟩, 21) := ⟨⟨by decide +kernel, by decide +kernel⟩, List.mem_of_getElem? (i := 806) (by decide +kernel), List.mem_of_getElem? (i := 1184) (by decide +kernel), List.mem_of_getElem? (i := 1185) (by decide +kernel)⟩
def lw_privs_3 : List (MethodName × Nat) := [(⟨"NobodyTwiceModel", "worthOf", "(I)I"⟩, 21), (⟨"NobodyTwiceModel", "winsBy", "(II)I"⟩, 21), (⟨"NobodyTwiceModel", "rests", "(II)Z"⟩, 21), (⟨"NobodyTwiceModel", "kindsOf", "(I)I"⟩, 21), (⟨"NobodyTwiceModel", "isBeaten", "(III)Z"⟩, 21), (⟨"NobodyTwiceModel", "goodThen", "(IIII)I"⟩, 21), (⟨"NobodyTwiceModel", "fraction", "(JJ)V"⟩, 21), (⟨"NobodyTwiceModel", "lookAt", "(I)V"⟩, 21), (⟨"NobodyTwiceModel", "spells", "(IIIIIII)Z"⟩, 21), (⟨"NobodyTwiceModel", "goBehind", "()V"⟩, 21), (⟨"NobodyTwiceModel", "takesItem", "()Z"⟩, 21), (⟨"NobodyTwiceModel", "takesPrize", "()Z"⟩, 21), (⟨"NobodyTwiceModel", "takes", "(III)Z"⟩, 21), (⟨"NobodyTwiceModel", "takesOne", "()Z"⟩, 21), (⟨"NobodyTwiceModel", "counted", "(I)I"⟩, 21), (⟨"NobodyTwiceModel", "manyPrizes", "()I"⟩, 21)]
theorem lw_r3 : ∀ q ∈ lw_privs_3, lw_okq q := List.forall_mem_cons.mpr ⟨lw_p32, List.forall_mem_cons.mpr ⟨lw_p33, List.forall_mem_cons.mpr ⟨lw_p34, List.forall_mem_cons.mpr ⟨lw_p35, List.forall_mem_cons.mpr ⟨lw_p36, List.forall_mem_cons.mpr ⟨lw_p37, List.forall_mem_cons.mpr ⟨lw_p38, List.forall_mem_cons.mpr ⟨lw_p39, List.forall_mem_cons.mpr ⟨lw_p40, List.forall_mem_cons.mpr ⟨lw_p41, List.forall_mem_cons.mpr ⟨lw_p42, List.forall_mem_cons.mpr ⟨lw_p43, List.forall_mem_cons.mpr ⟨lw_p44, List.forall_mem_cons.mpr ⟨lw_p45, List.forall_mem_cons.mpr ⟨lw_p46, List.forall_mem_cons.mpr ⟨lw_p47, fun _ h => absurd h List.not_mem_nil⟩⟩⟩⟩⟩⟩⟩⟩⟩⟩⟩⟩⟩⟩⟩⟩
theorem lw_p48 : lw_okq (⟨"NobodyTwiceModel", "manyWins", "()I"⟩, 21) := ⟨⟨by decide +kernel, by decide +kernel⟩, List.mem_of_getElem? (i := 806) (by decide +kernel), List.mem_of_getElem? (i := 1188) (by decide +kernel), List.mem_of_getElem? (i := 1189) (by decide +kernel)⟩
theorem lw_p49 : lw_okq (⟨"NobodyTwiceModel", "sums", "(JII)J"⟩, 21) := ⟨⟨by decide +kernel, by decide +kernel⟩, List.mem_of_getElem? (i := 806) (by decide +kernel), List.mem_of_getElem? (i := 1198) (by decide +kernel), List.mem_of_getElem? (i := 1199) (by decide +kernel)⟩
def lw_privs_4 : List (MethodName × Nat) := [(⟨"NobodyTwiceModel", "manyWins", "()I"⟩, 21), (⟨"NobodyTwiceModel", "sums", "(JII)J"⟩, 21)]
theorem lw_r4 : ∀ q ∈ lw_privs_4, lw_okq q := List.forall_mem_cons.mpr ⟨lw_p48, List.forall_mem_cons.mpr ⟨lw_p49, fun _ h => absurd h List.not_mem_nil⟩⟩
def lw_privs : List (MethodName × Nat) := lw_privs_1 ++ (lw_privs_2 ++ (lw_privs_3 ++ (lw_privs_4)))
def lw_tbl : List Cond := k2_sels lw_privs ++ tables_1
theorem lw_privs_ok : ∀ q ∈ lw_privs, lw_okq q := by
  show ∀ q ∈ lw_privs_1 ++ (lw_privs_2 ++ (lw_privs_3 ++ (lw_privs_4))), lw_okq q
  exact List.forall_mem_append.mpr ⟨lw_r1, List.forall_mem_append.mpr ⟨lw_r2, List.forall_mem_append.mpr ⟨lw_r3, lw_r4⟩⟩⟩

def RX0 : String := "NobodyTwice$Contest"
def TX0 : u_T := fun k => match k with
  | 0 => ("NobodyTwice$Contest", "ways", "[LNobodyTwice$Plain;", true)
  | 1 => ("NobodyTwice$Contest", "chosen", "[I", true)
  | 2 => ("NobodyTwice$Contest", "entrants", "I", false)
  | 3 => ("NobodyTwice$Contest", "first", "I", false)
  | _ => ("NobodyTwice$Contest", "second", "I", false)
def tyX0 : Nat → FieldType := fun k => match k with
  | 0 => .array (.object "NobodyTwice$Plain")
  | 1 => .array .int
  | 2 => .int
  | 3 => .int
  | _ => .int
abbrev wsX00 : List Cond := u_ws RX0 TX0 5
theorem nmX0 : ∀ a, a < 5 → ∀ b, b < 5 → a ≠ b → (TX0 a).2.1 ≠ (TX0 b).2.1 := by decide +kernel
theorem tyX0_ok : ∀ k, k < 5 → parseFieldDescriptor (TX0 k).2.2.1 = some (tyX0 k) := by decide +kernel
abbrev cX0_init : ByteArray := prog_2_method_1_code
def yX0_init : MethodName := ⟨RX0, "<init>", "()V"⟩
abbrev cX0_allByKind : ByteArray := prog_2_method_2_code
def yX0_allByKind : MethodName := ⟨RX0, "allByKind", "()V"⟩
abbrev cX0_choose : ByteArray := prog_2_method_3_code
def yX0_choose : MethodName := ⟨RX0, "choose", "(II)V"⟩
abbrev cX0_skillBy : ByteArray := prog_2_method_4_code
def yX0_skillBy : MethodName := ⟨RX0, "skillBy", "(III)I"⟩
abbrev cX0_isBarred : ByteArray := prog_2_method_5_code
def yX0_isBarred : MethodName := ⟨RX0, "isBarred", "(LNobodyTwice$Valley;I)Z"⟩
abbrev cX0_strength : ByteArray := prog_2_method_6_code
def yX0_strength : MethodName := ⟨RX0, "strength", "(LNobodyTwice$Valley;II)I"⟩
abbrev cX0_strengthOfAll : ByteArray := prog_2_method_7_code
def yX0_strengthOfAll : MethodName := ⟨RX0, "strengthOfAll", "(LNobodyTwice$Valley;I)I"⟩
abbrev cX0_hold : ByteArray := prog_2_method_8_code
def yX0_hold : MethodName := ⟨RX0, "hold", "(LNobodyTwice$Valley;I)V"⟩
abbrev cX0_handicapOf : ByteArray := prog_2_method_9_code
def yX0_handicapOf : MethodName := ⟨RX0, "handicapOf", "(LNobodyTwice$Valley;I)I"⟩
abbrev cX0_kindsThatFit : ByteArray := prog_2_method_10_code
def yX0_kindsThatFit : MethodName := ⟨RX0, "kindsThatFit", "(LNobodyTwice$Table;I)I"⟩
abbrev cX0_kindFits : ByteArray := prog_2_method_11_code
def yX0_kindFits : MethodName := ⟨RX0, "kindFits", "(LNobodyTwice$Table;II)Z"⟩
abbrev cX0_tellingWorth : ByteArray := prog_2_method_12_code
def yX0_tellingWorth : MethodName := ⟨RX0, "tellingWorth", "(II)I"⟩
abbrev cX0_isSo : ByteArray := prog_2_method_13_code
def yX0_isSo : MethodName := ⟨RX0, "isSo", "(LNobodyTwice$Valley;I)Z"⟩
abbrev cX0_isSoWith : ByteArray := prog_2_method_14_code
def yX0_isSoWith : MethodName := ⟨RX0, "isSoWith", "(LNobodyTwice$Valley;III)Z"⟩
abbrev cX0_artFits : ByteArray := prog_2_method_15_code
def yX0_artFits : MethodName := ⟨RX0, "artFits", "(LNobodyTwice$Valley;III)Z"⟩
def RX1 : String := "NobodyTwice$Dog"
def TX1 : u_T := fun k => match k with
  | _ => ("", "", "", false)
def tyX1 : Nat → FieldType := fun k => match k with
  | _ => .int
abbrev wsX10 : List Cond := u_ws RX1 TX1 0
theorem nmX1 : ∀ a, a < 0 → ∀ b, b < 0 → a ≠ b → (TX1 a).2.1 ≠ (TX1 b).2.1 := by decide +kernel
theorem tyX1_ok : ∀ k, k < 0 → parseFieldDescriptor (TX1 k).2.2.1 = some (tyX1 k) := by decide +kernel
abbrev cX1_init : ByteArray := prog_3_method_1_code
def yX1_init : MethodName := ⟨RX1, "<init>", "()V"⟩
abbrev cX1_skill : ByteArray := prog_3_method_2_code
def yX1_skill : MethodName := ⟨RX1, "skill", "(II)I"⟩
def RX2 : String := "NobodyTwice$Foresight"
def TX2 : u_T := fun k => match k with
  | 0 => ("NobodyTwice$Foresight", "contest", "LNobodyTwice$Contest;", true)
  | 1 => ("NobodyTwice$Foresight", "trial", "LNobodyTwice$Valley;", true)
  | 2 => ("NobodyTwice$Foresight", "worthsOfA", "[I", true)
  | _ => ("NobodyTwice$Foresight", "worthsOfB", "[I", true)
def tyX2 : Nat → FieldType := fun k => match k with
  | 0 => .object "NobodyTwice$Contest"
  | 1 => .object "NobodyTwice$Valley"
  | 2 => .array .int
  | _ => .array .int
abbrev wsX20 : List Cond := u_ws RX2 TX2 4
theorem nmX2 : ∀ a, a < 4 → ∀ b, b < 4 → a ≠ b → (TX2 a).2.1 ≠ (TX2 b).2.1 := by decide +kernel
theorem tyX2_ok : ∀ k, k < 4 → parseFieldDescriptor (TX2 k).2.2.1 = some (tyX2 k) := by decide +kernel
abbrev cX2_init : ByteArray := prog_4_method_1_code
def yX2_init : MethodName := ⟨RX2, "<init>", "(LNobodyTwice$Contest;)V"⟩
abbrev cX2_begin : ByteArray := prog_4_method_2_code
def yX2_begin : MethodName := ⟨RX2, "begin", "(LNobodyTwice$Valley;)V"⟩
abbrev cX2_runTo : ByteArray := prog_4_method_3_code
def yX2_runTo : MethodName := ⟨RX2, "runTo", "(I)V"⟩
abbrev cX2_contestOf : ByteArray := prog_4_method_4_code
def yX2_contestOf : MethodName := ⟨RX2, "contestOf", "(LNobodyTwice$Valley;I)V"⟩
abbrev cX2_untaken : ByteArray := prog_4_method_5_code
def yX2_untaken : MethodName := ⟨RX2, "untaken", "(LNobodyTwice$Valley;)I"⟩
abbrev cX2_bestYear : ByteArray := prog_4_method_6_code
def yX2_bestYear : MethodName := ⟨RX2, "bestYear", "(LNobodyTwice$Valley;I)I"⟩
abbrev cX2_weighRivals : ByteArray := prog_4_method_7_code
def yX2_weighRivals : MethodName := ⟨RX2, "weighRivals", "(LNobodyTwice$Valley;II)V"⟩
abbrev cX2_resting : ByteArray := prog_4_method_8_code
def yX2_resting : MethodName := ⟨RX2, "resting", "(II)I"⟩
abbrev cX2_rests : ByteArray := prog_4_method_9_code
def yX2_rests : MethodName := ⟨RX2, "rests", "(III)Z"⟩
abbrev cX2_bestSwap : ByteArray := prog_4_method_10_code
def yX2_bestSwap : MethodName := ⟨RX2, "bestSwap", "(LNobodyTwice$Valley;I)I"⟩
abbrev cX2_worthInValleys : ByteArray := prog_4_method_11_code
def yX2_worthInValleys : MethodName := ⟨RX2, "worthInValleys", "(LNobodyTwice$Valley;II)I"⟩
def RX3 : String := "NobodyTwice$Hider"
def TX3 : u_T := fun k => match k with
  | _ => ("", "", "", false)
def tyX3 : Nat → FieldType := fun k => match k with
  | _ => .int
abbrev wsX30 : List Cond := u_ws RX3 TX3 0
theorem nmX3 : ∀ a, a < 0 → ∀ b, b < 0 → a ≠ b → (TX3 a).2.1 ≠ (TX3 b).2.1 := by decide +kernel
theorem tyX3_ok : ∀ k, k < 0 → parseFieldDescriptor (TX3 k).2.2.1 = some (tyX3 k) := by decide +kernel
abbrev cX3_init : ByteArray := prog_5_method_1_code
def yX3_init : MethodName := ⟨RX3, "<init>", "()V"⟩
abbrev cX3_barredBy : ByteArray := prog_5_method_2_code
def yX3_barredBy : MethodName := ⟨RX3, "barredBy", "(I)Z"⟩
def RX4 : String := "NobodyTwice$Old"
def TX4 : u_T := fun k => match k with
  | _ => ("", "", "", false)
def tyX4 : Nat → FieldType := fun k => match k with
  | _ => .int
abbrev wsX40 : List Cond := u_ws RX4 TX4 0
theorem nmX4 : ∀ a, a < 0 → ∀ b, b < 0 → a ≠ b → (TX4 a).2.1 ≠ (TX4 b).2.1 := by decide +kernel
theorem tyX4_ok : ∀ k, k < 0 → parseFieldDescriptor (TX4 k).2.2.1 = some (tyX4 k) := by decide +kernel
abbrev cX4_init : ByteArray := prog_6_method_1_code
def yX4_init : MethodName := ⟨RX4, "<init>", "()V"⟩
abbrev cX4_skill : ByteArray := prog_6_method_2_code
def yX4_skill : MethodName := ⟨RX4, "skill", "(II)I"⟩
def RX5 : String := "NobodyTwice$Plain"
def TX5 : u_T := fun k => match k with
  | _ => ("", "", "", false)
def tyX5 : Nat → FieldType := fun k => match k with
  | _ => .int
abbrev wsX50 : List Cond := u_ws RX5 TX5 0
theorem nmX5 : ∀ a, a < 0 → ∀ b, b < 0 → a ≠ b → (TX5 a).2.1 ≠ (TX5 b).2.1 := by decide +kernel
theorem tyX5_ok : ∀ k, k < 0 → parseFieldDescriptor (TX5 k).2.2.1 = some (tyX5 k) := by decide +kernel
abbrev cX5_init : ByteArray := prog_7_method_1_code
def yX5_init : MethodName := ⟨RX5, "<init>", "()V"⟩
abbrev cX5_wants : ByteArray := prog_7_method_2_code
def yX5_wants : MethodName := ⟨RX5, "wants", "(II)Z"⟩
abbrev cX5_skill : ByteArray := prog_7_method_3_code
def yX5_skill : MethodName := ⟨RX5, "skill", "(II)I"⟩
abbrev cX5_barredBy : ByteArray := prog_7_method_4_code
def yX5_barredBy : MethodName := ⟨RX5, "barredBy", "(I)Z"⟩
def RX6 : String := "NobodyTwice$Proud"
def TX6 : u_T := fun k => match k with
  | _ => ("", "", "", false)
def tyX6 : Nat → FieldType := fun k => match k with
  | _ => .int
abbrev wsX60 : List Cond := u_ws RX6 TX6 0
theorem nmX6 : ∀ a, a < 0 → ∀ b, b < 0 → a ≠ b → (TX6 a).2.1 ≠ (TX6 b).2.1 := by decide +kernel
theorem tyX6_ok : ∀ k, k < 0 → parseFieldDescriptor (TX6 k).2.2.1 = some (tyX6 k) := by decide +kernel
abbrev cX6_init : ByteArray := prog_8_method_1_code
def yX6_init : MethodName := ⟨RX6, "<init>", "()V"⟩
abbrev cX6_wants : ByteArray := prog_8_method_2_code
def yX6_wants : MethodName := ⟨RX6, "wants", "(II)Z"⟩
abbrev cX6_skill : ByteArray := prog_8_method_3_code
def yX6_skill : MethodName := ⟨RX6, "skill", "(II)I"⟩
def RX7 : String := "NobodyTwice$Saver"
def TX7 : u_T := fun k => match k with
  | _ => ("", "", "", false)
def tyX7 : Nat → FieldType := fun k => match k with
  | _ => .int
abbrev wsX70 : List Cond := u_ws RX7 TX7 0
theorem nmX7 : ∀ a, a < 0 → ∀ b, b < 0 → a ≠ b → (TX7 a).2.1 ≠ (TX7 b).2.1 := by decide +kernel
theorem tyX7_ok : ∀ k, k < 0 → parseFieldDescriptor (TX7 k).2.2.1 = some (tyX7 k) := by decide +kernel
abbrev cX7_init : ByteArray := prog_9_method_1_code
def yX7_init : MethodName := ⟨RX7, "<init>", "()V"⟩
abbrev cX7_wants : ByteArray := prog_9_method_2_code
def yX7_wants : MethodName := ⟨RX7, "wants", "(II)Z"⟩
def RX8 : String := "NobodyTwice$Script"
def TX8 : u_T := fun k => match k with
  | 0 => ("NobodyTwice$Script", "bytes", "[I", true)
  | 1 => ("NobodyTwice$Script", "length", "I", false)
  | 2 => ("NobodyTwice$Script", "start", "I", false)
  | 3 => ("NobodyTwice$Script", "end", "I", false)
  | 4 => ("NobodyTwice$Script", "token", "I", false)
  | _ => ("NobodyTwice$Script", "number", "I", false)
def tyX8 : Nat → FieldType := fun k => match k with
  | 0 => .array .int
  | 1 => .int
  | 2 => .int
  | 3 => .int
  | 4 => .int
  | _ => .int
abbrev wsX80 : List Cond := u_ws RX8 TX8 6
theorem nmX8 : ∀ a, a < 6 → ∀ b, b < 6 → a ≠ b → (TX8 a).2.1 ≠ (TX8 b).2.1 := by decide +kernel
theorem tyX8_ok : ∀ k, k < 6 → parseFieldDescriptor (TX8 k).2.2.1 = some (tyX8 k) := by decide +kernel
abbrev cX8_init : ByteArray := prog_10_method_1_code
def yX8_init : MethodName := ⟨RX8, "<init>", "()V"⟩
abbrev cX8_append : ByteArray := prog_10_method_2_code
def yX8_append : MethodName := ⟨RX8, "append", "(I)V"⟩
abbrev cX8_tellInto : ByteArray := prog_10_method_3_code
def yX8_tellInto : MethodName := ⟨RX8, "tellInto", "(LNobodyTwice$Valley;)I"⟩
abbrev cX8_tellPrize : ByteArray := prog_10_method_4_code
def yX8_tellPrize : MethodName := ⟨RX8, "tellPrize", "(LNobodyTwice$Valley;)Z"⟩
abbrev cX8_tellOne : ByteArray := prog_10_method_5_code
def yX8_tellOne : MethodName := ⟨RX8, "tellOne", "(LNobodyTwice$Valley;)Z"⟩
abbrev cX8_hasNumber : ByteArray := prog_10_method_6_code
def yX8_hasNumber : MethodName := ⟨RX8, "hasNumber", "(II)Z"⟩
abbrev cX8_endsItem : ByteArray := prog_10_method_7_code
def yX8_endsItem : MethodName := ⟨RX8, "endsItem", "()Z"⟩
abbrev cX8_isWord : ByteArray := prog_10_method_8_code
def yX8_isWord : MethodName := ⟨RX8, "isWord", "(Ljava/lang/String;)Z"⟩
abbrev cX8_advance : ByteArray := prog_10_method_9_code
def yX8_advance : MethodName := ⟨RX8, "advance", "()V"⟩
abbrev cX8_takeFigures : ByteArray := prog_10_method_10_code
def yX8_takeFigures : MethodName := ⟨RX8, "takeFigures", "()V"⟩
abbrev cX8_isLetter : ByteArray := prog_10_method_11_code
def yX8_isLetter : MethodName := ⟨RX8, "isLetter", "(I)Z"⟩
abbrev cX8_isFigure : ByteArray := prog_10_method_12_code
def yX8_isFigure : MethodName := ⟨RX8, "isFigure", "(I)Z"⟩
def RX9 : String := "NobodyTwice$Table"
def TX9 : u_T := fun k => match k with
  | 0 => ("NobodyTwice$Table", "cells", "[I", true)
  | _ => ("NobodyTwice$Table", "rows", "I", false)
def tyX9 : Nat → FieldType := fun k => match k with
  | 0 => .array .int
  | _ => .int
abbrev wsX90 : List Cond := u_ws RX9 TX9 2
theorem nmX9 : ∀ a, a < 2 → ∀ b, b < 2 → a ≠ b → (TX9 a).2.1 ≠ (TX9 b).2.1 := by decide +kernel
theorem tyX9_ok : ∀ k, k < 2 → parseFieldDescriptor (TX9 k).2.2.1 = some (tyX9 k) := by decide +kernel
abbrev cX9_init : ByteArray := prog_11_method_1_code
def yX9_init : MethodName := ⟨RX9, "<init>", "()V"⟩
abbrev cX9_add : ByteArray := prog_11_method_2_code
def yX9_add : MethodName := ⟨RX9, "add", "(IIII)V"⟩
abbrev cX9_cell : ByteArray := prog_11_method_3_code
def yX9_cell : MethodName := ⟨RX9, "cell", "(II)I"⟩
abbrev cX9_takeRows : ByteArray := prog_11_method_4_code
def yX9_takeRows : MethodName := ⟨RX9, "takeRows", "(LNobodyTwice$Table;)V"⟩
abbrev cX9_mixedInto : ByteArray := prog_11_method_5_code
def yX9_mixedInto : MethodName := ⟨RX9, "mixedInto", "(J)J"⟩
def RX10 : String := "NobodyTwice$Valley"
def TX10 : u_T := fun k => match k with
  | 0 => ("NobodyTwice$Valley", "sorts", "[I", true)
  | 1 => ("NobodyTwice$Valley", "worths", "[I", true)
  | 2 => ("NobodyTwice$Valley", "kinds", "[I", true)
  | 3 => ("NobodyTwice$Valley", "arts", "[I", true)
  | 4 => ("NobodyTwice$Valley", "wins", "[I", true)
  | 5 => ("NobodyTwice$Valley", "seconds", "[I", true)
  | 6 => ("NobodyTwice$Valley", "firstOf", "[I", true)
  | 7 => ("NobodyTwice$Valley", "secondOf", "[I", true)
  | 8 => ("NobodyTwice$Valley", "notes", "LNobodyTwice$Table;", true)
  | 9 => ("NobodyTwice$Valley", "beatings", "LNobodyTwice$Table;", true)
  | 10 => ("NobodyTwice$Valley", "people", "I", false)
  | 11 => ("NobodyTwice$Valley", "year", "I", false)
  | _ => ("NobodyTwice$Valley", "undoable", "I", false)
def tyX10 : Nat → FieldType := fun k => match k with
  | 0 => .array .int
  | 1 => .array .int
  | 2 => .array .int
  | 3 => .array .int
  | 4 => .array .int
  | 5 => .array .int
  | 6 => .array .int
  | 7 => .array .int
  | 8 => .object "NobodyTwice$Table"
  | 9 => .object "NobodyTwice$Table"
  | 10 => .int
  | 11 => .int
  | _ => .int
abbrev wsX100 : List Cond := u_ws RX10 TX10 13
theorem nmX10 : ∀ a, a < 13 → ∀ b, b < 13 → a ≠ b → (TX10 a).2.1 ≠ (TX10 b).2.1 := by decide +kernel
theorem tyX10_ok : ∀ k, k < 13 → parseFieldDescriptor (TX10 k).2.2.1 = some (tyX10 k) := by decide +kernel
abbrev cX10_init : ByteArray := prog_12_method_1_code
def yX10_init : MethodName := ⟨RX10, "<init>", "()V"⟩
abbrev cX10_empty : ByteArray := prog_12_method_2_code
def yX10_empty : MethodName := ⟨RX10, "empty", "()V"⟩
abbrev cX10_setPrize : ByteArray := prog_12_method_3_code
def yX10_setPrize : MethodName := ⟨RX10, "setPrize", "(III)V"⟩
abbrev cX10_addOne : ByteArray := prog_12_method_4_code
def yX10_addOne : MethodName := ⟨RX10, "addOne", "(IIII)V"⟩
abbrev cX10_takeCourse : ByteArray := prog_12_method_5_code
def yX10_takeCourse : MethodName := ⟨RX10, "takeCourse", "(LNobodyTwice$Valley;)V"⟩
abbrev cX10_take : ByteArray := prog_12_method_6_code
def yX10_take : MethodName := ⟨RX10, "take", "(LNobodyTwice$Valley;)V"⟩
abbrev cX10_pass : ByteArray := prog_12_method_7_code
def yX10_pass : MethodName := ⟨RX10, "pass", "(II)V"⟩
abbrev cX10_takeBack : ByteArray := prog_12_method_8_code
def yX10_takeBack : MethodName := ⟨RX10, "takeBack", "()V"⟩
abbrev cX10_swapPrizes : ByteArray := prog_12_method_9_code
def yX10_swapPrizes : MethodName := ⟨RX10, "swapPrizes", "(II)V"⟩
abbrev cX10_worthWonBy : ByteArray := prog_12_method_10_code
def yX10_worthWonBy : MethodName := ⟨RX10, "worthWonBy", "(I)I"⟩
abbrev cX10_worthWonIn : ByteArray := prog_12_method_11_code
def yX10_worthWonIn : MethodName := ⟨RX10, "worthWonIn", "(II)I"⟩
abbrev cX10_prizesTold : ByteArray := prog_12_method_12_code
def yX10_prizesTold : MethodName := ⟨RX10, "prizesTold", "()I"⟩
abbrev cX10_winsOfAll : ByteArray := prog_12_method_13_code
def yX10_winsOfAll : MethodName := ⟨RX10, "winsOfAll", "()I"⟩
abbrev cX10_mixedInto : ByteArray := prog_12_method_14_code
def yX10_mixedInto : MethodName := ⟨RX10, "mixedInto", "(J)J"⟩
def RX11 : String := "NobodyTwice"
def TX11 : u_T := fun k => match k with
  | 0 => ("NobodyTwice", "now", "LNobodyTwice$Valley;", true)
  | 1 => ("NobodyTwice", "draft", "LNobodyTwice$Valley;", true)
  | 2 => ("NobodyTwice", "images", "[LNobodyTwice$Valley;", true)
  | 3 => ("NobodyTwice", "kept", "[Z", true)
  | 4 => ("NobodyTwice", "contest", "LNobodyTwice$Contest;", true)
  | 5 => ("NobodyTwice", "foresight", "LNobodyTwice$Foresight;", true)
  | 6 => ("NobodyTwice", "script", "LNobodyTwice$Script;", true)
  | 7 => ("NobodyTwice", "above", "J", false)
  | 8 => ("NobodyTwice", "below", "J", false)
  | 9 => ("NobodyTwice", "refusedBad", "I", false)
  | 10 => ("NobodyTwice", "refusedNo", "I", false)
  | _ => ("NobodyTwice", "refusedFull", "I", false)
def tyX11 : Nat → FieldType := fun k => match k with
  | 0 => .object "NobodyTwice$Valley"
  | 1 => .object "NobodyTwice$Valley"
  | 2 => .array (.object "NobodyTwice$Valley")
  | 3 => .array .boolean
  | 4 => .object "NobodyTwice$Contest"
  | 5 => .object "NobodyTwice$Foresight"
  | 6 => .object "NobodyTwice$Script"
  | 7 => .long
  | 8 => .long
  | 9 => .int
  | 10 => .int
  | _ => .int
abbrev wsX110 : List Cond := u_ws RX11 TX11 12
theorem nmX11 : ∀ a, a < 12 → ∀ b, b < 12 → a ≠ b → (TX11 a).2.1 ≠ (TX11 b).2.1 := by decide +kernel
theorem tyX11_ok : ∀ k, k < 12 → parseFieldDescriptor (TX11 k).2.2.1 = some (tyX11 k) := by decide +kernel
abbrev cX11_init : ByteArray := prog_1_method_1_code
def yX11_init : MethodName := ⟨RX11, "<init>", "()V"⟩
abbrev cX11_valley : ByteArray := prog_1_method_2_code
def yX11_valley : MethodName := ⟨RX11, "valley", "()I"⟩
abbrev cX11_prize : ByteArray := prog_1_method_3_code
def yX11_prize : MethodName := ⟨RX11, "prize", "(III)I"⟩
abbrev cX11_one : ByteArray := prog_1_method_4_code
def yX11_one : MethodName := ⟨RX11, "one", "(IIII)I"⟩
abbrev cX11_type : ByteArray := prog_1_method_5_code
def yX11_type : MethodName := ⟨RX11, "type", "(I)I"⟩
abbrev cX11_clear : ByteArray := prog_1_method_6_code
def yX11_clear : MethodName := ⟨RX11, "clear", "()I"⟩
abbrev cX11_read : ByteArray := prog_1_method_7_code
def yX11_read : MethodName := ⟨RX11, "read", "()I"⟩
abbrev cX11_year : ByteArray := prog_1_method_8_code
def yX11_year : MethodName := ⟨RX11, "year", "()I"⟩
abbrev cX11_undo : ByteArray := prog_1_method_9_code
def yX11_undo : MethodName := ⟨RX11, "undo", "()I"⟩
abbrev cX11_of : ByteArray := prog_1_method_10_code
def yX11_of : MethodName := ⟨RX11, "of", "(II)I"⟩
abbrev cX11_about : ByteArray := prog_1_method_11_code
def yX11_about : MethodName := ⟨RX11, "about", "(II)I"⟩
abbrev cX11_good : ByteArray := prog_1_method_12_code
def yX11_good : MethodName := ⟨RX11, "good", "(III)I"⟩
abbrev cX11_enter : ByteArray := prog_1_method_13_code
def yX11_enter : MethodName := ⟨RX11, "enter", "(I)I"⟩
abbrev cX11_winner : ByteArray := prog_1_method_14_code
def yX11_winner : MethodName := ⟨RX11, "winner", "(II)I"⟩
abbrev cX11_end : ByteArray := prog_1_method_15_code
def yX11_end : MethodName := ⟨RX11, "end", "(II)I"⟩
abbrev cX11_left : ByteArray := prog_1_method_16_code
def yX11_left : MethodName := ⟨RX11, "left", "()I"⟩
abbrev cX11_best : ByteArray := prog_1_method_17_code
def yX11_best : MethodName := ⟨RX11, "best", "(II)I"⟩
abbrev cX11_rivals : ByteArray := prog_1_method_18_code
def yX11_rivals : MethodName := ⟨RX11, "rivals", "(III)I"⟩
abbrev cX11_handicap : ByteArray := prog_1_method_19_code
def yX11_handicap : MethodName := ⟨RX11, "handicap", "(I)I"⟩
abbrev cX11_order : ByteArray := prog_1_method_20_code
def yX11_order : MethodName := ⟨RX11, "order", "(I)I"⟩
abbrev cX11_note : ByteArray := prog_1_method_21_code
def yX11_note : MethodName := ⟨RX11, "note", "(IIII)I"⟩
abbrev cX11_beaten : ByteArray := prog_1_method_22_code
def yX11_beaten : MethodName := ⟨RX11, "beaten", "(IIII)I"⟩
abbrev cX11_forget : ByteArray := prog_1_method_23_code
def yX11_forget : MethodName := ⟨RX11, "forget", "(I)I"⟩
abbrev cX11_is : ByteArray := prog_1_method_24_code
def yX11_is : MethodName := ⟨RX11, "is", "(I)I"⟩
abbrev cX11_offer : ByteArray := prog_1_method_25_code
def yX11_offer : MethodName := ⟨RX11, "offer", "(I)I"⟩
abbrev cX11_may : ByteArray := prog_1_method_26_code
def yX11_may : MethodName := ⟨RX11, "may", "(II)I"⟩
abbrev cX11_clash : ByteArray := prog_1_method_27_code
def yX11_clash : MethodName := ⟨RX11, "clash", "()I"⟩
abbrev cX11_odds : ByteArray := prog_1_method_28_code
def yX11_odds : MethodName := ⟨RX11, "odds", "(II)I"⟩
abbrev cX11_valleys : ByteArray := prog_1_method_29_code
def yX11_valleys : MethodName := ⟨RX11, "valleys", "(II)I"⟩
abbrev cX11_part : ByteArray := prog_1_method_30_code
def yX11_part : MethodName := ⟨RX11, "part", "(I)J"⟩
abbrev cX11_image : ByteArray := prog_1_method_31_code
def yX11_image : MethodName := ⟨RX11, "image", "(I)I"⟩
abbrev cX11_from : ByteArray := prog_1_method_32_code
def yX11_from : MethodName := ⟨RX11, "from", "(I)I"⟩
abbrev cX11_status : ByteArray := prog_1_method_33_code
def yX11_status : MethodName := ⟨RX11, "status", "(I)I"⟩
abbrev cX11_count : ByteArray := prog_1_method_34_code
def yX11_count : MethodName := ⟨RX11, "count", "(I)I"⟩
abbrev cX11_digest : ByteArray := prog_1_method_35_code
def yX11_digest : MethodName := ⟨RX11, "digest", "()J"⟩
abbrev cX11_within : ByteArray := prog_1_method_36_code
def yX11_within : MethodName := ⟨RX11, "within", "(III)Z"⟩
abbrev cX11_isArt : ByteArray := prog_1_method_37_code
def yX11_isArt : MethodName := ⟨RX11, "isArt", "(I)Z"⟩
abbrev cX11_isOne : ByteArray := prog_1_method_38_code
def yX11_isOne : MethodName := ⟨RX11, "isOne", "(I)Z"⟩
abbrev cX11_isToCome : ByteArray := prog_1_method_39_code
def yX11_isToCome : MethodName := ⟨RX11, "isToCome", "(I)Z"⟩
abbrev cX11_bad : ByteArray := prog_1_method_40_code
def yX11_bad : MethodName := ⟨RX11, "bad", "()I"⟩
abbrev cX11_no : ByteArray := prog_1_method_41_code
def yX11_no : MethodName := ⟨RX11, "no", "()I"⟩
abbrev cX11_full : ByteArray := prog_1_method_42_code
def yX11_full : MethodName := ⟨RX11, "full", "()I"⟩
abbrev cX11_amount : ByteArray := prog_1_method_43_code
def yX11_amount : MethodName := ⟨RX11, "amount", "(I)I"⟩
abbrev cX11_setFraction : ByteArray := prog_1_method_44_code
def yX11_setFraction : MethodName := ⟨RX11, "setFraction", "(II)V"⟩
def RX12 : String := "NobodyTwiceModel"
def TX12 : u_T := fun k => match k with
  | 0 => ("NobodyTwiceModel", "now", "[I", true)
  | 1 => ("NobodyTwiceModel", "kept", "[I", true)
  | 2 => ("NobodyTwiceModel", "isKept", "[Z", true)
  | 3 => ("NobodyTwiceModel", "refused", "[I", true)
  | 4 => ("NobodyTwiceModel", "above", "J", false)
  | 5 => ("NobodyTwiceModel", "below", "J", false)
  | 6 => ("NobodyTwiceModel", "wins", "[I", true)
  | 7 => ("NobodyTwiceModel", "seconds", "[I", true)
  | 8 => ("NobodyTwiceModel", "sorts", "[I", true)
  | 9 => ("NobodyTwiceModel", "worths", "[I", true)
  | 10 => ("NobodyTwiceModel", "triesIn", "[I", true)
  | 11 => ("NobodyTwiceModel", "his", "[I", true)
  | 12 => ("NobodyTwiceModel", "theirs", "[I", true)
  | 13 => ("NobodyTwiceModel", "bytes", "[I", true)
  | 14 => ("NobodyTwiceModel", "bytesLong", "I", false)
  | 15 => ("NobodyTwiceModel", "tokenAt", "I", false)
  | 16 => ("NobodyTwiceModel", "tokenLong", "I", false)
  | 17 => ("NobodyTwiceModel", "token", "I", false)
  | 18 => ("NobodyTwiceModel", "value", "I", false)
  | 19 => ("NobodyTwiceModel", "anew", "[I", true)
  | _ => ("NobodyTwiceModel", "values", "[I", true)
def tyX12 : Nat → FieldType := fun k => match k with
  | 0 => .array .int
  | 1 => .array .int
  | 2 => .array .boolean
  | 3 => .array .int
  | 4 => .long
  | 5 => .long
  | 6 => .array .int
  | 7 => .array .int
  | 8 => .array .int
  | 9 => .array .int
  | 10 => .array .int
  | 11 => .array .int
  | 12 => .array .int
  | 13 => .array .int
  | 14 => .int
  | 15 => .int
  | 16 => .int
  | 17 => .int
  | 18 => .int
  | 19 => .array .int
  | _ => .array .int
abbrev wsX120 : List Cond := u_ws RX12 TX12 21
theorem nmX12 : ∀ a, a < 21 → ∀ b, b < 21 → a ≠ b → (TX12 a).2.1 ≠ (TX12 b).2.1 := by decide +kernel
theorem tyX12_ok : ∀ k, k < 21 → parseFieldDescriptor (TX12 k).2.2.1 = some (tyX12 k) := by decide +kernel
abbrev cX12_init : ByteArray := prog_14_method_1_code
def yX12_init : MethodName := ⟨RX12, "<init>", "()V"⟩
abbrev cX12_in : ByteArray := prog_14_method_3_code
def yX12_in : MethodName := ⟨RX12, "in", "(JJJ)Z"⟩
abbrev cX12_bad : ByteArray := prog_14_method_4_code
def yX12_bad : MethodName := ⟨RX12, "bad", "(I)I"⟩
abbrev cX12_no : ByteArray := prog_14_method_5_code
def yX12_no : MethodName := ⟨RX12, "no", "()I"⟩
abbrev cX12_full : ByteArray := prog_14_method_6_code
def yX12_full : MethodName := ⟨RX12, "full", "()I"⟩
abbrev cX12_bits : ByteArray := prog_14_method_7_code
def yX12_bits : MethodName := ⟨RX12, "bits", "(I)I"⟩
abbrev cX12_has : ByteArray := prog_14_method_8_code
def yX12_has : MethodName := ⟨RX12, "has", "(II)Z"⟩
abbrev cX12_begin : ByteArray := prog_14_method_9_code
def yX12_begin : MethodName := ⟨RX12, "begin", "([I)V"⟩
abbrev cX12_many : ByteArray := prog_14_method_10_code
def yX12_many : MethodName := ⟨RX12, "many", "()I"⟩
abbrev cX12_isOne : ByteArray := prog_14_method_11_code
def yX12_isOne : MethodName := ⟨RX12, "isOne", "(I)Z"⟩
abbrev cX12_isYear : ByteArray := prog_14_method_12_code
def yX12_isYear : MethodName := ⟨RX12, "isYear", "(I)Z"⟩
abbrev cX12_isToCome : ByteArray := prog_14_method_13_code
def yX12_isToCome : MethodName := ⟨RX12, "isToCome", "(I)Z"⟩
abbrev cX12_isSort : ByteArray := prog_14_method_14_code
def yX12_isSort : MethodName := ⟨RX12, "isSort", "(I)Z"⟩
abbrev cX12_valley : ByteArray := prog_14_method_15_code
def yX12_valley : MethodName := ⟨RX12, "valley", "()I"⟩
abbrev cX12_prize : ByteArray := prog_14_method_16_code
def yX12_prize : MethodName := ⟨RX12, "prize", "(III)I"⟩
abbrev cX12_layOne : ByteArray := prog_14_method_17_code
def yX12_layOne : MethodName := ⟨RX12, "layOne", "([IIIII)V"⟩
abbrev cX12_one : ByteArray := prog_14_method_18_code
def yX12_one : MethodName := ⟨RX12, "one", "(IIII)I"⟩
abbrev cX12_triesAs : ByteArray := prog_14_method_19_code
def yX12_triesAs : MethodName := ⟨RX12, "triesAs", "(III)Z"⟩
abbrev cX12_goodAs : ByteArray := prog_14_method_20_code
def yX12_goodAs : MethodName := ⟨RX12, "goodAs", "(III)I"⟩
abbrev cX12_isBarredBy : ByteArray := prog_14_method_21_code
def yX12_isBarredBy : MethodName := ⟨RX12, "isBarredBy", "(II)Z"⟩
abbrev cX12_goodOf : ByteArray := prog_14_method_22_code
def yX12_goodOf : MethodName := ⟨RX12, "goodOf", "(III)I"⟩
abbrev cX12_layHand : ByteArray := prog_14_method_23_code
def yX12_layHand : MethodName := ⟨RX12, "layHand", "()V"⟩
abbrev cX12_tries : ByteArray := prog_14_method_24_code
def yX12_tries : MethodName := ⟨RX12, "tries", "(II)Z"⟩
abbrev cX12_isBarred : ByteArray := prog_14_method_25_code
def yX12_isBarred : MethodName := ⟨RX12, "isBarred", "(I)Z"⟩
abbrev cX12_enters : ByteArray := prog_14_method_26_code
def yX12_enters : MethodName := ⟨RX12, "enters", "(II)Z"⟩
abbrev cX12_bestIn : ByteArray := prog_14_method_27_code
def yX12_bestIn : MethodName := ⟨RX12, "bestIn", "(II)I"⟩
abbrev cX12_goYear : ByteArray := prog_14_method_28_code
def yX12_goYear : MethodName := ⟨RX12, "goYear", "(I)I"⟩
abbrev cX12_goTill : ByteArray := prog_14_method_29_code
def yX12_goTill : MethodName := ⟨RX12, "goTill", "(I)V"⟩
abbrev cX12_worthOf : ByteArray := prog_14_method_30_code
def yX12_worthOf : MethodName := ⟨RX12, "worthOf", "(I)I"⟩
abbrev cX12_keep : ByteArray := prog_14_method_31_code
def yX12_keep : MethodName := ⟨RX12, "keep", "()V"⟩
abbrev cX12_year : ByteArray := prog_14_method_32_code
def yX12_year : MethodName := ⟨RX12, "year", "()I"⟩
abbrev cX12_undo : ByteArray := prog_14_method_33_code
def yX12_undo : MethodName := ⟨RX12, "undo", "()I"⟩
abbrev cX12_of : ByteArray := prog_14_method_34_code
def yX12_of : MethodName := ⟨RX12, "of", "(II)I"⟩
abbrev cX12_about : ByteArray := prog_14_method_35_code
def yX12_about : MethodName := ⟨RX12, "about", "(II)I"⟩
abbrev cX12_good : ByteArray := prog_14_method_36_code
def yX12_good : MethodName := ⟨RX12, "good", "(III)I"⟩
abbrev cX12_enter : ByteArray := prog_14_method_37_code
def yX12_enter : MethodName := ⟨RX12, "enter", "(I)I"⟩
abbrev cX12_winner : ByteArray := prog_14_method_38_code
def yX12_winner : MethodName := ⟨RX12, "winner", "(II)I"⟩
abbrev cX12_end : ByteArray := prog_14_method_39_code
def yX12_end : MethodName := ⟨RX12, "end", "(II)I"⟩
abbrev cX12_left : ByteArray := prog_14_method_40_code
def yX12_left : MethodName := ⟨RX12, "left", "()I"⟩
abbrev cX12_winsBy : ByteArray := prog_14_method_41_code
def yX12_winsBy : MethodName := ⟨RX12, "winsBy", "(II)I"⟩
abbrev cX12_best : ByteArray := prog_14_method_42_code
def yX12_best : MethodName := ⟨RX12, "best", "(II)I"⟩
abbrev cX12_rests : ByteArray := prog_14_method_43_code
def yX12_rests : MethodName := ⟨RX12, "rests", "(II)Z"⟩
abbrev cX12_rivals : ByteArray := prog_14_method_44_code
def yX12_rivals : MethodName := ⟨RX12, "rivals", "(III)I"⟩
abbrev cX12_handicap : ByteArray := prog_14_method_45_code
def yX12_handicap : MethodName := ⟨RX12, "handicap", "(I)I"⟩
abbrev cX12_order : ByteArray := prog_14_method_46_code
def yX12_order : MethodName := ⟨RX12, "order", "(I)I"⟩
abbrev cX12_note : ByteArray := prog_14_method_47_code
def yX12_note : MethodName := ⟨RX12, "note", "(IIII)I"⟩
abbrev cX12_beaten : ByteArray := prog_14_method_48_code
def yX12_beaten : MethodName := ⟨RX12, "beaten", "(IIII)I"⟩
abbrev cX12_forget : ByteArray := prog_14_method_49_code
def yX12_forget : MethodName := ⟨RX12, "forget", "(I)I"⟩
abbrev cX12_kindsOf : ByteArray := prog_14_method_50_code
def yX12_kindsOf : MethodName := ⟨RX12, "kindsOf", "(I)I"⟩
abbrev cX12_is : ByteArray := prog_14_method_51_code
def yX12_is : MethodName := ⟨RX12, "is", "(I)I"⟩
abbrev cX12_offer : ByteArray := prog_14_method_52_code
def yX12_offer : MethodName := ⟨RX12, "offer", "(I)I"⟩
abbrev cX12_goodThen : ByteArray := prog_14_method_53_code
def yX12_goodThen : MethodName := ⟨RX12, "goodThen", "(IIII)I"⟩
abbrev cX12_isBeaten : ByteArray := prog_14_method_54_code
def yX12_isBeaten : MethodName := ⟨RX12, "isBeaten", "(III)Z"⟩
abbrev cX12_may : ByteArray := prog_14_method_55_code
def yX12_may : MethodName := ⟨RX12, "may", "(II)I"⟩
abbrev cX12_clash : ByteArray := prog_14_method_56_code
def yX12_clash : MethodName := ⟨RX12, "clash", "()I"⟩
abbrev cX12_fraction : ByteArray := prog_14_method_57_code
def yX12_fraction : MethodName := ⟨RX12, "fraction", "(JJ)V"⟩
abbrev cX12_odds : ByteArray := prog_14_method_58_code
def yX12_odds : MethodName := ⟨RX12, "odds", "(II)I"⟩
abbrev cX12_valleys : ByteArray := prog_14_method_59_code
def yX12_valleys : MethodName := ⟨RX12, "valleys", "(II)I"⟩
abbrev cX12_type : ByteArray := prog_14_method_60_code
def yX12_type : MethodName := ⟨RX12, "type", "(I)I"⟩
abbrev cX12_clear : ByteArray := prog_14_method_61_code
def yX12_clear : MethodName := ⟨RX12, "clear", "()I"⟩
abbrev cX12_isSmall : ByteArray := prog_14_method_62_code
def yX12_isSmall : MethodName := ⟨RX12, "isSmall", "(I)Z"⟩
abbrev cX12_isFigure : ByteArray := prog_14_method_63_code
def yX12_isFigure : MethodName := ⟨RX12, "isFigure", "(I)Z"⟩
abbrev cX12_lookAt : ByteArray := prog_14_method_64_code
def yX12_lookAt : MethodName := ⟨RX12, "lookAt", "(I)V"⟩
abbrev cX12_goBehind : ByteArray := prog_14_method_65_code
def yX12_goBehind : MethodName := ⟨RX12, "goBehind", "()V"⟩
abbrev cX12_spells : ByteArray := prog_14_method_66_code
def yX12_spells : MethodName := ⟨RX12, "spells", "(IIIIIII)Z"⟩
abbrev cX12_takes : ByteArray := prog_14_method_67_code
def yX12_takes : MethodName := ⟨RX12, "takes", "(III)Z"⟩
abbrev cX12_takesPrize : ByteArray := prog_14_method_68_code
def yX12_takesPrize : MethodName := ⟨RX12, "takesPrize", "()Z"⟩
abbrev cX12_takesOne : ByteArray := prog_14_method_69_code
def yX12_takesOne : MethodName := ⟨RX12, "takesOne", "()Z"⟩
abbrev cX12_takesItem : ByteArray := prog_14_method_70_code
def yX12_takesItem : MethodName := ⟨RX12, "takesItem", "()Z"⟩
abbrev cX12_read : ByteArray := prog_14_method_71_code
def yX12_read : MethodName := ⟨RX12, "read", "()I"⟩
abbrev cX12_part : ByteArray := prog_14_method_72_code
def yX12_part : MethodName := ⟨RX12, "part", "(I)J"⟩
abbrev cX12_image : ByteArray := prog_14_method_73_code
def yX12_image : MethodName := ⟨RX12, "image", "(I)I"⟩
abbrev cX12_from : ByteArray := prog_14_method_74_code
def yX12_from : MethodName := ⟨RX12, "from", "(I)I"⟩
abbrev cX12_status : ByteArray := prog_14_method_75_code
def yX12_status : MethodName := ⟨RX12, "status", "(I)I"⟩
abbrev cX12_manyPrizes : ByteArray := prog_14_method_76_code
def yX12_manyPrizes : MethodName := ⟨RX12, "manyPrizes", "()I"⟩
abbrev cX12_manyWins : ByteArray := prog_14_method_77_code
def yX12_manyWins : MethodName := ⟨RX12, "manyWins", "()I"⟩
abbrev cX12_counted : ByteArray := prog_14_method_78_code
def yX12_counted : MethodName := ⟨RX12, "counted", "(I)I"⟩
abbrev cX12_count : ByteArray := prog_14_method_79_code
def yX12_count : MethodName := ⟨RX12, "count", "(I)I"⟩
abbrev cX12_sums : ByteArray := prog_14_method_80_code
def yX12_sums : MethodName := ⟨RX12, "sums", "(JII)J"⟩
abbrev cX12_digest : ByteArray := prog_14_method_81_code
def yX12_digest : MethodName := ⟨RX12, "digest", "()J"⟩
def RJx145de : String := "java/io/Serializable"
def TJx145de : u_T := fun k => match k with
  | _ => ("", "", "", false)
def tyJx145de : Nat → FieldType := fun k => match k with
  | _ => .int
abbrev wsJx145de0 : List Cond := u_ws RJx145de TJx145de 0
theorem nmJx145de : ∀ a, a < 0 → ∀ b, b < 0 → a ≠ b → (TJx145de a).2.1 ≠ (TJx145de b).2.1 := by decide +kernel
theorem tyJx145de_ok : ∀ k, k < 0 → parseFieldDescriptor (TJx145de k).2.2.1 = some (tyJx145de k) := by decide +kernel
def RJx9f9b0 : String := "java/lang/CharSequence"
def TJx9f9b0 : u_T := fun k => match k with
  | _ => ("", "", "", false)
def tyJx9f9b0 : Nat → FieldType := fun k => match k with
  | _ => .int
abbrev wsJx9f9b00 : List Cond := u_ws RJx9f9b0 TJx9f9b0 0
theorem nmJx9f9b0 : ∀ a, a < 0 → ∀ b, b < 0 → a ≠ b → (TJx9f9b0 a).2.1 ≠ (TJx9f9b0 b).2.1 := by decide +kernel
theorem tyJx9f9b0_ok : ∀ k, k < 0 → parseFieldDescriptor (TJx9f9b0 k).2.2.1 = some (tyJx9f9b0 k) := by decide +kernel
def RJxb160c : String := "java/lang/Comparable"
def TJxb160c : u_T := fun k => match k with
  | _ => ("", "", "", false)
def tyJxb160c : Nat → FieldType := fun k => match k with
  | _ => .int
abbrev wsJxb160c0 : List Cond := u_ws RJxb160c TJxb160c 0
theorem nmJxb160c : ∀ a, a < 0 → ∀ b, b < 0 → a ≠ b → (TJxb160c a).2.1 ≠ (TJxb160c b).2.1 := by decide +kernel
theorem tyJxb160c_ok : ∀ k, k < 0 → parseFieldDescriptor (TJxb160c k).2.2.1 = some (tyJxb160c k) := by decide +kernel
def RJ6 : String := "java/lang/Integer"
def TJ6 : u_T := fun k => match k with
  | _ => ("", "", "", false)
def tyJ6 : Nat → FieldType := fun k => match k with
  | _ => .int
abbrev wsJ60 : List Cond := u_ws RJ6 TJ6 0
theorem nmJ6 : ∀ a, a < 0 → ∀ b, b < 0 → a ≠ b → (TJ6 a).2.1 ≠ (TJ6 b).2.1 := by decide +kernel
theorem tyJ6_ok : ∀ k, k < 0 → parseFieldDescriptor (TJ6 k).2.2.1 = some (tyJ6 k) := by decide +kernel
abbrev cJ6_bitCount_0f7a4 : ByteArray := prog_15_method_49_code
def yJ6_bitCount_0f7a4 : MethodName := ⟨RJ6, "bitCount", "(I)I"⟩
def RJ9 : String := "java/lang/Math"
def TJ9 : u_T := fun k => match k with
  | _ => ("", "", "", false)
def tyJ9 : Nat → FieldType := fun k => match k with
  | _ => .int
abbrev wsJ90 : List Cond := u_ws RJ9 TJ9 0
theorem nmJ9 : ∀ a, a < 0 → ∀ b, b < 0 → a ≠ b → (TJ9 a).2.1 ≠ (TJ9 b).2.1 := by decide +kernel
theorem tyJ9_ok : ∀ k, k < 0 → parseFieldDescriptor (TJ9 k).2.2.1 = some (tyJ9 k) := by decide +kernel
abbrev cJ9_max_7cf53 : ByteArray := prog_16_method_65_code
def yJ9_max_7cf53 : MethodName := ⟨RJ9, "max", "(II)I"⟩
def RJ0 : String := "java/lang/String"
def TJ0 : u_T := fun k => match k with
  | _ => ("", "", "", false)
def tyJ0 : Nat → FieldType := fun k => match k with
  | _ => .int
abbrev wsJ00 : List Cond := u_ws RJ0 TJ0 0
theorem nmJ0 : ∀ a, a < 0 → ∀ b, b < 0 → a ≠ b → (TJ0 a).2.1 ≠ (TJ0 b).2.1 := by decide +kernel
theorem tyJ0_ok : ∀ k, k < 0 → parseFieldDescriptor (TJ0 k).2.2.1 = some (tyJ0 k) := by decide +kernel
abbrev cJ0_length_8abf5 : ByteArray := prog_17_method_54_code
def yJ0_length_8abf5 : MethodName := ⟨RJ0, "length", "()I"⟩
abbrev cJ0_charAt_5068e : ByteArray := prog_17_method_56_code
def yJ0_charAt_5068e : MethodName := ⟨RJ0, "charAt", "(I)C"⟩
abbrev cJ0_coder_7d493 : ByteArray := prog_17_method_152_code
def yJ0_coder_7d493 : MethodName := ⟨RJ0, "coder", "()B"⟩
abbrev cJ0_isLatin1_aae02 : ByteArray := prog_17_method_154_code
def yJ0_isLatin1_aae02 : MethodName := ⟨RJ0, "isLatin1", "()Z"⟩
abbrev cJ0_checkIndex_df160 : ByteArray := prog_17_method_155_code
def yJ0_checkIndex_df160 : MethodName := ⟨RJ0, "checkIndex", "(II)V"⟩
def RJ1 : String := "java/lang/StringLatin1"
def TJ1 : u_T := fun k => match k with
  | _ => ("", "", "", false)
def tyJ1 : Nat → FieldType := fun k => match k with
  | _ => .int
abbrev wsJ10 : List Cond := u_ws RJ1 TJ1 0
theorem nmJ1 : ∀ a, a < 0 → ∀ b, b < 0 → a ≠ b → (TJ1 a).2.1 ≠ (TJ1 b).2.1 := by decide +kernel
theorem tyJ1_ok : ∀ k, k < 0 → parseFieldDescriptor (TJ1 k).2.2.1 = some (tyJ1 k) := by decide +kernel
abbrev cJ1_charAt_3b067 : ByteArray := prog_18_method_2_code
def yJ1_charAt_3b067 : MethodName := ⟨RJ1, "charAt", "([BI)C"⟩
def RJ2 : String := "java/lang/StringUTF16"
def TJ2 : u_T := fun k => match k with
  | _ => ("", "", "", false)
def tyJ2 : Nat → FieldType := fun k => match k with
  | _ => .int
abbrev wsJ20 : List Cond := u_ws RJ2 TJ2 0
theorem nmJ2 : ∀ a, a < 0 → ∀ b, b < 0 → a ≠ b → (TJ2 a).2.1 ≠ (TJ2 b).2.1 := by decide +kernel
theorem tyJ2_ok : ∀ k, k < 0 → parseFieldDescriptor (TJ2 k).2.2.1 = some (tyJ2 k) := by decide +kernel
abbrev cJ2_getChar_3b067 : ByteArray := prog_19_method_5_code
def yJ2_getChar_3b067 : MethodName := ⟨RJ2, "getChar", "([BI)C"⟩
abbrev cJ2_length_9d52b : ByteArray := prog_19_method_6_code
def yJ2_length_9d52b : MethodName := ⟨RJ2, "length", "([B)I"⟩
abbrev cJ2_charAt_3b067 : ByteArray := prog_19_method_83_code
def yJ2_charAt_3b067 : MethodName := ⟨RJ2, "charAt", "([BI)C"⟩
abbrev cJ2_checkIndex_2214a : ByteArray := prog_19_method_91_code
def yJ2_checkIndex_2214a : MethodName := ⟨RJ2, "checkIndex", "(I[B)V"⟩
def RJ10 : String := "java/lang/System"
def TJ10 : u_T := fun k => match k with
  | _ => ("", "", "", false)
def tyJ10 : Nat → FieldType := fun k => match k with
  | _ => .int
abbrev wsJ100 : List Cond := u_ws RJ10 TJ10 0
theorem nmJ10 : ∀ a, a < 0 → ∀ b, b < 0 → a ≠ b → (TJ10 a).2.1 ≠ (TJ10 b).2.1 := by decide +kernel
theorem tyJ10_ok : ∀ k, k < 0 → parseFieldDescriptor (TJ10 k).2.2.1 = some (tyJ10 k) := by decide +kernel
def RJxfd54e : String := "java/lang/constant/Constable"
def TJxfd54e : u_T := fun k => match k with
  | _ => ("", "", "", false)
def tyJxfd54e : Nat → FieldType := fun k => match k with
  | _ => .int
abbrev wsJxfd54e0 : List Cond := u_ws RJxfd54e TJxfd54e 0
theorem nmJxfd54e : ∀ a, a < 0 → ∀ b, b < 0 → a ≠ b → (TJxfd54e a).2.1 ≠ (TJxfd54e b).2.1 := by decide +kernel
theorem tyJxfd54e_ok : ∀ k, k < 0 → parseFieldDescriptor (TJxfd54e k).2.2.1 = some (tyJxfd54e k) := by decide +kernel
def RJx3cf43 : String := "java/lang/constant/ConstantDesc"
def TJx3cf43 : u_T := fun k => match k with
  | _ => ("", "", "", false)
def tyJx3cf43 : Nat → FieldType := fun k => match k with
  | _ => .int
abbrev wsJx3cf430 : List Cond := u_ws RJx3cf43 TJx3cf43 0
theorem nmJx3cf43 : ∀ a, a < 0 → ∀ b, b < 0 → a ≠ b → (TJx3cf43 a).2.1 ≠ (TJx3cf43 b).2.1 := by decide +kernel
theorem tyJx3cf43_ok : ∀ k, k < 0 → parseFieldDescriptor (TJx3cf43 k).2.2.1 = some (tyJx3cf43 k) := by decide +kernel
def RJ7 : String := "java/util/Arrays"
def TJ7 : u_T := fun k => match k with
  | _ => ("", "", "", false)
def tyJ7 : Nat → FieldType := fun k => match k with
  | _ => .int
abbrev wsJ70 : List Cond := u_ws RJ7 TJ7 0
theorem nmJ7 : ∀ a, a < 0 → ∀ b, b < 0 → a ≠ b → (TJ7 a).2.1 ≠ (TJ7 b).2.1 := by decide +kernel
theorem tyJ7_ok : ∀ k, k < 0 → parseFieldDescriptor (TJ7 k).2.2.1 = some (tyJ7 k) := by decide +kernel
abbrev cJ7_fill_53178 : ByteArray := prog_21_method_103_code
def yJ7_fill_53178 : MethodName := ⟨RJ7, "fill", "([II)V"⟩
def RJ3 : String := "jdk/internal/util/Preconditions"
def TJ3 : u_T := fun k => match k with
  | _ => ("", "", "", false)
def tyJ3 : Nat → FieldType := fun k => match k with
  | _ => .int
abbrev wsJ30 : List Cond := u_ws RJ3 TJ3 0
theorem nmJ3 : ∀ a, a < 0 → ∀ b, b < 0 → a ≠ b → (TJ3 a).2.1 ≠ (TJ3 b).2.1 := by decide +kernel
theorem tyJ3_ok : ∀ k, k < 0 → parseFieldDescriptor (TJ3 k).2.2.1 = some (tyJ3 k) := by decide +kernel
abbrev cJ3_checkIndex_8e157 : ByteArray := prog_22_method_11_code
def yJ3_checkIndex_8e157 : MethodName := ⟨RJ3, "checkIndex", "(IILjava/util/function/BiFunction;)I"⟩
def RL : String := "NobodyTwiceLaw"
abbrev cL_law : ByteArray := code
def yL_law : MethodName := ⟨RL, "law", "([I)Z"⟩
end
section
theorem dX0_init_0 : decode cX0_init 0 = .ok (.aload_n 0, 1) := by decide +kernel
theorem dX0_init_1 : decode cX0_init 1 = .ok (.invokespecial 3, 3) := by decide +kernel
theorem dX0_init_4 : decode cX0_init 4 = .ok (.aload_n 0, 1) := by decide +kernel
theorem dX0_init_5 : decode cX0_init 5 = .ok (.bipush 6, 2) := by decide +kernel
theorem dX0_init_7 : decode cX0_init 7 = .ok (.anewarray 9, 3) := by decide +kernel
theorem dX0_init_10 : decode cX0_init 10 = .ok (.putfield 11, 3) := by decide +kernel
theorem dX0_init_13 : decode cX0_init 13 = .ok (.aload_n 0, 1) := by decide +kernel
theorem dX0_init_14 : decode cX0_init 14 = .ok (.bipush 6, 2) := by decide +kernel
theorem dX0_init_16 : decode cX0_init 16 = .ok (.newarray .int, 2) := by decide +kernel
theorem dX0_init_18 : decode cX0_init 18 = .ok (.putfield 17, 3) := by decide +kernel
theorem dX0_init_21 : decode cX0_init 21 = .ok (.aload_n 0, 1) := by decide +kernel
theorem dX0_init_22 : decode cX0_init 22 = .ok (.getfield 11, 3) := by decide +kernel
theorem dX0_init_25 : decode cX0_init 25 = .ok (.iconst 0, 1) := by decide +kernel
theorem dX0_init_26 : decode cX0_init 26 = .ok (.new 9, 3) := by decide +kernel
theorem dX0_init_29 : decode cX0_init 29 = .ok (.dup, 1) := by decide +kernel
theorem dX0_init_30 : decode cX0_init 30 = .ok (.invokespecial 21, 3) := by decide +kernel
theorem dX0_init_33 : decode cX0_init 33 = .ok (.aastore, 1) := by decide +kernel
theorem dX0_init_34 : decode cX0_init 34 = .ok (.aload_n 0, 1) := by decide +kernel
theorem dX0_init_35 : decode cX0_init 35 = .ok (.getfield 11, 3) := by decide +kernel
theorem dX0_init_38 : decode cX0_init 38 = .ok (.iconst 1, 1) := by decide +kernel
theorem dX0_init_39 : decode cX0_init 39 = .ok (.new 22, 3) := by decide +kernel
theorem dX0_init_42 : decode cX0_init 42 = .ok (.dup, 1) := by decide +kernel
theorem dX0_init_43 : decode cX0_init 43 = .ok (.invokespecial 24, 3) := by decide +kernel
theorem dX0_init_46 : decode cX0_init 46 = .ok (.aastore, 1) := by decide +kernel
theorem dX0_init_47 : decode cX0_init 47 = .ok (.aload_n 0, 1) := by decide +kernel
theorem dX0_init_48 : decode cX0_init 48 = .ok (.getfield 11, 3) := by decide +kernel
theorem dX0_init_51 : decode cX0_init 51 = .ok (.iconst 2, 1) := by decide +kernel
theorem dX0_init_52 : decode cX0_init 52 = .ok (.new 25, 3) := by decide +kernel
theorem dX0_init_55 : decode cX0_init 55 = .ok (.dup, 1) := by decide +kernel
theorem dX0_init_56 : decode cX0_init 56 = .ok (.invokespecial 27, 3) := by decide +kernel
theorem dX0_init_59 : decode cX0_init 59 = .ok (.aastore, 1) := by decide +kernel
theorem dX0_init_60 : decode cX0_init 60 = .ok (.aload_n 0, 1) := by decide +kernel
theorem dX0_init_61 : decode cX0_init 61 = .ok (.getfield 11, 3) := by decide +kernel
theorem dX0_init_64 : decode cX0_init 64 = .ok (.iconst 3, 1) := by decide +kernel
theorem dX0_init_65 : decode cX0_init 65 = .ok (.new 28, 3) := by decide +kernel
theorem dX0_init_68 : decode cX0_init 68 = .ok (.dup, 1) := by decide +kernel
theorem dX0_init_69 : decode cX0_init 69 = .ok (.invokespecial 30, 3) := by decide +kernel
theorem dX0_init_72 : decode cX0_init 72 = .ok (.aastore, 1) := by decide +kernel
theorem dX0_init_73 : decode cX0_init 73 = .ok (.aload_n 0, 1) := by decide +kernel
theorem dX0_init_74 : decode cX0_init 74 = .ok (.getfield 11, 3) := by decide +kernel
theorem dX0_init_77 : decode cX0_init 77 = .ok (.iconst 4, 1) := by decide +kernel
theorem dX0_init_78 : decode cX0_init 78 = .ok (.new 31, 3) := by decide +kernel
theorem dX0_init_81 : decode cX0_init 81 = .ok (.dup, 1) := by decide +kernel
theorem dX0_init_82 : decode cX0_init 82 = .ok (.invokespecial 33, 3) := by decide +kernel
theorem dX0_init_85 : decode cX0_init 85 = .ok (.aastore, 1) := by decide +kernel
theorem dX0_init_86 : decode cX0_init 86 = .ok (.aload_n 0, 1) := by decide +kernel
theorem dX0_init_87 : decode cX0_init 87 = .ok (.getfield 11, 3) := by decide +kernel
theorem dX0_init_90 : decode cX0_init 90 = .ok (.iconst 5, 1) := by decide +kernel
theorem dX0_init_91 : decode cX0_init 91 = .ok (.new 34, 3) := by decide +kernel
theorem dX0_init_94 : decode cX0_init 94 = .ok (.dup, 1) := by decide +kernel
theorem dX0_init_95 : decode cX0_init 95 = .ok (.invokespecial 36, 3) := by decide +kernel
theorem dX0_init_98 : decode cX0_init 98 = .ok (.aastore, 1) := by decide +kernel
theorem dX0_init_99 : decode cX0_init 99 = .ok (.aload_n 0, 1) := by decide +kernel
theorem dX0_init_100 : decode cX0_init 100 = .ok (.invokevirtual 37, 3) := by decide +kernel
theorem dX0_init_103 : decode cX0_init 103 = .ok (.return_, 1) := by decide +kernel
theorem dX0_allByKind_0 : decode cX0_allByKind 0 = .ok (.aload_n 0, 1) := by decide +kernel
theorem dX0_allByKind_1 : decode cX0_allByKind 1 = .ok (.getfield 17, 3) := by decide +kernel
theorem dX0_allByKind_4 : decode cX0_allByKind 4 = .ok (.iconst (-1), 1) := by decide +kernel
theorem dX0_allByKind_5 : decode cX0_allByKind 5 = .ok (.invokestatic 40, 3) := by decide +kernel
theorem dX0_allByKind_8 : decode cX0_allByKind 8 = .ok (.return_, 1) := by decide +kernel
theorem dX0_choose_0 : decode cX0_choose 0 = .ok (.iload_n 1, 1) := by decide +kernel
theorem dX0_choose_1 : decode cX0_choose 1 = .ok (.iconst 0, 1) := by decide +kernel
theorem dX0_choose_2 : decode cX0_choose 2 = .ok (.iconst 5, 1) := by decide +kernel
theorem dX0_choose_3 : decode cX0_choose 3 = .ok (.invokestatic 46, 3) := by decide +kernel
theorem dX0_choose_6 : decode cX0_choose 6 = .ok (.ifCond .eq 10, 3) := by decide +kernel
theorem dX0_choose_9 : decode cX0_choose 9 = .ok (.aload_n 0, 1) := by decide +kernel
theorem dX0_choose_10 : decode cX0_choose 10 = .ok (.getfield 17, 3) := by decide +kernel
theorem dX0_choose_13 : decode cX0_choose 13 = .ok (.iload_n 1, 1) := by decide +kernel
theorem dX0_choose_14 : decode cX0_choose 14 = .ok (.iload_n 2, 1) := by decide +kernel
theorem dX0_choose_15 : decode cX0_choose 15 = .ok (.iastore, 1) := by decide +kernel
theorem dX0_choose_16 : decode cX0_choose 16 = .ok (.return_, 1) := by decide +kernel
theorem dX0_skillBy_0 : decode cX0_skillBy 0 = .ok (.iload_n 1, 1) := by decide +kernel
theorem dX0_skillBy_1 : decode cX0_skillBy 1 = .ok (.iconst 0, 1) := by decide +kernel
theorem dX0_skillBy_2 : decode cX0_skillBy 2 = .ok (.iconst 5, 1) := by decide +kernel
theorem dX0_skillBy_3 : decode cX0_skillBy 3 = .ok (.invokestatic 46, 3) := by decide +kernel
theorem dX0_skillBy_6 : decode cX0_skillBy 6 = .ok (.ifCond .eq 17, 3) := by decide +kernel
theorem dX0_skillBy_9 : decode cX0_skillBy 9 = .ok (.aload_n 0, 1) := by decide +kernel
theorem dX0_skillBy_10 : decode cX0_skillBy 10 = .ok (.getfield 11, 3) := by decide +kernel
theorem dX0_skillBy_13 : decode cX0_skillBy 13 = .ok (.iload_n 1, 1) := by decide +kernel
theorem dX0_skillBy_14 : decode cX0_skillBy 14 = .ok (.aaload, 1) := by decide +kernel
theorem dX0_skillBy_15 : decode cX0_skillBy 15 = .ok (.iload_n 2, 1) := by decide +kernel
theorem dX0_skillBy_16 : decode cX0_skillBy 16 = .ok (.iload_n 3, 1) := by decide +kernel
theorem dX0_skillBy_17 : decode cX0_skillBy 17 = .ok (.invokevirtual 50, 3) := by decide +kernel
theorem dX0_skillBy_20 : decode cX0_skillBy 20 = .ok (.goto 4, 3) := by decide +kernel
theorem dX0_skillBy_23 : decode cX0_skillBy 23 = .ok (.iconst 0, 1) := by decide +kernel
theorem dX0_skillBy_24 : decode cX0_skillBy 24 = .ok (.ireturn, 1) := by decide +kernel
theorem dX0_isBarred_0 : decode cX0_isBarred 0 = .ok (.aload_n 1, 1) := by decide +kernel
theorem dX0_isBarred_1 : decode cX0_isBarred 1 = .ok (.getfield 54, 3) := by decide +kernel
theorem dX0_isBarred_4 : decode cX0_isBarred 4 = .ok (.iload_n 2, 1) := by decide +kernel
theorem dX0_isBarred_5 : decode cX0_isBarred 5 = .ok (.iaload, 1) := by decide +kernel
theorem dX0_isBarred_6 : decode cX0_isBarred 6 = .ok (.istore_n 3, 1) := by decide +kernel
theorem dX0_isBarred_7 : decode cX0_isBarred 7 = .ok (.iload_n 3, 1) := by decide +kernel
theorem dX0_isBarred_8 : decode cX0_isBarred 8 = .ok (.iconst 0, 1) := by decide +kernel
theorem dX0_isBarred_9 : decode cX0_isBarred 9 = .ok (.iconst 5, 1) := by decide +kernel
theorem dX0_isBarred_10 : decode cX0_isBarred 10 = .ok (.invokestatic 46, 3) := by decide +kernel
theorem dX0_isBarred_13 : decode cX0_isBarred 13 = .ok (.ifCond .eq 28, 3) := by decide +kernel
theorem dX0_isBarred_16 : decode cX0_isBarred 16 = .ok (.aload_n 0, 1) := by decide +kernel
theorem dX0_isBarred_17 : decode cX0_isBarred 17 = .ok (.getfield 11, 3) := by decide +kernel
theorem dX0_isBarred_20 : decode cX0_isBarred 20 = .ok (.iload_n 3, 1) := by decide +kernel
theorem dX0_isBarred_21 : decode cX0_isBarred 21 = .ok (.aaload, 1) := by decide +kernel
theorem dX0_isBarred_22 : decode cX0_isBarred 22 = .ok (.aload_n 1, 1) := by decide +kernel
theorem dX0_isBarred_23 : decode cX0_isBarred 23 = .ok (.getfield 59, 3) := by decide +kernel
theorem dX0_isBarred_26 : decode cX0_isBarred 26 = .ok (.iload_n 2, 1) := by decide +kernel
theorem dX0_isBarred_27 : decode cX0_isBarred 27 = .ok (.iaload, 1) := by decide +kernel
theorem dX0_isBarred_28 : decode cX0_isBarred 28 = .ok (.invokestatic 62, 3) := by decide +kernel
theorem dX0_isBarred_31 : decode cX0_isBarred 31 = .ok (.invokevirtual 68, 3) := by decide +kernel
theorem dX0_isBarred_34 : decode cX0_isBarred 34 = .ok (.ifCond .eq 7, 3) := by decide +kernel
theorem dX0_isBarred_37 : decode cX0_isBarred 37 = .ok (.iconst 1, 1) := by decide +kernel
theorem dX0_isBarred_38 : decode cX0_isBarred 38 = .ok (.goto 4, 3) := by decide +kernel
theorem dX0_isBarred_41 : decode cX0_isBarred 41 = .ok (.iconst 0, 1) := by decide +kernel
theorem dX0_isBarred_42 : decode cX0_isBarred 42 = .ok (.ireturn, 1) := by decide +kernel
theorem dX0_strength_0 : decode cX0_strength 0 = .ok (.iload_n 2, 1) := by decide +kernel
theorem dX0_strength_1 : decode cX0_strength 1 = .ok (.iconst 0, 1) := by decide +kernel
theorem dX0_strength_2 : decode cX0_strength 2 = .ok (.aload_n 1, 1) := by decide +kernel
theorem dX0_strength_3 : decode cX0_strength 3 = .ok (.getfield 72, 3) := by decide +kernel
theorem dX0_strength_6 : decode cX0_strength 6 = .ok (.iconst 1, 1) := by decide +kernel
theorem dX0_strength_7 : decode cX0_strength 7 = .ok (.isub, 1) := by decide +kernel
theorem dX0_strength_8 : decode cX0_strength 8 = .ok (.invokestatic 46, 3) := by decide +kernel
theorem dX0_strength_11 : decode cX0_strength 11 = .ok (.ifCond .eq 23, 3) := by decide +kernel
theorem dX0_strength_14 : decode cX0_strength 14 = .ok (.iload_n 3, 1) := by decide +kernel
theorem dX0_strength_15 : decode cX0_strength 15 = .ok (.iconst 0, 1) := by decide +kernel
theorem dX0_strength_16 : decode cX0_strength 16 = .ok (.bipush 7, 2) := by decide +kernel
theorem dX0_strength_18 : decode cX0_strength 18 = .ok (.invokestatic 46, 3) := by decide +kernel
theorem dX0_strength_21 : decode cX0_strength 21 = .ok (.ifCond .eq 13, 3) := by decide +kernel
theorem dX0_strength_24 : decode cX0_strength 24 = .ok (.aload_n 1, 1) := by decide +kernel
theorem dX0_strength_25 : decode cX0_strength 25 = .ok (.getfield 76, 3) := by decide +kernel
theorem dX0_strength_28 : decode cX0_strength 28 = .ok (.iload_n 3, 1) := by decide +kernel
theorem dX0_strength_29 : decode cX0_strength 29 = .ok (.iaload, 1) := by decide +kernel
theorem dX0_strength_30 : decode cX0_strength 30 = .ok (.iconst (-1), 1) := by decide +kernel
theorem dX0_strength_31 : decode cX0_strength 31 = .ok (.if_icmp .ne 5, 3) := by decide +kernel
theorem dX0_strength_34 : decode cX0_strength 34 = .ok (.iconst 0, 1) := by decide +kernel
theorem dX0_strength_35 : decode cX0_strength 35 = .ok (.ireturn, 1) := by decide +kernel
theorem dX0_strength_36 : decode cX0_strength 36 = .ok (.aload_n 1, 1) := by decide +kernel
theorem dX0_strength_37 : decode cX0_strength 37 = .ok (.getfield 54, 3) := by decide +kernel
theorem dX0_strength_40 : decode cX0_strength 40 = .ok (.iload_n 2, 1) := by decide +kernel
theorem dX0_strength_41 : decode cX0_strength 41 = .ok (.iaload, 1) := by decide +kernel
theorem dX0_strength_42 : decode cX0_strength 42 = .ok (.istore 4, 2) := by decide +kernel
theorem dX0_strength_44 : decode cX0_strength 44 = .ok (.iload 4, 2) := by decide +kernel
theorem dX0_strength_46 : decode cX0_strength 46 = .ok (.iconst 0, 1) := by decide +kernel
theorem dX0_strength_47 : decode cX0_strength 47 = .ok (.iconst 5, 1) := by decide +kernel
theorem dX0_strength_48 : decode cX0_strength 48 = .ok (.invokestatic 46, 3) := by decide +kernel
theorem dX0_strength_51 : decode cX0_strength 51 = .ok (.ifCond .eq 12, 3) := by decide +kernel
theorem dX0_strength_54 : decode cX0_strength 54 = .ok (.aload_n 0, 1) := by decide +kernel
theorem dX0_strength_55 : decode cX0_strength 55 = .ok (.aload_n 1, 1) := by decide +kernel
theorem dX0_strength_56 : decode cX0_strength 56 = .ok (.iload_n 2, 1) := by decide +kernel
theorem dX0_strength_57 : decode cX0_strength 57 = .ok (.invokevirtual 79, 3) := by decide +kernel
theorem dX0_strength_60 : decode cX0_strength 60 = .ok (.ifCond .eq 5, 3) := by decide +kernel
theorem dX0_strength_63 : decode cX0_strength 63 = .ok (.iconst 0, 1) := by decide +kernel
theorem dX0_strength_64 : decode cX0_strength 64 = .ok (.ireturn, 1) := by decide +kernel
theorem dX0_strength_65 : decode cX0_strength 65 = .ok (.aload_n 0, 1) := by decide +kernel
theorem dX0_strength_66 : decode cX0_strength 66 = .ok (.getfield 17, 3) := by decide +kernel
theorem dX0_strength_69 : decode cX0_strength 69 = .ok (.iload_n 2, 1) := by decide +kernel
theorem dX0_strength_70 : decode cX0_strength 70 = .ok (.iaload, 1) := by decide +kernel
theorem dX0_strength_71 : decode cX0_strength 71 = .ok (.iconst (-1), 1) := by decide +kernel
theorem dX0_strength_72 : decode cX0_strength 72 = .ok (.if_icmp .ne 7, 3) := by decide +kernel
theorem dX0_strength_75 : decode cX0_strength 75 = .ok (.iconst 1, 1) := by decide +kernel
theorem dX0_strength_76 : decode cX0_strength 76 = .ok (.goto 4, 3) := by decide +kernel
theorem dX0_strength_79 : decode cX0_strength 79 = .ok (.iconst 0, 1) := by decide +kernel
theorem dX0_strength_80 : decode cX0_strength 80 = .ok (.istore 5, 2) := by decide +kernel
theorem dX0_strength_82 : decode cX0_strength 82 = .ok (.iload 5, 2) := by decide +kernel
theorem dX0_strength_84 : decode cX0_strength 84 = .ok (.ifCond .eq 26, 3) := by decide +kernel
theorem dX0_strength_87 : decode cX0_strength 87 = .ok (.aload_n 0, 1) := by decide +kernel
theorem dX0_strength_88 : decode cX0_strength 88 = .ok (.getfield 11, 3) := by decide +kernel
theorem dX0_strength_91 : decode cX0_strength 91 = .ok (.iload 4, 2) := by decide +kernel
theorem dX0_strength_93 : decode cX0_strength 93 = .ok (.aaload, 1) := by decide +kernel
theorem dX0_strength_94 : decode cX0_strength 94 = .ok (.aload_n 1, 1) := by decide +kernel
theorem dX0_strength_95 : decode cX0_strength 95 = .ok (.getfield 83, 3) := by decide +kernel
theorem dX0_strength_98 : decode cX0_strength 98 = .ok (.iload_n 3, 1) := by decide +kernel
theorem dX0_strength_99 : decode cX0_strength 99 = .ok (.iaload, 1) := by decide +kernel
theorem dX0_strength_100 : decode cX0_strength 100 = .ok (.bipush 7, 2) := by decide +kernel
theorem dX0_strength_102 : decode cX0_strength 102 = .ok (.iload_n 3, 1) := by decide +kernel
theorem dX0_strength_103 : decode cX0_strength 103 = .ok (.isub, 1) := by decide +kernel
theorem dX0_strength_104 : decode cX0_strength 104 = .ok (.invokevirtual 86, 3) := by decide +kernel
theorem dX0_strength_107 : decode cX0_strength 107 = .ok (.goto 18, 3) := by decide +kernel
theorem dX0_strength_110 : decode cX0_strength 110 = .ok (.aload_n 0, 1) := by decide +kernel
theorem dX0_strength_111 : decode cX0_strength 111 = .ok (.getfield 17, 3) := by decide +kernel
theorem dX0_strength_114 : decode cX0_strength 114 = .ok (.iload_n 2, 1) := by decide +kernel
theorem dX0_strength_115 : decode cX0_strength 115 = .ok (.iaload, 1) := by decide +kernel
theorem dX0_strength_116 : decode cX0_strength 116 = .ok (.iload_n 3, 1) := by decide +kernel
theorem dX0_strength_117 : decode cX0_strength 117 = .ok (.if_icmp .ne 7, 3) := by decide +kernel
theorem dX0_strength_120 : decode cX0_strength 120 = .ok (.iconst 1, 1) := by decide +kernel
theorem dX0_strength_121 : decode cX0_strength 121 = .ok (.goto 4, 3) := by decide +kernel
theorem dX0_strength_124 : decode cX0_strength 124 = .ok (.iconst 0, 1) := by decide +kernel
theorem dX0_strength_125 : decode cX0_strength 125 = .ok (.istore 6, 2) := by decide +kernel
theorem dX0_strength_127 : decode cX0_strength 127 = .ok (.iload 6, 2) := by decide +kernel
theorem dX0_strength_129 : decode cX0_strength 129 = .ok (.ifCond .eq 32, 3) := by decide +kernel
theorem dX0_strength_132 : decode cX0_strength 132 = .ok (.aload_n 0, 1) := by decide +kernel
theorem dX0_strength_133 : decode cX0_strength 133 = .ok (.getfield 11, 3) := by decide +kernel
theorem dX0_strength_136 : decode cX0_strength 136 = .ok (.iload 4, 2) := by decide +kernel
theorem dX0_strength_138 : decode cX0_strength 138 = .ok (.aaload, 1) := by decide +kernel
theorem dX0_strength_139 : decode cX0_strength 139 = .ok (.aload_n 1, 1) := by decide +kernel
theorem dX0_strength_140 : decode cX0_strength 140 = .ok (.getfield 90, 3) := by decide +kernel
theorem dX0_strength_143 : decode cX0_strength 143 = .ok (.iload_n 2, 1) := by decide +kernel
theorem dX0_strength_144 : decode cX0_strength 144 = .ok (.iconst 3, 1) := by decide +kernel
theorem dX0_strength_145 : decode cX0_strength 145 = .ok (.imul, 1) := by decide +kernel
theorem dX0_strength_146 : decode cX0_strength 146 = .ok (.aload_n 1, 1) := by decide +kernel
theorem dX0_strength_147 : decode cX0_strength 147 = .ok (.getfield 76, 3) := by decide +kernel
theorem dX0_strength_150 : decode cX0_strength 150 = .ok (.iload_n 3, 1) := by decide +kernel
theorem dX0_strength_151 : decode cX0_strength 151 = .ok (.iaload, 1) := by decide +kernel
theorem dX0_strength_152 : decode cX0_strength 152 = .ok (.iadd, 1) := by decide +kernel
theorem dX0_strength_153 : decode cX0_strength 153 = .ok (.iaload, 1) := by decide +kernel
theorem dX0_strength_154 : decode cX0_strength 154 = .ok (.iload_n 3, 1) := by decide +kernel
theorem dX0_strength_155 : decode cX0_strength 155 = .ok (.invokevirtual 50, 3) := by decide +kernel
theorem dX0_strength_158 : decode cX0_strength 158 = .ok (.goto 4, 3) := by decide +kernel
theorem dX0_strength_161 : decode cX0_strength 161 = .ok (.iconst 0, 1) := by decide +kernel
theorem dX0_strength_162 : decode cX0_strength 162 = .ok (.ireturn, 1) := by decide +kernel
theorem dX0_strengthOfAll_0 : decode cX0_strengthOfAll 0 = .ok (.iconst 0, 1) := by decide +kernel
theorem dX0_strengthOfAll_1 : decode cX0_strengthOfAll 1 = .ok (.istore_n 3, 1) := by decide +kernel
theorem dX0_strengthOfAll_2 : decode cX0_strengthOfAll 2 = .ok (.iconst 0, 1) := by decide +kernel
theorem dX0_strengthOfAll_3 : decode cX0_strengthOfAll 3 = .ok (.istore 4, 2) := by decide +kernel
theorem dX0_strengthOfAll_5 : decode cX0_strengthOfAll 5 = .ok (.iload 4, 2) := by decide +kernel
theorem dX0_strengthOfAll_7 : decode cX0_strengthOfAll 7 = .ok (.aload_n 1, 1) := by decide +kernel
theorem dX0_strengthOfAll_8 : decode cX0_strengthOfAll 8 = .ok (.getfield 72, 3) := by decide +kernel
theorem dX0_strengthOfAll_11 : decode cX0_strengthOfAll 11 = .ok (.if_icmp .ge 20, 3) := by decide +kernel
theorem dX0_strengthOfAll_14 : decode cX0_strengthOfAll 14 = .ok (.iload_n 3, 1) := by decide +kernel
theorem dX0_strengthOfAll_15 : decode cX0_strengthOfAll 15 = .ok (.aload_n 0, 1) := by decide +kernel
theorem dX0_strengthOfAll_16 : decode cX0_strengthOfAll 16 = .ok (.aload_n 1, 1) := by decide +kernel
theorem dX0_strengthOfAll_17 : decode cX0_strengthOfAll 17 = .ok (.iload 4, 2) := by decide +kernel
theorem dX0_strengthOfAll_19 : decode cX0_strengthOfAll 19 = .ok (.iload_n 2, 1) := by decide +kernel
theorem dX0_strengthOfAll_20 : decode cX0_strengthOfAll 20 = .ok (.invokevirtual 93, 3) := by decide +kernel
theorem dX0_strengthOfAll_23 : decode cX0_strengthOfAll 23 = .ok (.iadd, 1) := by decide +kernel
theorem dX0_strengthOfAll_24 : decode cX0_strengthOfAll 24 = .ok (.istore_n 3, 1) := by decide +kernel
theorem dX0_strengthOfAll_25 : decode cX0_strengthOfAll 25 = .ok (.iinc 4 1, 3) := by decide +kernel
theorem dX0_strengthOfAll_28 : decode cX0_strengthOfAll 28 = .ok (.goto (-23), 3) := by decide +kernel
theorem dX0_strengthOfAll_31 : decode cX0_strengthOfAll 31 = .ok (.iload_n 3, 1) := by decide +kernel
theorem dX0_strengthOfAll_32 : decode cX0_strengthOfAll 32 = .ok (.ireturn, 1) := by decide +kernel
theorem dX0_hold_0 : decode cX0_hold 0 = .ok (.aload_n 0, 1) := by decide +kernel
theorem dX0_hold_1 : decode cX0_hold 1 = .ok (.iconst 0, 1) := by decide +kernel
theorem dX0_hold_2 : decode cX0_hold 2 = .ok (.putfield 97, 3) := by decide +kernel
theorem dX0_hold_5 : decode cX0_hold 5 = .ok (.aload_n 0, 1) := by decide +kernel
theorem dX0_hold_6 : decode cX0_hold 6 = .ok (.iconst (-1), 1) := by decide +kernel
theorem dX0_hold_7 : decode cX0_hold 7 = .ok (.putfield 100, 3) := by decide +kernel
theorem dX0_hold_10 : decode cX0_hold 10 = .ok (.aload_n 0, 1) := by decide +kernel
theorem dX0_hold_11 : decode cX0_hold 11 = .ok (.iconst (-1), 1) := by decide +kernel
theorem dX0_hold_12 : decode cX0_hold 12 = .ok (.putfield 103, 3) := by decide +kernel
theorem dX0_hold_15 : decode cX0_hold 15 = .ok (.iconst 0, 1) := by decide +kernel
theorem dX0_hold_16 : decode cX0_hold 16 = .ok (.istore_n 3, 1) := by decide +kernel
theorem dX0_hold_17 : decode cX0_hold 17 = .ok (.iconst 0, 1) := by decide +kernel
theorem dX0_hold_18 : decode cX0_hold 18 = .ok (.istore 4, 2) := by decide +kernel
theorem dX0_hold_20 : decode cX0_hold 20 = .ok (.iconst 0, 1) := by decide +kernel
theorem dX0_hold_21 : decode cX0_hold 21 = .ok (.istore 5, 2) := by decide +kernel
theorem dX0_hold_23 : decode cX0_hold 23 = .ok (.iload 5, 2) := by decide +kernel
theorem dX0_hold_25 : decode cX0_hold 25 = .ok (.aload_n 1, 1) := by decide +kernel
theorem dX0_hold_26 : decode cX0_hold 26 = .ok (.getfield 72, 3) := by decide +kernel
theorem dX0_hold_29 : decode cX0_hold 29 = .ok (.if_icmp .ge 83, 3) := by decide +kernel
theorem dX0_hold_32 : decode cX0_hold 32 = .ok (.aload_n 0, 1) := by decide +kernel
theorem dX0_hold_33 : decode cX0_hold 33 = .ok (.aload_n 1, 1) := by decide +kernel
theorem dX0_hold_34 : decode cX0_hold 34 = .ok (.iload 5, 2) := by decide +kernel
theorem dX0_hold_36 : decode cX0_hold 36 = .ok (.iload_n 2, 1) := by decide +kernel
theorem dX0_hold_37 : decode cX0_hold 37 = .ok (.invokevirtual 93, 3) := by decide +kernel
theorem dX0_hold_40 : decode cX0_hold 40 = .ok (.istore 6, 2) := by decide +kernel
theorem dX0_hold_42 : decode cX0_hold 42 = .ok (.iload 6, 2) := by decide +kernel
theorem dX0_hold_44 : decode cX0_hold 44 = .ok (.ifCond .le 16, 3) := by decide +kernel
theorem dX0_hold_47 : decode cX0_hold 47 = .ok (.aload_n 0, 1) := by decide +kernel
theorem dX0_hold_48 : decode cX0_hold 48 = .ok (.dup, 1) := by decide +kernel
theorem dX0_hold_49 : decode cX0_hold 49 = .ok (.getfield 97, 3) := by decide +kernel
theorem dX0_hold_52 : decode cX0_hold 52 = .ok (.iconst 1, 1) := by decide +kernel
theorem dX0_hold_53 : decode cX0_hold 53 = .ok (.iload 5, 2) := by decide +kernel
theorem dX0_hold_55 : decode cX0_hold 55 = .ok (.ishl, 1) := by decide +kernel
theorem dX0_hold_56 : decode cX0_hold 56 = .ok (.ior, 1) := by decide +kernel
theorem dX0_hold_57 : decode cX0_hold 57 = .ok (.putfield 97, 3) := by decide +kernel
theorem dX0_hold_60 : decode cX0_hold 60 = .ok (.iload 6, 2) := by decide +kernel
theorem dX0_hold_62 : decode cX0_hold 62 = .ok (.iload_n 3, 1) := by decide +kernel
theorem dX0_hold_63 : decode cX0_hold 63 = .ok (.if_icmp .le 26, 3) := by decide +kernel
theorem dX0_hold_66 : decode cX0_hold 66 = .ok (.aload_n 0, 1) := by decide +kernel
theorem dX0_hold_67 : decode cX0_hold 67 = .ok (.aload_n 0, 1) := by decide +kernel
theorem dX0_hold_68 : decode cX0_hold 68 = .ok (.getfield 100, 3) := by decide +kernel
theorem dX0_hold_71 : decode cX0_hold 71 = .ok (.putfield 103, 3) := by decide +kernel
theorem dX0_hold_74 : decode cX0_hold 74 = .ok (.iload_n 3, 1) := by decide +kernel
theorem dX0_hold_75 : decode cX0_hold 75 = .ok (.istore 4, 2) := by decide +kernel
theorem dX0_hold_77 : decode cX0_hold 77 = .ok (.aload_n 0, 1) := by decide +kernel
theorem dX0_hold_78 : decode cX0_hold 78 = .ok (.iload 5, 2) := by decide +kernel
theorem dX0_hold_80 : decode cX0_hold 80 = .ok (.putfield 100, 3) := by decide +kernel
theorem dX0_hold_83 : decode cX0_hold 83 = .ok (.iload 6, 2) := by decide +kernel
theorem dX0_hold_85 : decode cX0_hold 85 = .ok (.istore_n 3, 1) := by decide +kernel
theorem dX0_hold_86 : decode cX0_hold 86 = .ok (.goto 20, 3) := by decide +kernel
theorem dX0_hold_89 : decode cX0_hold 89 = .ok (.iload 6, 2) := by decide +kernel
theorem dX0_hold_91 : decode cX0_hold 91 = .ok (.iload 4, 2) := by decide +kernel
theorem dX0_hold_93 : decode cX0_hold 93 = .ok (.if_icmp .le 13, 3) := by decide +kernel
theorem dX0_hold_96 : decode cX0_hold 96 = .ok (.aload_n 0, 1) := by decide +kernel
theorem dX0_hold_97 : decode cX0_hold 97 = .ok (.iload 5, 2) := by decide +kernel
theorem dX0_hold_99 : decode cX0_hold 99 = .ok (.putfield 103, 3) := by decide +kernel
theorem dX0_hold_102 : decode cX0_hold 102 = .ok (.iload 6, 2) := by decide +kernel
theorem dX0_hold_104 : decode cX0_hold 104 = .ok (.istore 4, 2) := by decide +kernel
theorem dX0_hold_106 : decode cX0_hold 106 = .ok (.iinc 5 1, 3) := by decide +kernel
theorem dX0_hold_109 : decode cX0_hold 109 = .ok (.goto (-86), 3) := by decide +kernel
theorem dX0_hold_112 : decode cX0_hold 112 = .ok (.return_, 1) := by decide +kernel
theorem dX0_handicapOf_0 : decode cX0_handicapOf 0 = .ok (.aload_n 1, 1) := by decide +kernel
theorem dX0_handicapOf_1 : decode cX0_handicapOf 1 = .ok (.getfield 106, 3) := by decide +kernel
theorem dX0_handicapOf_4 : decode cX0_handicapOf 4 = .ok (.istore_n 3, 1) := by decide +kernel
theorem dX0_handicapOf_5 : decode cX0_handicapOf 5 = .ok (.iload_n 3, 1) := by decide +kernel
theorem dX0_handicapOf_6 : decode cX0_handicapOf 6 = .ok (.iconst 0, 1) := by decide +kernel
theorem dX0_handicapOf_7 : decode cX0_handicapOf 7 = .ok (.bipush 7, 2) := by decide +kernel
theorem dX0_handicapOf_9 : decode cX0_handicapOf 9 = .ok (.invokestatic 46, 3) := by decide +kernel
theorem dX0_handicapOf_12 : decode cX0_handicapOf 12 = .ok (.ifCond .eq 22, 3) := by decide +kernel
theorem dX0_handicapOf_15 : decode cX0_handicapOf 15 = .ok (.aload_n 1, 1) := by decide +kernel
theorem dX0_handicapOf_16 : decode cX0_handicapOf 16 = .ok (.getfield 76, 3) := by decide +kernel
theorem dX0_handicapOf_19 : decode cX0_handicapOf 19 = .ok (.iload_n 3, 1) := by decide +kernel
theorem dX0_handicapOf_20 : decode cX0_handicapOf 20 = .ok (.iaload, 1) := by decide +kernel
theorem dX0_handicapOf_21 : decode cX0_handicapOf 21 = .ok (.iconst (-1), 1) := by decide +kernel
theorem dX0_handicapOf_22 : decode cX0_handicapOf 22 = .ok (.if_icmp .eq 12, 3) := by decide +kernel
theorem dX0_handicapOf_25 : decode cX0_handicapOf 25 = .ok (.aload_n 0, 1) := by decide +kernel
theorem dX0_handicapOf_26 : decode cX0_handicapOf 26 = .ok (.aload_n 1, 1) := by decide +kernel
theorem dX0_handicapOf_27 : decode cX0_handicapOf 27 = .ok (.iload_n 2, 1) := by decide +kernel
theorem dX0_handicapOf_28 : decode cX0_handicapOf 28 = .ok (.invokevirtual 79, 3) := by decide +kernel
theorem dX0_handicapOf_31 : decode cX0_handicapOf 31 = .ok (.ifCond .eq 5, 3) := by decide +kernel
theorem dX0_handicapOf_34 : decode cX0_handicapOf 34 = .ok (.iconst (-1), 1) := by decide +kernel
theorem dX0_handicapOf_35 : decode cX0_handicapOf 35 = .ok (.ireturn, 1) := by decide +kernel
theorem dX0_handicapOf_36 : decode cX0_handicapOf 36 = .ok (.aload_n 0, 1) := by decide +kernel
theorem dX0_handicapOf_37 : decode cX0_handicapOf 37 = .ok (.aload_n 1, 1) := by decide +kernel
theorem dX0_handicapOf_38 : decode cX0_handicapOf 38 = .ok (.getfield 54, 3) := by decide +kernel
theorem dX0_handicapOf_41 : decode cX0_handicapOf 41 = .ok (.iload_n 2, 1) := by decide +kernel
theorem dX0_handicapOf_42 : decode cX0_handicapOf 42 = .ok (.iaload, 1) := by decide +kernel
theorem dX0_handicapOf_43 : decode cX0_handicapOf 43 = .ok (.aload_n 1, 1) := by decide +kernel
theorem dX0_handicapOf_44 : decode cX0_handicapOf 44 = .ok (.getfield 90, 3) := by decide +kernel
theorem dX0_handicapOf_47 : decode cX0_handicapOf 47 = .ok (.iload_n 2, 1) := by decide +kernel
theorem dX0_handicapOf_48 : decode cX0_handicapOf 48 = .ok (.iconst 3, 1) := by decide +kernel
theorem dX0_handicapOf_49 : decode cX0_handicapOf 49 = .ok (.imul, 1) := by decide +kernel
theorem dX0_handicapOf_50 : decode cX0_handicapOf 50 = .ok (.aload_n 1, 1) := by decide +kernel
theorem dX0_handicapOf_51 : decode cX0_handicapOf 51 = .ok (.getfield 76, 3) := by decide +kernel
theorem dX0_handicapOf_54 : decode cX0_handicapOf 54 = .ok (.iload_n 3, 1) := by decide +kernel
theorem dX0_handicapOf_55 : decode cX0_handicapOf 55 = .ok (.iaload, 1) := by decide +kernel
theorem dX0_handicapOf_56 : decode cX0_handicapOf 56 = .ok (.iadd, 1) := by decide +kernel
theorem dX0_handicapOf_57 : decode cX0_handicapOf 57 = .ok (.iaload, 1) := by decide +kernel
theorem dX0_handicapOf_58 : decode cX0_handicapOf 58 = .ok (.iload_n 3, 1) := by decide +kernel
theorem dX0_handicapOf_59 : decode cX0_handicapOf 59 = .ok (.invokevirtual 109, 3) := by decide +kernel
theorem dX0_handicapOf_62 : decode cX0_handicapOf 62 = .ok (.istore 4, 2) := by decide +kernel
theorem dX0_handicapOf_64 : decode cX0_handicapOf 64 = .ok (.iload 4, 2) := by decide +kernel
theorem dX0_handicapOf_66 : decode cX0_handicapOf 66 = .ok (.iconst 1, 1) := by decide +kernel
theorem dX0_handicapOf_67 : decode cX0_handicapOf 67 = .ok (.if_icmp .ge 5, 3) := by decide +kernel
theorem dX0_handicapOf_70 : decode cX0_handicapOf 70 = .ok (.iconst (-1), 1) := by decide +kernel
theorem dX0_handicapOf_71 : decode cX0_handicapOf 71 = .ok (.ireturn, 1) := by decide +kernel
theorem dX0_handicapOf_72 : decode cX0_handicapOf 72 = .ok (.iconst 0, 1) := by decide +kernel
theorem dX0_handicapOf_73 : decode cX0_handicapOf 73 = .ok (.istore 5, 2) := by decide +kernel
theorem dX0_handicapOf_75 : decode cX0_handicapOf 75 = .ok (.iconst 0, 1) := by decide +kernel
theorem dX0_handicapOf_76 : decode cX0_handicapOf 76 = .ok (.istore 6, 2) := by decide +kernel
theorem dX0_handicapOf_78 : decode cX0_handicapOf 78 = .ok (.iload 6, 2) := by decide +kernel
theorem dX0_handicapOf_80 : decode cX0_handicapOf 80 = .ok (.aload_n 1, 1) := by decide +kernel
theorem dX0_handicapOf_81 : decode cX0_handicapOf 81 = .ok (.getfield 72, 3) := by decide +kernel
theorem dX0_handicapOf_84 : decode cX0_handicapOf 84 = .ok (.if_icmp .ge 52, 3) := by decide +kernel
theorem dX0_handicapOf_87 : decode cX0_handicapOf 87 = .ok (.iload 6, 2) := by decide +kernel
theorem dX0_handicapOf_89 : decode cX0_handicapOf 89 = .ok (.iload_n 2, 1) := by decide +kernel
theorem dX0_handicapOf_90 : decode cX0_handicapOf 90 = .ok (.if_icmp .eq 40, 3) := by decide +kernel
theorem dX0_handicapOf_93 : decode cX0_handicapOf 93 = .ok (.iload 6, 2) := by decide +kernel
theorem dX0_handicapOf_95 : decode cX0_handicapOf 95 = .ok (.iload_n 2, 1) := by decide +kernel
theorem dX0_handicapOf_96 : decode cX0_handicapOf 96 = .ok (.if_icmp .ge 10, 3) := by decide +kernel
theorem dX0_handicapOf_99 : decode cX0_handicapOf 99 = .ok (.iload 4, 2) := by decide +kernel
theorem dX0_handicapOf_101 : decode cX0_handicapOf 101 = .ok (.iconst 1, 1) := by decide +kernel
theorem dX0_handicapOf_102 : decode cX0_handicapOf 102 = .ok (.isub, 1) := by decide +kernel
theorem dX0_handicapOf_103 : decode cX0_handicapOf 103 = .ok (.goto 5, 3) := by decide +kernel
theorem dX0_handicapOf_106 : decode cX0_handicapOf 106 = .ok (.iload 4, 2) := by decide +kernel
theorem dX0_handicapOf_108 : decode cX0_handicapOf 108 = .ok (.istore 7, 2) := by decide +kernel
theorem dX0_handicapOf_110 : decode cX0_handicapOf 110 = .ok (.iload 5, 2) := by decide +kernel
theorem dX0_handicapOf_112 : decode cX0_handicapOf 112 = .ok (.iconst 0, 1) := by decide +kernel
theorem dX0_handicapOf_113 : decode cX0_handicapOf 113 = .ok (.aload_n 0, 1) := by decide +kernel
theorem dX0_handicapOf_114 : decode cX0_handicapOf 114 = .ok (.aload_n 1, 1) := by decide +kernel
theorem dX0_handicapOf_115 : decode cX0_handicapOf 115 = .ok (.iload 6, 2) := by decide +kernel
theorem dX0_handicapOf_117 : decode cX0_handicapOf 117 = .ok (.iload_n 3, 1) := by decide +kernel
theorem dX0_handicapOf_118 : decode cX0_handicapOf 118 = .ok (.invokevirtual 93, 3) := by decide +kernel
theorem dX0_handicapOf_121 : decode cX0_handicapOf 121 = .ok (.iload 7, 2) := by decide +kernel
theorem dX0_handicapOf_123 : decode cX0_handicapOf 123 = .ok (.isub, 1) := by decide +kernel
theorem dX0_handicapOf_124 : decode cX0_handicapOf 124 = .ok (.invokestatic 113, 3) := by decide +kernel
theorem dX0_handicapOf_127 : decode cX0_handicapOf 127 = .ok (.iadd, 1) := by decide +kernel
theorem dX0_handicapOf_128 : decode cX0_handicapOf 128 = .ok (.istore 5, 2) := by decide +kernel
theorem dX0_handicapOf_130 : decode cX0_handicapOf 130 = .ok (.iinc 6 1, 3) := by decide +kernel
theorem dX0_handicapOf_133 : decode cX0_handicapOf 133 = .ok (.goto (-55), 3) := by decide +kernel
theorem dX0_handicapOf_136 : decode cX0_handicapOf 136 = .ok (.iload 5, 2) := by decide +kernel
theorem dX0_handicapOf_138 : decode cX0_handicapOf 138 = .ok (.ireturn, 1) := by decide +kernel
theorem dX0_kindsThatFit_0 : decode cX0_kindsThatFit 0 = .ok (.iconst 0, 1) := by decide +kernel
theorem dX0_kindsThatFit_1 : decode cX0_kindsThatFit 1 = .ok (.istore_n 3, 1) := by decide +kernel
theorem dX0_kindsThatFit_2 : decode cX0_kindsThatFit 2 = .ok (.iconst 0, 1) := by decide +kernel
theorem dX0_kindsThatFit_3 : decode cX0_kindsThatFit 3 = .ok (.istore 4, 2) := by decide +kernel
theorem dX0_kindsThatFit_5 : decode cX0_kindsThatFit 5 = .ok (.iload 4, 2) := by decide +kernel
theorem dX0_kindsThatFit_7 : decode cX0_kindsThatFit 7 = .ok (.bipush 6, 2) := by decide +kernel
theorem dX0_kindsThatFit_9 : decode cX0_kindsThatFit 9 = .ok (.if_icmp .ge 27, 3) := by decide +kernel
theorem dX0_kindsThatFit_12 : decode cX0_kindsThatFit 12 = .ok (.aload_n 0, 1) := by decide +kernel
theorem dX0_kindsThatFit_13 : decode cX0_kindsThatFit 13 = .ok (.aload_n 1, 1) := by decide +kernel
theorem dX0_kindsThatFit_14 : decode cX0_kindsThatFit 14 = .ok (.iload_n 2, 1) := by decide +kernel
theorem dX0_kindsThatFit_15 : decode cX0_kindsThatFit 15 = .ok (.iload 4, 2) := by decide +kernel
theorem dX0_kindsThatFit_17 : decode cX0_kindsThatFit 17 = .ok (.invokevirtual 118, 3) := by decide +kernel
theorem dX0_kindsThatFit_20 : decode cX0_kindsThatFit 20 = .ok (.ifCond .eq 10, 3) := by decide +kernel
theorem dX0_kindsThatFit_23 : decode cX0_kindsThatFit 23 = .ok (.iload_n 3, 1) := by decide +kernel
theorem dX0_kindsThatFit_24 : decode cX0_kindsThatFit 24 = .ok (.iconst 1, 1) := by decide +kernel
theorem dX0_kindsThatFit_25 : decode cX0_kindsThatFit 25 = .ok (.iload 4, 2) := by decide +kernel
theorem dX0_kindsThatFit_27 : decode cX0_kindsThatFit 27 = .ok (.ishl, 1) := by decide +kernel
theorem dX0_kindsThatFit_28 : decode cX0_kindsThatFit 28 = .ok (.ior, 1) := by decide +kernel
theorem dX0_kindsThatFit_29 : decode cX0_kindsThatFit 29 = .ok (.istore_n 3, 1) := by decide +kernel
theorem dX0_kindsThatFit_30 : decode cX0_kindsThatFit 30 = .ok (.iinc 4 1, 3) := by decide +kernel
theorem dX0_kindsThatFit_33 : decode cX0_kindsThatFit 33 = .ok (.goto (-28), 3) := by decide +kernel
theorem dX0_kindsThatFit_36 : decode cX0_kindsThatFit 36 = .ok (.iload_n 3, 1) := by decide +kernel
theorem dX0_kindsThatFit_37 : decode cX0_kindsThatFit 37 = .ok (.ireturn, 1) := by decide +kernel
theorem dX0_kindFits_0 : decode cX0_kindFits 0 = .ok (.iconst 0, 1) := by decide +kernel
theorem dX0_kindFits_1 : decode cX0_kindFits 1 = .ok (.istore 4, 2) := by decide +kernel
theorem dX0_kindFits_3 : decode cX0_kindFits 3 = .ok (.iload 4, 2) := by decide +kernel
theorem dX0_kindFits_5 : decode cX0_kindFits 5 = .ok (.aload_n 1, 1) := by decide +kernel
theorem dX0_kindFits_6 : decode cX0_kindFits 6 = .ok (.getfield 122, 3) := by decide +kernel
theorem dX0_kindFits_9 : decode cX0_kindFits 9 = .ok (.if_icmp .ge 68, 3) := by decide +kernel
theorem dX0_kindFits_12 : decode cX0_kindFits 12 = .ok (.aload_n 1, 1) := by decide +kernel
theorem dX0_kindFits_13 : decode cX0_kindFits 13 = .ok (.iload 4, 2) := by decide +kernel
theorem dX0_kindFits_15 : decode cX0_kindFits 15 = .ok (.iconst 3, 1) := by decide +kernel
theorem dX0_kindFits_16 : decode cX0_kindFits 16 = .ok (.invokevirtual 127, 3) := by decide +kernel
theorem dX0_kindFits_19 : decode cX0_kindFits 19 = .ok (.iconst 1, 1) := by decide +kernel
theorem dX0_kindFits_20 : decode cX0_kindFits 20 = .ok (.if_icmp .ne 7, 3) := by decide +kernel
theorem dX0_kindFits_23 : decode cX0_kindFits 23 = .ok (.iconst 1, 1) := by decide +kernel
theorem dX0_kindFits_24 : decode cX0_kindFits 24 = .ok (.goto 4, 3) := by decide +kernel
theorem dX0_kindFits_27 : decode cX0_kindFits 27 = .ok (.iconst 0, 1) := by decide +kernel
theorem dX0_kindFits_28 : decode cX0_kindFits 28 = .ok (.istore 5, 2) := by decide +kernel
theorem dX0_kindFits_30 : decode cX0_kindFits 30 = .ok (.aload_n 1, 1) := by decide +kernel
theorem dX0_kindFits_31 : decode cX0_kindFits 31 = .ok (.iload 4, 2) := by decide +kernel
theorem dX0_kindFits_33 : decode cX0_kindFits 33 = .ok (.iconst 0, 1) := by decide +kernel
theorem dX0_kindFits_34 : decode cX0_kindFits 34 = .ok (.invokevirtual 127, 3) := by decide +kernel
theorem dX0_kindFits_37 : decode cX0_kindFits 37 = .ok (.iload_n 2, 1) := by decide +kernel
theorem dX0_kindFits_38 : decode cX0_kindFits 38 = .ok (.if_icmp .ne 33, 3) := by decide +kernel
theorem dX0_kindFits_41 : decode cX0_kindFits 41 = .ok (.aload_n 0, 1) := by decide +kernel
theorem dX0_kindFits_42 : decode cX0_kindFits 42 = .ok (.getfield 11, 3) := by decide +kernel
theorem dX0_kindFits_45 : decode cX0_kindFits 45 = .ok (.iload_n 3, 1) := by decide +kernel
theorem dX0_kindFits_46 : decode cX0_kindFits 46 = .ok (.aaload, 1) := by decide +kernel
theorem dX0_kindFits_47 : decode cX0_kindFits 47 = .ok (.aload_n 1, 1) := by decide +kernel
theorem dX0_kindFits_48 : decode cX0_kindFits 48 = .ok (.iload 4, 2) := by decide +kernel
theorem dX0_kindFits_50 : decode cX0_kindFits 50 = .ok (.iconst 1, 1) := by decide +kernel
theorem dX0_kindFits_51 : decode cX0_kindFits 51 = .ok (.invokevirtual 127, 3) := by decide +kernel
theorem dX0_kindFits_54 : decode cX0_kindFits 54 = .ok (.aload_n 1, 1) := by decide +kernel
theorem dX0_kindFits_55 : decode cX0_kindFits 55 = .ok (.iload 4, 2) := by decide +kernel
theorem dX0_kindFits_57 : decode cX0_kindFits 57 = .ok (.iconst 2, 1) := by decide +kernel
theorem dX0_kindFits_58 : decode cX0_kindFits 58 = .ok (.invokevirtual 127, 3) := by decide +kernel
theorem dX0_kindFits_61 : decode cX0_kindFits 61 = .ok (.invokevirtual 86, 3) := by decide +kernel
theorem dX0_kindFits_64 : decode cX0_kindFits 64 = .ok (.iload 5, 2) := by decide +kernel
theorem dX0_kindFits_66 : decode cX0_kindFits 66 = .ok (.if_icmp .eq 5, 3) := by decide +kernel
theorem dX0_kindFits_69 : decode cX0_kindFits 69 = .ok (.iconst 0, 1) := by decide +kernel
theorem dX0_kindFits_70 : decode cX0_kindFits 70 = .ok (.ireturn, 1) := by decide +kernel
theorem dX0_kindFits_71 : decode cX0_kindFits 71 = .ok (.iinc 4 1, 3) := by decide +kernel
theorem dX0_kindFits_74 : decode cX0_kindFits 74 = .ok (.goto (-71), 3) := by decide +kernel
theorem dX0_kindFits_77 : decode cX0_kindFits 77 = .ok (.iconst 1, 1) := by decide +kernel
theorem dX0_kindFits_78 : decode cX0_kindFits 78 = .ok (.ireturn, 1) := by decide +kernel
theorem dX0_tellingWorth_0 : decode cX0_tellingWorth 0 = .ok (.iload_n 1, 1) := by decide +kernel
theorem dX0_tellingWorth_1 : decode cX0_tellingWorth 1 = .ok (.invokestatic 62, 3) := by decide +kernel
theorem dX0_tellingWorth_4 : decode cX0_tellingWorth 4 = .ok (.istore_n 3, 1) := by decide +kernel
theorem dX0_tellingWorth_5 : decode cX0_tellingWorth 5 = .ok (.iload_n 3, 1) := by decide +kernel
theorem dX0_tellingWorth_6 : decode cX0_tellingWorth 6 = .ok (.ifCond .ne 5, 3) := by decide +kernel
theorem dX0_tellingWorth_9 : decode cX0_tellingWorth 9 = .ok (.iconst (-1), 1) := by decide +kernel
theorem dX0_tellingWorth_10 : decode cX0_tellingWorth 10 = .ok (.ireturn, 1) := by decide +kernel
theorem dX0_tellingWorth_11 : decode cX0_tellingWorth 11 = .ok (.bipush 7, 2) := by decide +kernel
theorem dX0_tellingWorth_13 : decode cX0_tellingWorth 13 = .ok (.istore 4, 2) := by decide +kernel
theorem dX0_tellingWorth_15 : decode cX0_tellingWorth 15 = .ok (.iconst (-1), 1) := by decide +kernel
theorem dX0_tellingWorth_16 : decode cX0_tellingWorth 16 = .ok (.istore 5, 2) := by decide +kernel
theorem dX0_tellingWorth_18 : decode cX0_tellingWorth 18 = .ok (.iconst 1, 1) := by decide +kernel
theorem dX0_tellingWorth_19 : decode cX0_tellingWorth 19 = .ok (.istore 6, 2) := by decide +kernel
theorem dX0_tellingWorth_21 : decode cX0_tellingWorth 21 = .ok (.iload 6, 2) := by decide +kernel
theorem dX0_tellingWorth_23 : decode cX0_tellingWorth 23 = .ok (.bipush 30, 2) := by decide +kernel
theorem dX0_tellingWorth_25 : decode cX0_tellingWorth 25 = .ok (.if_icmp .gt 83, 3) := by decide +kernel
theorem dX0_tellingWorth_28 : decode cX0_tellingWorth 28 = .ok (.iconst 0, 1) := by decide +kernel
theorem dX0_tellingWorth_29 : decode cX0_tellingWorth 29 = .ok (.istore 7, 2) := by decide +kernel
theorem dX0_tellingWorth_31 : decode cX0_tellingWorth 31 = .ok (.iconst 0, 1) := by decide +kernel
theorem dX0_tellingWorth_32 : decode cX0_tellingWorth 32 = .ok (.istore 8, 2) := by decide +kernel
theorem dX0_tellingWorth_34 : decode cX0_tellingWorth 34 = .ok (.iload 8, 2) := by decide +kernel
theorem dX0_tellingWorth_36 : decode cX0_tellingWorth 36 = .ok (.bipush 6, 2) := by decide +kernel
theorem dX0_tellingWorth_38 : decode cX0_tellingWorth 38 = .ok (.if_icmp .ge 38, 3) := by decide +kernel
theorem dX0_tellingWorth_41 : decode cX0_tellingWorth 41 = .ok (.iload_n 1, 1) := by decide +kernel
theorem dX0_tellingWorth_42 : decode cX0_tellingWorth 42 = .ok (.iload 8, 2) := by decide +kernel
theorem dX0_tellingWorth_44 : decode cX0_tellingWorth 44 = .ok (.ishr, 1) := by decide +kernel
theorem dX0_tellingWorth_45 : decode cX0_tellingWorth 45 = .ok (.iconst 1, 1) := by decide +kernel
theorem dX0_tellingWorth_46 : decode cX0_tellingWorth 46 = .ok (.iand, 1) := by decide +kernel
theorem dX0_tellingWorth_47 : decode cX0_tellingWorth 47 = .ok (.iconst 1, 1) := by decide +kernel
theorem dX0_tellingWorth_48 : decode cX0_tellingWorth 48 = .ok (.if_icmp .ne 22, 3) := by decide +kernel
theorem dX0_tellingWorth_51 : decode cX0_tellingWorth 51 = .ok (.aload_n 0, 1) := by decide +kernel
theorem dX0_tellingWorth_52 : decode cX0_tellingWorth 52 = .ok (.getfield 11, 3) := by decide +kernel
theorem dX0_tellingWorth_55 : decode cX0_tellingWorth 55 = .ok (.iload 8, 2) := by decide +kernel
theorem dX0_tellingWorth_57 : decode cX0_tellingWorth 57 = .ok (.aaload, 1) := by decide +kernel
theorem dX0_tellingWorth_58 : decode cX0_tellingWorth 58 = .ok (.iload 6, 2) := by decide +kernel
theorem dX0_tellingWorth_60 : decode cX0_tellingWorth 60 = .ok (.iload_n 2, 1) := by decide +kernel
theorem dX0_tellingWorth_61 : decode cX0_tellingWorth 61 = .ok (.invokevirtual 86, 3) := by decide +kernel
theorem dX0_tellingWorth_64 : decode cX0_tellingWorth 64 = .ok (.ifCond .eq 6, 3) := by decide +kernel
theorem dX0_tellingWorth_67 : decode cX0_tellingWorth 67 = .ok (.iinc 7 1, 3) := by decide +kernel
theorem dX0_tellingWorth_70 : decode cX0_tellingWorth 70 = .ok (.iinc 8 1, 3) := by decide +kernel
theorem dX0_tellingWorth_73 : decode cX0_tellingWorth 73 = .ok (.goto (-39), 3) := by decide +kernel
theorem dX0_tellingWorth_76 : decode cX0_tellingWorth 76 = .ok (.iload 7, 2) := by decide +kernel
theorem dX0_tellingWorth_78 : decode cX0_tellingWorth 78 = .ok (.iload_n 3, 1) := by decide +kernel
theorem dX0_tellingWorth_79 : decode cX0_tellingWorth 79 = .ok (.iload 7, 2) := by decide +kernel
theorem dX0_tellingWorth_81 : decode cX0_tellingWorth 81 = .ok (.isub, 1) := by decide +kernel
theorem dX0_tellingWorth_82 : decode cX0_tellingWorth 82 = .ok (.invokestatic 113, 3) := by decide +kernel
theorem dX0_tellingWorth_85 : decode cX0_tellingWorth 85 = .ok (.istore 8, 2) := by decide +kernel
theorem dX0_tellingWorth_87 : decode cX0_tellingWorth 87 = .ok (.iload 8, 2) := by decide +kernel
theorem dX0_tellingWorth_89 : decode cX0_tellingWorth 89 = .ok (.iload 4, 2) := by decide +kernel
theorem dX0_tellingWorth_91 : decode cX0_tellingWorth 91 = .ok (.if_icmp .ge 11, 3) := by decide +kernel
theorem dX0_tellingWorth_94 : decode cX0_tellingWorth 94 = .ok (.iload 8, 2) := by decide +kernel
theorem dX0_tellingWorth_96 : decode cX0_tellingWorth 96 = .ok (.istore 4, 2) := by decide +kernel
theorem dX0_tellingWorth_98 : decode cX0_tellingWorth 98 = .ok (.iload 6, 2) := by decide +kernel
theorem dX0_tellingWorth_100 : decode cX0_tellingWorth 100 = .ok (.istore 5, 2) := by decide +kernel
theorem dX0_tellingWorth_102 : decode cX0_tellingWorth 102 = .ok (.iinc 6 1, 3) := by decide +kernel
theorem dX0_tellingWorth_105 : decode cX0_tellingWorth 105 = .ok (.goto (-84), 3) := by decide +kernel
theorem dX0_tellingWorth_108 : decode cX0_tellingWorth 108 = .ok (.iload 5, 2) := by decide +kernel
theorem dX0_tellingWorth_110 : decode cX0_tellingWorth 110 = .ok (.ireturn, 1) := by decide +kernel
theorem dX0_isSo_0 : decode cX0_isSo 0 = .ok (.aload_n 0, 1) := by decide +kernel
theorem dX0_isSo_1 : decode cX0_isSo 1 = .ok (.aload_n 1, 1) := by decide +kernel
theorem dX0_isSo_2 : decode cX0_isSo 2 = .ok (.iload_n 2, 1) := by decide +kernel
theorem dX0_isSo_3 : decode cX0_isSo 3 = .ok (.iconst (-1), 1) := by decide +kernel
theorem dX0_isSo_4 : decode cX0_isSo 4 = .ok (.iconst 0, 1) := by decide +kernel
theorem dX0_isSo_5 : decode cX0_isSo 5 = .ok (.invokevirtual 130, 3) := by decide +kernel
theorem dX0_isSo_8 : decode cX0_isSo 8 = .ok (.ireturn, 1) := by decide +kernel
theorem dX0_isSoWith_0 : decode cX0_isSoWith 0 = .ok (.aload_n 1, 1) := by decide +kernel
theorem dX0_isSoWith_1 : decode cX0_isSoWith 1 = .ok (.getfield 134, 3) := by decide +kernel
theorem dX0_isSoWith_4 : decode cX0_isSoWith 4 = .ok (.iload_n 2, 1) := by decide +kernel
theorem dX0_isSoWith_5 : decode cX0_isSoWith 5 = .ok (.iconst 0, 1) := by decide +kernel
theorem dX0_isSoWith_6 : decode cX0_isSoWith 6 = .ok (.invokevirtual 127, 3) := by decide +kernel
theorem dX0_isSoWith_9 : decode cX0_isSoWith 9 = .ok (.istore 5, 2) := by decide +kernel
theorem dX0_isSoWith_11 : decode cX0_isSoWith 11 = .ok (.aload_n 1, 1) := by decide +kernel
theorem dX0_isSoWith_12 : decode cX0_isSoWith 12 = .ok (.getfield 134, 3) := by decide +kernel
theorem dX0_isSoWith_15 : decode cX0_isSoWith 15 = .ok (.iload_n 2, 1) := by decide +kernel
theorem dX0_isSoWith_16 : decode cX0_isSoWith 16 = .ok (.iconst 1, 1) := by decide +kernel
theorem dX0_isSoWith_17 : decode cX0_isSoWith 17 = .ok (.invokevirtual 127, 3) := by decide +kernel
theorem dX0_isSoWith_20 : decode cX0_isSoWith 20 = .ok (.istore 6, 2) := by decide +kernel
theorem dX0_isSoWith_22 : decode cX0_isSoWith 22 = .ok (.aload_n 1, 1) := by decide +kernel
theorem dX0_isSoWith_23 : decode cX0_isSoWith 23 = .ok (.getfield 134, 3) := by decide +kernel
theorem dX0_isSoWith_26 : decode cX0_isSoWith 26 = .ok (.iload_n 2, 1) := by decide +kernel
theorem dX0_isSoWith_27 : decode cX0_isSoWith 27 = .ok (.iconst 2, 1) := by decide +kernel
theorem dX0_isSoWith_28 : decode cX0_isSoWith 28 = .ok (.invokevirtual 127, 3) := by decide +kernel
theorem dX0_isSoWith_31 : decode cX0_isSoWith 31 = .ok (.istore 7, 2) := by decide +kernel
theorem dX0_isSoWith_33 : decode cX0_isSoWith 33 = .ok (.aload_n 1, 1) := by decide +kernel
theorem dX0_isSoWith_34 : decode cX0_isSoWith 34 = .ok (.getfield 134, 3) := by decide +kernel
theorem dX0_isSoWith_37 : decode cX0_isSoWith 37 = .ok (.iload_n 2, 1) := by decide +kernel
theorem dX0_isSoWith_38 : decode cX0_isSoWith 38 = .ok (.iconst 3, 1) := by decide +kernel
theorem dX0_isSoWith_39 : decode cX0_isSoWith 39 = .ok (.invokevirtual 127, 3) := by decide +kernel
theorem dX0_isSoWith_42 : decode cX0_isSoWith 42 = .ok (.istore 8, 2) := by decide +kernel
theorem dX0_isSoWith_44 : decode cX0_isSoWith 44 = .ok (.iload 5, 2) := by decide +kernel
theorem dX0_isSoWith_46 : decode cX0_isSoWith 46 = .ok (.iconst 0, 1) := by decide +kernel
theorem dX0_isSoWith_47 : decode cX0_isSoWith 47 = .ok (.aload_n 1, 1) := by decide +kernel
theorem dX0_isSoWith_48 : decode cX0_isSoWith 48 = .ok (.getfield 72, 3) := by decide +kernel
theorem dX0_isSoWith_51 : decode cX0_isSoWith 51 = .ok (.iconst 1, 1) := by decide +kernel
theorem dX0_isSoWith_52 : decode cX0_isSoWith 52 = .ok (.isub, 1) := by decide +kernel
theorem dX0_isSoWith_53 : decode cX0_isSoWith 53 = .ok (.invokestatic 46, 3) := by decide +kernel
theorem dX0_isSoWith_56 : decode cX0_isSoWith 56 = .ok (.ifCond .eq 28, 3) := by decide +kernel
theorem dX0_isSoWith_59 : decode cX0_isSoWith 59 = .ok (.iload 6, 2) := by decide +kernel
theorem dX0_isSoWith_61 : decode cX0_isSoWith 61 = .ok (.iconst 0, 1) := by decide +kernel
theorem dX0_isSoWith_62 : decode cX0_isSoWith 62 = .ok (.aload_n 1, 1) := by decide +kernel
theorem dX0_isSoWith_63 : decode cX0_isSoWith 63 = .ok (.getfield 72, 3) := by decide +kernel
theorem dX0_isSoWith_66 : decode cX0_isSoWith 66 = .ok (.iconst 1, 1) := by decide +kernel
theorem dX0_isSoWith_67 : decode cX0_isSoWith 67 = .ok (.isub, 1) := by decide +kernel
theorem dX0_isSoWith_68 : decode cX0_isSoWith 68 = .ok (.invokestatic 46, 3) := by decide +kernel
theorem dX0_isSoWith_71 : decode cX0_isSoWith 71 = .ok (.ifCond .eq 13, 3) := by decide +kernel
theorem dX0_isSoWith_74 : decode cX0_isSoWith 74 = .ok (.iload 7, 2) := by decide +kernel
theorem dX0_isSoWith_76 : decode cX0_isSoWith 76 = .ok (.iconst 0, 1) := by decide +kernel
theorem dX0_isSoWith_77 : decode cX0_isSoWith 77 = .ok (.iconst 2, 1) := by decide +kernel
theorem dX0_isSoWith_78 : decode cX0_isSoWith 78 = .ok (.invokestatic 46, 3) := by decide +kernel
theorem dX0_isSoWith_81 : decode cX0_isSoWith 81 = .ok (.ifCond .ne 5, 3) := by decide +kernel
theorem dX0_isSoWith_84 : decode cX0_isSoWith 84 = .ok (.iconst 0, 1) := by decide +kernel
theorem dX0_isSoWith_85 : decode cX0_isSoWith 85 = .ok (.ireturn, 1) := by decide +kernel
theorem dX0_isSoWith_86 : decode cX0_isSoWith 86 = .ok (.iload 5, 2) := by decide +kernel
theorem dX0_isSoWith_88 : decode cX0_isSoWith 88 = .ok (.iload_n 3, 1) := by decide +kernel
theorem dX0_isSoWith_89 : decode cX0_isSoWith 89 = .ok (.if_icmp .ne 8, 3) := by decide +kernel
theorem dX0_isSoWith_92 : decode cX0_isSoWith 92 = .ok (.iload 4, 2) := by decide +kernel
theorem dX0_isSoWith_94 : decode cX0_isSoWith 94 = .ok (.goto 15, 3) := by decide +kernel
theorem dX0_isSoWith_97 : decode cX0_isSoWith 97 = .ok (.aload_n 1, 1) := by decide +kernel
theorem dX0_isSoWith_98 : decode cX0_isSoWith 98 = .ok (.getfield 90, 3) := by decide +kernel
theorem dX0_isSoWith_101 : decode cX0_isSoWith 101 = .ok (.iload 5, 2) := by decide +kernel
theorem dX0_isSoWith_103 : decode cX0_isSoWith 103 = .ok (.iconst 3, 1) := by decide +kernel
theorem dX0_isSoWith_104 : decode cX0_isSoWith 104 = .ok (.imul, 1) := by decide +kernel
theorem dX0_isSoWith_105 : decode cX0_isSoWith 105 = .ok (.iload 7, 2) := by decide +kernel
theorem dX0_isSoWith_107 : decode cX0_isSoWith 107 = .ok (.iadd, 1) := by decide +kernel
theorem dX0_isSoWith_108 : decode cX0_isSoWith 108 = .ok (.iaload, 1) := by decide +kernel
theorem dX0_isSoWith_109 : decode cX0_isSoWith 109 = .ok (.istore 9, 2) := by decide +kernel
theorem dX0_isSoWith_111 : decode cX0_isSoWith 111 = .ok (.iload 6, 2) := by decide +kernel
theorem dX0_isSoWith_113 : decode cX0_isSoWith 113 = .ok (.iload_n 3, 1) := by decide +kernel
theorem dX0_isSoWith_114 : decode cX0_isSoWith 114 = .ok (.if_icmp .ne 8, 3) := by decide +kernel
theorem dX0_isSoWith_117 : decode cX0_isSoWith 117 = .ok (.iload 4, 2) := by decide +kernel
theorem dX0_isSoWith_119 : decode cX0_isSoWith 119 = .ok (.goto 15, 3) := by decide +kernel
theorem dX0_isSoWith_122 : decode cX0_isSoWith 122 = .ok (.aload_n 1, 1) := by decide +kernel
theorem dX0_isSoWith_123 : decode cX0_isSoWith 123 = .ok (.getfield 90, 3) := by decide +kernel
theorem dX0_isSoWith_126 : decode cX0_isSoWith 126 = .ok (.iload 6, 2) := by decide +kernel
theorem dX0_isSoWith_128 : decode cX0_isSoWith 128 = .ok (.iconst 3, 1) := by decide +kernel
theorem dX0_isSoWith_129 : decode cX0_isSoWith 129 = .ok (.imul, 1) := by decide +kernel
theorem dX0_isSoWith_130 : decode cX0_isSoWith 130 = .ok (.iload 7, 2) := by decide +kernel
theorem dX0_isSoWith_132 : decode cX0_isSoWith 132 = .ok (.iadd, 1) := by decide +kernel
theorem dX0_isSoWith_133 : decode cX0_isSoWith 133 = .ok (.iaload, 1) := by decide +kernel
theorem dX0_isSoWith_134 : decode cX0_isSoWith 134 = .ok (.istore 10, 2) := by decide +kernel
theorem dX0_isSoWith_136 : decode cX0_isSoWith 136 = .ok (.aload_n 0, 1) := by decide +kernel
theorem dX0_isSoWith_137 : decode cX0_isSoWith 137 = .ok (.aload_n 1, 1) := by decide +kernel
theorem dX0_isSoWith_138 : decode cX0_isSoWith 138 = .ok (.getfield 54, 3) := by decide +kernel
theorem dX0_isSoWith_141 : decode cX0_isSoWith 141 = .ok (.iload 5, 2) := by decide +kernel
theorem dX0_isSoWith_143 : decode cX0_isSoWith 143 = .ok (.iaload, 1) := by decide +kernel
theorem dX0_isSoWith_144 : decode cX0_isSoWith 144 = .ok (.iload 9, 2) := by decide +kernel
theorem dX0_isSoWith_146 : decode cX0_isSoWith 146 = .ok (.iload 8, 2) := by decide +kernel
theorem dX0_isSoWith_148 : decode cX0_isSoWith 148 = .ok (.invokevirtual 109, 3) := by decide +kernel
theorem dX0_isSoWith_151 : decode cX0_isSoWith 151 = .ok (.aload_n 0, 1) := by decide +kernel
theorem dX0_isSoWith_152 : decode cX0_isSoWith 152 = .ok (.aload_n 1, 1) := by decide +kernel
theorem dX0_isSoWith_153 : decode cX0_isSoWith 153 = .ok (.getfield 54, 3) := by decide +kernel
theorem dX0_isSoWith_156 : decode cX0_isSoWith 156 = .ok (.iload 6, 2) := by decide +kernel
theorem dX0_isSoWith_158 : decode cX0_isSoWith 158 = .ok (.iaload, 1) := by decide +kernel
theorem dX0_isSoWith_159 : decode cX0_isSoWith 159 = .ok (.iload 10, 2) := by decide +kernel
theorem dX0_isSoWith_161 : decode cX0_isSoWith 161 = .ok (.iload 8, 2) := by decide +kernel
theorem dX0_isSoWith_163 : decode cX0_isSoWith 163 = .ok (.invokevirtual 109, 3) := by decide +kernel
theorem dX0_isSoWith_166 : decode cX0_isSoWith 166 = .ok (.if_icmp .le 7, 3) := by decide +kernel
theorem dX0_isSoWith_169 : decode cX0_isSoWith 169 = .ok (.iconst 1, 1) := by decide +kernel
theorem dX0_isSoWith_170 : decode cX0_isSoWith 170 = .ok (.goto 4, 3) := by decide +kernel
theorem dX0_isSoWith_173 : decode cX0_isSoWith 173 = .ok (.iconst 0, 1) := by decide +kernel
theorem dX0_isSoWith_174 : decode cX0_isSoWith 174 = .ok (.ireturn, 1) := by decide +kernel
theorem dX0_artFits_0 : decode cX0_artFits 0 = .ok (.aload_n 1, 1) := by decide +kernel
theorem dX0_artFits_1 : decode cX0_artFits 1 = .ok (.getfield 134, 3) := by decide +kernel
theorem dX0_artFits_4 : decode cX0_artFits 4 = .ok (.astore 5, 2) := by decide +kernel
theorem dX0_artFits_6 : decode cX0_artFits 6 = .ok (.iconst 0, 1) := by decide +kernel
theorem dX0_artFits_7 : decode cX0_artFits 7 = .ok (.istore 6, 2) := by decide +kernel
theorem dX0_artFits_9 : decode cX0_artFits 9 = .ok (.iload 6, 2) := by decide +kernel
theorem dX0_artFits_11 : decode cX0_artFits 11 = .ok (.aload 5, 2) := by decide +kernel
theorem dX0_artFits_13 : decode cX0_artFits 13 = .ok (.getfield 122, 3) := by decide +kernel
theorem dX0_artFits_16 : decode cX0_artFits 16 = .ok (.if_icmp .ge 72, 3) := by decide +kernel
theorem dX0_artFits_19 : decode cX0_artFits 19 = .ok (.aload 5, 2) := by decide +kernel
theorem dX0_artFits_21 : decode cX0_artFits 21 = .ok (.iload 6, 2) := by decide +kernel
theorem dX0_artFits_23 : decode cX0_artFits 23 = .ok (.iconst 0, 1) := by decide +kernel
theorem dX0_artFits_24 : decode cX0_artFits 24 = .ok (.invokevirtual 127, 3) := by decide +kernel
theorem dX0_artFits_27 : decode cX0_artFits 27 = .ok (.iload_n 2, 1) := by decide +kernel
theorem dX0_artFits_28 : decode cX0_artFits 28 = .ok (.if_icmp .eq 15, 3) := by decide +kernel
theorem dX0_artFits_31 : decode cX0_artFits 31 = .ok (.aload 5, 2) := by decide +kernel
theorem dX0_artFits_33 : decode cX0_artFits 33 = .ok (.iload 6, 2) := by decide +kernel
theorem dX0_artFits_35 : decode cX0_artFits 35 = .ok (.iconst 1, 1) := by decide +kernel
theorem dX0_artFits_36 : decode cX0_artFits 36 = .ok (.invokevirtual 127, 3) := by decide +kernel
theorem dX0_artFits_39 : decode cX0_artFits 39 = .ok (.iload_n 2, 1) := by decide +kernel
theorem dX0_artFits_40 : decode cX0_artFits 40 = .ok (.if_icmp .ne 7, 3) := by decide +kernel
theorem dX0_artFits_43 : decode cX0_artFits 43 = .ok (.iconst 1, 1) := by decide +kernel
theorem dX0_artFits_44 : decode cX0_artFits 44 = .ok (.goto 4, 3) := by decide +kernel
theorem dX0_artFits_47 : decode cX0_artFits 47 = .ok (.iconst 0, 1) := by decide +kernel
theorem dX0_artFits_48 : decode cX0_artFits 48 = .ok (.istore 7, 2) := by decide +kernel
theorem dX0_artFits_50 : decode cX0_artFits 50 = .ok (.iload 7, 2) := by decide +kernel
theorem dX0_artFits_52 : decode cX0_artFits 52 = .ok (.ifCond .eq 30, 3) := by decide +kernel
theorem dX0_artFits_55 : decode cX0_artFits 55 = .ok (.aload 5, 2) := by decide +kernel
theorem dX0_artFits_57 : decode cX0_artFits 57 = .ok (.iload 6, 2) := by decide +kernel
theorem dX0_artFits_59 : decode cX0_artFits 59 = .ok (.iconst 2, 1) := by decide +kernel
theorem dX0_artFits_60 : decode cX0_artFits 60 = .ok (.invokevirtual 127, 3) := by decide +kernel
theorem dX0_artFits_63 : decode cX0_artFits 63 = .ok (.iload_n 3, 1) := by decide +kernel
theorem dX0_artFits_64 : decode cX0_artFits 64 = .ok (.if_icmp .ne 18, 3) := by decide +kernel
theorem dX0_artFits_67 : decode cX0_artFits 67 = .ok (.aload_n 0, 1) := by decide +kernel
theorem dX0_artFits_68 : decode cX0_artFits 68 = .ok (.aload_n 1, 1) := by decide +kernel
theorem dX0_artFits_69 : decode cX0_artFits 69 = .ok (.iload 6, 2) := by decide +kernel
theorem dX0_artFits_71 : decode cX0_artFits 71 = .ok (.iload_n 2, 1) := by decide +kernel
theorem dX0_artFits_72 : decode cX0_artFits 72 = .ok (.iload 4, 2) := by decide +kernel
theorem dX0_artFits_74 : decode cX0_artFits 74 = .ok (.invokevirtual 130, 3) := by decide +kernel
theorem dX0_artFits_77 : decode cX0_artFits 77 = .ok (.ifCond .ne 5, 3) := by decide +kernel
theorem dX0_artFits_80 : decode cX0_artFits 80 = .ok (.iconst 0, 1) := by decide +kernel
theorem dX0_artFits_81 : decode cX0_artFits 81 = .ok (.ireturn, 1) := by decide +kernel
theorem dX0_artFits_82 : decode cX0_artFits 82 = .ok (.iinc 6 1, 3) := by decide +kernel
theorem dX0_artFits_85 : decode cX0_artFits 85 = .ok (.goto (-76), 3) := by decide +kernel
theorem dX0_artFits_88 : decode cX0_artFits 88 = .ok (.iconst 1, 1) := by decide +kernel
theorem dX0_artFits_89 : decode cX0_artFits 89 = .ok (.ireturn, 1) := by decide +kernel
theorem dX1_init_0 : decode cX1_init 0 = .ok (.aload_n 0, 1) := by decide +kernel
theorem dX1_init_1 : decode cX1_init 1 = .ok (.invokespecial 1, 3) := by decide +kernel
theorem dX1_init_4 : decode cX1_init 4 = .ok (.return_, 1) := by decide +kernel
theorem dX1_skill_0 : decode cX1_skill 0 = .ok (.iload_n 2, 1) := by decide +kernel
theorem dX1_skill_1 : decode cX1_skill 1 = .ok (.iconst 2, 1) := by decide +kernel
theorem dX1_skill_2 : decode cX1_skill 2 = .ok (.irem, 1) := by decide +kernel
theorem dX1_skill_3 : decode cX1_skill 3 = .ok (.iconst 1, 1) := by decide +kernel
theorem dX1_skill_4 : decode cX1_skill 4 = .ok (.if_icmp .ne 14, 3) := by decide +kernel
theorem dX1_skill_7 : decode cX1_skill 7 = .ok (.iconst 2, 1) := by decide +kernel
theorem dX1_skill_8 : decode cX1_skill 8 = .ok (.aload_n 0, 1) := by decide +kernel
theorem dX1_skill_9 : decode cX1_skill 9 = .ok (.iload_n 1, 1) := by decide +kernel
theorem dX1_skill_10 : decode cX1_skill 10 = .ok (.iload_n 2, 1) := by decide +kernel
theorem dX1_skill_11 : decode cX1_skill 11 = .ok (.invokespecial 7, 3) := by decide +kernel
theorem dX1_skill_14 : decode cX1_skill 14 = .ok (.imul, 1) := by decide +kernel
theorem dX1_skill_15 : decode cX1_skill 15 = .ok (.goto 4, 3) := by decide +kernel
theorem dX1_skill_18 : decode cX1_skill 18 = .ok (.iconst 0, 1) := by decide +kernel
theorem dX1_skill_19 : decode cX1_skill 19 = .ok (.ireturn, 1) := by decide +kernel
theorem dX2_init_0 : decode cX2_init 0 = .ok (.aload_n 0, 1) := by decide +kernel
theorem dX2_init_1 : decode cX2_init 1 = .ok (.invokespecial 3, 3) := by decide +kernel
theorem dX2_init_4 : decode cX2_init 4 = .ok (.aload_n 0, 1) := by decide +kernel
theorem dX2_init_5 : decode cX2_init 5 = .ok (.new 9, 3) := by decide +kernel
theorem dX2_init_8 : decode cX2_init 8 = .ok (.dup, 1) := by decide +kernel
theorem dX2_init_9 : decode cX2_init 9 = .ok (.invokespecial 11, 3) := by decide +kernel
theorem dX2_init_12 : decode cX2_init 12 = .ok (.putfield 12, 3) := by decide +kernel
theorem dX2_init_15 : decode cX2_init 15 = .ok (.aload_n 0, 1) := by decide +kernel
theorem dX2_init_16 : decode cX2_init 16 = .ok (.bipush 64, 2) := by decide +kernel
theorem dX2_init_18 : decode cX2_init 18 = .ok (.newarray .int, 2) := by decide +kernel
theorem dX2_init_20 : decode cX2_init 20 = .ok (.putfield 18, 3) := by decide +kernel
theorem dX2_init_23 : decode cX2_init 23 = .ok (.aload_n 0, 1) := by decide +kernel
theorem dX2_init_24 : decode cX2_init 24 = .ok (.bipush 64, 2) := by decide +kernel
theorem dX2_init_26 : decode cX2_init 26 = .ok (.newarray .int, 2) := by decide +kernel
theorem dX2_init_28 : decode cX2_init 28 = .ok (.putfield 22, 3) := by decide +kernel
theorem dX2_init_31 : decode cX2_init 31 = .ok (.aload_n 0, 1) := by decide +kernel
theorem dX2_init_32 : decode cX2_init 32 = .ok (.aload_n 1, 1) := by decide +kernel
theorem dX2_init_33 : decode cX2_init 33 = .ok (.putfield 25, 3) := by decide +kernel
theorem dX2_init_36 : decode cX2_init 36 = .ok (.return_, 1) := by decide +kernel
theorem dX2_begin_0 : decode cX2_begin 0 = .ok (.aload_n 0, 1) := by decide +kernel
theorem dX2_begin_1 : decode cX2_begin 1 = .ok (.getfield 12, 3) := by decide +kernel
theorem dX2_begin_4 : decode cX2_begin 4 = .ok (.aload_n 1, 1) := by decide +kernel
theorem dX2_begin_5 : decode cX2_begin 5 = .ok (.invokevirtual 29, 3) := by decide +kernel
theorem dX2_begin_8 : decode cX2_begin 8 = .ok (.aload_n 0, 1) := by decide +kernel
theorem dX2_begin_9 : decode cX2_begin 9 = .ok (.getfield 25, 3) := by decide +kernel
theorem dX2_begin_12 : decode cX2_begin 12 = .ok (.invokevirtual 33, 3) := by decide +kernel
theorem dX2_begin_15 : decode cX2_begin 15 = .ok (.return_, 1) := by decide +kernel
theorem dX2_runTo_0 : decode cX2_runTo 0 = .ok (.aload_n 0, 1) := by decide +kernel
theorem dX2_runTo_1 : decode cX2_runTo 1 = .ok (.getfield 12, 3) := by decide +kernel
theorem dX2_runTo_4 : decode cX2_runTo 4 = .ok (.getfield 38, 3) := by decide +kernel
theorem dX2_runTo_7 : decode cX2_runTo 7 = .ok (.istore_n 2, 1) := by decide +kernel
theorem dX2_runTo_8 : decode cX2_runTo 8 = .ok (.iload_n 2, 1) := by decide +kernel
theorem dX2_runTo_9 : decode cX2_runTo 9 = .ok (.iload_n 1, 1) := by decide +kernel
theorem dX2_runTo_10 : decode cX2_runTo 10 = .ok (.if_icmp .ge 48, 3) := by decide +kernel
theorem dX2_runTo_13 : decode cX2_runTo 13 = .ok (.iload_n 2, 1) := by decide +kernel
theorem dX2_runTo_14 : decode cX2_runTo 14 = .ok (.bipush 8, 2) := by decide +kernel
theorem dX2_runTo_16 : decode cX2_runTo 16 = .ok (.if_icmp .ge 42, 3) := by decide +kernel
theorem dX2_runTo_19 : decode cX2_runTo 19 = .ok (.aload_n 0, 1) := by decide +kernel
theorem dX2_runTo_20 : decode cX2_runTo 20 = .ok (.getfield 25, 3) := by decide +kernel
theorem dX2_runTo_23 : decode cX2_runTo 23 = .ok (.aload_n 0, 1) := by decide +kernel
theorem dX2_runTo_24 : decode cX2_runTo 24 = .ok (.getfield 12, 3) := by decide +kernel
theorem dX2_runTo_27 : decode cX2_runTo 27 = .ok (.iload_n 2, 1) := by decide +kernel
theorem dX2_runTo_28 : decode cX2_runTo 28 = .ok (.invokevirtual 42, 3) := by decide +kernel
theorem dX2_runTo_31 : decode cX2_runTo 31 = .ok (.aload_n 0, 1) := by decide +kernel
theorem dX2_runTo_32 : decode cX2_runTo 32 = .ok (.getfield 12, 3) := by decide +kernel
theorem dX2_runTo_35 : decode cX2_runTo 35 = .ok (.aload_n 0, 1) := by decide +kernel
theorem dX2_runTo_36 : decode cX2_runTo 36 = .ok (.getfield 25, 3) := by decide +kernel
theorem dX2_runTo_39 : decode cX2_runTo 39 = .ok (.getfield 46, 3) := by decide +kernel
theorem dX2_runTo_42 : decode cX2_runTo 42 = .ok (.aload_n 0, 1) := by decide +kernel
theorem dX2_runTo_43 : decode cX2_runTo 43 = .ok (.getfield 25, 3) := by decide +kernel
theorem dX2_runTo_46 : decode cX2_runTo 46 = .ok (.getfield 49, 3) := by decide +kernel
theorem dX2_runTo_49 : decode cX2_runTo 49 = .ok (.invokevirtual 52, 3) := by decide +kernel
theorem dX2_runTo_52 : decode cX2_runTo 52 = .ok (.iinc 2 1, 3) := by decide +kernel
theorem dX2_runTo_55 : decode cX2_runTo 55 = .ok (.goto (-47), 3) := by decide +kernel
theorem dX2_runTo_58 : decode cX2_runTo 58 = .ok (.return_, 1) := by decide +kernel
theorem dX2_contestOf_0 : decode cX2_contestOf 0 = .ok (.aload_n 0, 1) := by decide +kernel
theorem dX2_contestOf_1 : decode cX2_contestOf 1 = .ok (.aload_n 1, 1) := by decide +kernel
theorem dX2_contestOf_2 : decode cX2_contestOf 2 = .ok (.invokevirtual 56, 3) := by decide +kernel
theorem dX2_contestOf_5 : decode cX2_contestOf 5 = .ok (.aload_n 0, 1) := by decide +kernel
theorem dX2_contestOf_6 : decode cX2_contestOf 6 = .ok (.iload_n 2, 1) := by decide +kernel
theorem dX2_contestOf_7 : decode cX2_contestOf 7 = .ok (.invokevirtual 59, 3) := by decide +kernel
theorem dX2_contestOf_10 : decode cX2_contestOf 10 = .ok (.aload_n 0, 1) := by decide +kernel
theorem dX2_contestOf_11 : decode cX2_contestOf 11 = .ok (.getfield 25, 3) := by decide +kernel
theorem dX2_contestOf_14 : decode cX2_contestOf 14 = .ok (.aload_n 0, 1) := by decide +kernel
theorem dX2_contestOf_15 : decode cX2_contestOf 15 = .ok (.getfield 12, 3) := by decide +kernel
theorem dX2_contestOf_18 : decode cX2_contestOf 18 = .ok (.iload_n 2, 1) := by decide +kernel
theorem dX2_contestOf_19 : decode cX2_contestOf 19 = .ok (.invokevirtual 42, 3) := by decide +kernel
theorem dX2_contestOf_22 : decode cX2_contestOf 22 = .ok (.return_, 1) := by decide +kernel
theorem dX2_untaken_0 : decode cX2_untaken 0 = .ok (.aload_n 0, 1) := by decide +kernel
theorem dX2_untaken_1 : decode cX2_untaken 1 = .ok (.aload_n 1, 1) := by decide +kernel
theorem dX2_untaken_2 : decode cX2_untaken 2 = .ok (.invokevirtual 56, 3) := by decide +kernel
theorem dX2_untaken_5 : decode cX2_untaken 5 = .ok (.aload_n 0, 1) := by decide +kernel
theorem dX2_untaken_6 : decode cX2_untaken 6 = .ok (.bipush 8, 2) := by decide +kernel
theorem dX2_untaken_8 : decode cX2_untaken 8 = .ok (.invokevirtual 59, 3) := by decide +kernel
theorem dX2_untaken_11 : decode cX2_untaken 11 = .ok (.iconst 0, 1) := by decide +kernel
theorem dX2_untaken_12 : decode cX2_untaken 12 = .ok (.istore_n 2, 1) := by decide +kernel
theorem dX2_untaken_13 : decode cX2_untaken 13 = .ok (.iconst 0, 1) := by decide +kernel
theorem dX2_untaken_14 : decode cX2_untaken 14 = .ok (.istore_n 3, 1) := by decide +kernel
theorem dX2_untaken_15 : decode cX2_untaken 15 = .ok (.iload_n 3, 1) := by decide +kernel
theorem dX2_untaken_16 : decode cX2_untaken 16 = .ok (.aload_n 0, 1) := by decide +kernel
theorem dX2_untaken_17 : decode cX2_untaken 17 = .ok (.getfield 12, 3) := by decide +kernel
theorem dX2_untaken_20 : decode cX2_untaken 20 = .ok (.getfield 63, 3) := by decide +kernel
theorem dX2_untaken_23 : decode cX2_untaken 23 = .ok (.if_icmp .ge 21, 3) := by decide +kernel
theorem dX2_untaken_26 : decode cX2_untaken 26 = .ok (.iload_n 2, 1) := by decide +kernel
theorem dX2_untaken_27 : decode cX2_untaken 27 = .ok (.aload_n 0, 1) := by decide +kernel
theorem dX2_untaken_28 : decode cX2_untaken 28 = .ok (.getfield 12, 3) := by decide +kernel
theorem dX2_untaken_31 : decode cX2_untaken 31 = .ok (.getfield 66, 3) := by decide +kernel
theorem dX2_untaken_34 : decode cX2_untaken 34 = .ok (.iload_n 3, 1) := by decide +kernel
theorem dX2_untaken_35 : decode cX2_untaken 35 = .ok (.iaload, 1) := by decide +kernel
theorem dX2_untaken_36 : decode cX2_untaken 36 = .ok (.ior, 1) := by decide +kernel
theorem dX2_untaken_37 : decode cX2_untaken 37 = .ok (.istore_n 2, 1) := by decide +kernel
theorem dX2_untaken_38 : decode cX2_untaken 38 = .ok (.iinc 3 1, 3) := by decide +kernel
theorem dX2_untaken_41 : decode cX2_untaken 41 = .ok (.goto (-26), 3) := by decide +kernel
theorem dX2_untaken_44 : decode cX2_untaken 44 = .ok (.iconst 0, 1) := by decide +kernel
theorem dX2_untaken_45 : decode cX2_untaken 45 = .ok (.istore_n 3, 1) := by decide +kernel
theorem dX2_untaken_46 : decode cX2_untaken 46 = .ok (.aload_n 1, 1) := by decide +kernel
theorem dX2_untaken_47 : decode cX2_untaken 47 = .ok (.getfield 38, 3) := by decide +kernel
theorem dX2_untaken_50 : decode cX2_untaken 50 = .ok (.istore 4, 2) := by decide +kernel
theorem dX2_untaken_52 : decode cX2_untaken 52 = .ok (.iload 4, 2) := by decide +kernel
theorem dX2_untaken_54 : decode cX2_untaken 54 = .ok (.bipush 8, 2) := by decide +kernel
theorem dX2_untaken_56 : decode cX2_untaken 56 = .ok (.if_icmp .ge 36, 3) := by decide +kernel
theorem dX2_untaken_59 : decode cX2_untaken 59 = .ok (.aload_n 1, 1) := by decide +kernel
theorem dX2_untaken_60 : decode cX2_untaken 60 = .ok (.getfield 69, 3) := by decide +kernel
theorem dX2_untaken_63 : decode cX2_untaken 63 = .ok (.iload 4, 2) := by decide +kernel
theorem dX2_untaken_65 : decode cX2_untaken 65 = .ok (.iaload, 1) := by decide +kernel
theorem dX2_untaken_66 : decode cX2_untaken 66 = .ok (.iconst (-1), 1) := by decide +kernel
theorem dX2_untaken_67 : decode cX2_untaken 67 = .ok (.if_icmp .eq 19, 3) := by decide +kernel
theorem dX2_untaken_70 : decode cX2_untaken 70 = .ok (.iload_n 2, 1) := by decide +kernel
theorem dX2_untaken_71 : decode cX2_untaken 71 = .ok (.iload 4, 2) := by decide +kernel
theorem dX2_untaken_73 : decode cX2_untaken 73 = .ok (.ishr, 1) := by decide +kernel
theorem dX2_untaken_74 : decode cX2_untaken 74 = .ok (.iconst 1, 1) := by decide +kernel
theorem dX2_untaken_75 : decode cX2_untaken 75 = .ok (.iand, 1) := by decide +kernel
theorem dX2_untaken_76 : decode cX2_untaken 76 = .ok (.ifCond .ne 10, 3) := by decide +kernel
theorem dX2_untaken_79 : decode cX2_untaken 79 = .ok (.iload_n 3, 1) := by decide +kernel
theorem dX2_untaken_80 : decode cX2_untaken 80 = .ok (.iconst 1, 1) := by decide +kernel
theorem dX2_untaken_81 : decode cX2_untaken 81 = .ok (.iload 4, 2) := by decide +kernel
theorem dX2_untaken_83 : decode cX2_untaken 83 = .ok (.ishl, 1) := by decide +kernel
theorem dX2_untaken_84 : decode cX2_untaken 84 = .ok (.ior, 1) := by decide +kernel
theorem dX2_untaken_85 : decode cX2_untaken 85 = .ok (.istore_n 3, 1) := by decide +kernel
theorem dX2_untaken_86 : decode cX2_untaken 86 = .ok (.iinc 4 1, 3) := by decide +kernel
theorem dX2_untaken_89 : decode cX2_untaken 89 = .ok (.goto (-37), 3) := by decide +kernel
theorem dX2_untaken_92 : decode cX2_untaken 92 = .ok (.iload_n 3, 1) := by decide +kernel
theorem dX2_untaken_93 : decode cX2_untaken 93 = .ok (.ireturn, 1) := by decide +kernel
theorem dX2_bestYear_0 : decode cX2_bestYear 0 = .ok (.iconst 0, 1) := by decide +kernel
theorem dX2_bestYear_1 : decode cX2_bestYear 1 = .ok (.istore_n 3, 1) := by decide +kernel
theorem dX2_bestYear_2 : decode cX2_bestYear 2 = .ok (.iconst (-1), 1) := by decide +kernel
theorem dX2_bestYear_3 : decode cX2_bestYear 3 = .ok (.istore 4, 2) := by decide +kernel
theorem dX2_bestYear_5 : decode cX2_bestYear 5 = .ok (.aload_n 1, 1) := by decide +kernel
theorem dX2_bestYear_6 : decode cX2_bestYear 6 = .ok (.getfield 38, 3) := by decide +kernel
theorem dX2_bestYear_9 : decode cX2_bestYear 9 = .ok (.istore 5, 2) := by decide +kernel
theorem dX2_bestYear_11 : decode cX2_bestYear 11 = .ok (.iload 5, 2) := by decide +kernel
theorem dX2_bestYear_13 : decode cX2_bestYear 13 = .ok (.bipush 8, 2) := by decide +kernel
theorem dX2_bestYear_15 : decode cX2_bestYear 15 = .ok (.if_icmp .ge 61, 3) := by decide +kernel
theorem dX2_bestYear_18 : decode cX2_bestYear 18 = .ok (.aload_n 0, 1) := by decide +kernel
theorem dX2_bestYear_19 : decode cX2_bestYear 19 = .ok (.aload_n 1, 1) := by decide +kernel
theorem dX2_bestYear_20 : decode cX2_bestYear 20 = .ok (.invokevirtual 56, 3) := by decide +kernel
theorem dX2_bestYear_23 : decode cX2_bestYear 23 = .ok (.aload_n 0, 1) := by decide +kernel
theorem dX2_bestYear_24 : decode cX2_bestYear 24 = .ok (.getfield 25, 3) := by decide +kernel
theorem dX2_bestYear_27 : decode cX2_bestYear 27 = .ok (.iload_n 2, 1) := by decide +kernel
theorem dX2_bestYear_28 : decode cX2_bestYear 28 = .ok (.iload 5, 2) := by decide +kernel
theorem dX2_bestYear_30 : decode cX2_bestYear 30 = .ok (.invokevirtual 72, 3) := by decide +kernel
theorem dX2_bestYear_33 : decode cX2_bestYear 33 = .ok (.aload_n 0, 1) := by decide +kernel
theorem dX2_bestYear_34 : decode cX2_bestYear 34 = .ok (.iload 5, 2) := by decide +kernel
theorem dX2_bestYear_36 : decode cX2_bestYear 36 = .ok (.iconst 1, 1) := by decide +kernel
theorem dX2_bestYear_37 : decode cX2_bestYear 37 = .ok (.iadd, 1) := by decide +kernel
theorem dX2_bestYear_38 : decode cX2_bestYear 38 = .ok (.invokevirtual 59, 3) := by decide +kernel
theorem dX2_bestYear_41 : decode cX2_bestYear 41 = .ok (.aload_n 0, 1) := by decide +kernel
theorem dX2_bestYear_42 : decode cX2_bestYear 42 = .ok (.getfield 12, 3) := by decide +kernel
theorem dX2_bestYear_45 : decode cX2_bestYear 45 = .ok (.iload_n 2, 1) := by decide +kernel
theorem dX2_bestYear_46 : decode cX2_bestYear 46 = .ok (.iload 5, 2) := by decide +kernel
theorem dX2_bestYear_48 : decode cX2_bestYear 48 = .ok (.invokevirtual 75, 3) := by decide +kernel
theorem dX2_bestYear_51 : decode cX2_bestYear 51 = .ok (.iload_n 3, 1) := by decide +kernel
theorem dX2_bestYear_52 : decode cX2_bestYear 52 = .ok (.if_icmp .le 18, 3) := by decide +kernel
theorem dX2_bestYear_55 : decode cX2_bestYear 55 = .ok (.aload_n 0, 1) := by decide +kernel
theorem dX2_bestYear_56 : decode cX2_bestYear 56 = .ok (.getfield 12, 3) := by decide +kernel
theorem dX2_bestYear_59 : decode cX2_bestYear 59 = .ok (.iload_n 2, 1) := by decide +kernel
theorem dX2_bestYear_60 : decode cX2_bestYear 60 = .ok (.iload 5, 2) := by decide +kernel
theorem dX2_bestYear_62 : decode cX2_bestYear 62 = .ok (.invokevirtual 75, 3) := by decide +kernel
theorem dX2_bestYear_65 : decode cX2_bestYear 65 = .ok (.istore_n 3, 1) := by decide +kernel
theorem dX2_bestYear_66 : decode cX2_bestYear 66 = .ok (.iload 5, 2) := by decide +kernel
theorem dX2_bestYear_68 : decode cX2_bestYear 68 = .ok (.istore 4, 2) := by decide +kernel
theorem dX2_bestYear_70 : decode cX2_bestYear 70 = .ok (.iinc 5 1, 3) := by decide +kernel
theorem dX2_bestYear_73 : decode cX2_bestYear 73 = .ok (.goto (-62), 3) := by decide +kernel
theorem dX2_bestYear_76 : decode cX2_bestYear 76 = .ok (.iload 4, 2) := by decide +kernel
theorem dX2_bestYear_78 : decode cX2_bestYear 78 = .ok (.ireturn, 1) := by decide +kernel
theorem dX2_weighRivals_0 : decode cX2_weighRivals 0 = .ok (.aload_n 1, 1) := by decide +kernel
theorem dX2_weighRivals_1 : decode cX2_weighRivals 1 = .ok (.getfield 38, 3) := by decide +kernel
theorem dX2_weighRivals_4 : decode cX2_weighRivals 4 = .ok (.istore 4, 2) := by decide +kernel
theorem dX2_weighRivals_6 : decode cX2_weighRivals 6 = .ok (.iload 4, 2) := by decide +kernel
theorem dX2_weighRivals_8 : decode cX2_weighRivals 8 = .ok (.bipush 8, 2) := by decide +kernel
theorem dX2_weighRivals_10 : decode cX2_weighRivals 10 = .ok (.if_icmp .ge 112, 3) := by decide +kernel
theorem dX2_weighRivals_13 : decode cX2_weighRivals 13 = .ok (.aload_n 1, 1) := by decide +kernel
theorem dX2_weighRivals_14 : decode cX2_weighRivals 14 = .ok (.getfield 38, 3) := by decide +kernel
theorem dX2_weighRivals_17 : decode cX2_weighRivals 17 = .ok (.istore 5, 2) := by decide +kernel
theorem dX2_weighRivals_19 : decode cX2_weighRivals 19 = .ok (.iload 5, 2) := by decide +kernel
theorem dX2_weighRivals_21 : decode cX2_weighRivals 21 = .ok (.bipush 8, 2) := by decide +kernel
theorem dX2_weighRivals_23 : decode cX2_weighRivals 23 = .ok (.if_icmp .ge 93, 3) := by decide +kernel
theorem dX2_weighRivals_26 : decode cX2_weighRivals 26 = .ok (.aload_n 0, 1) := by decide +kernel
theorem dX2_weighRivals_27 : decode cX2_weighRivals 27 = .ok (.aload_n 1, 1) := by decide +kernel
theorem dX2_weighRivals_28 : decode cX2_weighRivals 28 = .ok (.invokevirtual 56, 3) := by decide +kernel
theorem dX2_weighRivals_31 : decode cX2_weighRivals 31 = .ok (.aload_n 0, 1) := by decide +kernel
theorem dX2_weighRivals_32 : decode cX2_weighRivals 32 = .ok (.getfield 25, 3) := by decide +kernel
theorem dX2_weighRivals_35 : decode cX2_weighRivals 35 = .ok (.iload_n 2, 1) := by decide +kernel
theorem dX2_weighRivals_36 : decode cX2_weighRivals 36 = .ok (.iload 4, 2) := by decide +kernel
theorem dX2_weighRivals_38 : decode cX2_weighRivals 38 = .ok (.invokevirtual 72, 3) := by decide +kernel
theorem dX2_weighRivals_41 : decode cX2_weighRivals 41 = .ok (.aload_n 0, 1) := by decide +kernel
theorem dX2_weighRivals_42 : decode cX2_weighRivals 42 = .ok (.getfield 25, 3) := by decide +kernel
theorem dX2_weighRivals_45 : decode cX2_weighRivals 45 = .ok (.iload_n 3, 1) := by decide +kernel
theorem dX2_weighRivals_46 : decode cX2_weighRivals 46 = .ok (.iload 5, 2) := by decide +kernel
theorem dX2_weighRivals_48 : decode cX2_weighRivals 48 = .ok (.invokevirtual 72, 3) := by decide +kernel
theorem dX2_weighRivals_51 : decode cX2_weighRivals 51 = .ok (.aload_n 0, 1) := by decide +kernel
theorem dX2_weighRivals_52 : decode cX2_weighRivals 52 = .ok (.iload 4, 2) := by decide +kernel
theorem dX2_weighRivals_54 : decode cX2_weighRivals 54 = .ok (.iload 5, 2) := by decide +kernel
theorem dX2_weighRivals_56 : decode cX2_weighRivals 56 = .ok (.invokestatic 79, 3) := by decide +kernel
theorem dX2_weighRivals_59 : decode cX2_weighRivals 59 = .ok (.iconst 1, 1) := by decide +kernel
theorem dX2_weighRivals_60 : decode cX2_weighRivals 60 = .ok (.iadd, 1) := by decide +kernel
theorem dX2_weighRivals_61 : decode cX2_weighRivals 61 = .ok (.invokevirtual 59, 3) := by decide +kernel
theorem dX2_weighRivals_64 : decode cX2_weighRivals 64 = .ok (.aload_n 0, 1) := by decide +kernel
theorem dX2_weighRivals_65 : decode cX2_weighRivals 65 = .ok (.getfield 18, 3) := by decide +kernel
theorem dX2_weighRivals_68 : decode cX2_weighRivals 68 = .ok (.iload 4, 2) := by decide +kernel
theorem dX2_weighRivals_70 : decode cX2_weighRivals 70 = .ok (.bipush 8, 2) := by decide +kernel
theorem dX2_weighRivals_72 : decode cX2_weighRivals 72 = .ok (.imul, 1) := by decide +kernel
theorem dX2_weighRivals_73 : decode cX2_weighRivals 73 = .ok (.iload 5, 2) := by decide +kernel
theorem dX2_weighRivals_75 : decode cX2_weighRivals 75 = .ok (.iadd, 1) := by decide +kernel
theorem dX2_weighRivals_76 : decode cX2_weighRivals 76 = .ok (.aload_n 0, 1) := by decide +kernel
theorem dX2_weighRivals_77 : decode cX2_weighRivals 77 = .ok (.getfield 12, 3) := by decide +kernel
theorem dX2_weighRivals_80 : decode cX2_weighRivals 80 = .ok (.iload_n 2, 1) := by decide +kernel
theorem dX2_weighRivals_81 : decode cX2_weighRivals 81 = .ok (.iload 4, 2) := by decide +kernel
theorem dX2_weighRivals_83 : decode cX2_weighRivals 83 = .ok (.invokevirtual 75, 3) := by decide +kernel
theorem dX2_weighRivals_86 : decode cX2_weighRivals 86 = .ok (.iastore, 1) := by decide +kernel
theorem dX2_weighRivals_87 : decode cX2_weighRivals 87 = .ok (.aload_n 0, 1) := by decide +kernel
theorem dX2_weighRivals_88 : decode cX2_weighRivals 88 = .ok (.getfield 22, 3) := by decide +kernel
theorem dX2_weighRivals_91 : decode cX2_weighRivals 91 = .ok (.iload 4, 2) := by decide +kernel
theorem dX2_weighRivals_93 : decode cX2_weighRivals 93 = .ok (.bipush 8, 2) := by decide +kernel
theorem dX2_weighRivals_95 : decode cX2_weighRivals 95 = .ok (.imul, 1) := by decide +kernel
theorem dX2_weighRivals_96 : decode cX2_weighRivals 96 = .ok (.iload 5, 2) := by decide +kernel
theorem dX2_weighRivals_98 : decode cX2_weighRivals 98 = .ok (.iadd, 1) := by decide +kernel
theorem dX2_weighRivals_99 : decode cX2_weighRivals 99 = .ok (.aload_n 0, 1) := by decide +kernel
theorem dX2_weighRivals_100 : decode cX2_weighRivals 100 = .ok (.getfield 12, 3) := by decide +kernel
theorem dX2_weighRivals_103 : decode cX2_weighRivals 103 = .ok (.iload_n 3, 1) := by decide +kernel
theorem dX2_weighRivals_104 : decode cX2_weighRivals 104 = .ok (.iload 5, 2) := by decide +kernel
theorem dX2_weighRivals_106 : decode cX2_weighRivals 106 = .ok (.invokevirtual 75, 3) := by decide +kernel
theorem dX2_weighRivals_109 : decode cX2_weighRivals 109 = .ok (.iastore, 1) := by decide +kernel
theorem dX2_weighRivals_110 : decode cX2_weighRivals 110 = .ok (.iinc 5 1, 3) := by decide +kernel
theorem dX2_weighRivals_113 : decode cX2_weighRivals 113 = .ok (.goto (-94), 3) := by decide +kernel
theorem dX2_weighRivals_116 : decode cX2_weighRivals 116 = .ok (.iinc 4 1, 3) := by decide +kernel
theorem dX2_weighRivals_119 : decode cX2_weighRivals 119 = .ok (.goto (-113), 3) := by decide +kernel
theorem dX2_weighRivals_122 : decode cX2_weighRivals 122 = .ok (.return_, 1) := by decide +kernel
theorem dX2_resting_0 : decode cX2_resting 0 = .ok (.iconst 0, 1) := by decide +kernel
theorem dX2_resting_1 : decode cX2_resting 1 = .ok (.istore_n 3, 1) := by decide +kernel
theorem dX2_resting_2 : decode cX2_resting 2 = .ok (.iload_n 1, 1) := by decide +kernel
theorem dX2_resting_3 : decode cX2_resting 3 = .ok (.istore 4, 2) := by decide +kernel
theorem dX2_resting_5 : decode cX2_resting 5 = .ok (.iload 4, 2) := by decide +kernel
theorem dX2_resting_7 : decode cX2_resting 7 = .ok (.bipush 8, 2) := by decide +kernel
theorem dX2_resting_9 : decode cX2_resting 9 = .ok (.if_icmp .ge 57, 3) := by decide +kernel
theorem dX2_resting_12 : decode cX2_resting 12 = .ok (.iload_n 1, 1) := by decide +kernel
theorem dX2_resting_13 : decode cX2_resting 13 = .ok (.istore 5, 2) := by decide +kernel
theorem dX2_resting_15 : decode cX2_resting 15 = .ok (.iload 5, 2) := by decide +kernel
theorem dX2_resting_17 : decode cX2_resting 17 = .ok (.bipush 8, 2) := by decide +kernel
theorem dX2_resting_19 : decode cX2_resting 19 = .ok (.if_icmp .ge 41, 3) := by decide +kernel
theorem dX2_resting_22 : decode cX2_resting 22 = .ok (.aload_n 0, 1) := by decide +kernel
theorem dX2_resting_23 : decode cX2_resting 23 = .ok (.iload_n 1, 1) := by decide +kernel
theorem dX2_resting_24 : decode cX2_resting 24 = .ok (.iload 4, 2) := by decide +kernel
theorem dX2_resting_26 : decode cX2_resting 26 = .ok (.iload 5, 2) := by decide +kernel
theorem dX2_resting_28 : decode cX2_resting 28 = .ok (.invokevirtual 84, 3) := by decide +kernel
theorem dX2_resting_31 : decode cX2_resting 31 = .ok (.ifCond .ne 6, 3) := by decide +kernel
theorem dX2_resting_34 : decode cX2_resting 34 = .ok (.goto 20, 3) := by decide +kernel
theorem dX2_resting_37 : decode cX2_resting 37 = .ok (.iload_n 3, 1) := by decide +kernel
theorem dX2_resting_38 : decode cX2_resting 38 = .ok (.iload_n 2, 1) := by decide +kernel
theorem dX2_resting_39 : decode cX2_resting 39 = .ok (.if_icmp .ne 12, 3) := by decide +kernel
theorem dX2_resting_42 : decode cX2_resting 42 = .ok (.iload 4, 2) := by decide +kernel
theorem dX2_resting_44 : decode cX2_resting 44 = .ok (.bipush 8, 2) := by decide +kernel
theorem dX2_resting_46 : decode cX2_resting 46 = .ok (.imul, 1) := by decide +kernel
theorem dX2_resting_47 : decode cX2_resting 47 = .ok (.iload 5, 2) := by decide +kernel
theorem dX2_resting_49 : decode cX2_resting 49 = .ok (.iadd, 1) := by decide +kernel
theorem dX2_resting_50 : decode cX2_resting 50 = .ok (.ireturn, 1) := by decide +kernel
theorem dX2_resting_51 : decode cX2_resting 51 = .ok (.iinc 3 1, 3) := by decide +kernel
theorem dX2_resting_54 : decode cX2_resting 54 = .ok (.iinc 5 1, 3) := by decide +kernel
theorem dX2_resting_57 : decode cX2_resting 57 = .ok (.goto (-42), 3) := by decide +kernel
theorem dX2_resting_60 : decode cX2_resting 60 = .ok (.iinc 4 1, 3) := by decide +kernel
theorem dX2_resting_63 : decode cX2_resting 63 = .ok (.goto (-58), 3) := by decide +kernel
theorem dX2_resting_66 : decode cX2_resting 66 = .ok (.iload_n 2, 1) := by decide +kernel
theorem dX2_resting_67 : decode cX2_resting 67 = .ok (.iconst (-1), 1) := by decide +kernel
theorem dX2_resting_68 : decode cX2_resting 68 = .ok (.if_icmp .ne 7, 3) := by decide +kernel
theorem dX2_resting_71 : decode cX2_resting 71 = .ok (.iload_n 3, 1) := by decide +kernel
theorem dX2_resting_72 : decode cX2_resting 72 = .ok (.goto 5, 3) := by decide +kernel
theorem dX2_resting_75 : decode cX2_resting 75 = .ok (.bipush (-5), 2) := by decide +kernel
theorem dX2_resting_77 : decode cX2_resting 77 = .ok (.ireturn, 1) := by decide +kernel
theorem dX2_rests_0 : decode cX2_rests 0 = .ok (.iload_n 2, 1) := by decide +kernel
theorem dX2_rests_1 : decode cX2_rests 1 = .ok (.bipush 8, 2) := by decide +kernel
theorem dX2_rests_3 : decode cX2_rests 3 = .ok (.imul, 1) := by decide +kernel
theorem dX2_rests_4 : decode cX2_rests 4 = .ok (.iload_n 3, 1) := by decide +kernel
theorem dX2_rests_5 : decode cX2_rests 5 = .ok (.iadd, 1) := by decide +kernel
theorem dX2_rests_6 : decode cX2_rests 6 = .ok (.istore 4, 2) := by decide +kernel
theorem dX2_rests_8 : decode cX2_rests 8 = .ok (.iload_n 1, 1) := by decide +kernel
theorem dX2_rests_9 : decode cX2_rests 9 = .ok (.istore 5, 2) := by decide +kernel
theorem dX2_rests_11 : decode cX2_rests 11 = .ok (.iload 5, 2) := by decide +kernel
theorem dX2_rests_13 : decode cX2_rests 13 = .ok (.bipush 8, 2) := by decide +kernel
theorem dX2_rests_15 : decode cX2_rests 15 = .ok (.if_icmp .ge 55, 3) := by decide +kernel
theorem dX2_rests_18 : decode cX2_rests 18 = .ok (.aload_n 0, 1) := by decide +kernel
theorem dX2_rests_19 : decode cX2_rests 19 = .ok (.getfield 18, 3) := by decide +kernel
theorem dX2_rests_22 : decode cX2_rests 22 = .ok (.iload 5, 2) := by decide +kernel
theorem dX2_rests_24 : decode cX2_rests 24 = .ok (.bipush 8, 2) := by decide +kernel
theorem dX2_rests_26 : decode cX2_rests 26 = .ok (.imul, 1) := by decide +kernel
theorem dX2_rests_27 : decode cX2_rests 27 = .ok (.iload_n 3, 1) := by decide +kernel
theorem dX2_rests_28 : decode cX2_rests 28 = .ok (.iadd, 1) := by decide +kernel
theorem dX2_rests_29 : decode cX2_rests 29 = .ok (.iaload, 1) := by decide +kernel
theorem dX2_rests_30 : decode cX2_rests 30 = .ok (.aload_n 0, 1) := by decide +kernel
theorem dX2_rests_31 : decode cX2_rests 31 = .ok (.getfield 18, 3) := by decide +kernel
theorem dX2_rests_34 : decode cX2_rests 34 = .ok (.iload 4, 2) := by decide +kernel
theorem dX2_rests_36 : decode cX2_rests 36 = .ok (.iaload, 1) := by decide +kernel
theorem dX2_rests_37 : decode cX2_rests 37 = .ok (.if_icmp .gt 25, 3) := by decide +kernel
theorem dX2_rests_40 : decode cX2_rests 40 = .ok (.aload_n 0, 1) := by decide +kernel
theorem dX2_rests_41 : decode cX2_rests 41 = .ok (.getfield 22, 3) := by decide +kernel
theorem dX2_rests_44 : decode cX2_rests 44 = .ok (.iload_n 2, 1) := by decide +kernel
theorem dX2_rests_45 : decode cX2_rests 45 = .ok (.bipush 8, 2) := by decide +kernel
theorem dX2_rests_47 : decode cX2_rests 47 = .ok (.imul, 1) := by decide +kernel
theorem dX2_rests_48 : decode cX2_rests 48 = .ok (.iload 5, 2) := by decide +kernel
theorem dX2_rests_50 : decode cX2_rests 50 = .ok (.iadd, 1) := by decide +kernel
theorem dX2_rests_51 : decode cX2_rests 51 = .ok (.iaload, 1) := by decide +kernel
theorem dX2_rests_52 : decode cX2_rests 52 = .ok (.aload_n 0, 1) := by decide +kernel
theorem dX2_rests_53 : decode cX2_rests 53 = .ok (.getfield 22, 3) := by decide +kernel
theorem dX2_rests_56 : decode cX2_rests 56 = .ok (.iload 4, 2) := by decide +kernel
theorem dX2_rests_58 : decode cX2_rests 58 = .ok (.iaload, 1) := by decide +kernel
theorem dX2_rests_59 : decode cX2_rests 59 = .ok (.if_icmp .le 5, 3) := by decide +kernel
theorem dX2_rests_62 : decode cX2_rests 62 = .ok (.iconst 0, 1) := by decide +kernel
theorem dX2_rests_63 : decode cX2_rests 63 = .ok (.ireturn, 1) := by decide +kernel
theorem dX2_rests_64 : decode cX2_rests 64 = .ok (.iinc 5 1, 3) := by decide +kernel
theorem dX2_rests_67 : decode cX2_rests 67 = .ok (.goto (-56), 3) := by decide +kernel
theorem dX2_rests_70 : decode cX2_rests 70 = .ok (.iconst 1, 1) := by decide +kernel
theorem dX2_rests_71 : decode cX2_rests 71 = .ok (.ireturn, 1) := by decide +kernel
theorem dX2_bestSwap_0 : decode cX2_bestSwap 0 = .ok (.aload_n 0, 1) := by decide +kernel
theorem dX2_bestSwap_1 : decode cX2_bestSwap 1 = .ok (.aload_n 1, 1) := by decide +kernel
theorem dX2_bestSwap_2 : decode cX2_bestSwap 2 = .ok (.invokevirtual 56, 3) := by decide +kernel
theorem dX2_bestSwap_5 : decode cX2_bestSwap 5 = .ok (.aload_n 0, 1) := by decide +kernel
theorem dX2_bestSwap_6 : decode cX2_bestSwap 6 = .ok (.bipush 8, 2) := by decide +kernel
theorem dX2_bestSwap_8 : decode cX2_bestSwap 8 = .ok (.invokevirtual 59, 3) := by decide +kernel
theorem dX2_bestSwap_11 : decode cX2_bestSwap 11 = .ok (.aload_n 0, 1) := by decide +kernel
theorem dX2_bestSwap_12 : decode cX2_bestSwap 12 = .ok (.getfield 12, 3) := by decide +kernel
theorem dX2_bestSwap_15 : decode cX2_bestSwap 15 = .ok (.iload_n 2, 1) := by decide +kernel
theorem dX2_bestSwap_16 : decode cX2_bestSwap 16 = .ok (.invokevirtual 88, 3) := by decide +kernel
theorem dX2_bestSwap_19 : decode cX2_bestSwap 19 = .ok (.istore_n 3, 1) := by decide +kernel
theorem dX2_bestSwap_20 : decode cX2_bestSwap 20 = .ok (.iconst (-1), 1) := by decide +kernel
theorem dX2_bestSwap_21 : decode cX2_bestSwap 21 = .ok (.istore 4, 2) := by decide +kernel
theorem dX2_bestSwap_23 : decode cX2_bestSwap 23 = .ok (.aload_n 1, 1) := by decide +kernel
theorem dX2_bestSwap_24 : decode cX2_bestSwap 24 = .ok (.getfield 38, 3) := by decide +kernel
theorem dX2_bestSwap_27 : decode cX2_bestSwap 27 = .ok (.istore 5, 2) := by decide +kernel
theorem dX2_bestSwap_29 : decode cX2_bestSwap 29 = .ok (.iload 5, 2) := by decide +kernel
theorem dX2_bestSwap_31 : decode cX2_bestSwap 31 = .ok (.bipush 8, 2) := by decide +kernel
theorem dX2_bestSwap_33 : decode cX2_bestSwap 33 = .ok (.if_icmp .ge 81, 3) := by decide +kernel
theorem dX2_bestSwap_36 : decode cX2_bestSwap 36 = .ok (.iload 5, 2) := by decide +kernel
theorem dX2_bestSwap_38 : decode cX2_bestSwap 38 = .ok (.iconst 1, 1) := by decide +kernel
theorem dX2_bestSwap_39 : decode cX2_bestSwap 39 = .ok (.iadd, 1) := by decide +kernel
theorem dX2_bestSwap_40 : decode cX2_bestSwap 40 = .ok (.istore 6, 2) := by decide +kernel
theorem dX2_bestSwap_42 : decode cX2_bestSwap 42 = .ok (.iload 6, 2) := by decide +kernel
theorem dX2_bestSwap_44 : decode cX2_bestSwap 44 = .ok (.bipush 8, 2) := by decide +kernel
theorem dX2_bestSwap_46 : decode cX2_bestSwap 46 = .ok (.if_icmp .ge 62, 3) := by decide +kernel
theorem dX2_bestSwap_49 : decode cX2_bestSwap 49 = .ok (.aload_n 0, 1) := by decide +kernel
theorem dX2_bestSwap_50 : decode cX2_bestSwap 50 = .ok (.aload_n 1, 1) := by decide +kernel
theorem dX2_bestSwap_51 : decode cX2_bestSwap 51 = .ok (.invokevirtual 56, 3) := by decide +kernel
theorem dX2_bestSwap_54 : decode cX2_bestSwap 54 = .ok (.aload_n 0, 1) := by decide +kernel
theorem dX2_bestSwap_55 : decode cX2_bestSwap 55 = .ok (.getfield 12, 3) := by decide +kernel
theorem dX2_bestSwap_58 : decode cX2_bestSwap 58 = .ok (.iload 5, 2) := by decide +kernel
theorem dX2_bestSwap_60 : decode cX2_bestSwap 60 = .ok (.iload 6, 2) := by decide +kernel
theorem dX2_bestSwap_62 : decode cX2_bestSwap 62 = .ok (.invokevirtual 92, 3) := by decide +kernel
theorem dX2_bestSwap_65 : decode cX2_bestSwap 65 = .ok (.aload_n 0, 1) := by decide +kernel
theorem dX2_bestSwap_66 : decode cX2_bestSwap 66 = .ok (.bipush 8, 2) := by decide +kernel
theorem dX2_bestSwap_68 : decode cX2_bestSwap 68 = .ok (.invokevirtual 59, 3) := by decide +kernel
theorem dX2_bestSwap_71 : decode cX2_bestSwap 71 = .ok (.aload_n 0, 1) := by decide +kernel
theorem dX2_bestSwap_72 : decode cX2_bestSwap 72 = .ok (.getfield 12, 3) := by decide +kernel
theorem dX2_bestSwap_75 : decode cX2_bestSwap 75 = .ok (.iload_n 2, 1) := by decide +kernel
theorem dX2_bestSwap_76 : decode cX2_bestSwap 76 = .ok (.invokevirtual 88, 3) := by decide +kernel
theorem dX2_bestSwap_79 : decode cX2_bestSwap 79 = .ok (.iload_n 3, 1) := by decide +kernel
theorem dX2_bestSwap_80 : decode cX2_bestSwap 80 = .ok (.if_icmp .le 22, 3) := by decide +kernel
theorem dX2_bestSwap_83 : decode cX2_bestSwap 83 = .ok (.aload_n 0, 1) := by decide +kernel
theorem dX2_bestSwap_84 : decode cX2_bestSwap 84 = .ok (.getfield 12, 3) := by decide +kernel
theorem dX2_bestSwap_87 : decode cX2_bestSwap 87 = .ok (.iload_n 2, 1) := by decide +kernel
theorem dX2_bestSwap_88 : decode cX2_bestSwap 88 = .ok (.invokevirtual 88, 3) := by decide +kernel
theorem dX2_bestSwap_91 : decode cX2_bestSwap 91 = .ok (.istore_n 3, 1) := by decide +kernel
theorem dX2_bestSwap_92 : decode cX2_bestSwap 92 = .ok (.bipush 10, 2) := by decide +kernel
theorem dX2_bestSwap_94 : decode cX2_bestSwap 94 = .ok (.iload 5, 2) := by decide +kernel
theorem dX2_bestSwap_96 : decode cX2_bestSwap 96 = .ok (.imul, 1) := by decide +kernel
theorem dX2_bestSwap_97 : decode cX2_bestSwap 97 = .ok (.iload 6, 2) := by decide +kernel
theorem dX2_bestSwap_99 : decode cX2_bestSwap 99 = .ok (.iadd, 1) := by decide +kernel
theorem dX2_bestSwap_100 : decode cX2_bestSwap 100 = .ok (.istore 4, 2) := by decide +kernel
theorem dX2_bestSwap_102 : decode cX2_bestSwap 102 = .ok (.iinc 6 1, 3) := by decide +kernel
theorem dX2_bestSwap_105 : decode cX2_bestSwap 105 = .ok (.goto (-63), 3) := by decide +kernel
theorem dX2_bestSwap_108 : decode cX2_bestSwap 108 = .ok (.iinc 5 1, 3) := by decide +kernel
theorem dX2_bestSwap_111 : decode cX2_bestSwap 111 = .ok (.goto (-82), 3) := by decide +kernel
theorem dX2_bestSwap_114 : decode cX2_bestSwap 114 = .ok (.iload 4, 2) := by decide +kernel
theorem dX2_bestSwap_116 : decode cX2_bestSwap 116 = .ok (.ireturn, 1) := by decide +kernel
theorem dX2_worthInValleys_0 : decode cX2_worthInValleys 0 = .ok (.iload_n 2, 1) := by decide +kernel
theorem dX2_worthInValleys_1 : decode cX2_worthInValleys 1 = .ok (.i2l, 1) := by decide +kernel
theorem dX2_worthInValleys_2 : decode cX2_worthInValleys 2 = .ok (.lstore 4, 2) := by decide +kernel
theorem dX2_worthInValleys_4 : decode cX2_worthInValleys 4 = .ok (.iconst 0, 1) := by decide +kernel
theorem dX2_worthInValleys_5 : decode cX2_worthInValleys 5 = .ok (.istore 6, 2) := by decide +kernel
theorem dX2_worthInValleys_7 : decode cX2_worthInValleys 7 = .ok (.iconst 0, 1) := by decide +kernel
theorem dX2_worthInValleys_8 : decode cX2_worthInValleys 8 = .ok (.istore 7, 2) := by decide +kernel
theorem dX2_worthInValleys_10 : decode cX2_worthInValleys 10 = .ok (.iload 7, 2) := by decide +kernel
theorem dX2_worthInValleys_12 : decode cX2_worthInValleys 12 = .ok (.iload_n 3, 1) := by decide +kernel
theorem dX2_worthInValleys_13 : decode cX2_worthInValleys 13 = .ok (.if_icmp .ge 146, 3) := by decide +kernel
theorem dX2_worthInValleys_16 : decode cX2_worthInValleys 16 = .ok (.aload_n 0, 1) := by decide +kernel
theorem dX2_worthInValleys_17 : decode cX2_worthInValleys 17 = .ok (.aload_n 1, 1) := by decide +kernel
theorem dX2_worthInValleys_18 : decode cX2_worthInValleys 18 = .ok (.invokevirtual 56, 3) := by decide +kernel
theorem dX2_worthInValleys_21 : decode cX2_worthInValleys 21 = .ok (.aload_n 1, 1) := by decide +kernel
theorem dX2_worthInValleys_22 : decode cX2_worthInValleys 22 = .ok (.getfield 38, 3) := by decide +kernel
theorem dX2_worthInValleys_25 : decode cX2_worthInValleys 25 = .ok (.istore 8, 2) := by decide +kernel
theorem dX2_worthInValleys_27 : decode cX2_worthInValleys 27 = .ok (.iload 8, 2) := by decide +kernel
theorem dX2_worthInValleys_29 : decode cX2_worthInValleys 29 = .ok (.bipush 8, 2) := by decide +kernel
theorem dX2_worthInValleys_31 : decode cX2_worthInValleys 31 = .ok (.if_icmp .ge 122, 3) := by decide +kernel
theorem dX2_worthInValleys_34 : decode cX2_worthInValleys 34 = .ok (.lload 4, 2) := by decide +kernel
theorem dX2_worthInValleys_36 : decode cX2_worthInValleys 36 = .ok (.ldc2_w 95, 3) := by decide +kernel
theorem dX2_worthInValleys_39 : decode cX2_worthInValleys 39 = .ok (.lmul, 1) := by decide +kernel
theorem dX2_worthInValleys_40 : decode cX2_worthInValleys 40 = .ok (.ldc2_w 97, 3) := by decide +kernel
theorem dX2_worthInValleys_43 : decode cX2_worthInValleys 43 = .ok (.ladd, 1) := by decide +kernel
theorem dX2_worthInValleys_44 : decode cX2_worthInValleys 44 = .ok (.ldc2_w 99, 3) := by decide +kernel
theorem dX2_worthInValleys_47 : decode cX2_worthInValleys 47 = .ok (.lrem, 1) := by decide +kernel
theorem dX2_worthInValleys_48 : decode cX2_worthInValleys 48 = .ok (.lstore 4, 2) := by decide +kernel
theorem dX2_worthInValleys_50 : decode cX2_worthInValleys 50 = .ok (.aload_n 0, 1) := by decide +kernel
theorem dX2_worthInValleys_51 : decode cX2_worthInValleys 51 = .ok (.getfield 12, 3) := by decide +kernel
theorem dX2_worthInValleys_54 : decode cX2_worthInValleys 54 = .ok (.iload 8, 2) := by decide +kernel
theorem dX2_worthInValleys_56 : decode cX2_worthInValleys 56 = .ok (.lload 4, 2) := by decide +kernel
theorem dX2_worthInValleys_58 : decode cX2_worthInValleys 58 = .ok (.ldc2_w 101, 3) := by decide +kernel
theorem dX2_worthInValleys_61 : decode cX2_worthInValleys 61 = .ok (.ldiv, 1) := by decide +kernel
theorem dX2_worthInValleys_62 : decode cX2_worthInValleys 62 = .ok (.ldc2_w 103, 3) := by decide +kernel
theorem dX2_worthInValleys_65 : decode cX2_worthInValleys 65 = .ok (.lrem, 1) := by decide +kernel
theorem dX2_worthInValleys_66 : decode cX2_worthInValleys 66 = .ok (.l2i, 1) := by decide +kernel
theorem dX2_worthInValleys_67 : decode cX2_worthInValleys 67 = .ok (.lload 4, 2) := by decide +kernel
theorem dX2_worthInValleys_69 : decode cX2_worthInValleys 69 = .ok (.ldc2_w 105, 3) := by decide +kernel
theorem dX2_worthInValleys_72 : decode cX2_worthInValleys 72 = .ok (.ldiv, 1) := by decide +kernel
theorem dX2_worthInValleys_73 : decode cX2_worthInValleys 73 = .ok (.ldc2_w 107, 3) := by decide +kernel
theorem dX2_worthInValleys_76 : decode cX2_worthInValleys 76 = .ok (.lrem, 1) := by decide +kernel
theorem dX2_worthInValleys_77 : decode cX2_worthInValleys 77 = .ok (.l2i, 1) := by decide +kernel
theorem dX2_worthInValleys_78 : decode cX2_worthInValleys 78 = .ok (.iconst 1, 1) := by decide +kernel
theorem dX2_worthInValleys_79 : decode cX2_worthInValleys 79 = .ok (.iadd, 1) := by decide +kernel
theorem dX2_worthInValleys_80 : decode cX2_worthInValleys 80 = .ok (.invokevirtual 109, 3) := by decide +kernel
theorem dX2_worthInValleys_83 : decode cX2_worthInValleys 83 = .ok (.aload_n 0, 1) := by decide +kernel
theorem dX2_worthInValleys_84 : decode cX2_worthInValleys 84 = .ok (.getfield 25, 3) := by decide +kernel
theorem dX2_worthInValleys_87 : decode cX2_worthInValleys 87 = .ok (.aload_n 0, 1) := by decide +kernel
theorem dX2_worthInValleys_88 : decode cX2_worthInValleys 88 = .ok (.getfield 12, 3) := by decide +kernel
theorem dX2_worthInValleys_91 : decode cX2_worthInValleys 91 = .ok (.iload 8, 2) := by decide +kernel
theorem dX2_worthInValleys_93 : decode cX2_worthInValleys 93 = .ok (.invokevirtual 42, 3) := by decide +kernel
theorem dX2_worthInValleys_96 : decode cX2_worthInValleys 96 = .ok (.aload_n 0, 1) := by decide +kernel
theorem dX2_worthInValleys_97 : decode cX2_worthInValleys 97 = .ok (.getfield 12, 3) := by decide +kernel
theorem dX2_worthInValleys_100 : decode cX2_worthInValleys 100 = .ok (.aload_n 0, 1) := by decide +kernel
theorem dX2_worthInValleys_101 : decode cX2_worthInValleys 101 = .ok (.getfield 25, 3) := by decide +kernel
theorem dX2_worthInValleys_104 : decode cX2_worthInValleys 104 = .ok (.getfield 46, 3) := by decide +kernel
theorem dX2_worthInValleys_107 : decode cX2_worthInValleys 107 = .ok (.aload_n 0, 1) := by decide +kernel
theorem dX2_worthInValleys_108 : decode cX2_worthInValleys 108 = .ok (.getfield 25, 3) := by decide +kernel
theorem dX2_worthInValleys_111 : decode cX2_worthInValleys 111 = .ok (.getfield 49, 3) := by decide +kernel
theorem dX2_worthInValleys_114 : decode cX2_worthInValleys 114 = .ok (.invokevirtual 52, 3) := by decide +kernel
theorem dX2_worthInValleys_117 : decode cX2_worthInValleys 117 = .ok (.iload 6, 2) := by decide +kernel
theorem dX2_worthInValleys_119 : decode cX2_worthInValleys 119 = .ok (.aload_n 0, 1) := by decide +kernel
theorem dX2_worthInValleys_120 : decode cX2_worthInValleys 120 = .ok (.getfield 25, 3) := by decide +kernel
theorem dX2_worthInValleys_123 : decode cX2_worthInValleys 123 = .ok (.getfield 46, 3) := by decide +kernel
theorem dX2_worthInValleys_126 : decode cX2_worthInValleys 126 = .ok (.iconst (-1), 1) := by decide +kernel
theorem dX2_worthInValleys_127 : decode cX2_worthInValleys 127 = .ok (.if_icmp .ne 7, 3) := by decide +kernel
theorem dX2_worthInValleys_130 : decode cX2_worthInValleys 130 = .ok (.iconst 0, 1) := by decide +kernel
theorem dX2_worthInValleys_131 : decode cX2_worthInValleys 131 = .ok (.goto 13, 3) := by decide +kernel
theorem dX2_worthInValleys_134 : decode cX2_worthInValleys 134 = .ok (.aload_n 0, 1) := by decide +kernel
theorem dX2_worthInValleys_135 : decode cX2_worthInValleys 135 = .ok (.getfield 12, 3) := by decide +kernel
theorem dX2_worthInValleys_138 : decode cX2_worthInValleys 138 = .ok (.getfield 113, 3) := by decide +kernel
theorem dX2_worthInValleys_141 : decode cX2_worthInValleys 141 = .ok (.iload 8, 2) := by decide +kernel
theorem dX2_worthInValleys_143 : decode cX2_worthInValleys 143 = .ok (.iaload, 1) := by decide +kernel
theorem dX2_worthInValleys_144 : decode cX2_worthInValleys 144 = .ok (.iadd, 1) := by decide +kernel
theorem dX2_worthInValleys_145 : decode cX2_worthInValleys 145 = .ok (.istore 6, 2) := by decide +kernel
theorem dX2_worthInValleys_147 : decode cX2_worthInValleys 147 = .ok (.iinc 8 1, 3) := by decide +kernel
theorem dX2_worthInValleys_150 : decode cX2_worthInValleys 150 = .ok (.goto (-123), 3) := by decide +kernel
theorem dX2_worthInValleys_153 : decode cX2_worthInValleys 153 = .ok (.iinc 7 1, 3) := by decide +kernel
theorem dX2_worthInValleys_156 : decode cX2_worthInValleys 156 = .ok (.goto (-146), 3) := by decide +kernel
theorem dX2_worthInValleys_159 : decode cX2_worthInValleys 159 = .ok (.iload 6, 2) := by decide +kernel
theorem dX2_worthInValleys_161 : decode cX2_worthInValleys 161 = .ok (.ireturn, 1) := by decide +kernel
theorem dX3_init_0 : decode cX3_init 0 = .ok (.aload_n 0, 1) := by decide +kernel
theorem dX3_init_1 : decode cX3_init 1 = .ok (.invokespecial 1, 3) := by decide +kernel
theorem dX3_init_4 : decode cX3_init 4 = .ok (.return_, 1) := by decide +kernel
theorem dX3_barredBy_0 : decode cX3_barredBy 0 = .ok (.iload_n 1, 1) := by decide +kernel
theorem dX3_barredBy_1 : decode cX3_barredBy 1 = .ok (.iconst 2, 1) := by decide +kernel
theorem dX3_barredBy_2 : decode cX3_barredBy 2 = .ok (.if_icmp .lt 7, 3) := by decide +kernel
theorem dX3_barredBy_5 : decode cX3_barredBy 5 = .ok (.iconst 1, 1) := by decide +kernel
theorem dX3_barredBy_6 : decode cX3_barredBy 6 = .ok (.goto 4, 3) := by decide +kernel
theorem dX3_barredBy_9 : decode cX3_barredBy 9 = .ok (.iconst 0, 1) := by decide +kernel
theorem dX3_barredBy_10 : decode cX3_barredBy 10 = .ok (.ireturn, 1) := by decide +kernel
theorem dX4_init_0 : decode cX4_init 0 = .ok (.aload_n 0, 1) := by decide +kernel
theorem dX4_init_1 : decode cX4_init 1 = .ok (.invokespecial 1, 3) := by decide +kernel
theorem dX4_init_4 : decode cX4_init 4 = .ok (.return_, 1) := by decide +kernel
theorem dX4_skill_0 : decode cX4_skill 0 = .ok (.iconst 0, 1) := by decide +kernel
theorem dX4_skill_1 : decode cX4_skill 1 = .ok (.aload_n 0, 1) := by decide +kernel
theorem dX4_skill_2 : decode cX4_skill 2 = .ok (.iload_n 1, 1) := by decide +kernel
theorem dX4_skill_3 : decode cX4_skill 3 = .ok (.iload_n 2, 1) := by decide +kernel
theorem dX4_skill_4 : decode cX4_skill 4 = .ok (.invokespecial 7, 3) := by decide +kernel
theorem dX4_skill_7 : decode cX4_skill 7 = .ok (.iload_n 2, 1) := by decide +kernel
theorem dX4_skill_8 : decode cX4_skill 8 = .ok (.iconst 2, 1) := by decide +kernel
theorem dX4_skill_9 : decode cX4_skill 9 = .ok (.idiv, 1) := by decide +kernel
theorem dX4_skill_10 : decode cX4_skill 10 = .ok (.isub, 1) := by decide +kernel
theorem dX4_skill_11 : decode cX4_skill 11 = .ok (.invokestatic 11, 3) := by decide +kernel
theorem dX4_skill_14 : decode cX4_skill 14 = .ok (.ireturn, 1) := by decide +kernel
theorem dX5_init_0 : decode cX5_init 0 = .ok (.aload_n 0, 1) := by decide +kernel
theorem dX5_init_1 : decode cX5_init 1 = .ok (.invokespecial 1, 3) := by decide +kernel
theorem dX5_init_4 : decode cX5_init 4 = .ok (.return_, 1) := by decide +kernel
theorem dX5_wants_0 : decode cX5_wants 0 = .ok (.iconst 1, 1) := by decide +kernel
theorem dX5_wants_1 : decode cX5_wants 1 = .ok (.ireturn, 1) := by decide +kernel
theorem dX5_skill_0 : decode cX5_skill 0 = .ok (.iload_n 1, 1) := by decide +kernel
theorem dX5_skill_1 : decode cX5_skill 1 = .ok (.ireturn, 1) := by decide +kernel
theorem dX5_barredBy_0 : decode cX5_barredBy 0 = .ok (.iload_n 1, 1) := by decide +kernel
theorem dX5_barredBy_1 : decode cX5_barredBy 1 = .ok (.iconst 1, 1) := by decide +kernel
theorem dX5_barredBy_2 : decode cX5_barredBy 2 = .ok (.if_icmp .lt 7, 3) := by decide +kernel
theorem dX5_barredBy_5 : decode cX5_barredBy 5 = .ok (.iconst 1, 1) := by decide +kernel
theorem dX5_barredBy_6 : decode cX5_barredBy 6 = .ok (.goto 4, 3) := by decide +kernel
theorem dX5_barredBy_9 : decode cX5_barredBy 9 = .ok (.iconst 0, 1) := by decide +kernel
theorem dX5_barredBy_10 : decode cX5_barredBy 10 = .ok (.ireturn, 1) := by decide +kernel
theorem dX6_init_0 : decode cX6_init 0 = .ok (.aload_n 0, 1) := by decide +kernel
theorem dX6_init_1 : decode cX6_init 1 = .ok (.invokespecial 1, 3) := by decide +kernel
theorem dX6_init_4 : decode cX6_init 4 = .ok (.return_, 1) := by decide +kernel
theorem dX6_wants_0 : decode cX6_wants 0 = .ok (.aload_n 0, 1) := by decide +kernel
theorem dX6_wants_1 : decode cX6_wants 1 = .ok (.iload_n 1, 1) := by decide +kernel
theorem dX6_wants_2 : decode cX6_wants 2 = .ok (.iload_n 2, 1) := by decide +kernel
theorem dX6_wants_3 : decode cX6_wants 3 = .ok (.invokespecial 7, 3) := by decide +kernel
theorem dX6_wants_6 : decode cX6_wants 6 = .ok (.ifCond .eq 13, 3) := by decide +kernel
theorem dX6_wants_9 : decode cX6_wants 9 = .ok (.iload_n 1, 1) := by decide +kernel
theorem dX6_wants_10 : decode cX6_wants 10 = .ok (.bipush 8, 2) := by decide +kernel
theorem dX6_wants_12 : decode cX6_wants 12 = .ok (.if_icmp .lt 7, 3) := by decide +kernel
theorem dX6_wants_15 : decode cX6_wants 15 = .ok (.iconst 1, 1) := by decide +kernel
theorem dX6_wants_16 : decode cX6_wants 16 = .ok (.goto 4, 3) := by decide +kernel
theorem dX6_wants_19 : decode cX6_wants 19 = .ok (.iconst 0, 1) := by decide +kernel
theorem dX6_wants_20 : decode cX6_wants 20 = .ok (.ireturn, 1) := by decide +kernel
theorem dX6_skill_0 : decode cX6_skill 0 = .ok (.aload_n 0, 1) := by decide +kernel
theorem dX6_skill_1 : decode cX6_skill 1 = .ok (.iload_n 1, 1) := by decide +kernel
theorem dX6_skill_2 : decode cX6_skill 2 = .ok (.iload_n 2, 1) := by decide +kernel
theorem dX6_skill_3 : decode cX6_skill 3 = .ok (.invokespecial 11, 3) := by decide +kernel
theorem dX6_skill_6 : decode cX6_skill 6 = .ok (.iconst 1, 1) := by decide +kernel
theorem dX6_skill_7 : decode cX6_skill 7 = .ok (.iadd, 1) := by decide +kernel
theorem dX6_skill_8 : decode cX6_skill 8 = .ok (.ireturn, 1) := by decide +kernel
theorem dX7_init_0 : decode cX7_init 0 = .ok (.aload_n 0, 1) := by decide +kernel
theorem dX7_init_1 : decode cX7_init 1 = .ok (.invokespecial 1, 3) := by decide +kernel
theorem dX7_init_4 : decode cX7_init 4 = .ok (.return_, 1) := by decide +kernel
theorem dX7_wants_0 : decode cX7_wants 0 = .ok (.iload_n 1, 1) := by decide +kernel
theorem dX7_wants_1 : decode cX7_wants 1 = .ok (.bipush 15, 2) := by decide +kernel
theorem dX7_wants_3 : decode cX7_wants 3 = .ok (.if_icmp .ge 8, 3) := by decide +kernel
theorem dX7_wants_6 : decode cX7_wants 6 = .ok (.iload_n 2, 1) := by decide +kernel
theorem dX7_wants_7 : decode cX7_wants 7 = .ok (.iconst 1, 1) := by decide +kernel
theorem dX7_wants_8 : decode cX7_wants 8 = .ok (.if_icmp .gt 7, 3) := by decide +kernel
theorem dX7_wants_11 : decode cX7_wants 11 = .ok (.iconst 1, 1) := by decide +kernel
theorem dX7_wants_12 : decode cX7_wants 12 = .ok (.goto 4, 3) := by decide +kernel
theorem dX7_wants_15 : decode cX7_wants 15 = .ok (.iconst 0, 1) := by decide +kernel
theorem dX7_wants_16 : decode cX7_wants 16 = .ok (.ireturn, 1) := by decide +kernel
theorem dX8_init_0 : decode cX8_init 0 = .ok (.aload_n 0, 1) := by decide +kernel
theorem dX8_init_1 : decode cX8_init 1 = .ok (.invokespecial 3, 3) := by decide +kernel
theorem dX8_init_4 : decode cX8_init 4 = .ok (.aload_n 0, 1) := by decide +kernel
theorem dX8_init_5 : decode cX8_init 5 = .ok (.sipush 150, 3) := by decide +kernel
theorem dX8_init_8 : decode cX8_init 8 = .ok (.newarray .int, 2) := by decide +kernel
theorem dX8_init_10 : decode cX8_init 10 = .ok (.putfield 9, 3) := by decide +kernel
theorem dX8_init_13 : decode cX8_init 13 = .ok (.return_, 1) := by decide +kernel
theorem dX8_append_0 : decode cX8_append 0 = .ok (.aload_n 0, 1) := by decide +kernel
theorem dX8_append_1 : decode cX8_append 1 = .ok (.getfield 15, 3) := by decide +kernel
theorem dX8_append_4 : decode cX8_append 4 = .ok (.sipush 150, 3) := by decide +kernel
theorem dX8_append_7 : decode cX8_append 7 = .ok (.if_icmp .ge 23, 3) := by decide +kernel
theorem dX8_append_10 : decode cX8_append 10 = .ok (.aload_n 0, 1) := by decide +kernel
theorem dX8_append_11 : decode cX8_append 11 = .ok (.getfield 9, 3) := by decide +kernel
theorem dX8_append_14 : decode cX8_append 14 = .ok (.aload_n 0, 1) := by decide +kernel
theorem dX8_append_15 : decode cX8_append 15 = .ok (.getfield 15, 3) := by decide +kernel
theorem dX8_append_18 : decode cX8_append 18 = .ok (.iload_n 1, 1) := by decide +kernel
theorem dX8_append_19 : decode cX8_append 19 = .ok (.iastore, 1) := by decide +kernel
theorem dX8_append_20 : decode cX8_append 20 = .ok (.aload_n 0, 1) := by decide +kernel
theorem dX8_append_21 : decode cX8_append 21 = .ok (.dup, 1) := by decide +kernel
theorem dX8_append_22 : decode cX8_append 22 = .ok (.getfield 15, 3) := by decide +kernel
theorem dX8_append_25 : decode cX8_append 25 = .ok (.iconst 1, 1) := by decide +kernel
theorem dX8_append_26 : decode cX8_append 26 = .ok (.iadd, 1) := by decide +kernel
theorem dX8_append_27 : decode cX8_append 27 = .ok (.putfield 15, 3) := by decide +kernel
theorem dX8_append_30 : decode cX8_append 30 = .ok (.return_, 1) := by decide +kernel
theorem dX8_tellInto_0 : decode cX8_tellInto 0 = .ok (.aload_n 1, 1) := by decide +kernel
theorem dX8_tellInto_1 : decode cX8_tellInto 1 = .ok (.invokevirtual 19, 3) := by decide +kernel
theorem dX8_tellInto_4 : decode cX8_tellInto 4 = .ok (.aload_n 0, 1) := by decide +kernel
theorem dX8_tellInto_5 : decode cX8_tellInto 5 = .ok (.iconst 0, 1) := by decide +kernel
theorem dX8_tellInto_6 : decode cX8_tellInto 6 = .ok (.putfield 24, 3) := by decide +kernel
theorem dX8_tellInto_9 : decode cX8_tellInto 9 = .ok (.aload_n 0, 1) := by decide +kernel
theorem dX8_tellInto_10 : decode cX8_tellInto 10 = .ok (.invokevirtual 27, 3) := by decide +kernel
theorem dX8_tellInto_13 : decode cX8_tellInto 13 = .ok (.aload_n 0, 1) := by decide +kernel
theorem dX8_tellInto_14 : decode cX8_tellInto 14 = .ok (.ldc 30, 2) := by decide +kernel
theorem dX8_tellInto_16 : decode cX8_tellInto 16 = .ok (.invokevirtual 32, 3) := by decide +kernel
theorem dX8_tellInto_19 : decode cX8_tellInto 19 = .ok (.ifCond .eq 10, 3) := by decide +kernel
theorem dX8_tellInto_22 : decode cX8_tellInto 22 = .ok (.aload_n 0, 1) := by decide +kernel
theorem dX8_tellInto_23 : decode cX8_tellInto 23 = .ok (.invokevirtual 36, 3) := by decide +kernel
theorem dX8_tellInto_26 : decode cX8_tellInto 26 = .ok (.ifCond .ne 11, 3) := by decide +kernel
theorem dX8_tellInto_29 : decode cX8_tellInto 29 = .ok (.bipush (-10), 2) := by decide +kernel
theorem dX8_tellInto_31 : decode cX8_tellInto 31 = .ok (.aload_n 0, 1) := by decide +kernel
theorem dX8_tellInto_32 : decode cX8_tellInto 32 = .ok (.getfield 40, 3) := by decide +kernel
theorem dX8_tellInto_35 : decode cX8_tellInto 35 = .ok (.isub, 1) := by decide +kernel
theorem dX8_tellInto_36 : decode cX8_tellInto 36 = .ok (.ireturn, 1) := by decide +kernel
theorem dX8_tellInto_37 : decode cX8_tellInto 37 = .ok (.iconst 1, 1) := by decide +kernel
theorem dX8_tellInto_38 : decode cX8_tellInto 38 = .ok (.istore_n 2, 1) := by decide +kernel
theorem dX8_tellInto_39 : decode cX8_tellInto 39 = .ok (.iconst 0, 1) := by decide +kernel
theorem dX8_tellInto_40 : decode cX8_tellInto 40 = .ok (.istore_n 3, 1) := by decide +kernel
theorem dX8_tellInto_41 : decode cX8_tellInto 41 = .ok (.iload_n 3, 1) := by decide +kernel
theorem dX8_tellInto_42 : decode cX8_tellInto 42 = .ok (.sipush 150, 3) := by decide +kernel
theorem dX8_tellInto_45 : decode cX8_tellInto 45 = .ok (.if_icmp .ge 86, 3) := by decide +kernel
theorem dX8_tellInto_48 : decode cX8_tellInto 48 = .ok (.aload_n 0, 1) := by decide +kernel
theorem dX8_tellInto_49 : decode cX8_tellInto 49 = .ok (.invokevirtual 27, 3) := by decide +kernel
theorem dX8_tellInto_52 : decode cX8_tellInto 52 = .ok (.aload_n 0, 1) := by decide +kernel
theorem dX8_tellInto_53 : decode cX8_tellInto 53 = .ok (.getfield 43, 3) := by decide +kernel
theorem dX8_tellInto_56 : decode cX8_tellInto 56 = .ok (.ifCond .ne 5, 3) := by decide +kernel
theorem dX8_tellInto_59 : decode cX8_tellInto 59 = .ok (.iload_n 2, 1) := by decide +kernel
theorem dX8_tellInto_60 : decode cX8_tellInto 60 = .ok (.ireturn, 1) := by decide +kernel
theorem dX8_tellInto_61 : decode cX8_tellInto 61 = .ok (.aload_n 0, 1) := by decide +kernel
theorem dX8_tellInto_62 : decode cX8_tellInto 62 = .ok (.ldc 46, 2) := by decide +kernel
theorem dX8_tellInto_64 : decode cX8_tellInto 64 = .ok (.invokevirtual 32, 3) := by decide +kernel
theorem dX8_tellInto_67 : decode cX8_tellInto 67 = .ok (.ifCond .eq 11, 3) := by decide +kernel
theorem dX8_tellInto_70 : decode cX8_tellInto 70 = .ok (.aload_n 0, 1) := by decide +kernel
theorem dX8_tellInto_71 : decode cX8_tellInto 71 = .ok (.aload_n 1, 1) := by decide +kernel
theorem dX8_tellInto_72 : decode cX8_tellInto 72 = .ok (.invokevirtual 48, 3) := by decide +kernel
theorem dX8_tellInto_75 : decode cX8_tellInto 75 = .ok (.goto 25, 3) := by decide +kernel
theorem dX8_tellInto_78 : decode cX8_tellInto 78 = .ok (.aload_n 0, 1) := by decide +kernel
theorem dX8_tellInto_79 : decode cX8_tellInto 79 = .ok (.ldc 52, 2) := by decide +kernel
theorem dX8_tellInto_81 : decode cX8_tellInto 81 = .ok (.invokevirtual 32, 3) := by decide +kernel
theorem dX8_tellInto_84 : decode cX8_tellInto 84 = .ok (.ifCond .eq 15, 3) := by decide +kernel
theorem dX8_tellInto_87 : decode cX8_tellInto 87 = .ok (.aload_n 0, 1) := by decide +kernel
theorem dX8_tellInto_88 : decode cX8_tellInto 88 = .ok (.aload_n 1, 1) := by decide +kernel
theorem dX8_tellInto_89 : decode cX8_tellInto 89 = .ok (.invokevirtual 54, 3) := by decide +kernel
theorem dX8_tellInto_92 : decode cX8_tellInto 92 = .ok (.ifCond .eq 7, 3) := by decide +kernel
theorem dX8_tellInto_95 : decode cX8_tellInto 95 = .ok (.iconst 1, 1) := by decide +kernel
theorem dX8_tellInto_96 : decode cX8_tellInto 96 = .ok (.goto 4, 3) := by decide +kernel
theorem dX8_tellInto_99 : decode cX8_tellInto 99 = .ok (.iconst 0, 1) := by decide +kernel
theorem dX8_tellInto_100 : decode cX8_tellInto 100 = .ok (.istore 4, 2) := by decide +kernel
theorem dX8_tellInto_102 : decode cX8_tellInto 102 = .ok (.iload 4, 2) := by decide +kernel
theorem dX8_tellInto_104 : decode cX8_tellInto 104 = .ok (.ifCond .eq 10, 3) := by decide +kernel
theorem dX8_tellInto_107 : decode cX8_tellInto 107 = .ok (.aload_n 0, 1) := by decide +kernel
theorem dX8_tellInto_108 : decode cX8_tellInto 108 = .ok (.invokevirtual 36, 3) := by decide +kernel
theorem dX8_tellInto_111 : decode cX8_tellInto 111 = .ok (.ifCond .ne 11, 3) := by decide +kernel
theorem dX8_tellInto_114 : decode cX8_tellInto 114 = .ok (.bipush (-10), 2) := by decide +kernel
theorem dX8_tellInto_116 : decode cX8_tellInto 116 = .ok (.aload_n 0, 1) := by decide +kernel
theorem dX8_tellInto_117 : decode cX8_tellInto 117 = .ok (.getfield 40, 3) := by decide +kernel
theorem dX8_tellInto_120 : decode cX8_tellInto 120 = .ok (.isub, 1) := by decide +kernel
theorem dX8_tellInto_121 : decode cX8_tellInto 121 = .ok (.ireturn, 1) := by decide +kernel
theorem dX8_tellInto_122 : decode cX8_tellInto 122 = .ok (.iinc 2 1, 3) := by decide +kernel
theorem dX8_tellInto_125 : decode cX8_tellInto 125 = .ok (.iinc 3 1, 3) := by decide +kernel
theorem dX8_tellInto_128 : decode cX8_tellInto 128 = .ok (.goto (-87), 3) := by decide +kernel
theorem dX8_tellInto_131 : decode cX8_tellInto 131 = .ok (.iload_n 2, 1) := by decide +kernel
theorem dX8_tellInto_132 : decode cX8_tellInto 132 = .ok (.ireturn, 1) := by decide +kernel
theorem dX8_tellPrize_0 : decode cX8_tellPrize 0 = .ok (.aload_n 0, 1) := by decide +kernel
theorem dX8_tellPrize_1 : decode cX8_tellPrize 1 = .ok (.iconst 0, 1) := by decide +kernel
theorem dX8_tellPrize_2 : decode cX8_tellPrize 2 = .ok (.bipush 7, 2) := by decide +kernel
theorem dX8_tellPrize_4 : decode cX8_tellPrize 4 = .ok (.invokevirtual 57, 3) := by decide +kernel
theorem dX8_tellPrize_7 : decode cX8_tellPrize 7 = .ok (.ifCond .ne 5, 3) := by decide +kernel
theorem dX8_tellPrize_10 : decode cX8_tellPrize 10 = .ok (.iconst 0, 1) := by decide +kernel
theorem dX8_tellPrize_11 : decode cX8_tellPrize 11 = .ok (.ireturn, 1) := by decide +kernel
theorem dX8_tellPrize_12 : decode cX8_tellPrize 12 = .ok (.aload_n 0, 1) := by decide +kernel
theorem dX8_tellPrize_13 : decode cX8_tellPrize 13 = .ok (.getfield 61, 3) := by decide +kernel
theorem dX8_tellPrize_16 : decode cX8_tellPrize 16 = .ok (.istore_n 2, 1) := by decide +kernel
theorem dX8_tellPrize_17 : decode cX8_tellPrize 17 = .ok (.aload_n 0, 1) := by decide +kernel
theorem dX8_tellPrize_18 : decode cX8_tellPrize 18 = .ok (.iconst 0, 1) := by decide +kernel
theorem dX8_tellPrize_19 : decode cX8_tellPrize 19 = .ok (.iconst 2, 1) := by decide +kernel
theorem dX8_tellPrize_20 : decode cX8_tellPrize 20 = .ok (.invokevirtual 57, 3) := by decide +kernel
theorem dX8_tellPrize_23 : decode cX8_tellPrize 23 = .ok (.ifCond .ne 5, 3) := by decide +kernel
theorem dX8_tellPrize_26 : decode cX8_tellPrize 26 = .ok (.iconst 0, 1) := by decide +kernel
theorem dX8_tellPrize_27 : decode cX8_tellPrize 27 = .ok (.ireturn, 1) := by decide +kernel
theorem dX8_tellPrize_28 : decode cX8_tellPrize 28 = .ok (.aload_n 0, 1) := by decide +kernel
theorem dX8_tellPrize_29 : decode cX8_tellPrize 29 = .ok (.getfield 61, 3) := by decide +kernel
theorem dX8_tellPrize_32 : decode cX8_tellPrize 32 = .ok (.istore_n 3, 1) := by decide +kernel
theorem dX8_tellPrize_33 : decode cX8_tellPrize 33 = .ok (.aload_n 0, 1) := by decide +kernel
theorem dX8_tellPrize_34 : decode cX8_tellPrize 34 = .ok (.iconst 1, 1) := by decide +kernel
theorem dX8_tellPrize_35 : decode cX8_tellPrize 35 = .ok (.bipush 30, 2) := by decide +kernel
theorem dX8_tellPrize_37 : decode cX8_tellPrize 37 = .ok (.invokevirtual 57, 3) := by decide +kernel
theorem dX8_tellPrize_40 : decode cX8_tellPrize 40 = .ok (.ifCond .ne 5, 3) := by decide +kernel
theorem dX8_tellPrize_43 : decode cX8_tellPrize 43 = .ok (.iconst 0, 1) := by decide +kernel
theorem dX8_tellPrize_44 : decode cX8_tellPrize 44 = .ok (.ireturn, 1) := by decide +kernel
theorem dX8_tellPrize_45 : decode cX8_tellPrize 45 = .ok (.aload_n 1, 1) := by decide +kernel
theorem dX8_tellPrize_46 : decode cX8_tellPrize 46 = .ok (.iload_n 2, 1) := by decide +kernel
theorem dX8_tellPrize_47 : decode cX8_tellPrize 47 = .ok (.iload_n 3, 1) := by decide +kernel
theorem dX8_tellPrize_48 : decode cX8_tellPrize 48 = .ok (.aload_n 0, 1) := by decide +kernel
theorem dX8_tellPrize_49 : decode cX8_tellPrize 49 = .ok (.getfield 61, 3) := by decide +kernel
theorem dX8_tellPrize_52 : decode cX8_tellPrize 52 = .ok (.invokevirtual 64, 3) := by decide +kernel
theorem dX8_tellPrize_55 : decode cX8_tellPrize 55 = .ok (.iconst 1, 1) := by decide +kernel
theorem dX8_tellPrize_56 : decode cX8_tellPrize 56 = .ok (.ireturn, 1) := by decide +kernel
theorem dX8_tellOne_0 : decode cX8_tellOne 0 = .ok (.aload_n 1, 1) := by decide +kernel
theorem dX8_tellOne_1 : decode cX8_tellOne 1 = .ok (.getfield 68, 3) := by decide +kernel
theorem dX8_tellOne_4 : decode cX8_tellOne 4 = .ok (.bipush 6, 2) := by decide +kernel
theorem dX8_tellOne_6 : decode cX8_tellOne 6 = .ok (.if_icmp .ge 12, 3) := by decide +kernel
theorem dX8_tellOne_9 : decode cX8_tellOne 9 = .ok (.aload_n 0, 1) := by decide +kernel
theorem dX8_tellOne_10 : decode cX8_tellOne 10 = .ok (.iconst 0, 1) := by decide +kernel
theorem dX8_tellOne_11 : decode cX8_tellOne 11 = .ok (.iconst 5, 1) := by decide +kernel
theorem dX8_tellOne_12 : decode cX8_tellOne 12 = .ok (.invokevirtual 57, 3) := by decide +kernel
theorem dX8_tellOne_15 : decode cX8_tellOne 15 = .ok (.ifCond .ne 5, 3) := by decide +kernel
theorem dX8_tellOne_18 : decode cX8_tellOne 18 = .ok (.iconst 0, 1) := by decide +kernel
theorem dX8_tellOne_19 : decode cX8_tellOne 19 = .ok (.ireturn, 1) := by decide +kernel
theorem dX8_tellOne_20 : decode cX8_tellOne 20 = .ok (.aload_n 0, 1) := by decide +kernel
theorem dX8_tellOne_21 : decode cX8_tellOne 21 = .ok (.getfield 61, 3) := by decide +kernel
theorem dX8_tellOne_24 : decode cX8_tellOne 24 = .ok (.istore_n 2, 1) := by decide +kernel
theorem dX8_tellOne_25 : decode cX8_tellOne 25 = .ok (.aload_n 0, 1) := by decide +kernel
theorem dX8_tellOne_26 : decode cX8_tellOne 26 = .ok (.iconst 0, 1) := by decide +kernel
theorem dX8_tellOne_27 : decode cX8_tellOne 27 = .ok (.bipush 9, 2) := by decide +kernel
theorem dX8_tellOne_29 : decode cX8_tellOne 29 = .ok (.invokevirtual 57, 3) := by decide +kernel
theorem dX8_tellOne_32 : decode cX8_tellOne 32 = .ok (.ifCond .ne 5, 3) := by decide +kernel
theorem dX8_tellOne_35 : decode cX8_tellOne 35 = .ok (.iconst 0, 1) := by decide +kernel
theorem dX8_tellOne_36 : decode cX8_tellOne 36 = .ok (.ireturn, 1) := by decide +kernel
theorem dX8_tellOne_37 : decode cX8_tellOne 37 = .ok (.aload_n 0, 1) := by decide +kernel
theorem dX8_tellOne_38 : decode cX8_tellOne 38 = .ok (.getfield 61, 3) := by decide +kernel
theorem dX8_tellOne_41 : decode cX8_tellOne 41 = .ok (.istore_n 3, 1) := by decide +kernel
theorem dX8_tellOne_42 : decode cX8_tellOne 42 = .ok (.aload_n 0, 1) := by decide +kernel
theorem dX8_tellOne_43 : decode cX8_tellOne 43 = .ok (.iconst 0, 1) := by decide +kernel
theorem dX8_tellOne_44 : decode cX8_tellOne 44 = .ok (.bipush 9, 2) := by decide +kernel
theorem dX8_tellOne_46 : decode cX8_tellOne 46 = .ok (.invokevirtual 57, 3) := by decide +kernel
theorem dX8_tellOne_49 : decode cX8_tellOne 49 = .ok (.ifCond .ne 5, 3) := by decide +kernel
theorem dX8_tellOne_52 : decode cX8_tellOne 52 = .ok (.iconst 0, 1) := by decide +kernel
theorem dX8_tellOne_53 : decode cX8_tellOne 53 = .ok (.ireturn, 1) := by decide +kernel
theorem dX8_tellOne_54 : decode cX8_tellOne 54 = .ok (.aload_n 0, 1) := by decide +kernel
theorem dX8_tellOne_55 : decode cX8_tellOne 55 = .ok (.getfield 61, 3) := by decide +kernel
theorem dX8_tellOne_58 : decode cX8_tellOne 58 = .ok (.istore 4, 2) := by decide +kernel
theorem dX8_tellOne_60 : decode cX8_tellOne 60 = .ok (.aload_n 0, 1) := by decide +kernel
theorem dX8_tellOne_61 : decode cX8_tellOne 61 = .ok (.iconst 0, 1) := by decide +kernel
theorem dX8_tellOne_62 : decode cX8_tellOne 62 = .ok (.bipush 9, 2) := by decide +kernel
theorem dX8_tellOne_64 : decode cX8_tellOne 64 = .ok (.invokevirtual 57, 3) := by decide +kernel
theorem dX8_tellOne_67 : decode cX8_tellOne 67 = .ok (.ifCond .ne 5, 3) := by decide +kernel
theorem dX8_tellOne_70 : decode cX8_tellOne 70 = .ok (.iconst 0, 1) := by decide +kernel
theorem dX8_tellOne_71 : decode cX8_tellOne 71 = .ok (.ireturn, 1) := by decide +kernel
theorem dX8_tellOne_72 : decode cX8_tellOne 72 = .ok (.aload_n 1, 1) := by decide +kernel
theorem dX8_tellOne_73 : decode cX8_tellOne 73 = .ok (.iload_n 2, 1) := by decide +kernel
theorem dX8_tellOne_74 : decode cX8_tellOne 74 = .ok (.iload_n 3, 1) := by decide +kernel
theorem dX8_tellOne_75 : decode cX8_tellOne 75 = .ok (.iload 4, 2) := by decide +kernel
theorem dX8_tellOne_77 : decode cX8_tellOne 77 = .ok (.aload_n 0, 1) := by decide +kernel
theorem dX8_tellOne_78 : decode cX8_tellOne 78 = .ok (.getfield 61, 3) := by decide +kernel
theorem dX8_tellOne_81 : decode cX8_tellOne 81 = .ok (.invokevirtual 71, 3) := by decide +kernel
theorem dX8_tellOne_84 : decode cX8_tellOne 84 = .ok (.iconst 1, 1) := by decide +kernel
theorem dX8_tellOne_85 : decode cX8_tellOne 85 = .ok (.ireturn, 1) := by decide +kernel
theorem dX8_hasNumber_0 : decode cX8_hasNumber 0 = .ok (.aload_n 0, 1) := by decide +kernel
theorem dX8_hasNumber_1 : decode cX8_hasNumber 1 = .ok (.invokevirtual 27, 3) := by decide +kernel
theorem dX8_hasNumber_4 : decode cX8_hasNumber 4 = .ok (.aload_n 0, 1) := by decide +kernel
theorem dX8_hasNumber_5 : decode cX8_hasNumber 5 = .ok (.getfield 43, 3) := by decide +kernel
theorem dX8_hasNumber_8 : decode cX8_hasNumber 8 = .ok (.iconst 2, 1) := by decide +kernel
theorem dX8_hasNumber_9 : decode cX8_hasNumber 9 = .ok (.if_icmp .ne 19, 3) := by decide +kernel
theorem dX8_hasNumber_12 : decode cX8_hasNumber 12 = .ok (.aload_n 0, 1) := by decide +kernel
theorem dX8_hasNumber_13 : decode cX8_hasNumber 13 = .ok (.getfield 61, 3) := by decide +kernel
theorem dX8_hasNumber_16 : decode cX8_hasNumber 16 = .ok (.iload_n 1, 1) := by decide +kernel
theorem dX8_hasNumber_17 : decode cX8_hasNumber 17 = .ok (.iload_n 2, 1) := by decide +kernel
theorem dX8_hasNumber_18 : decode cX8_hasNumber 18 = .ok (.invokestatic 75, 3) := by decide +kernel
theorem dX8_hasNumber_21 : decode cX8_hasNumber 21 = .ok (.ifCond .eq 7, 3) := by decide +kernel
theorem dX8_hasNumber_24 : decode cX8_hasNumber 24 = .ok (.iconst 1, 1) := by decide +kernel
theorem dX8_hasNumber_25 : decode cX8_hasNumber 25 = .ok (.goto 4, 3) := by decide +kernel
theorem dX8_hasNumber_28 : decode cX8_hasNumber 28 = .ok (.iconst 0, 1) := by decide +kernel
theorem dX8_hasNumber_29 : decode cX8_hasNumber 29 = .ok (.ireturn, 1) := by decide +kernel
theorem dX8_endsItem_0 : decode cX8_endsItem 0 = .ok (.aload_n 0, 1) := by decide +kernel
theorem dX8_endsItem_1 : decode cX8_endsItem 1 = .ok (.invokevirtual 27, 3) := by decide +kernel
theorem dX8_endsItem_4 : decode cX8_endsItem 4 = .ok (.aload_n 0, 1) := by decide +kernel
theorem dX8_endsItem_5 : decode cX8_endsItem 5 = .ok (.getfield 43, 3) := by decide +kernel
theorem dX8_endsItem_8 : decode cX8_endsItem 8 = .ok (.iconst 3, 1) := by decide +kernel
theorem dX8_endsItem_9 : decode cX8_endsItem 9 = .ok (.if_icmp .ne 7, 3) := by decide +kernel
theorem dX8_endsItem_12 : decode cX8_endsItem 12 = .ok (.iconst 1, 1) := by decide +kernel
theorem dX8_endsItem_13 : decode cX8_endsItem 13 = .ok (.goto 4, 3) := by decide +kernel
theorem dX8_endsItem_16 : decode cX8_endsItem 16 = .ok (.iconst 0, 1) := by decide +kernel
theorem dX8_endsItem_17 : decode cX8_endsItem 17 = .ok (.ireturn, 1) := by decide +kernel
theorem dX8_isWord_0 : decode cX8_isWord 0 = .ok (.aload_n 0, 1) := by decide +kernel
theorem dX8_isWord_1 : decode cX8_isWord 1 = .ok (.getfield 43, 3) := by decide +kernel
theorem dX8_isWord_4 : decode cX8_isWord 4 = .ok (.iconst 1, 1) := by decide +kernel
theorem dX8_isWord_5 : decode cX8_isWord 5 = .ok (.if_icmp .ne 19, 3) := by decide +kernel
theorem dX8_isWord_8 : decode cX8_isWord 8 = .ok (.aload_n 0, 1) := by decide +kernel
theorem dX8_isWord_9 : decode cX8_isWord 9 = .ok (.getfield 24, 3) := by decide +kernel
theorem dX8_isWord_12 : decode cX8_isWord 12 = .ok (.aload_n 0, 1) := by decide +kernel
theorem dX8_isWord_13 : decode cX8_isWord 13 = .ok (.getfield 40, 3) := by decide +kernel
theorem dX8_isWord_16 : decode cX8_isWord 16 = .ok (.isub, 1) := by decide +kernel
theorem dX8_isWord_17 : decode cX8_isWord 17 = .ok (.aload_n 1, 1) := by decide +kernel
theorem dX8_isWord_18 : decode cX8_isWord 18 = .ok (.invokevirtual 79, 3) := by decide +kernel
theorem dX8_isWord_21 : decode cX8_isWord 21 = .ok (.if_icmp .eq 5, 3) := by decide +kernel
theorem dX8_isWord_24 : decode cX8_isWord 24 = .ok (.iconst 0, 1) := by decide +kernel
theorem dX8_isWord_25 : decode cX8_isWord 25 = .ok (.ireturn, 1) := by decide +kernel
theorem dX8_isWord_26 : decode cX8_isWord 26 = .ok (.iconst 0, 1) := by decide +kernel
theorem dX8_isWord_27 : decode cX8_isWord 27 = .ok (.istore_n 2, 1) := by decide +kernel
theorem dX8_isWord_28 : decode cX8_isWord 28 = .ok (.iload_n 2, 1) := by decide +kernel
theorem dX8_isWord_29 : decode cX8_isWord 29 = .ok (.aload_n 1, 1) := by decide +kernel
theorem dX8_isWord_30 : decode cX8_isWord 30 = .ok (.invokevirtual 79, 3) := by decide +kernel
theorem dX8_isWord_33 : decode cX8_isWord 33 = .ok (.if_icmp .ge 30, 3) := by decide +kernel
theorem dX8_isWord_36 : decode cX8_isWord 36 = .ok (.aload_n 0, 1) := by decide +kernel
theorem dX8_isWord_37 : decode cX8_isWord 37 = .ok (.getfield 9, 3) := by decide +kernel
theorem dX8_isWord_40 : decode cX8_isWord 40 = .ok (.aload_n 0, 1) := by decide +kernel
theorem dX8_isWord_41 : decode cX8_isWord 41 = .ok (.getfield 40, 3) := by decide +kernel
theorem dX8_isWord_44 : decode cX8_isWord 44 = .ok (.iload_n 2, 1) := by decide +kernel
theorem dX8_isWord_45 : decode cX8_isWord 45 = .ok (.iadd, 1) := by decide +kernel
theorem dX8_isWord_46 : decode cX8_isWord 46 = .ok (.iaload, 1) := by decide +kernel
theorem dX8_isWord_47 : decode cX8_isWord 47 = .ok (.aload_n 1, 1) := by decide +kernel
theorem dX8_isWord_48 : decode cX8_isWord 48 = .ok (.iload_n 2, 1) := by decide +kernel
theorem dX8_isWord_49 : decode cX8_isWord 49 = .ok (.invokevirtual 84, 3) := by decide +kernel
theorem dX8_isWord_52 : decode cX8_isWord 52 = .ok (.if_icmp .eq 5, 3) := by decide +kernel
theorem dX8_isWord_55 : decode cX8_isWord 55 = .ok (.iconst 0, 1) := by decide +kernel
theorem dX8_isWord_56 : decode cX8_isWord 56 = .ok (.ireturn, 1) := by decide +kernel
theorem dX8_isWord_57 : decode cX8_isWord 57 = .ok (.iinc 2 1, 3) := by decide +kernel
theorem dX8_isWord_60 : decode cX8_isWord 60 = .ok (.goto (-32), 3) := by decide +kernel
theorem dX8_isWord_63 : decode cX8_isWord 63 = .ok (.iconst 1, 1) := by decide +kernel
theorem dX8_isWord_64 : decode cX8_isWord 64 = .ok (.ireturn, 1) := by decide +kernel
theorem dX8_advance_0 : decode cX8_advance 0 = .ok (.aload_n 0, 1) := by decide +kernel
theorem dX8_advance_1 : decode cX8_advance 1 = .ok (.aload_n 0, 1) := by decide +kernel
theorem dX8_advance_2 : decode cX8_advance 2 = .ok (.getfield 24, 3) := by decide +kernel
theorem dX8_advance_5 : decode cX8_advance 5 = .ok (.putfield 40, 3) := by decide +kernel
theorem dX8_advance_8 : decode cX8_advance 8 = .ok (.aload_n 0, 1) := by decide +kernel
theorem dX8_advance_9 : decode cX8_advance 9 = .ok (.getfield 40, 3) := by decide +kernel
theorem dX8_advance_12 : decode cX8_advance 12 = .ok (.aload_n 0, 1) := by decide +kernel
theorem dX8_advance_13 : decode cX8_advance 13 = .ok (.getfield 15, 3) := by decide +kernel
theorem dX8_advance_16 : decode cX8_advance 16 = .ok (.if_icmp .ge 30, 3) := by decide +kernel
theorem dX8_advance_19 : decode cX8_advance 19 = .ok (.aload_n 0, 1) := by decide +kernel
theorem dX8_advance_20 : decode cX8_advance 20 = .ok (.getfield 9, 3) := by decide +kernel
theorem dX8_advance_23 : decode cX8_advance 23 = .ok (.aload_n 0, 1) := by decide +kernel
theorem dX8_advance_24 : decode cX8_advance 24 = .ok (.getfield 40, 3) := by decide +kernel
theorem dX8_advance_27 : decode cX8_advance 27 = .ok (.iaload, 1) := by decide +kernel
theorem dX8_advance_28 : decode cX8_advance 28 = .ok (.bipush 32, 2) := by decide +kernel
theorem dX8_advance_30 : decode cX8_advance 30 = .ok (.if_icmp .ne 16, 3) := by decide +kernel
theorem dX8_advance_33 : decode cX8_advance 33 = .ok (.aload_n 0, 1) := by decide +kernel
theorem dX8_advance_34 : decode cX8_advance 34 = .ok (.dup, 1) := by decide +kernel
theorem dX8_advance_35 : decode cX8_advance 35 = .ok (.getfield 40, 3) := by decide +kernel
theorem dX8_advance_38 : decode cX8_advance 38 = .ok (.iconst 1, 1) := by decide +kernel
theorem dX8_advance_39 : decode cX8_advance 39 = .ok (.iadd, 1) := by decide +kernel
theorem dX8_advance_40 : decode cX8_advance 40 = .ok (.putfield 40, 3) := by decide +kernel
theorem dX8_advance_43 : decode cX8_advance 43 = .ok (.goto (-35), 3) := by decide +kernel
theorem dX8_advance_46 : decode cX8_advance 46 = .ok (.aload_n 0, 1) := by decide +kernel
theorem dX8_advance_47 : decode cX8_advance 47 = .ok (.aload_n 0, 1) := by decide +kernel
theorem dX8_advance_48 : decode cX8_advance 48 = .ok (.getfield 40, 3) := by decide +kernel
theorem dX8_advance_51 : decode cX8_advance 51 = .ok (.putfield 24, 3) := by decide +kernel
theorem dX8_advance_54 : decode cX8_advance 54 = .ok (.aload_n 0, 1) := by decide +kernel
theorem dX8_advance_55 : decode cX8_advance 55 = .ok (.getfield 40, 3) := by decide +kernel
theorem dX8_advance_58 : decode cX8_advance 58 = .ok (.aload_n 0, 1) := by decide +kernel
theorem dX8_advance_59 : decode cX8_advance 59 = .ok (.getfield 15, 3) := by decide +kernel
theorem dX8_advance_62 : decode cX8_advance 62 = .ok (.if_icmp .lt 11, 3) := by decide +kernel
theorem dX8_advance_65 : decode cX8_advance 65 = .ok (.aload_n 0, 1) := by decide +kernel
theorem dX8_advance_66 : decode cX8_advance 66 = .ok (.iconst 0, 1) := by decide +kernel
theorem dX8_advance_67 : decode cX8_advance 67 = .ok (.putfield 43, 3) := by decide +kernel
theorem dX8_advance_70 : decode cX8_advance 70 = .ok (.goto 117, 3) := by decide +kernel
theorem dX8_advance_73 : decode cX8_advance 73 = .ok (.aload_n 0, 1) := by decide +kernel
theorem dX8_advance_74 : decode cX8_advance 74 = .ok (.getfield 9, 3) := by decide +kernel
theorem dX8_advance_77 : decode cX8_advance 77 = .ok (.aload_n 0, 1) := by decide +kernel
theorem dX8_advance_78 : decode cX8_advance 78 = .ok (.getfield 40, 3) := by decide +kernel
theorem dX8_advance_81 : decode cX8_advance 81 = .ok (.iaload, 1) := by decide +kernel
theorem dX8_advance_82 : decode cX8_advance 82 = .ok (.invokestatic 88, 3) := by decide +kernel
theorem dX8_advance_85 : decode cX8_advance 85 = .ok (.ifCond .eq 47, 3) := by decide +kernel
theorem dX8_advance_88 : decode cX8_advance 88 = .ok (.aload_n 0, 1) := by decide +kernel
theorem dX8_advance_89 : decode cX8_advance 89 = .ok (.iconst 1, 1) := by decide +kernel
theorem dX8_advance_90 : decode cX8_advance 90 = .ok (.putfield 43, 3) := by decide +kernel
theorem dX8_advance_93 : decode cX8_advance 93 = .ok (.aload_n 0, 1) := by decide +kernel
theorem dX8_advance_94 : decode cX8_advance 94 = .ok (.getfield 24, 3) := by decide +kernel
theorem dX8_advance_97 : decode cX8_advance 97 = .ok (.aload_n 0, 1) := by decide +kernel
theorem dX8_advance_98 : decode cX8_advance 98 = .ok (.getfield 15, 3) := by decide +kernel
theorem dX8_advance_101 : decode cX8_advance 101 = .ok (.if_icmp .ge 86, 3) := by decide +kernel
theorem dX8_advance_104 : decode cX8_advance 104 = .ok (.aload_n 0, 1) := by decide +kernel
theorem dX8_advance_105 : decode cX8_advance 105 = .ok (.getfield 9, 3) := by decide +kernel
theorem dX8_advance_108 : decode cX8_advance 108 = .ok (.aload_n 0, 1) := by decide +kernel
theorem dX8_advance_109 : decode cX8_advance 109 = .ok (.getfield 24, 3) := by decide +kernel
theorem dX8_advance_112 : decode cX8_advance 112 = .ok (.iaload, 1) := by decide +kernel
theorem dX8_advance_113 : decode cX8_advance 113 = .ok (.invokestatic 88, 3) := by decide +kernel
theorem dX8_advance_116 : decode cX8_advance 116 = .ok (.ifCond .eq 71, 3) := by decide +kernel
theorem dX8_advance_119 : decode cX8_advance 119 = .ok (.aload_n 0, 1) := by decide +kernel
theorem dX8_advance_120 : decode cX8_advance 120 = .ok (.dup, 1) := by decide +kernel
theorem dX8_advance_121 : decode cX8_advance 121 = .ok (.getfield 24, 3) := by decide +kernel
theorem dX8_advance_124 : decode cX8_advance 124 = .ok (.iconst 1, 1) := by decide +kernel
theorem dX8_advance_125 : decode cX8_advance 125 = .ok (.iadd, 1) := by decide +kernel
theorem dX8_advance_126 : decode cX8_advance 126 = .ok (.putfield 24, 3) := by decide +kernel
theorem dX8_advance_129 : decode cX8_advance 129 = .ok (.goto (-36), 3) := by decide +kernel
theorem dX8_advance_132 : decode cX8_advance 132 = .ok (.aload_n 0, 1) := by decide +kernel
theorem dX8_advance_133 : decode cX8_advance 133 = .ok (.getfield 9, 3) := by decide +kernel
theorem dX8_advance_136 : decode cX8_advance 136 = .ok (.aload_n 0, 1) := by decide +kernel
theorem dX8_advance_137 : decode cX8_advance 137 = .ok (.getfield 40, 3) := by decide +kernel
theorem dX8_advance_140 : decode cX8_advance 140 = .ok (.iaload, 1) := by decide +kernel
theorem dX8_advance_141 : decode cX8_advance 141 = .ok (.invokestatic 92, 3) := by decide +kernel
theorem dX8_advance_144 : decode cX8_advance 144 = .ok (.ifCond .eq 10, 3) := by decide +kernel
theorem dX8_advance_147 : decode cX8_advance 147 = .ok (.aload_n 0, 1) := by decide +kernel
theorem dX8_advance_148 : decode cX8_advance 148 = .ok (.invokevirtual 95, 3) := by decide +kernel
theorem dX8_advance_151 : decode cX8_advance 151 = .ok (.goto 36, 3) := by decide +kernel
theorem dX8_advance_154 : decode cX8_advance 154 = .ok (.aload_n 0, 1) := by decide +kernel
theorem dX8_advance_155 : decode cX8_advance 155 = .ok (.aload_n 0, 1) := by decide +kernel
theorem dX8_advance_156 : decode cX8_advance 156 = .ok (.getfield 9, 3) := by decide +kernel
theorem dX8_advance_159 : decode cX8_advance 159 = .ok (.aload_n 0, 1) := by decide +kernel
theorem dX8_advance_160 : decode cX8_advance 160 = .ok (.getfield 40, 3) := by decide +kernel
theorem dX8_advance_163 : decode cX8_advance 163 = .ok (.iaload, 1) := by decide +kernel
theorem dX8_advance_164 : decode cX8_advance 164 = .ok (.bipush 59, 2) := by decide +kernel
theorem dX8_advance_166 : decode cX8_advance 166 = .ok (.if_icmp .ne 7, 3) := by decide +kernel
theorem dX8_advance_169 : decode cX8_advance 169 = .ok (.iconst 3, 1) := by decide +kernel
theorem dX8_advance_170 : decode cX8_advance 170 = .ok (.goto 4, 3) := by decide +kernel
theorem dX8_advance_173 : decode cX8_advance 173 = .ok (.iconst 4, 1) := by decide +kernel
theorem dX8_advance_174 : decode cX8_advance 174 = .ok (.putfield 43, 3) := by decide +kernel
theorem dX8_advance_177 : decode cX8_advance 177 = .ok (.aload_n 0, 1) := by decide +kernel
theorem dX8_advance_178 : decode cX8_advance 178 = .ok (.aload_n 0, 1) := by decide +kernel
theorem dX8_advance_179 : decode cX8_advance 179 = .ok (.getfield 40, 3) := by decide +kernel
theorem dX8_advance_182 : decode cX8_advance 182 = .ok (.iconst 1, 1) := by decide +kernel
theorem dX8_advance_183 : decode cX8_advance 183 = .ok (.iadd, 1) := by decide +kernel
theorem dX8_advance_184 : decode cX8_advance 184 = .ok (.putfield 24, 3) := by decide +kernel
theorem dX8_advance_187 : decode cX8_advance 187 = .ok (.return_, 1) := by decide +kernel
theorem dX8_takeFigures_0 : decode cX8_takeFigures 0 = .ok (.aload_n 0, 1) := by decide +kernel
theorem dX8_takeFigures_1 : decode cX8_takeFigures 1 = .ok (.iconst 0, 1) := by decide +kernel
theorem dX8_takeFigures_2 : decode cX8_takeFigures 2 = .ok (.putfield 61, 3) := by decide +kernel
theorem dX8_takeFigures_5 : decode cX8_takeFigures 5 = .ok (.aload_n 0, 1) := by decide +kernel
theorem dX8_takeFigures_6 : decode cX8_takeFigures 6 = .ok (.getfield 24, 3) := by decide +kernel
theorem dX8_takeFigures_9 : decode cX8_takeFigures 9 = .ok (.aload_n 0, 1) := by decide +kernel
theorem dX8_takeFigures_10 : decode cX8_takeFigures 10 = .ok (.getfield 15, 3) := by decide +kernel
theorem dX8_takeFigures_13 : decode cX8_takeFigures 13 = .ok (.if_icmp .ge 68, 3) := by decide +kernel
theorem dX8_takeFigures_16 : decode cX8_takeFigures 16 = .ok (.aload_n 0, 1) := by decide +kernel
theorem dX8_takeFigures_17 : decode cX8_takeFigures 17 = .ok (.getfield 9, 3) := by decide +kernel
theorem dX8_takeFigures_20 : decode cX8_takeFigures 20 = .ok (.aload_n 0, 1) := by decide +kernel
theorem dX8_takeFigures_21 : decode cX8_takeFigures 21 = .ok (.getfield 24, 3) := by decide +kernel
theorem dX8_takeFigures_24 : decode cX8_takeFigures 24 = .ok (.iaload, 1) := by decide +kernel
theorem dX8_takeFigures_25 : decode cX8_takeFigures 25 = .ok (.invokestatic 92, 3) := by decide +kernel
theorem dX8_takeFigures_28 : decode cX8_takeFigures 28 = .ok (.ifCond .eq 53, 3) := by decide +kernel
theorem dX8_takeFigures_31 : decode cX8_takeFigures 31 = .ok (.aload_n 0, 1) := by decide +kernel
theorem dX8_takeFigures_32 : decode cX8_takeFigures 32 = .ok (.getfield 24, 3) := by decide +kernel
theorem dX8_takeFigures_35 : decode cX8_takeFigures 35 = .ok (.aload_n 0, 1) := by decide +kernel
theorem dX8_takeFigures_36 : decode cX8_takeFigures 36 = .ok (.getfield 40, 3) := by decide +kernel
theorem dX8_takeFigures_39 : decode cX8_takeFigures 39 = .ok (.isub, 1) := by decide +kernel
theorem dX8_takeFigures_40 : decode cX8_takeFigures 40 = .ok (.iconst 2, 1) := by decide +kernel
theorem dX8_takeFigures_41 : decode cX8_takeFigures 41 = .ok (.if_icmp .ge 27, 3) := by decide +kernel
theorem dX8_takeFigures_44 : decode cX8_takeFigures 44 = .ok (.aload_n 0, 1) := by decide +kernel
theorem dX8_takeFigures_45 : decode cX8_takeFigures 45 = .ok (.bipush 10, 2) := by decide +kernel
theorem dX8_takeFigures_47 : decode cX8_takeFigures 47 = .ok (.aload_n 0, 1) := by decide +kernel
theorem dX8_takeFigures_48 : decode cX8_takeFigures 48 = .ok (.getfield 61, 3) := by decide +kernel
theorem dX8_takeFigures_51 : decode cX8_takeFigures 51 = .ok (.imul, 1) := by decide +kernel
theorem dX8_takeFigures_52 : decode cX8_takeFigures 52 = .ok (.aload_n 0, 1) := by decide +kernel
theorem dX8_takeFigures_53 : decode cX8_takeFigures 53 = .ok (.getfield 9, 3) := by decide +kernel
theorem dX8_takeFigures_56 : decode cX8_takeFigures 56 = .ok (.aload_n 0, 1) := by decide +kernel
theorem dX8_takeFigures_57 : decode cX8_takeFigures 57 = .ok (.getfield 24, 3) := by decide +kernel
theorem dX8_takeFigures_60 : decode cX8_takeFigures 60 = .ok (.iaload, 1) := by decide +kernel
theorem dX8_takeFigures_61 : decode cX8_takeFigures 61 = .ok (.iadd, 1) := by decide +kernel
theorem dX8_takeFigures_62 : decode cX8_takeFigures 62 = .ok (.bipush 48, 2) := by decide +kernel
theorem dX8_takeFigures_64 : decode cX8_takeFigures 64 = .ok (.isub, 1) := by decide +kernel
theorem dX8_takeFigures_65 : decode cX8_takeFigures 65 = .ok (.putfield 61, 3) := by decide +kernel
theorem dX8_takeFigures_68 : decode cX8_takeFigures 68 = .ok (.aload_n 0, 1) := by decide +kernel
theorem dX8_takeFigures_69 : decode cX8_takeFigures 69 = .ok (.dup, 1) := by decide +kernel
theorem dX8_takeFigures_70 : decode cX8_takeFigures 70 = .ok (.getfield 24, 3) := by decide +kernel
theorem dX8_takeFigures_73 : decode cX8_takeFigures 73 = .ok (.iconst 1, 1) := by decide +kernel
theorem dX8_takeFigures_74 : decode cX8_takeFigures 74 = .ok (.iadd, 1) := by decide +kernel
theorem dX8_takeFigures_75 : decode cX8_takeFigures 75 = .ok (.putfield 24, 3) := by decide +kernel
theorem dX8_takeFigures_78 : decode cX8_takeFigures 78 = .ok (.goto (-73), 3) := by decide +kernel
theorem dX8_takeFigures_81 : decode cX8_takeFigures 81 = .ok (.aload_n 0, 1) := by decide +kernel
theorem dX8_takeFigures_82 : decode cX8_takeFigures 82 = .ok (.aload_n 0, 1) := by decide +kernel
theorem dX8_takeFigures_83 : decode cX8_takeFigures 83 = .ok (.getfield 24, 3) := by decide +kernel
theorem dX8_takeFigures_86 : decode cX8_takeFigures 86 = .ok (.aload_n 0, 1) := by decide +kernel
theorem dX8_takeFigures_87 : decode cX8_takeFigures 87 = .ok (.getfield 40, 3) := by decide +kernel
theorem dX8_takeFigures_90 : decode cX8_takeFigures 90 = .ok (.isub, 1) := by decide +kernel
theorem dX8_takeFigures_91 : decode cX8_takeFigures 91 = .ok (.iconst 2, 1) := by decide +kernel
theorem dX8_takeFigures_92 : decode cX8_takeFigures 92 = .ok (.if_icmp .gt 7, 3) := by decide +kernel
theorem dX8_takeFigures_95 : decode cX8_takeFigures 95 = .ok (.iconst 2, 1) := by decide +kernel
theorem dX8_takeFigures_96 : decode cX8_takeFigures 96 = .ok (.goto 4, 3) := by decide +kernel
theorem dX8_takeFigures_99 : decode cX8_takeFigures 99 = .ok (.iconst 4, 1) := by decide +kernel
theorem dX8_takeFigures_100 : decode cX8_takeFigures 100 = .ok (.putfield 43, 3) := by decide +kernel
theorem dX8_takeFigures_103 : decode cX8_takeFigures 103 = .ok (.return_, 1) := by decide +kernel
theorem dX8_isLetter_0 : decode cX8_isLetter 0 = .ok (.iload_n 0, 1) := by decide +kernel
theorem dX8_isLetter_1 : decode cX8_isLetter 1 = .ok (.bipush 97, 2) := by decide +kernel
theorem dX8_isLetter_3 : decode cX8_isLetter 3 = .ok (.if_icmp .lt 13, 3) := by decide +kernel
theorem dX8_isLetter_6 : decode cX8_isLetter 6 = .ok (.iload_n 0, 1) := by decide +kernel
theorem dX8_isLetter_7 : decode cX8_isLetter 7 = .ok (.bipush 122, 2) := by decide +kernel
theorem dX8_isLetter_9 : decode cX8_isLetter 9 = .ok (.if_icmp .gt 7, 3) := by decide +kernel
theorem dX8_isLetter_12 : decode cX8_isLetter 12 = .ok (.iconst 1, 1) := by decide +kernel
theorem dX8_isLetter_13 : decode cX8_isLetter 13 = .ok (.goto 4, 3) := by decide +kernel
theorem dX8_isLetter_16 : decode cX8_isLetter 16 = .ok (.iconst 0, 1) := by decide +kernel
theorem dX8_isLetter_17 : decode cX8_isLetter 17 = .ok (.ireturn, 1) := by decide +kernel
theorem dX8_isFigure_0 : decode cX8_isFigure 0 = .ok (.iload_n 0, 1) := by decide +kernel
theorem dX8_isFigure_1 : decode cX8_isFigure 1 = .ok (.bipush 48, 2) := by decide +kernel
theorem dX8_isFigure_3 : decode cX8_isFigure 3 = .ok (.if_icmp .lt 13, 3) := by decide +kernel
theorem dX8_isFigure_6 : decode cX8_isFigure 6 = .ok (.iload_n 0, 1) := by decide +kernel
theorem dX8_isFigure_7 : decode cX8_isFigure 7 = .ok (.bipush 57, 2) := by decide +kernel
theorem dX8_isFigure_9 : decode cX8_isFigure 9 = .ok (.if_icmp .gt 7, 3) := by decide +kernel
theorem dX8_isFigure_12 : decode cX8_isFigure 12 = .ok (.iconst 1, 1) := by decide +kernel
theorem dX8_isFigure_13 : decode cX8_isFigure 13 = .ok (.goto 4, 3) := by decide +kernel
theorem dX8_isFigure_16 : decode cX8_isFigure 16 = .ok (.iconst 0, 1) := by decide +kernel
theorem dX8_isFigure_17 : decode cX8_isFigure 17 = .ok (.ireturn, 1) := by decide +kernel
theorem dX9_init_0 : decode cX9_init 0 = .ok (.aload_n 0, 1) := by decide +kernel
theorem dX9_init_1 : decode cX9_init 1 = .ok (.invokespecial 3, 3) := by decide +kernel
theorem dX9_init_4 : decode cX9_init 4 = .ok (.aload_n 0, 1) := by decide +kernel
theorem dX9_init_5 : decode cX9_init 5 = .ok (.bipush 24, 2) := by decide +kernel
theorem dX9_init_7 : decode cX9_init 7 = .ok (.newarray .int, 2) := by decide +kernel
theorem dX9_init_9 : decode cX9_init 9 = .ok (.putfield 9, 3) := by decide +kernel
theorem dX9_init_12 : decode cX9_init 12 = .ok (.return_, 1) := by decide +kernel
theorem dX9_add_0 : decode cX9_add 0 = .ok (.aload_n 0, 1) := by decide +kernel
theorem dX9_add_1 : decode cX9_add 1 = .ok (.getfield 15, 3) := by decide +kernel
theorem dX9_add_4 : decode cX9_add 4 = .ok (.bipush 6, 2) := by decide +kernel
theorem dX9_add_6 : decode cX9_add 6 = .ok (.if_icmp .lt 4, 3) := by decide +kernel
theorem dX9_add_9 : decode cX9_add 9 = .ok (.return_, 1) := by decide +kernel
theorem dX9_add_10 : decode cX9_add 10 = .ok (.aload_n 0, 1) := by decide +kernel
theorem dX9_add_11 : decode cX9_add 11 = .ok (.getfield 15, 3) := by decide +kernel
theorem dX9_add_14 : decode cX9_add 14 = .ok (.iconst 4, 1) := by decide +kernel
theorem dX9_add_15 : decode cX9_add 15 = .ok (.imul, 1) := by decide +kernel
theorem dX9_add_16 : decode cX9_add 16 = .ok (.istore 5, 2) := by decide +kernel
theorem dX9_add_18 : decode cX9_add 18 = .ok (.aload_n 0, 1) := by decide +kernel
theorem dX9_add_19 : decode cX9_add 19 = .ok (.getfield 9, 3) := by decide +kernel
theorem dX9_add_22 : decode cX9_add 22 = .ok (.iload 5, 2) := by decide +kernel
theorem dX9_add_24 : decode cX9_add 24 = .ok (.iload_n 1, 1) := by decide +kernel
theorem dX9_add_25 : decode cX9_add 25 = .ok (.iastore, 1) := by decide +kernel
theorem dX9_add_26 : decode cX9_add 26 = .ok (.aload_n 0, 1) := by decide +kernel
theorem dX9_add_27 : decode cX9_add 27 = .ok (.getfield 9, 3) := by decide +kernel
theorem dX9_add_30 : decode cX9_add 30 = .ok (.iload 5, 2) := by decide +kernel
theorem dX9_add_32 : decode cX9_add 32 = .ok (.iconst 1, 1) := by decide +kernel
theorem dX9_add_33 : decode cX9_add 33 = .ok (.iadd, 1) := by decide +kernel
theorem dX9_add_34 : decode cX9_add 34 = .ok (.iload_n 2, 1) := by decide +kernel
theorem dX9_add_35 : decode cX9_add 35 = .ok (.iastore, 1) := by decide +kernel
theorem dX9_add_36 : decode cX9_add 36 = .ok (.aload_n 0, 1) := by decide +kernel
theorem dX9_add_37 : decode cX9_add 37 = .ok (.getfield 9, 3) := by decide +kernel
theorem dX9_add_40 : decode cX9_add 40 = .ok (.iload 5, 2) := by decide +kernel
theorem dX9_add_42 : decode cX9_add 42 = .ok (.iconst 2, 1) := by decide +kernel
theorem dX9_add_43 : decode cX9_add 43 = .ok (.iadd, 1) := by decide +kernel
theorem dX9_add_44 : decode cX9_add 44 = .ok (.iload_n 3, 1) := by decide +kernel
theorem dX9_add_45 : decode cX9_add 45 = .ok (.iastore, 1) := by decide +kernel
theorem dX9_add_46 : decode cX9_add 46 = .ok (.aload_n 0, 1) := by decide +kernel
theorem dX9_add_47 : decode cX9_add 47 = .ok (.getfield 9, 3) := by decide +kernel
theorem dX9_add_50 : decode cX9_add 50 = .ok (.iload 5, 2) := by decide +kernel
theorem dX9_add_52 : decode cX9_add 52 = .ok (.iconst 3, 1) := by decide +kernel
theorem dX9_add_53 : decode cX9_add 53 = .ok (.iadd, 1) := by decide +kernel
theorem dX9_add_54 : decode cX9_add 54 = .ok (.iload 4, 2) := by decide +kernel
theorem dX9_add_56 : decode cX9_add 56 = .ok (.iastore, 1) := by decide +kernel
theorem dX9_add_57 : decode cX9_add 57 = .ok (.aload_n 0, 1) := by decide +kernel
theorem dX9_add_58 : decode cX9_add 58 = .ok (.dup, 1) := by decide +kernel
theorem dX9_add_59 : decode cX9_add 59 = .ok (.getfield 15, 3) := by decide +kernel
theorem dX9_add_62 : decode cX9_add 62 = .ok (.iconst 1, 1) := by decide +kernel
theorem dX9_add_63 : decode cX9_add 63 = .ok (.iadd, 1) := by decide +kernel
theorem dX9_add_64 : decode cX9_add 64 = .ok (.putfield 15, 3) := by decide +kernel
theorem dX9_add_67 : decode cX9_add 67 = .ok (.return_, 1) := by decide +kernel
theorem dX9_cell_0 : decode cX9_cell 0 = .ok (.iload_n 1, 1) := by decide +kernel
theorem dX9_cell_1 : decode cX9_cell 1 = .ok (.ifCond .lt 20, 3) := by decide +kernel
theorem dX9_cell_4 : decode cX9_cell 4 = .ok (.iload_n 1, 1) := by decide +kernel
theorem dX9_cell_5 : decode cX9_cell 5 = .ok (.aload_n 0, 1) := by decide +kernel
theorem dX9_cell_6 : decode cX9_cell 6 = .ok (.getfield 15, 3) := by decide +kernel
theorem dX9_cell_9 : decode cX9_cell 9 = .ok (.if_icmp .ge 12, 3) := by decide +kernel
theorem dX9_cell_12 : decode cX9_cell 12 = .ok (.iload_n 2, 1) := by decide +kernel
theorem dX9_cell_13 : decode cX9_cell 13 = .ok (.ifCond .lt 8, 3) := by decide +kernel
theorem dX9_cell_16 : decode cX9_cell 16 = .ok (.iload_n 2, 1) := by decide +kernel
theorem dX9_cell_17 : decode cX9_cell 17 = .ok (.iconst 4, 1) := by decide +kernel
theorem dX9_cell_18 : decode cX9_cell 18 = .ok (.if_icmp .lt 5, 3) := by decide +kernel
theorem dX9_cell_21 : decode cX9_cell 21 = .ok (.iconst (-1), 1) := by decide +kernel
theorem dX9_cell_22 : decode cX9_cell 22 = .ok (.ireturn, 1) := by decide +kernel
theorem dX9_cell_23 : decode cX9_cell 23 = .ok (.aload_n 0, 1) := by decide +kernel
theorem dX9_cell_24 : decode cX9_cell 24 = .ok (.getfield 9, 3) := by decide +kernel
theorem dX9_cell_27 : decode cX9_cell 27 = .ok (.iload_n 1, 1) := by decide +kernel
theorem dX9_cell_28 : decode cX9_cell 28 = .ok (.iconst 4, 1) := by decide +kernel
theorem dX9_cell_29 : decode cX9_cell 29 = .ok (.imul, 1) := by decide +kernel
theorem dX9_cell_30 : decode cX9_cell 30 = .ok (.iload_n 2, 1) := by decide +kernel
theorem dX9_cell_31 : decode cX9_cell 31 = .ok (.iadd, 1) := by decide +kernel
theorem dX9_cell_32 : decode cX9_cell 32 = .ok (.iaload, 1) := by decide +kernel
theorem dX9_cell_33 : decode cX9_cell 33 = .ok (.ireturn, 1) := by decide +kernel
theorem dX9_takeRows_0 : decode cX9_takeRows 0 = .ok (.aload_n 1, 1) := by decide +kernel
theorem dX9_takeRows_1 : decode cX9_takeRows 1 = .ok (.getfield 9, 3) := by decide +kernel
theorem dX9_takeRows_4 : decode cX9_takeRows 4 = .ok (.iconst 0, 1) := by decide +kernel
theorem dX9_takeRows_5 : decode cX9_takeRows 5 = .ok (.aload_n 0, 1) := by decide +kernel
theorem dX9_takeRows_6 : decode cX9_takeRows 6 = .ok (.getfield 9, 3) := by decide +kernel
theorem dX9_takeRows_9 : decode cX9_takeRows 9 = .ok (.iconst 0, 1) := by decide +kernel
theorem dX9_takeRows_10 : decode cX9_takeRows 10 = .ok (.aload_n 0, 1) := by decide +kernel
theorem dX9_takeRows_11 : decode cX9_takeRows 11 = .ok (.getfield 9, 3) := by decide +kernel
theorem dX9_takeRows_14 : decode cX9_takeRows 14 = .ok (.arraylength, 1) := by decide +kernel
theorem dX9_takeRows_15 : decode cX9_takeRows 15 = .ok (.invokestatic 19, 3) := by decide +kernel
theorem dX9_takeRows_18 : decode cX9_takeRows 18 = .ok (.aload_n 0, 1) := by decide +kernel
theorem dX9_takeRows_19 : decode cX9_takeRows 19 = .ok (.aload_n 1, 1) := by decide +kernel
theorem dX9_takeRows_20 : decode cX9_takeRows 20 = .ok (.getfield 15, 3) := by decide +kernel
theorem dX9_takeRows_23 : decode cX9_takeRows 23 = .ok (.putfield 15, 3) := by decide +kernel
theorem dX9_takeRows_26 : decode cX9_takeRows 26 = .ok (.return_, 1) := by decide +kernel
theorem dX9_mixedInto_0 : decode cX9_mixedInto 0 = .ok (.iconst 0, 1) := by decide +kernel
theorem dX9_mixedInto_1 : decode cX9_mixedInto 1 = .ok (.istore_n 3, 1) := by decide +kernel
theorem dX9_mixedInto_2 : decode cX9_mixedInto 2 = .ok (.iload_n 3, 1) := by decide +kernel
theorem dX9_mixedInto_3 : decode cX9_mixedInto 3 = .ok (.aload_n 0, 1) := by decide +kernel
theorem dX9_mixedInto_4 : decode cX9_mixedInto 4 = .ok (.getfield 15, 3) := by decide +kernel
theorem dX9_mixedInto_7 : decode cX9_mixedInto 7 = .ok (.iconst 4, 1) := by decide +kernel
theorem dX9_mixedInto_8 : decode cX9_mixedInto 8 = .ok (.imul, 1) := by decide +kernel
theorem dX9_mixedInto_9 : decode cX9_mixedInto 9 = .ok (.if_icmp .ge 23, 3) := by decide +kernel
theorem dX9_mixedInto_12 : decode cX9_mixedInto 12 = .ok (.ldc2_w 25, 3) := by decide +kernel
theorem dX9_mixedInto_15 : decode cX9_mixedInto 15 = .ok (.lload_n 1, 1) := by decide +kernel
theorem dX9_mixedInto_16 : decode cX9_mixedInto 16 = .ok (.lmul, 1) := by decide +kernel
theorem dX9_mixedInto_17 : decode cX9_mixedInto 17 = .ok (.aload_n 0, 1) := by decide +kernel
theorem dX9_mixedInto_18 : decode cX9_mixedInto 18 = .ok (.getfield 9, 3) := by decide +kernel
theorem dX9_mixedInto_21 : decode cX9_mixedInto 21 = .ok (.iload_n 3, 1) := by decide +kernel
theorem dX9_mixedInto_22 : decode cX9_mixedInto 22 = .ok (.iaload, 1) := by decide +kernel
theorem dX9_mixedInto_23 : decode cX9_mixedInto 23 = .ok (.i2l, 1) := by decide +kernel
theorem dX9_mixedInto_24 : decode cX9_mixedInto 24 = .ok (.ladd, 1) := by decide +kernel
theorem dX9_mixedInto_25 : decode cX9_mixedInto 25 = .ok (.lstore_n 1, 1) := by decide +kernel
theorem dX9_mixedInto_26 : decode cX9_mixedInto 26 = .ok (.iinc 3 1, 3) := by decide +kernel
theorem dX9_mixedInto_29 : decode cX9_mixedInto 29 = .ok (.goto (-27), 3) := by decide +kernel
theorem dX9_mixedInto_32 : decode cX9_mixedInto 32 = .ok (.lload_n 1, 1) := by decide +kernel
theorem dX9_mixedInto_33 : decode cX9_mixedInto 33 = .ok (.lreturn, 1) := by decide +kernel
theorem dX10_init_0 : decode cX10_init 0 = .ok (.aload_n 0, 1) := by decide +kernel
theorem dX10_init_1 : decode cX10_init 1 = .ok (.invokespecial 3, 3) := by decide +kernel
theorem dX10_init_4 : decode cX10_init 4 = .ok (.aload_n 0, 1) := by decide +kernel
theorem dX10_init_5 : decode cX10_init 5 = .ok (.bipush 8, 2) := by decide +kernel
theorem dX10_init_7 : decode cX10_init 7 = .ok (.newarray .int, 2) := by decide +kernel
theorem dX10_init_9 : decode cX10_init 9 = .ok (.putfield 9, 3) := by decide +kernel
theorem dX10_init_12 : decode cX10_init 12 = .ok (.aload_n 0, 1) := by decide +kernel
theorem dX10_init_13 : decode cX10_init 13 = .ok (.bipush 8, 2) := by decide +kernel
theorem dX10_init_15 : decode cX10_init 15 = .ok (.newarray .int, 2) := by decide +kernel
theorem dX10_init_17 : decode cX10_init 17 = .ok (.putfield 15, 3) := by decide +kernel
theorem dX10_init_20 : decode cX10_init 20 = .ok (.aload_n 0, 1) := by decide +kernel
theorem dX10_init_21 : decode cX10_init 21 = .ok (.bipush 6, 2) := by decide +kernel
theorem dX10_init_23 : decode cX10_init 23 = .ok (.newarray .int, 2) := by decide +kernel
theorem dX10_init_25 : decode cX10_init 25 = .ok (.putfield 18, 3) := by decide +kernel
theorem dX10_init_28 : decode cX10_init 28 = .ok (.aload_n 0, 1) := by decide +kernel
theorem dX10_init_29 : decode cX10_init 29 = .ok (.bipush 18, 2) := by decide +kernel
theorem dX10_init_31 : decode cX10_init 31 = .ok (.newarray .int, 2) := by decide +kernel
theorem dX10_init_33 : decode cX10_init 33 = .ok (.putfield 21, 3) := by decide +kernel
theorem dX10_init_36 : decode cX10_init 36 = .ok (.aload_n 0, 1) := by decide +kernel
theorem dX10_init_37 : decode cX10_init 37 = .ok (.bipush 6, 2) := by decide +kernel
theorem dX10_init_39 : decode cX10_init 39 = .ok (.newarray .int, 2) := by decide +kernel
theorem dX10_init_41 : decode cX10_init 41 = .ok (.putfield 24, 3) := by decide +kernel
theorem dX10_init_44 : decode cX10_init 44 = .ok (.aload_n 0, 1) := by decide +kernel
theorem dX10_init_45 : decode cX10_init 45 = .ok (.bipush 6, 2) := by decide +kernel
theorem dX10_init_47 : decode cX10_init 47 = .ok (.newarray .int, 2) := by decide +kernel
theorem dX10_init_49 : decode cX10_init 49 = .ok (.putfield 27, 3) := by decide +kernel
theorem dX10_init_52 : decode cX10_init 52 = .ok (.aload_n 0, 1) := by decide +kernel
theorem dX10_init_53 : decode cX10_init 53 = .ok (.bipush 8, 2) := by decide +kernel
theorem dX10_init_55 : decode cX10_init 55 = .ok (.newarray .int, 2) := by decide +kernel
theorem dX10_init_57 : decode cX10_init 57 = .ok (.putfield 30, 3) := by decide +kernel
theorem dX10_init_60 : decode cX10_init 60 = .ok (.aload_n 0, 1) := by decide +kernel
theorem dX10_init_61 : decode cX10_init 61 = .ok (.bipush 8, 2) := by decide +kernel
theorem dX10_init_63 : decode cX10_init 63 = .ok (.newarray .int, 2) := by decide +kernel
theorem dX10_init_65 : decode cX10_init 65 = .ok (.putfield 33, 3) := by decide +kernel
theorem dX10_init_68 : decode cX10_init 68 = .ok (.aload_n 0, 1) := by decide +kernel
theorem dX10_init_69 : decode cX10_init 69 = .ok (.new 36, 3) := by decide +kernel
theorem dX10_init_72 : decode cX10_init 72 = .ok (.dup, 1) := by decide +kernel
theorem dX10_init_73 : decode cX10_init 73 = .ok (.invokespecial 38, 3) := by decide +kernel
theorem dX10_init_76 : decode cX10_init 76 = .ok (.putfield 39, 3) := by decide +kernel
theorem dX10_init_79 : decode cX10_init 79 = .ok (.aload_n 0, 1) := by decide +kernel
theorem dX10_init_80 : decode cX10_init 80 = .ok (.new 36, 3) := by decide +kernel
theorem dX10_init_83 : decode cX10_init 83 = .ok (.dup, 1) := by decide +kernel
theorem dX10_init_84 : decode cX10_init 84 = .ok (.invokespecial 38, 3) := by decide +kernel
theorem dX10_init_87 : decode cX10_init 87 = .ok (.putfield 43, 3) := by decide +kernel
theorem dX10_init_90 : decode cX10_init 90 = .ok (.aload_n 0, 1) := by decide +kernel
theorem dX10_init_91 : decode cX10_init 91 = .ok (.invokevirtual 46, 3) := by decide +kernel
theorem dX10_init_94 : decode cX10_init 94 = .ok (.return_, 1) := by decide +kernel
theorem dX10_empty_0 : decode cX10_empty 0 = .ok (.aload_n 0, 1) := by decide +kernel
theorem dX10_empty_1 : decode cX10_empty 1 = .ok (.getfield 9, 3) := by decide +kernel
theorem dX10_empty_4 : decode cX10_empty 4 = .ok (.iconst (-1), 1) := by decide +kernel
theorem dX10_empty_5 : decode cX10_empty 5 = .ok (.invokestatic 49, 3) := by decide +kernel
theorem dX10_empty_8 : decode cX10_empty 8 = .ok (.aload_n 0, 1) := by decide +kernel
theorem dX10_empty_9 : decode cX10_empty 9 = .ok (.getfield 15, 3) := by decide +kernel
theorem dX10_empty_12 : decode cX10_empty 12 = .ok (.iconst 0, 1) := by decide +kernel
theorem dX10_empty_13 : decode cX10_empty 13 = .ok (.invokestatic 49, 3) := by decide +kernel
theorem dX10_empty_16 : decode cX10_empty 16 = .ok (.aload_n 0, 1) := by decide +kernel
theorem dX10_empty_17 : decode cX10_empty 17 = .ok (.iconst 0, 1) := by decide +kernel
theorem dX10_empty_18 : decode cX10_empty 18 = .ok (.putfield 55, 3) := by decide +kernel
theorem dX10_empty_21 : decode cX10_empty 21 = .ok (.aload_n 0, 1) := by decide +kernel
theorem dX10_empty_22 : decode cX10_empty 22 = .ok (.iconst 0, 1) := by decide +kernel
theorem dX10_empty_23 : decode cX10_empty 23 = .ok (.putfield 59, 3) := by decide +kernel
theorem dX10_empty_26 : decode cX10_empty 26 = .ok (.aload_n 0, 1) := by decide +kernel
theorem dX10_empty_27 : decode cX10_empty 27 = .ok (.iconst 0, 1) := by decide +kernel
theorem dX10_empty_28 : decode cX10_empty 28 = .ok (.putfield 62, 3) := by decide +kernel
theorem dX10_empty_31 : decode cX10_empty 31 = .ok (.aload_n 0, 1) := by decide +kernel
theorem dX10_empty_32 : decode cX10_empty 32 = .ok (.getfield 39, 3) := by decide +kernel
theorem dX10_empty_35 : decode cX10_empty 35 = .ok (.iconst 0, 1) := by decide +kernel
theorem dX10_empty_36 : decode cX10_empty 36 = .ok (.putfield 65, 3) := by decide +kernel
theorem dX10_empty_39 : decode cX10_empty 39 = .ok (.aload_n 0, 1) := by decide +kernel
theorem dX10_empty_40 : decode cX10_empty 40 = .ok (.getfield 43, 3) := by decide +kernel
theorem dX10_empty_43 : decode cX10_empty 43 = .ok (.iconst 0, 1) := by decide +kernel
theorem dX10_empty_44 : decode cX10_empty 44 = .ok (.putfield 65, 3) := by decide +kernel
theorem dX10_empty_47 : decode cX10_empty 47 = .ok (.return_, 1) := by decide +kernel
theorem dX10_setPrize_0 : decode cX10_setPrize 0 = .ok (.aload_n 0, 1) := by decide +kernel
theorem dX10_setPrize_1 : decode cX10_setPrize 1 = .ok (.getfield 9, 3) := by decide +kernel
theorem dX10_setPrize_4 : decode cX10_setPrize 4 = .ok (.iload_n 1, 1) := by decide +kernel
theorem dX10_setPrize_5 : decode cX10_setPrize 5 = .ok (.iload_n 2, 1) := by decide +kernel
theorem dX10_setPrize_6 : decode cX10_setPrize 6 = .ok (.iastore, 1) := by decide +kernel
theorem dX10_setPrize_7 : decode cX10_setPrize 7 = .ok (.aload_n 0, 1) := by decide +kernel
theorem dX10_setPrize_8 : decode cX10_setPrize 8 = .ok (.getfield 15, 3) := by decide +kernel
theorem dX10_setPrize_11 : decode cX10_setPrize 11 = .ok (.iload_n 1, 1) := by decide +kernel
theorem dX10_setPrize_12 : decode cX10_setPrize 12 = .ok (.iload_n 3, 1) := by decide +kernel
theorem dX10_setPrize_13 : decode cX10_setPrize 13 = .ok (.iastore, 1) := by decide +kernel
theorem dX10_setPrize_14 : decode cX10_setPrize 14 = .ok (.return_, 1) := by decide +kernel
theorem dX10_addOne_0 : decode cX10_addOne 0 = .ok (.aload_n 0, 1) := by decide +kernel
theorem dX10_addOne_1 : decode cX10_addOne 1 = .ok (.getfield 55, 3) := by decide +kernel
theorem dX10_addOne_4 : decode cX10_addOne 4 = .ok (.bipush 6, 2) := by decide +kernel
theorem dX10_addOne_6 : decode cX10_addOne 6 = .ok (.if_icmp .lt 4, 3) := by decide +kernel
theorem dX10_addOne_9 : decode cX10_addOne 9 = .ok (.return_, 1) := by decide +kernel
theorem dX10_addOne_10 : decode cX10_addOne 10 = .ok (.aload_n 0, 1) := by decide +kernel
theorem dX10_addOne_11 : decode cX10_addOne 11 = .ok (.getfield 18, 3) := by decide +kernel
theorem dX10_addOne_14 : decode cX10_addOne 14 = .ok (.aload_n 0, 1) := by decide +kernel
theorem dX10_addOne_15 : decode cX10_addOne 15 = .ok (.getfield 55, 3) := by decide +kernel
theorem dX10_addOne_18 : decode cX10_addOne 18 = .ok (.iload_n 1, 1) := by decide +kernel
theorem dX10_addOne_19 : decode cX10_addOne 19 = .ok (.iastore, 1) := by decide +kernel
theorem dX10_addOne_20 : decode cX10_addOne 20 = .ok (.aload_n 0, 1) := by decide +kernel
theorem dX10_addOne_21 : decode cX10_addOne 21 = .ok (.getfield 21, 3) := by decide +kernel
theorem dX10_addOne_24 : decode cX10_addOne 24 = .ok (.aload_n 0, 1) := by decide +kernel
theorem dX10_addOne_25 : decode cX10_addOne 25 = .ok (.getfield 55, 3) := by decide +kernel
theorem dX10_addOne_28 : decode cX10_addOne 28 = .ok (.iconst 3, 1) := by decide +kernel
theorem dX10_addOne_29 : decode cX10_addOne 29 = .ok (.imul, 1) := by decide +kernel
theorem dX10_addOne_30 : decode cX10_addOne 30 = .ok (.iload_n 2, 1) := by decide +kernel
theorem dX10_addOne_31 : decode cX10_addOne 31 = .ok (.iastore, 1) := by decide +kernel
theorem dX10_addOne_32 : decode cX10_addOne 32 = .ok (.aload_n 0, 1) := by decide +kernel
theorem dX10_addOne_33 : decode cX10_addOne 33 = .ok (.getfield 21, 3) := by decide +kernel
theorem dX10_addOne_36 : decode cX10_addOne 36 = .ok (.aload_n 0, 1) := by decide +kernel
theorem dX10_addOne_37 : decode cX10_addOne 37 = .ok (.getfield 55, 3) := by decide +kernel
theorem dX10_addOne_40 : decode cX10_addOne 40 = .ok (.iconst 3, 1) := by decide +kernel
theorem dX10_addOne_41 : decode cX10_addOne 41 = .ok (.imul, 1) := by decide +kernel
theorem dX10_addOne_42 : decode cX10_addOne 42 = .ok (.iconst 1, 1) := by decide +kernel
theorem dX10_addOne_43 : decode cX10_addOne 43 = .ok (.iadd, 1) := by decide +kernel
theorem dX10_addOne_44 : decode cX10_addOne 44 = .ok (.iload_n 3, 1) := by decide +kernel
theorem dX10_addOne_45 : decode cX10_addOne 45 = .ok (.iastore, 1) := by decide +kernel
theorem dX10_addOne_46 : decode cX10_addOne 46 = .ok (.aload_n 0, 1) := by decide +kernel
theorem dX10_addOne_47 : decode cX10_addOne 47 = .ok (.getfield 21, 3) := by decide +kernel
theorem dX10_addOne_50 : decode cX10_addOne 50 = .ok (.aload_n 0, 1) := by decide +kernel
theorem dX10_addOne_51 : decode cX10_addOne 51 = .ok (.getfield 55, 3) := by decide +kernel
theorem dX10_addOne_54 : decode cX10_addOne 54 = .ok (.iconst 3, 1) := by decide +kernel
theorem dX10_addOne_55 : decode cX10_addOne 55 = .ok (.imul, 1) := by decide +kernel
theorem dX10_addOne_56 : decode cX10_addOne 56 = .ok (.iconst 2, 1) := by decide +kernel
theorem dX10_addOne_57 : decode cX10_addOne 57 = .ok (.iadd, 1) := by decide +kernel
theorem dX10_addOne_58 : decode cX10_addOne 58 = .ok (.iload 4, 2) := by decide +kernel
theorem dX10_addOne_60 : decode cX10_addOne 60 = .ok (.iastore, 1) := by decide +kernel
theorem dX10_addOne_61 : decode cX10_addOne 61 = .ok (.aload_n 0, 1) := by decide +kernel
theorem dX10_addOne_62 : decode cX10_addOne 62 = .ok (.getfield 24, 3) := by decide +kernel
theorem dX10_addOne_65 : decode cX10_addOne 65 = .ok (.aload_n 0, 1) := by decide +kernel
theorem dX10_addOne_66 : decode cX10_addOne 66 = .ok (.getfield 55, 3) := by decide +kernel
theorem dX10_addOne_69 : decode cX10_addOne 69 = .ok (.iconst 0, 1) := by decide +kernel
theorem dX10_addOne_70 : decode cX10_addOne 70 = .ok (.iastore, 1) := by decide +kernel
theorem dX10_addOne_71 : decode cX10_addOne 71 = .ok (.aload_n 0, 1) := by decide +kernel
theorem dX10_addOne_72 : decode cX10_addOne 72 = .ok (.getfield 27, 3) := by decide +kernel
theorem dX10_addOne_75 : decode cX10_addOne 75 = .ok (.aload_n 0, 1) := by decide +kernel
theorem dX10_addOne_76 : decode cX10_addOne 76 = .ok (.getfield 55, 3) := by decide +kernel
theorem dX10_addOne_79 : decode cX10_addOne 79 = .ok (.iconst 0, 1) := by decide +kernel
theorem dX10_addOne_80 : decode cX10_addOne 80 = .ok (.iastore, 1) := by decide +kernel
theorem dX10_addOne_81 : decode cX10_addOne 81 = .ok (.aload_n 0, 1) := by decide +kernel
theorem dX10_addOne_82 : decode cX10_addOne 82 = .ok (.dup, 1) := by decide +kernel
theorem dX10_addOne_83 : decode cX10_addOne 83 = .ok (.getfield 55, 3) := by decide +kernel
theorem dX10_addOne_86 : decode cX10_addOne 86 = .ok (.iconst 1, 1) := by decide +kernel
theorem dX10_addOne_87 : decode cX10_addOne 87 = .ok (.iadd, 1) := by decide +kernel
theorem dX10_addOne_88 : decode cX10_addOne 88 = .ok (.putfield 55, 3) := by decide +kernel
theorem dX10_addOne_91 : decode cX10_addOne 91 = .ok (.return_, 1) := by decide +kernel
theorem dX10_takeCourse_0 : decode cX10_takeCourse 0 = .ok (.aload_n 1, 1) := by decide +kernel
theorem dX10_takeCourse_1 : decode cX10_takeCourse 1 = .ok (.getfield 9, 3) := by decide +kernel
theorem dX10_takeCourse_4 : decode cX10_takeCourse 4 = .ok (.iconst 0, 1) := by decide +kernel
theorem dX10_takeCourse_5 : decode cX10_takeCourse 5 = .ok (.aload_n 0, 1) := by decide +kernel
theorem dX10_takeCourse_6 : decode cX10_takeCourse 6 = .ok (.getfield 9, 3) := by decide +kernel
theorem dX10_takeCourse_9 : decode cX10_takeCourse 9 = .ok (.iconst 0, 1) := by decide +kernel
theorem dX10_takeCourse_10 : decode cX10_takeCourse 10 = .ok (.bipush 8, 2) := by decide +kernel
theorem dX10_takeCourse_12 : decode cX10_takeCourse 12 = .ok (.invokestatic 68, 3) := by decide +kernel
theorem dX10_takeCourse_15 : decode cX10_takeCourse 15 = .ok (.aload_n 1, 1) := by decide +kernel
theorem dX10_takeCourse_16 : decode cX10_takeCourse 16 = .ok (.getfield 15, 3) := by decide +kernel
theorem dX10_takeCourse_19 : decode cX10_takeCourse 19 = .ok (.iconst 0, 1) := by decide +kernel
theorem dX10_takeCourse_20 : decode cX10_takeCourse 20 = .ok (.aload_n 0, 1) := by decide +kernel
theorem dX10_takeCourse_21 : decode cX10_takeCourse 21 = .ok (.getfield 15, 3) := by decide +kernel
theorem dX10_takeCourse_24 : decode cX10_takeCourse 24 = .ok (.iconst 0, 1) := by decide +kernel
theorem dX10_takeCourse_25 : decode cX10_takeCourse 25 = .ok (.bipush 8, 2) := by decide +kernel
theorem dX10_takeCourse_27 : decode cX10_takeCourse 27 = .ok (.invokestatic 68, 3) := by decide +kernel
theorem dX10_takeCourse_30 : decode cX10_takeCourse 30 = .ok (.aload_n 1, 1) := by decide +kernel
theorem dX10_takeCourse_31 : decode cX10_takeCourse 31 = .ok (.getfield 18, 3) := by decide +kernel
theorem dX10_takeCourse_34 : decode cX10_takeCourse 34 = .ok (.iconst 0, 1) := by decide +kernel
theorem dX10_takeCourse_35 : decode cX10_takeCourse 35 = .ok (.aload_n 0, 1) := by decide +kernel
theorem dX10_takeCourse_36 : decode cX10_takeCourse 36 = .ok (.getfield 18, 3) := by decide +kernel
theorem dX10_takeCourse_39 : decode cX10_takeCourse 39 = .ok (.iconst 0, 1) := by decide +kernel
theorem dX10_takeCourse_40 : decode cX10_takeCourse 40 = .ok (.bipush 6, 2) := by decide +kernel
theorem dX10_takeCourse_42 : decode cX10_takeCourse 42 = .ok (.invokestatic 68, 3) := by decide +kernel
theorem dX10_takeCourse_45 : decode cX10_takeCourse 45 = .ok (.aload_n 1, 1) := by decide +kernel
theorem dX10_takeCourse_46 : decode cX10_takeCourse 46 = .ok (.getfield 21, 3) := by decide +kernel
theorem dX10_takeCourse_49 : decode cX10_takeCourse 49 = .ok (.iconst 0, 1) := by decide +kernel
theorem dX10_takeCourse_50 : decode cX10_takeCourse 50 = .ok (.aload_n 0, 1) := by decide +kernel
theorem dX10_takeCourse_51 : decode cX10_takeCourse 51 = .ok (.getfield 21, 3) := by decide +kernel
theorem dX10_takeCourse_54 : decode cX10_takeCourse 54 = .ok (.iconst 0, 1) := by decide +kernel
theorem dX10_takeCourse_55 : decode cX10_takeCourse 55 = .ok (.bipush 18, 2) := by decide +kernel
theorem dX10_takeCourse_57 : decode cX10_takeCourse 57 = .ok (.invokestatic 68, 3) := by decide +kernel
theorem dX10_takeCourse_60 : decode cX10_takeCourse 60 = .ok (.aload_n 1, 1) := by decide +kernel
theorem dX10_takeCourse_61 : decode cX10_takeCourse 61 = .ok (.getfield 24, 3) := by decide +kernel
theorem dX10_takeCourse_64 : decode cX10_takeCourse 64 = .ok (.iconst 0, 1) := by decide +kernel
theorem dX10_takeCourse_65 : decode cX10_takeCourse 65 = .ok (.aload_n 0, 1) := by decide +kernel
theorem dX10_takeCourse_66 : decode cX10_takeCourse 66 = .ok (.getfield 24, 3) := by decide +kernel
theorem dX10_takeCourse_69 : decode cX10_takeCourse 69 = .ok (.iconst 0, 1) := by decide +kernel
theorem dX10_takeCourse_70 : decode cX10_takeCourse 70 = .ok (.bipush 6, 2) := by decide +kernel
theorem dX10_takeCourse_72 : decode cX10_takeCourse 72 = .ok (.invokestatic 68, 3) := by decide +kernel
theorem dX10_takeCourse_75 : decode cX10_takeCourse 75 = .ok (.aload_n 1, 1) := by decide +kernel
theorem dX10_takeCourse_76 : decode cX10_takeCourse 76 = .ok (.getfield 27, 3) := by decide +kernel
theorem dX10_takeCourse_79 : decode cX10_takeCourse 79 = .ok (.iconst 0, 1) := by decide +kernel
theorem dX10_takeCourse_80 : decode cX10_takeCourse 80 = .ok (.aload_n 0, 1) := by decide +kernel
theorem dX10_takeCourse_81 : decode cX10_takeCourse 81 = .ok (.getfield 27, 3) := by decide +kernel
theorem dX10_takeCourse_84 : decode cX10_takeCourse 84 = .ok (.iconst 0, 1) := by decide +kernel
theorem dX10_takeCourse_85 : decode cX10_takeCourse 85 = .ok (.bipush 6, 2) := by decide +kernel
theorem dX10_takeCourse_87 : decode cX10_takeCourse 87 = .ok (.invokestatic 68, 3) := by decide +kernel
theorem dX10_takeCourse_90 : decode cX10_takeCourse 90 = .ok (.aload_n 0, 1) := by decide +kernel
theorem dX10_takeCourse_91 : decode cX10_takeCourse 91 = .ok (.aload_n 1, 1) := by decide +kernel
theorem dX10_takeCourse_92 : decode cX10_takeCourse 92 = .ok (.getfield 55, 3) := by decide +kernel
theorem dX10_takeCourse_95 : decode cX10_takeCourse 95 = .ok (.putfield 55, 3) := by decide +kernel
theorem dX10_takeCourse_98 : decode cX10_takeCourse 98 = .ok (.aload_n 0, 1) := by decide +kernel
theorem dX10_takeCourse_99 : decode cX10_takeCourse 99 = .ok (.aload_n 1, 1) := by decide +kernel
theorem dX10_takeCourse_100 : decode cX10_takeCourse 100 = .ok (.getfield 59, 3) := by decide +kernel
theorem dX10_takeCourse_103 : decode cX10_takeCourse 103 = .ok (.putfield 59, 3) := by decide +kernel
end
section
theorem dX10_takeCourse_106 : decode cX10_takeCourse 106 = .ok (.aload_n 0, 1) := by decide +kernel
theorem dX10_takeCourse_107 : decode cX10_takeCourse 107 = .ok (.aload_n 1, 1) := by decide +kernel
theorem dX10_takeCourse_108 : decode cX10_takeCourse 108 = .ok (.getfield 62, 3) := by decide +kernel
theorem dX10_takeCourse_111 : decode cX10_takeCourse 111 = .ok (.putfield 62, 3) := by decide +kernel
theorem dX10_takeCourse_114 : decode cX10_takeCourse 114 = .ok (.return_, 1) := by decide +kernel
theorem dX10_take_0 : decode cX10_take 0 = .ok (.aload_n 0, 1) := by decide +kernel
theorem dX10_take_1 : decode cX10_take 1 = .ok (.aload_n 1, 1) := by decide +kernel
theorem dX10_take_2 : decode cX10_take 2 = .ok (.invokevirtual 74, 3) := by decide +kernel
theorem dX10_take_5 : decode cX10_take 5 = .ok (.aload_n 1, 1) := by decide +kernel
theorem dX10_take_6 : decode cX10_take 6 = .ok (.getfield 30, 3) := by decide +kernel
theorem dX10_take_9 : decode cX10_take 9 = .ok (.iconst 0, 1) := by decide +kernel
theorem dX10_take_10 : decode cX10_take 10 = .ok (.aload_n 0, 1) := by decide +kernel
theorem dX10_take_11 : decode cX10_take 11 = .ok (.getfield 30, 3) := by decide +kernel
theorem dX10_take_14 : decode cX10_take 14 = .ok (.iconst 0, 1) := by decide +kernel
theorem dX10_take_15 : decode cX10_take 15 = .ok (.bipush 8, 2) := by decide +kernel
theorem dX10_take_17 : decode cX10_take 17 = .ok (.invokestatic 68, 3) := by decide +kernel
theorem dX10_take_20 : decode cX10_take 20 = .ok (.aload_n 1, 1) := by decide +kernel
theorem dX10_take_21 : decode cX10_take 21 = .ok (.getfield 33, 3) := by decide +kernel
theorem dX10_take_24 : decode cX10_take 24 = .ok (.iconst 0, 1) := by decide +kernel
theorem dX10_take_25 : decode cX10_take 25 = .ok (.aload_n 0, 1) := by decide +kernel
theorem dX10_take_26 : decode cX10_take 26 = .ok (.getfield 33, 3) := by decide +kernel
theorem dX10_take_29 : decode cX10_take 29 = .ok (.iconst 0, 1) := by decide +kernel
theorem dX10_take_30 : decode cX10_take 30 = .ok (.bipush 8, 2) := by decide +kernel
theorem dX10_take_32 : decode cX10_take 32 = .ok (.invokestatic 68, 3) := by decide +kernel
theorem dX10_take_35 : decode cX10_take 35 = .ok (.aload_n 0, 1) := by decide +kernel
theorem dX10_take_36 : decode cX10_take 36 = .ok (.getfield 39, 3) := by decide +kernel
theorem dX10_take_39 : decode cX10_take 39 = .ok (.aload_n 1, 1) := by decide +kernel
theorem dX10_take_40 : decode cX10_take 40 = .ok (.getfield 39, 3) := by decide +kernel
theorem dX10_take_43 : decode cX10_take 43 = .ok (.invokevirtual 78, 3) := by decide +kernel
theorem dX10_take_46 : decode cX10_take 46 = .ok (.aload_n 0, 1) := by decide +kernel
theorem dX10_take_47 : decode cX10_take 47 = .ok (.getfield 43, 3) := by decide +kernel
theorem dX10_take_50 : decode cX10_take 50 = .ok (.aload_n 1, 1) := by decide +kernel
theorem dX10_take_51 : decode cX10_take 51 = .ok (.getfield 43, 3) := by decide +kernel
theorem dX10_take_54 : decode cX10_take 54 = .ok (.invokevirtual 78, 3) := by decide +kernel
theorem dX10_take_57 : decode cX10_take 57 = .ok (.return_, 1) := by decide +kernel
theorem dX10_pass_0 : decode cX10_pass 0 = .ok (.aload_n 0, 1) := by decide +kernel
theorem dX10_pass_1 : decode cX10_pass 1 = .ok (.getfield 59, 3) := by decide +kernel
theorem dX10_pass_4 : decode cX10_pass 4 = .ok (.ifCond .lt 12, 3) := by decide +kernel
theorem dX10_pass_7 : decode cX10_pass 7 = .ok (.aload_n 0, 1) := by decide +kernel
theorem dX10_pass_8 : decode cX10_pass 8 = .ok (.getfield 59, 3) := by decide +kernel
theorem dX10_pass_11 : decode cX10_pass 11 = .ok (.bipush 8, 2) := by decide +kernel
theorem dX10_pass_13 : decode cX10_pass 13 = .ok (.if_icmp .lt 4, 3) := by decide +kernel
theorem dX10_pass_16 : decode cX10_pass 16 = .ok (.return_, 1) := by decide +kernel
theorem dX10_pass_17 : decode cX10_pass 17 = .ok (.iload_n 1, 1) := by decide +kernel
theorem dX10_pass_18 : decode cX10_pass 18 = .ok (.iconst 0, 1) := by decide +kernel
theorem dX10_pass_19 : decode cX10_pass 19 = .ok (.aload_n 0, 1) := by decide +kernel
theorem dX10_pass_20 : decode cX10_pass 20 = .ok (.getfield 55, 3) := by decide +kernel
theorem dX10_pass_23 : decode cX10_pass 23 = .ok (.iconst 1, 1) := by decide +kernel
theorem dX10_pass_24 : decode cX10_pass 24 = .ok (.isub, 1) := by decide +kernel
theorem dX10_pass_25 : decode cX10_pass 25 = .ok (.invokestatic 82, 3) := by decide +kernel
theorem dX10_pass_28 : decode cX10_pass 28 = .ok (.ifCond .eq 18, 3) := by decide +kernel
theorem dX10_pass_31 : decode cX10_pass 31 = .ok (.aload_n 0, 1) := by decide +kernel
theorem dX10_pass_32 : decode cX10_pass 32 = .ok (.getfield 24, 3) := by decide +kernel
theorem dX10_pass_35 : decode cX10_pass 35 = .ok (.iload_n 1, 1) := by decide +kernel
theorem dX10_pass_36 : decode cX10_pass 36 = .ok (.dup2, 1) := by decide +kernel
theorem dX10_pass_37 : decode cX10_pass 37 = .ok (.iaload, 1) := by decide +kernel
theorem dX10_pass_38 : decode cX10_pass 38 = .ok (.iconst 1, 1) := by decide +kernel
theorem dX10_pass_39 : decode cX10_pass 39 = .ok (.aload_n 0, 1) := by decide +kernel
theorem dX10_pass_40 : decode cX10_pass 40 = .ok (.getfield 59, 3) := by decide +kernel
theorem dX10_pass_43 : decode cX10_pass 43 = .ok (.ishl, 1) := by decide +kernel
theorem dX10_pass_44 : decode cX10_pass 44 = .ok (.ior, 1) := by decide +kernel
theorem dX10_pass_45 : decode cX10_pass 45 = .ok (.iastore, 1) := by decide +kernel
theorem dX10_pass_46 : decode cX10_pass 46 = .ok (.iload_n 2, 1) := by decide +kernel
theorem dX10_pass_47 : decode cX10_pass 47 = .ok (.iconst 0, 1) := by decide +kernel
theorem dX10_pass_48 : decode cX10_pass 48 = .ok (.aload_n 0, 1) := by decide +kernel
theorem dX10_pass_49 : decode cX10_pass 49 = .ok (.getfield 55, 3) := by decide +kernel
theorem dX10_pass_52 : decode cX10_pass 52 = .ok (.iconst 1, 1) := by decide +kernel
theorem dX10_pass_53 : decode cX10_pass 53 = .ok (.isub, 1) := by decide +kernel
theorem dX10_pass_54 : decode cX10_pass 54 = .ok (.invokestatic 82, 3) := by decide +kernel
theorem dX10_pass_57 : decode cX10_pass 57 = .ok (.ifCond .eq 13, 3) := by decide +kernel
theorem dX10_pass_60 : decode cX10_pass 60 = .ok (.aload_n 0, 1) := by decide +kernel
theorem dX10_pass_61 : decode cX10_pass 61 = .ok (.getfield 27, 3) := by decide +kernel
theorem dX10_pass_64 : decode cX10_pass 64 = .ok (.iload_n 2, 1) := by decide +kernel
theorem dX10_pass_65 : decode cX10_pass 65 = .ok (.dup2, 1) := by decide +kernel
theorem dX10_pass_66 : decode cX10_pass 66 = .ok (.iaload, 1) := by decide +kernel
theorem dX10_pass_67 : decode cX10_pass 67 = .ok (.iconst 1, 1) := by decide +kernel
theorem dX10_pass_68 : decode cX10_pass 68 = .ok (.iadd, 1) := by decide +kernel
theorem dX10_pass_69 : decode cX10_pass 69 = .ok (.iastore, 1) := by decide +kernel
theorem dX10_pass_70 : decode cX10_pass 70 = .ok (.aload_n 0, 1) := by decide +kernel
theorem dX10_pass_71 : decode cX10_pass 71 = .ok (.getfield 30, 3) := by decide +kernel
theorem dX10_pass_74 : decode cX10_pass 74 = .ok (.aload_n 0, 1) := by decide +kernel
theorem dX10_pass_75 : decode cX10_pass 75 = .ok (.getfield 59, 3) := by decide +kernel
theorem dX10_pass_78 : decode cX10_pass 78 = .ok (.iload_n 1, 1) := by decide +kernel
theorem dX10_pass_79 : decode cX10_pass 79 = .ok (.iastore, 1) := by decide +kernel
theorem dX10_pass_80 : decode cX10_pass 80 = .ok (.aload_n 0, 1) := by decide +kernel
theorem dX10_pass_81 : decode cX10_pass 81 = .ok (.getfield 33, 3) := by decide +kernel
theorem dX10_pass_84 : decode cX10_pass 84 = .ok (.aload_n 0, 1) := by decide +kernel
theorem dX10_pass_85 : decode cX10_pass 85 = .ok (.getfield 59, 3) := by decide +kernel
theorem dX10_pass_88 : decode cX10_pass 88 = .ok (.iload_n 2, 1) := by decide +kernel
theorem dX10_pass_89 : decode cX10_pass 89 = .ok (.iastore, 1) := by decide +kernel
theorem dX10_pass_90 : decode cX10_pass 90 = .ok (.aload_n 0, 1) := by decide +kernel
theorem dX10_pass_91 : decode cX10_pass 91 = .ok (.dup, 1) := by decide +kernel
theorem dX10_pass_92 : decode cX10_pass 92 = .ok (.getfield 59, 3) := by decide +kernel
theorem dX10_pass_95 : decode cX10_pass 95 = .ok (.iconst 1, 1) := by decide +kernel
theorem dX10_pass_96 : decode cX10_pass 96 = .ok (.iadd, 1) := by decide +kernel
theorem dX10_pass_97 : decode cX10_pass 97 = .ok (.putfield 59, 3) := by decide +kernel
theorem dX10_pass_100 : decode cX10_pass 100 = .ok (.aload_n 0, 1) := by decide +kernel
theorem dX10_pass_101 : decode cX10_pass 101 = .ok (.dup, 1) := by decide +kernel
theorem dX10_pass_102 : decode cX10_pass 102 = .ok (.getfield 62, 3) := by decide +kernel
theorem dX10_pass_105 : decode cX10_pass 105 = .ok (.iconst 1, 1) := by decide +kernel
theorem dX10_pass_106 : decode cX10_pass 106 = .ok (.iadd, 1) := by decide +kernel
theorem dX10_pass_107 : decode cX10_pass 107 = .ok (.putfield 62, 3) := by decide +kernel
theorem dX10_pass_110 : decode cX10_pass 110 = .ok (.return_, 1) := by decide +kernel
theorem dX10_takeBack_0 : decode cX10_takeBack 0 = .ok (.aload_n 0, 1) := by decide +kernel
theorem dX10_takeBack_1 : decode cX10_takeBack 1 = .ok (.getfield 59, 3) := by decide +kernel
theorem dX10_takeBack_4 : decode cX10_takeBack 4 = .ok (.ifCond .le 19, 3) := by decide +kernel
theorem dX10_takeBack_7 : decode cX10_takeBack 7 = .ok (.aload_n 0, 1) := by decide +kernel
theorem dX10_takeBack_8 : decode cX10_takeBack 8 = .ok (.getfield 59, 3) := by decide +kernel
theorem dX10_takeBack_11 : decode cX10_takeBack 11 = .ok (.bipush 8, 2) := by decide +kernel
theorem dX10_takeBack_13 : decode cX10_takeBack 13 = .ok (.if_icmp .gt 10, 3) := by decide +kernel
theorem dX10_takeBack_16 : decode cX10_takeBack 16 = .ok (.aload_n 0, 1) := by decide +kernel
theorem dX10_takeBack_17 : decode cX10_takeBack 17 = .ok (.getfield 62, 3) := by decide +kernel
theorem dX10_takeBack_20 : decode cX10_takeBack 20 = .ok (.ifCond .gt 4, 3) := by decide +kernel
theorem dX10_takeBack_23 : decode cX10_takeBack 23 = .ok (.return_, 1) := by decide +kernel
theorem dX10_takeBack_24 : decode cX10_takeBack 24 = .ok (.aload_n 0, 1) := by decide +kernel
theorem dX10_takeBack_25 : decode cX10_takeBack 25 = .ok (.dup, 1) := by decide +kernel
theorem dX10_takeBack_26 : decode cX10_takeBack 26 = .ok (.getfield 59, 3) := by decide +kernel
theorem dX10_takeBack_29 : decode cX10_takeBack 29 = .ok (.iconst 1, 1) := by decide +kernel
theorem dX10_takeBack_30 : decode cX10_takeBack 30 = .ok (.isub, 1) := by decide +kernel
theorem dX10_takeBack_31 : decode cX10_takeBack 31 = .ok (.putfield 59, 3) := by decide +kernel
theorem dX10_takeBack_34 : decode cX10_takeBack 34 = .ok (.aload_n 0, 1) := by decide +kernel
theorem dX10_takeBack_35 : decode cX10_takeBack 35 = .ok (.dup, 1) := by decide +kernel
theorem dX10_takeBack_36 : decode cX10_takeBack 36 = .ok (.getfield 62, 3) := by decide +kernel
theorem dX10_takeBack_39 : decode cX10_takeBack 39 = .ok (.iconst 1, 1) := by decide +kernel
theorem dX10_takeBack_40 : decode cX10_takeBack 40 = .ok (.isub, 1) := by decide +kernel
theorem dX10_takeBack_41 : decode cX10_takeBack 41 = .ok (.putfield 62, 3) := by decide +kernel
theorem dX10_takeBack_44 : decode cX10_takeBack 44 = .ok (.aload_n 0, 1) := by decide +kernel
theorem dX10_takeBack_45 : decode cX10_takeBack 45 = .ok (.getfield 30, 3) := by decide +kernel
theorem dX10_takeBack_48 : decode cX10_takeBack 48 = .ok (.aload_n 0, 1) := by decide +kernel
theorem dX10_takeBack_49 : decode cX10_takeBack 49 = .ok (.getfield 59, 3) := by decide +kernel
theorem dX10_takeBack_52 : decode cX10_takeBack 52 = .ok (.iaload, 1) := by decide +kernel
theorem dX10_takeBack_53 : decode cX10_takeBack 53 = .ok (.istore_n 1, 1) := by decide +kernel
theorem dX10_takeBack_54 : decode cX10_takeBack 54 = .ok (.aload_n 0, 1) := by decide +kernel
theorem dX10_takeBack_55 : decode cX10_takeBack 55 = .ok (.getfield 33, 3) := by decide +kernel
theorem dX10_takeBack_58 : decode cX10_takeBack 58 = .ok (.aload_n 0, 1) := by decide +kernel
theorem dX10_takeBack_59 : decode cX10_takeBack 59 = .ok (.getfield 59, 3) := by decide +kernel
theorem dX10_takeBack_62 : decode cX10_takeBack 62 = .ok (.iaload, 1) := by decide +kernel
theorem dX10_takeBack_63 : decode cX10_takeBack 63 = .ok (.istore_n 2, 1) := by decide +kernel
theorem dX10_takeBack_64 : decode cX10_takeBack 64 = .ok (.iload_n 1, 1) := by decide +kernel
theorem dX10_takeBack_65 : decode cX10_takeBack 65 = .ok (.iconst 0, 1) := by decide +kernel
theorem dX10_takeBack_66 : decode cX10_takeBack 66 = .ok (.aload_n 0, 1) := by decide +kernel
theorem dX10_takeBack_67 : decode cX10_takeBack 67 = .ok (.getfield 55, 3) := by decide +kernel
theorem dX10_takeBack_70 : decode cX10_takeBack 70 = .ok (.iconst 1, 1) := by decide +kernel
theorem dX10_takeBack_71 : decode cX10_takeBack 71 = .ok (.isub, 1) := by decide +kernel
theorem dX10_takeBack_72 : decode cX10_takeBack 72 = .ok (.invokestatic 82, 3) := by decide +kernel
theorem dX10_takeBack_75 : decode cX10_takeBack 75 = .ok (.ifCond .eq 20, 3) := by decide +kernel
theorem dX10_takeBack_78 : decode cX10_takeBack 78 = .ok (.aload_n 0, 1) := by decide +kernel
theorem dX10_takeBack_79 : decode cX10_takeBack 79 = .ok (.getfield 24, 3) := by decide +kernel
theorem dX10_takeBack_82 : decode cX10_takeBack 82 = .ok (.iload_n 1, 1) := by decide +kernel
theorem dX10_takeBack_83 : decode cX10_takeBack 83 = .ok (.dup2, 1) := by decide +kernel
theorem dX10_takeBack_84 : decode cX10_takeBack 84 = .ok (.iaload, 1) := by decide +kernel
theorem dX10_takeBack_85 : decode cX10_takeBack 85 = .ok (.iconst 1, 1) := by decide +kernel
theorem dX10_takeBack_86 : decode cX10_takeBack 86 = .ok (.aload_n 0, 1) := by decide +kernel
theorem dX10_takeBack_87 : decode cX10_takeBack 87 = .ok (.getfield 59, 3) := by decide +kernel
theorem dX10_takeBack_90 : decode cX10_takeBack 90 = .ok (.ishl, 1) := by decide +kernel
theorem dX10_takeBack_91 : decode cX10_takeBack 91 = .ok (.iconst (-1), 1) := by decide +kernel
theorem dX10_takeBack_92 : decode cX10_takeBack 92 = .ok (.ixor, 1) := by decide +kernel
theorem dX10_takeBack_93 : decode cX10_takeBack 93 = .ok (.iand, 1) := by decide +kernel
theorem dX10_takeBack_94 : decode cX10_takeBack 94 = .ok (.iastore, 1) := by decide +kernel
theorem dX10_takeBack_95 : decode cX10_takeBack 95 = .ok (.iload_n 2, 1) := by decide +kernel
theorem dX10_takeBack_96 : decode cX10_takeBack 96 = .ok (.iconst 0, 1) := by decide +kernel
theorem dX10_takeBack_97 : decode cX10_takeBack 97 = .ok (.aload_n 0, 1) := by decide +kernel
theorem dX10_takeBack_98 : decode cX10_takeBack 98 = .ok (.getfield 55, 3) := by decide +kernel
theorem dX10_takeBack_101 : decode cX10_takeBack 101 = .ok (.iconst 1, 1) := by decide +kernel
theorem dX10_takeBack_102 : decode cX10_takeBack 102 = .ok (.isub, 1) := by decide +kernel
theorem dX10_takeBack_103 : decode cX10_takeBack 103 = .ok (.invokestatic 82, 3) := by decide +kernel
theorem dX10_takeBack_106 : decode cX10_takeBack 106 = .ok (.ifCond .eq 13, 3) := by decide +kernel
theorem dX10_takeBack_109 : decode cX10_takeBack 109 = .ok (.aload_n 0, 1) := by decide +kernel
theorem dX10_takeBack_110 : decode cX10_takeBack 110 = .ok (.getfield 27, 3) := by decide +kernel
theorem dX10_takeBack_113 : decode cX10_takeBack 113 = .ok (.iload_n 2, 1) := by decide +kernel
theorem dX10_takeBack_114 : decode cX10_takeBack 114 = .ok (.dup2, 1) := by decide +kernel
theorem dX10_takeBack_115 : decode cX10_takeBack 115 = .ok (.iaload, 1) := by decide +kernel
theorem dX10_takeBack_116 : decode cX10_takeBack 116 = .ok (.iconst 1, 1) := by decide +kernel
theorem dX10_takeBack_117 : decode cX10_takeBack 117 = .ok (.isub, 1) := by decide +kernel
theorem dX10_takeBack_118 : decode cX10_takeBack 118 = .ok (.iastore, 1) := by decide +kernel
theorem dX10_takeBack_119 : decode cX10_takeBack 119 = .ok (.return_, 1) := by decide +kernel
theorem dX10_swapPrizes_0 : decode cX10_swapPrizes 0 = .ok (.aload_n 0, 1) := by decide +kernel
theorem dX10_swapPrizes_1 : decode cX10_swapPrizes 1 = .ok (.getfield 9, 3) := by decide +kernel
theorem dX10_swapPrizes_4 : decode cX10_swapPrizes 4 = .ok (.iload_n 1, 1) := by decide +kernel
theorem dX10_swapPrizes_5 : decode cX10_swapPrizes 5 = .ok (.iaload, 1) := by decide +kernel
theorem dX10_swapPrizes_6 : decode cX10_swapPrizes 6 = .ok (.istore_n 3, 1) := by decide +kernel
theorem dX10_swapPrizes_7 : decode cX10_swapPrizes 7 = .ok (.aload_n 0, 1) := by decide +kernel
theorem dX10_swapPrizes_8 : decode cX10_swapPrizes 8 = .ok (.getfield 15, 3) := by decide +kernel
theorem dX10_swapPrizes_11 : decode cX10_swapPrizes 11 = .ok (.iload_n 1, 1) := by decide +kernel
theorem dX10_swapPrizes_12 : decode cX10_swapPrizes 12 = .ok (.iaload, 1) := by decide +kernel
theorem dX10_swapPrizes_13 : decode cX10_swapPrizes 13 = .ok (.istore 4, 2) := by decide +kernel
theorem dX10_swapPrizes_15 : decode cX10_swapPrizes 15 = .ok (.aload_n 0, 1) := by decide +kernel
theorem dX10_swapPrizes_16 : decode cX10_swapPrizes 16 = .ok (.iload_n 1, 1) := by decide +kernel
theorem dX10_swapPrizes_17 : decode cX10_swapPrizes 17 = .ok (.aload_n 0, 1) := by decide +kernel
theorem dX10_swapPrizes_18 : decode cX10_swapPrizes 18 = .ok (.getfield 9, 3) := by decide +kernel
theorem dX10_swapPrizes_21 : decode cX10_swapPrizes 21 = .ok (.iload_n 2, 1) := by decide +kernel
theorem dX10_swapPrizes_22 : decode cX10_swapPrizes 22 = .ok (.iaload, 1) := by decide +kernel
theorem dX10_swapPrizes_23 : decode cX10_swapPrizes 23 = .ok (.aload_n 0, 1) := by decide +kernel
theorem dX10_swapPrizes_24 : decode cX10_swapPrizes 24 = .ok (.getfield 15, 3) := by decide +kernel
theorem dX10_swapPrizes_27 : decode cX10_swapPrizes 27 = .ok (.iload_n 2, 1) := by decide +kernel
theorem dX10_swapPrizes_28 : decode cX10_swapPrizes 28 = .ok (.iaload, 1) := by decide +kernel
theorem dX10_swapPrizes_29 : decode cX10_swapPrizes 29 = .ok (.invokevirtual 86, 3) := by decide +kernel
theorem dX10_swapPrizes_32 : decode cX10_swapPrizes 32 = .ok (.aload_n 0, 1) := by decide +kernel
theorem dX10_swapPrizes_33 : decode cX10_swapPrizes 33 = .ok (.iload_n 2, 1) := by decide +kernel
theorem dX10_swapPrizes_34 : decode cX10_swapPrizes 34 = .ok (.iload_n 3, 1) := by decide +kernel
theorem dX10_swapPrizes_35 : decode cX10_swapPrizes 35 = .ok (.iload 4, 2) := by decide +kernel
theorem dX10_swapPrizes_37 : decode cX10_swapPrizes 37 = .ok (.invokevirtual 86, 3) := by decide +kernel
theorem dX10_swapPrizes_40 : decode cX10_swapPrizes 40 = .ok (.return_, 1) := by decide +kernel
theorem dX10_worthWonBy_0 : decode cX10_worthWonBy 0 = .ok (.iconst 0, 1) := by decide +kernel
theorem dX10_worthWonBy_1 : decode cX10_worthWonBy 1 = .ok (.istore_n 2, 1) := by decide +kernel
theorem dX10_worthWonBy_2 : decode cX10_worthWonBy 2 = .ok (.iconst 0, 1) := by decide +kernel
theorem dX10_worthWonBy_3 : decode cX10_worthWonBy 3 = .ok (.istore_n 3, 1) := by decide +kernel
theorem dX10_worthWonBy_4 : decode cX10_worthWonBy 4 = .ok (.iload_n 3, 1) := by decide +kernel
theorem dX10_worthWonBy_5 : decode cX10_worthWonBy 5 = .ok (.bipush 8, 2) := by decide +kernel
theorem dX10_worthWonBy_7 : decode cX10_worthWonBy 7 = .ok (.if_icmp .ge 18, 3) := by decide +kernel
theorem dX10_worthWonBy_10 : decode cX10_worthWonBy 10 = .ok (.iload_n 2, 1) := by decide +kernel
theorem dX10_worthWonBy_11 : decode cX10_worthWonBy 11 = .ok (.aload_n 0, 1) := by decide +kernel
theorem dX10_worthWonBy_12 : decode cX10_worthWonBy 12 = .ok (.iload_n 1, 1) := by decide +kernel
theorem dX10_worthWonBy_13 : decode cX10_worthWonBy 13 = .ok (.iload_n 3, 1) := by decide +kernel
theorem dX10_worthWonBy_14 : decode cX10_worthWonBy 14 = .ok (.invokevirtual 90, 3) := by decide +kernel
theorem dX10_worthWonBy_17 : decode cX10_worthWonBy 17 = .ok (.iadd, 1) := by decide +kernel
theorem dX10_worthWonBy_18 : decode cX10_worthWonBy 18 = .ok (.istore_n 2, 1) := by decide +kernel
theorem dX10_worthWonBy_19 : decode cX10_worthWonBy 19 = .ok (.iinc 3 1, 3) := by decide +kernel
theorem dX10_worthWonBy_22 : decode cX10_worthWonBy 22 = .ok (.goto (-18), 3) := by decide +kernel
theorem dX10_worthWonBy_25 : decode cX10_worthWonBy 25 = .ok (.iload_n 2, 1) := by decide +kernel
theorem dX10_worthWonBy_26 : decode cX10_worthWonBy 26 = .ok (.ireturn, 1) := by decide +kernel
theorem dX10_worthWonIn_0 : decode cX10_worthWonIn 0 = .ok (.aload_n 0, 1) := by decide +kernel
theorem dX10_worthWonIn_1 : decode cX10_worthWonIn 1 = .ok (.getfield 24, 3) := by decide +kernel
theorem dX10_worthWonIn_4 : decode cX10_worthWonIn 4 = .ok (.iload_n 1, 1) := by decide +kernel
theorem dX10_worthWonIn_5 : decode cX10_worthWonIn 5 = .ok (.iaload, 1) := by decide +kernel
theorem dX10_worthWonIn_6 : decode cX10_worthWonIn 6 = .ok (.iload_n 2, 1) := by decide +kernel
theorem dX10_worthWonIn_7 : decode cX10_worthWonIn 7 = .ok (.ishr, 1) := by decide +kernel
theorem dX10_worthWonIn_8 : decode cX10_worthWonIn 8 = .ok (.iconst 1, 1) := by decide +kernel
theorem dX10_worthWonIn_9 : decode cX10_worthWonIn 9 = .ok (.iand, 1) := by decide +kernel
theorem dX10_worthWonIn_10 : decode cX10_worthWonIn 10 = .ok (.aload_n 0, 1) := by decide +kernel
theorem dX10_worthWonIn_11 : decode cX10_worthWonIn 11 = .ok (.getfield 15, 3) := by decide +kernel
theorem dX10_worthWonIn_14 : decode cX10_worthWonIn 14 = .ok (.iload_n 2, 1) := by decide +kernel
theorem dX10_worthWonIn_15 : decode cX10_worthWonIn 15 = .ok (.iaload, 1) := by decide +kernel
theorem dX10_worthWonIn_16 : decode cX10_worthWonIn 16 = .ok (.imul, 1) := by decide +kernel
theorem dX10_worthWonIn_17 : decode cX10_worthWonIn 17 = .ok (.ireturn, 1) := by decide +kernel
theorem dX10_prizesTold_0 : decode cX10_prizesTold 0 = .ok (.iconst 0, 1) := by decide +kernel
theorem dX10_prizesTold_1 : decode cX10_prizesTold 1 = .ok (.istore_n 1, 1) := by decide +kernel
theorem dX10_prizesTold_2 : decode cX10_prizesTold 2 = .ok (.iconst 0, 1) := by decide +kernel
theorem dX10_prizesTold_3 : decode cX10_prizesTold 3 = .ok (.istore_n 2, 1) := by decide +kernel
theorem dX10_prizesTold_4 : decode cX10_prizesTold 4 = .ok (.iload_n 2, 1) := by decide +kernel
theorem dX10_prizesTold_5 : decode cX10_prizesTold 5 = .ok (.bipush 8, 2) := by decide +kernel
theorem dX10_prizesTold_7 : decode cX10_prizesTold 7 = .ok (.if_icmp .ge 22, 3) := by decide +kernel
theorem dX10_prizesTold_10 : decode cX10_prizesTold 10 = .ok (.aload_n 0, 1) := by decide +kernel
theorem dX10_prizesTold_11 : decode cX10_prizesTold 11 = .ok (.getfield 9, 3) := by decide +kernel
theorem dX10_prizesTold_14 : decode cX10_prizesTold 14 = .ok (.iload_n 2, 1) := by decide +kernel
theorem dX10_prizesTold_15 : decode cX10_prizesTold 15 = .ok (.iaload, 1) := by decide +kernel
theorem dX10_prizesTold_16 : decode cX10_prizesTold 16 = .ok (.iconst (-1), 1) := by decide +kernel
theorem dX10_prizesTold_17 : decode cX10_prizesTold 17 = .ok (.if_icmp .eq 6, 3) := by decide +kernel
theorem dX10_prizesTold_20 : decode cX10_prizesTold 20 = .ok (.iinc 1 1, 3) := by decide +kernel
theorem dX10_prizesTold_23 : decode cX10_prizesTold 23 = .ok (.iinc 2 1, 3) := by decide +kernel
theorem dX10_prizesTold_26 : decode cX10_prizesTold 26 = .ok (.goto (-22), 3) := by decide +kernel
theorem dX10_prizesTold_29 : decode cX10_prizesTold 29 = .ok (.iload_n 1, 1) := by decide +kernel
theorem dX10_prizesTold_30 : decode cX10_prizesTold 30 = .ok (.ireturn, 1) := by decide +kernel
theorem dX10_winsOfAll_0 : decode cX10_winsOfAll 0 = .ok (.iconst 0, 1) := by decide +kernel
theorem dX10_winsOfAll_1 : decode cX10_winsOfAll 1 = .ok (.istore_n 1, 1) := by decide +kernel
theorem dX10_winsOfAll_2 : decode cX10_winsOfAll 2 = .ok (.iconst 0, 1) := by decide +kernel
theorem dX10_winsOfAll_3 : decode cX10_winsOfAll 3 = .ok (.istore_n 2, 1) := by decide +kernel
theorem dX10_winsOfAll_4 : decode cX10_winsOfAll 4 = .ok (.iload_n 2, 1) := by decide +kernel
theorem dX10_winsOfAll_5 : decode cX10_winsOfAll 5 = .ok (.aload_n 0, 1) := by decide +kernel
theorem dX10_winsOfAll_6 : decode cX10_winsOfAll 6 = .ok (.getfield 55, 3) := by decide +kernel
theorem dX10_winsOfAll_9 : decode cX10_winsOfAll 9 = .ok (.if_icmp .ge 21, 3) := by decide +kernel
theorem dX10_winsOfAll_12 : decode cX10_winsOfAll 12 = .ok (.iload_n 1, 1) := by decide +kernel
theorem dX10_winsOfAll_13 : decode cX10_winsOfAll 13 = .ok (.aload_n 0, 1) := by decide +kernel
theorem dX10_winsOfAll_14 : decode cX10_winsOfAll 14 = .ok (.getfield 24, 3) := by decide +kernel
theorem dX10_winsOfAll_17 : decode cX10_winsOfAll 17 = .ok (.iload_n 2, 1) := by decide +kernel
theorem dX10_winsOfAll_18 : decode cX10_winsOfAll 18 = .ok (.iaload, 1) := by decide +kernel
theorem dX10_winsOfAll_19 : decode cX10_winsOfAll 19 = .ok (.invokestatic 94, 3) := by decide +kernel
theorem dX10_winsOfAll_22 : decode cX10_winsOfAll 22 = .ok (.iadd, 1) := by decide +kernel
theorem dX10_winsOfAll_23 : decode cX10_winsOfAll 23 = .ok (.istore_n 1, 1) := by decide +kernel
theorem dX10_winsOfAll_24 : decode cX10_winsOfAll 24 = .ok (.iinc 2 1, 3) := by decide +kernel
theorem dX10_winsOfAll_27 : decode cX10_winsOfAll 27 = .ok (.goto (-23), 3) := by decide +kernel
theorem dX10_winsOfAll_30 : decode cX10_winsOfAll 30 = .ok (.iload_n 1, 1) := by decide +kernel
theorem dX10_winsOfAll_31 : decode cX10_winsOfAll 31 = .ok (.ireturn, 1) := by decide +kernel
theorem dX10_mixedInto_0 : decode cX10_mixedInto 0 = .ok (.iconst 0, 1) := by decide +kernel
theorem dX10_mixedInto_1 : decode cX10_mixedInto 1 = .ok (.istore_n 3, 1) := by decide +kernel
theorem dX10_mixedInto_2 : decode cX10_mixedInto 2 = .ok (.iload_n 3, 1) := by decide +kernel
theorem dX10_mixedInto_3 : decode cX10_mixedInto 3 = .ok (.bipush 8, 2) := by decide +kernel
theorem dX10_mixedInto_5 : decode cX10_mixedInto 5 = .ok (.if_icmp .ge 37, 3) := by decide +kernel
theorem dX10_mixedInto_8 : decode cX10_mixedInto 8 = .ok (.ldc2_w 100, 3) := by decide +kernel
theorem dX10_mixedInto_11 : decode cX10_mixedInto 11 = .ok (.lload_n 1, 1) := by decide +kernel
theorem dX10_mixedInto_12 : decode cX10_mixedInto 12 = .ok (.lmul, 1) := by decide +kernel
theorem dX10_mixedInto_13 : decode cX10_mixedInto 13 = .ok (.aload_n 0, 1) := by decide +kernel
theorem dX10_mixedInto_14 : decode cX10_mixedInto 14 = .ok (.getfield 9, 3) := by decide +kernel
theorem dX10_mixedInto_17 : decode cX10_mixedInto 17 = .ok (.iload_n 3, 1) := by decide +kernel
theorem dX10_mixedInto_18 : decode cX10_mixedInto 18 = .ok (.iaload, 1) := by decide +kernel
theorem dX10_mixedInto_19 : decode cX10_mixedInto 19 = .ok (.i2l, 1) := by decide +kernel
theorem dX10_mixedInto_20 : decode cX10_mixedInto 20 = .ok (.ladd, 1) := by decide +kernel
theorem dX10_mixedInto_21 : decode cX10_mixedInto 21 = .ok (.lstore_n 1, 1) := by decide +kernel
theorem dX10_mixedInto_22 : decode cX10_mixedInto 22 = .ok (.ldc2_w 100, 3) := by decide +kernel
theorem dX10_mixedInto_25 : decode cX10_mixedInto 25 = .ok (.lload_n 1, 1) := by decide +kernel
theorem dX10_mixedInto_26 : decode cX10_mixedInto 26 = .ok (.lmul, 1) := by decide +kernel
theorem dX10_mixedInto_27 : decode cX10_mixedInto 27 = .ok (.aload_n 0, 1) := by decide +kernel
theorem dX10_mixedInto_28 : decode cX10_mixedInto 28 = .ok (.getfield 15, 3) := by decide +kernel
theorem dX10_mixedInto_31 : decode cX10_mixedInto 31 = .ok (.iload_n 3, 1) := by decide +kernel
theorem dX10_mixedInto_32 : decode cX10_mixedInto 32 = .ok (.iaload, 1) := by decide +kernel
theorem dX10_mixedInto_33 : decode cX10_mixedInto 33 = .ok (.i2l, 1) := by decide +kernel
theorem dX10_mixedInto_34 : decode cX10_mixedInto 34 = .ok (.ladd, 1) := by decide +kernel
theorem dX10_mixedInto_35 : decode cX10_mixedInto 35 = .ok (.lstore_n 1, 1) := by decide +kernel
theorem dX10_mixedInto_36 : decode cX10_mixedInto 36 = .ok (.iinc 3 1, 3) := by decide +kernel
theorem dX10_mixedInto_39 : decode cX10_mixedInto 39 = .ok (.goto (-37), 3) := by decide +kernel
theorem dX10_mixedInto_42 : decode cX10_mixedInto 42 = .ok (.iconst 0, 1) := by decide +kernel
theorem dX10_mixedInto_43 : decode cX10_mixedInto 43 = .ok (.istore_n 3, 1) := by decide +kernel
theorem dX10_mixedInto_44 : decode cX10_mixedInto 44 = .ok (.iload_n 3, 1) := by decide +kernel
theorem dX10_mixedInto_45 : decode cX10_mixedInto 45 = .ok (.aload_n 0, 1) := by decide +kernel
theorem dX10_mixedInto_46 : decode cX10_mixedInto 46 = .ok (.getfield 55, 3) := by decide +kernel
theorem dX10_mixedInto_49 : decode cX10_mixedInto 49 = .ok (.if_icmp .ge 85, 3) := by decide +kernel
theorem dX10_mixedInto_52 : decode cX10_mixedInto 52 = .ok (.ldc2_w 100, 3) := by decide +kernel
theorem dX10_mixedInto_55 : decode cX10_mixedInto 55 = .ok (.lload_n 1, 1) := by decide +kernel
theorem dX10_mixedInto_56 : decode cX10_mixedInto 56 = .ok (.lmul, 1) := by decide +kernel
theorem dX10_mixedInto_57 : decode cX10_mixedInto 57 = .ok (.aload_n 0, 1) := by decide +kernel
theorem dX10_mixedInto_58 : decode cX10_mixedInto 58 = .ok (.getfield 18, 3) := by decide +kernel
theorem dX10_mixedInto_61 : decode cX10_mixedInto 61 = .ok (.iload_n 3, 1) := by decide +kernel
theorem dX10_mixedInto_62 : decode cX10_mixedInto 62 = .ok (.iaload, 1) := by decide +kernel
theorem dX10_mixedInto_63 : decode cX10_mixedInto 63 = .ok (.i2l, 1) := by decide +kernel
theorem dX10_mixedInto_64 : decode cX10_mixedInto 64 = .ok (.ladd, 1) := by decide +kernel
theorem dX10_mixedInto_65 : decode cX10_mixedInto 65 = .ok (.lstore_n 1, 1) := by decide +kernel
theorem dX10_mixedInto_66 : decode cX10_mixedInto 66 = .ok (.iconst 0, 1) := by decide +kernel
theorem dX10_mixedInto_67 : decode cX10_mixedInto 67 = .ok (.istore 4, 2) := by decide +kernel
theorem dX10_mixedInto_69 : decode cX10_mixedInto 69 = .ok (.iload 4, 2) := by decide +kernel
theorem dX10_mixedInto_71 : decode cX10_mixedInto 71 = .ok (.iconst 3, 1) := by decide +kernel
theorem dX10_mixedInto_72 : decode cX10_mixedInto 72 = .ok (.if_icmp .ge 28, 3) := by decide +kernel
theorem dX10_mixedInto_75 : decode cX10_mixedInto 75 = .ok (.ldc2_w 100, 3) := by decide +kernel
theorem dX10_mixedInto_78 : decode cX10_mixedInto 78 = .ok (.lload_n 1, 1) := by decide +kernel
theorem dX10_mixedInto_79 : decode cX10_mixedInto 79 = .ok (.lmul, 1) := by decide +kernel
theorem dX10_mixedInto_80 : decode cX10_mixedInto 80 = .ok (.aload_n 0, 1) := by decide +kernel
theorem dX10_mixedInto_81 : decode cX10_mixedInto 81 = .ok (.getfield 21, 3) := by decide +kernel
theorem dX10_mixedInto_84 : decode cX10_mixedInto 84 = .ok (.iload_n 3, 1) := by decide +kernel
theorem dX10_mixedInto_85 : decode cX10_mixedInto 85 = .ok (.iconst 3, 1) := by decide +kernel
theorem dX10_mixedInto_86 : decode cX10_mixedInto 86 = .ok (.imul, 1) := by decide +kernel
theorem dX10_mixedInto_87 : decode cX10_mixedInto 87 = .ok (.iload 4, 2) := by decide +kernel
theorem dX10_mixedInto_89 : decode cX10_mixedInto 89 = .ok (.iadd, 1) := by decide +kernel
theorem dX10_mixedInto_90 : decode cX10_mixedInto 90 = .ok (.iaload, 1) := by decide +kernel
theorem dX10_mixedInto_91 : decode cX10_mixedInto 91 = .ok (.i2l, 1) := by decide +kernel
theorem dX10_mixedInto_92 : decode cX10_mixedInto 92 = .ok (.ladd, 1) := by decide +kernel
theorem dX10_mixedInto_93 : decode cX10_mixedInto 93 = .ok (.lstore_n 1, 1) := by decide +kernel
theorem dX10_mixedInto_94 : decode cX10_mixedInto 94 = .ok (.iinc 4 1, 3) := by decide +kernel
theorem dX10_mixedInto_97 : decode cX10_mixedInto 97 = .ok (.goto (-28), 3) := by decide +kernel
theorem dX10_mixedInto_100 : decode cX10_mixedInto 100 = .ok (.ldc2_w 100, 3) := by decide +kernel
theorem dX10_mixedInto_103 : decode cX10_mixedInto 103 = .ok (.lload_n 1, 1) := by decide +kernel
theorem dX10_mixedInto_104 : decode cX10_mixedInto 104 = .ok (.lmul, 1) := by decide +kernel
theorem dX10_mixedInto_105 : decode cX10_mixedInto 105 = .ok (.aload_n 0, 1) := by decide +kernel
theorem dX10_mixedInto_106 : decode cX10_mixedInto 106 = .ok (.getfield 24, 3) := by decide +kernel
theorem dX10_mixedInto_109 : decode cX10_mixedInto 109 = .ok (.iload_n 3, 1) := by decide +kernel
theorem dX10_mixedInto_110 : decode cX10_mixedInto 110 = .ok (.iaload, 1) := by decide +kernel
theorem dX10_mixedInto_111 : decode cX10_mixedInto 111 = .ok (.i2l, 1) := by decide +kernel
theorem dX10_mixedInto_112 : decode cX10_mixedInto 112 = .ok (.ladd, 1) := by decide +kernel
theorem dX10_mixedInto_113 : decode cX10_mixedInto 113 = .ok (.lstore_n 1, 1) := by decide +kernel
theorem dX10_mixedInto_114 : decode cX10_mixedInto 114 = .ok (.ldc2_w 100, 3) := by decide +kernel
theorem dX10_mixedInto_117 : decode cX10_mixedInto 117 = .ok (.lload_n 1, 1) := by decide +kernel
theorem dX10_mixedInto_118 : decode cX10_mixedInto 118 = .ok (.lmul, 1) := by decide +kernel
theorem dX10_mixedInto_119 : decode cX10_mixedInto 119 = .ok (.aload_n 0, 1) := by decide +kernel
theorem dX10_mixedInto_120 : decode cX10_mixedInto 120 = .ok (.getfield 27, 3) := by decide +kernel
theorem dX10_mixedInto_123 : decode cX10_mixedInto 123 = .ok (.iload_n 3, 1) := by decide +kernel
theorem dX10_mixedInto_124 : decode cX10_mixedInto 124 = .ok (.iaload, 1) := by decide +kernel
theorem dX10_mixedInto_125 : decode cX10_mixedInto 125 = .ok (.i2l, 1) := by decide +kernel
theorem dX10_mixedInto_126 : decode cX10_mixedInto 126 = .ok (.ladd, 1) := by decide +kernel
theorem dX10_mixedInto_127 : decode cX10_mixedInto 127 = .ok (.lstore_n 1, 1) := by decide +kernel
theorem dX10_mixedInto_128 : decode cX10_mixedInto 128 = .ok (.iinc 3 1, 3) := by decide +kernel
theorem dX10_mixedInto_131 : decode cX10_mixedInto 131 = .ok (.goto (-87), 3) := by decide +kernel
theorem dX10_mixedInto_134 : decode cX10_mixedInto 134 = .ok (.aload_n 0, 1) := by decide +kernel
theorem dX10_mixedInto_135 : decode cX10_mixedInto 135 = .ok (.getfield 43, 3) := by decide +kernel
theorem dX10_mixedInto_138 : decode cX10_mixedInto 138 = .ok (.aload_n 0, 1) := by decide +kernel
theorem dX10_mixedInto_139 : decode cX10_mixedInto 139 = .ok (.getfield 39, 3) := by decide +kernel
theorem dX10_mixedInto_142 : decode cX10_mixedInto 142 = .ok (.lload_n 1, 1) := by decide +kernel
theorem dX10_mixedInto_143 : decode cX10_mixedInto 143 = .ok (.invokevirtual 102, 3) := by decide +kernel
theorem dX10_mixedInto_146 : decode cX10_mixedInto 146 = .ok (.invokevirtual 102, 3) := by decide +kernel
theorem dX10_mixedInto_149 : decode cX10_mixedInto 149 = .ok (.lreturn, 1) := by decide +kernel
theorem dX11_init_0 : decode cX11_init 0 = .ok (.aload_n 0, 1) := by decide +kernel
theorem dX11_init_1 : decode cX11_init 1 = .ok (.invokespecial 1, 3) := by decide +kernel
theorem dX11_init_4 : decode cX11_init 4 = .ok (.aload_n 0, 1) := by decide +kernel
theorem dX11_init_5 : decode cX11_init 5 = .ok (.new 7, 3) := by decide +kernel
theorem dX11_init_8 : decode cX11_init 8 = .ok (.dup, 1) := by decide +kernel
theorem dX11_init_9 : decode cX11_init 9 = .ok (.invokespecial 9, 3) := by decide +kernel
theorem dX11_init_12 : decode cX11_init 12 = .ok (.putfield 10, 3) := by decide +kernel
theorem dX11_init_15 : decode cX11_init 15 = .ok (.aload_n 0, 1) := by decide +kernel
theorem dX11_init_16 : decode cX11_init 16 = .ok (.new 7, 3) := by decide +kernel
theorem dX11_init_19 : decode cX11_init 19 = .ok (.dup, 1) := by decide +kernel
theorem dX11_init_20 : decode cX11_init 20 = .ok (.invokespecial 9, 3) := by decide +kernel
theorem dX11_init_23 : decode cX11_init 23 = .ok (.putfield 16, 3) := by decide +kernel
theorem dX11_init_26 : decode cX11_init 26 = .ok (.aload_n 0, 1) := by decide +kernel
theorem dX11_init_27 : decode cX11_init 27 = .ok (.iconst 2, 1) := by decide +kernel
theorem dX11_init_28 : decode cX11_init 28 = .ok (.anewarray 7, 3) := by decide +kernel
theorem dX11_init_31 : decode cX11_init 31 = .ok (.putfield 19, 3) := by decide +kernel
theorem dX11_init_34 : decode cX11_init 34 = .ok (.aload_n 0, 1) := by decide +kernel
theorem dX11_init_35 : decode cX11_init 35 = .ok (.iconst 2, 1) := by decide +kernel
theorem dX11_init_36 : decode cX11_init 36 = .ok (.newarray .boolean, 2) := by decide +kernel
theorem dX11_init_38 : decode cX11_init 38 = .ok (.putfield 23, 3) := by decide +kernel
theorem dX11_init_41 : decode cX11_init 41 = .ok (.iconst 0, 1) := by decide +kernel
theorem dX11_init_42 : decode cX11_init 42 = .ok (.istore_n 1, 1) := by decide +kernel
theorem dX11_init_43 : decode cX11_init 43 = .ok (.iload_n 1, 1) := by decide +kernel
theorem dX11_init_44 : decode cX11_init 44 = .ok (.iconst 2, 1) := by decide +kernel
theorem dX11_init_45 : decode cX11_init 45 = .ok (.if_icmp .ge 22, 3) := by decide +kernel
theorem dX11_init_48 : decode cX11_init 48 = .ok (.aload_n 0, 1) := by decide +kernel
theorem dX11_init_49 : decode cX11_init 49 = .ok (.getfield 19, 3) := by decide +kernel
theorem dX11_init_52 : decode cX11_init 52 = .ok (.iload_n 1, 1) := by decide +kernel
theorem dX11_init_53 : decode cX11_init 53 = .ok (.new 7, 3) := by decide +kernel
theorem dX11_init_56 : decode cX11_init 56 = .ok (.dup, 1) := by decide +kernel
theorem dX11_init_57 : decode cX11_init 57 = .ok (.invokespecial 9, 3) := by decide +kernel
theorem dX11_init_60 : decode cX11_init 60 = .ok (.aastore, 1) := by decide +kernel
theorem dX11_init_61 : decode cX11_init 61 = .ok (.iinc 1 1, 3) := by decide +kernel
theorem dX11_init_64 : decode cX11_init 64 = .ok (.goto (-21), 3) := by decide +kernel
theorem dX11_init_67 : decode cX11_init 67 = .ok (.aload_n 0, 1) := by decide +kernel
theorem dX11_init_68 : decode cX11_init 68 = .ok (.new 27, 3) := by decide +kernel
theorem dX11_init_71 : decode cX11_init 71 = .ok (.dup, 1) := by decide +kernel
theorem dX11_init_72 : decode cX11_init 72 = .ok (.invokespecial 29, 3) := by decide +kernel
theorem dX11_init_75 : decode cX11_init 75 = .ok (.putfield 30, 3) := by decide +kernel
theorem dX11_init_78 : decode cX11_init 78 = .ok (.aload_n 0, 1) := by decide +kernel
theorem dX11_init_79 : decode cX11_init 79 = .ok (.new 34, 3) := by decide +kernel
theorem dX11_init_82 : decode cX11_init 82 = .ok (.dup, 1) := by decide +kernel
theorem dX11_init_83 : decode cX11_init 83 = .ok (.aload_n 0, 1) := by decide +kernel
theorem dX11_init_84 : decode cX11_init 84 = .ok (.getfield 30, 3) := by decide +kernel
theorem dX11_init_87 : decode cX11_init 87 = .ok (.invokespecial 36, 3) := by decide +kernel
theorem dX11_init_90 : decode cX11_init 90 = .ok (.putfield 39, 3) := by decide +kernel
theorem dX11_init_93 : decode cX11_init 93 = .ok (.aload_n 0, 1) := by decide +kernel
theorem dX11_init_94 : decode cX11_init 94 = .ok (.new 43, 3) := by decide +kernel
theorem dX11_init_97 : decode cX11_init 97 = .ok (.dup, 1) := by decide +kernel
theorem dX11_init_98 : decode cX11_init 98 = .ok (.invokespecial 45, 3) := by decide +kernel
theorem dX11_init_101 : decode cX11_init 101 = .ok (.putfield 46, 3) := by decide +kernel
theorem dX11_init_104 : decode cX11_init 104 = .ok (.aload_n 0, 1) := by decide +kernel
theorem dX11_init_105 : decode cX11_init 105 = .ok (.lconst 0, 1) := by decide +kernel
theorem dX11_init_106 : decode cX11_init 106 = .ok (.putfield 50, 3) := by decide +kernel
theorem dX11_init_109 : decode cX11_init 109 = .ok (.aload_n 0, 1) := by decide +kernel
theorem dX11_init_110 : decode cX11_init 110 = .ok (.lconst 1, 1) := by decide +kernel
theorem dX11_init_111 : decode cX11_init 111 = .ok (.putfield 54, 3) := by decide +kernel
theorem dX11_init_114 : decode cX11_init 114 = .ok (.return_, 1) := by decide +kernel
theorem dX11_valley_0 : decode cX11_valley 0 = .ok (.aload_n 0, 1) := by decide +kernel
theorem dX11_valley_1 : decode cX11_valley 1 = .ok (.getfield 10, 3) := by decide +kernel
theorem dX11_valley_4 : decode cX11_valley 4 = .ok (.getfield 57, 3) := by decide +kernel
theorem dX11_valley_7 : decode cX11_valley 7 = .ok (.istore_n 1, 1) := by decide +kernel
theorem dX11_valley_8 : decode cX11_valley 8 = .ok (.aload_n 0, 1) := by decide +kernel
theorem dX11_valley_9 : decode cX11_valley 9 = .ok (.getfield 10, 3) := by decide +kernel
theorem dX11_valley_12 : decode cX11_valley 12 = .ok (.invokevirtual 61, 3) := by decide +kernel
theorem dX11_valley_15 : decode cX11_valley 15 = .ok (.iload_n 1, 1) := by decide +kernel
theorem dX11_valley_16 : decode cX11_valley 16 = .ok (.ireturn, 1) := by decide +kernel
theorem dX11_prize_0 : decode cX11_prize 0 = .ok (.iload_n 1, 1) := by decide +kernel
theorem dX11_prize_1 : decode cX11_prize 1 = .ok (.iconst 0, 1) := by decide +kernel
theorem dX11_prize_2 : decode cX11_prize 2 = .ok (.bipush 7, 2) := by decide +kernel
theorem dX11_prize_4 : decode cX11_prize 4 = .ok (.invokestatic 64, 3) := by decide +kernel
theorem dX11_prize_7 : decode cX11_prize 7 = .ok (.ifCond .eq 22, 3) := by decide +kernel
theorem dX11_prize_10 : decode cX11_prize 10 = .ok (.iload_n 2, 1) := by decide +kernel
theorem dX11_prize_11 : decode cX11_prize 11 = .ok (.iconst 0, 1) := by decide +kernel
theorem dX11_prize_12 : decode cX11_prize 12 = .ok (.iconst 2, 1) := by decide +kernel
theorem dX11_prize_13 : decode cX11_prize 13 = .ok (.invokestatic 64, 3) := by decide +kernel
theorem dX11_prize_16 : decode cX11_prize 16 = .ok (.ifCond .eq 13, 3) := by decide +kernel
theorem dX11_prize_19 : decode cX11_prize 19 = .ok (.iload_n 3, 1) := by decide +kernel
theorem dX11_prize_20 : decode cX11_prize 20 = .ok (.iconst 1, 1) := by decide +kernel
theorem dX11_prize_21 : decode cX11_prize 21 = .ok (.bipush 30, 2) := by decide +kernel
theorem dX11_prize_23 : decode cX11_prize 23 = .ok (.invokestatic 64, 3) := by decide +kernel
theorem dX11_prize_26 : decode cX11_prize 26 = .ok (.ifCond .ne 8, 3) := by decide +kernel
theorem dX11_prize_29 : decode cX11_prize 29 = .ok (.aload_n 0, 1) := by decide +kernel
theorem dX11_prize_30 : decode cX11_prize 30 = .ok (.invokevirtual 68, 3) := by decide +kernel
theorem dX11_prize_33 : decode cX11_prize 33 = .ok (.ireturn, 1) := by decide +kernel
theorem dX11_prize_34 : decode cX11_prize 34 = .ok (.aload_n 0, 1) := by decide +kernel
theorem dX11_prize_35 : decode cX11_prize 35 = .ok (.getfield 10, 3) := by decide +kernel
theorem dX11_prize_38 : decode cX11_prize 38 = .ok (.getfield 72, 3) := by decide +kernel
theorem dX11_prize_41 : decode cX11_prize 41 = .ok (.iload_n 1, 1) := by decide +kernel
theorem dX11_prize_42 : decode cX11_prize 42 = .ok (.iaload, 1) := by decide +kernel
theorem dX11_prize_43 : decode cX11_prize 43 = .ok (.istore 4, 2) := by decide +kernel
theorem dX11_prize_45 : decode cX11_prize 45 = .ok (.aload_n 0, 1) := by decide +kernel
theorem dX11_prize_46 : decode cX11_prize 46 = .ok (.getfield 10, 3) := by decide +kernel
theorem dX11_prize_49 : decode cX11_prize 49 = .ok (.iload_n 1, 1) := by decide +kernel
theorem dX11_prize_50 : decode cX11_prize 50 = .ok (.iload_n 2, 1) := by decide +kernel
theorem dX11_prize_51 : decode cX11_prize 51 = .ok (.iload_n 3, 1) := by decide +kernel
theorem dX11_prize_52 : decode cX11_prize 52 = .ok (.invokevirtual 76, 3) := by decide +kernel
theorem dX11_prize_55 : decode cX11_prize 55 = .ok (.aload_n 0, 1) := by decide +kernel
theorem dX11_prize_56 : decode cX11_prize 56 = .ok (.getfield 10, 3) := by decide +kernel
theorem dX11_prize_59 : decode cX11_prize 59 = .ok (.iconst 0, 1) := by decide +kernel
theorem dX11_prize_60 : decode cX11_prize 60 = .ok (.putfield 80, 3) := by decide +kernel
theorem dX11_prize_63 : decode cX11_prize 63 = .ok (.iload 4, 2) := by decide +kernel
theorem dX11_prize_65 : decode cX11_prize 65 = .ok (.ireturn, 1) := by decide +kernel
theorem dX11_one_0 : decode cX11_one 0 = .ok (.iload_n 1, 1) := by decide +kernel
theorem dX11_one_1 : decode cX11_one 1 = .ok (.iconst 0, 1) := by decide +kernel
theorem dX11_one_2 : decode cX11_one 2 = .ok (.iconst 5, 1) := by decide +kernel
theorem dX11_one_3 : decode cX11_one 3 = .ok (.invokestatic 64, 3) := by decide +kernel
theorem dX11_one_6 : decode cX11_one 6 = .ok (.ifCond .eq 25, 3) := by decide +kernel
theorem dX11_one_9 : decode cX11_one 9 = .ok (.iload_n 2, 1) := by decide +kernel
theorem dX11_one_10 : decode cX11_one 10 = .ok (.invokestatic 83, 3) := by decide +kernel
theorem dX11_one_13 : decode cX11_one 13 = .ok (.ifCond .eq 18, 3) := by decide +kernel
theorem dX11_one_16 : decode cX11_one 16 = .ok (.iload_n 3, 1) := by decide +kernel
theorem dX11_one_17 : decode cX11_one 17 = .ok (.invokestatic 83, 3) := by decide +kernel
theorem dX11_one_20 : decode cX11_one 20 = .ok (.ifCond .eq 11, 3) := by decide +kernel
theorem dX11_one_23 : decode cX11_one 23 = .ok (.iload 4, 2) := by decide +kernel
theorem dX11_one_25 : decode cX11_one 25 = .ok (.invokestatic 83, 3) := by decide +kernel
theorem dX11_one_28 : decode cX11_one 28 = .ok (.ifCond .ne 8, 3) := by decide +kernel
theorem dX11_one_31 : decode cX11_one 31 = .ok (.aload_n 0, 1) := by decide +kernel
theorem dX11_one_32 : decode cX11_one 32 = .ok (.invokevirtual 68, 3) := by decide +kernel
theorem dX11_one_35 : decode cX11_one 35 = .ok (.ireturn, 1) := by decide +kernel
theorem dX11_one_36 : decode cX11_one 36 = .ok (.aload_n 0, 1) := by decide +kernel
theorem dX11_one_37 : decode cX11_one 37 = .ok (.getfield 10, 3) := by decide +kernel
theorem dX11_one_40 : decode cX11_one 40 = .ok (.getfield 57, 3) := by decide +kernel
theorem dX11_one_43 : decode cX11_one 43 = .ok (.bipush 6, 2) := by decide +kernel
theorem dX11_one_45 : decode cX11_one 45 = .ok (.if_icmp .lt 8, 3) := by decide +kernel
theorem dX11_one_48 : decode cX11_one 48 = .ok (.aload_n 0, 1) := by decide +kernel
theorem dX11_one_49 : decode cX11_one 49 = .ok (.invokevirtual 87, 3) := by decide +kernel
theorem dX11_one_52 : decode cX11_one 52 = .ok (.ireturn, 1) := by decide +kernel
theorem dX11_one_53 : decode cX11_one 53 = .ok (.aload_n 0, 1) := by decide +kernel
theorem dX11_one_54 : decode cX11_one 54 = .ok (.getfield 10, 3) := by decide +kernel
theorem dX11_one_57 : decode cX11_one 57 = .ok (.iload_n 1, 1) := by decide +kernel
theorem dX11_one_58 : decode cX11_one 58 = .ok (.iload_n 2, 1) := by decide +kernel
theorem dX11_one_59 : decode cX11_one 59 = .ok (.iload_n 3, 1) := by decide +kernel
theorem dX11_one_60 : decode cX11_one 60 = .ok (.iload 4, 2) := by decide +kernel
theorem dX11_one_62 : decode cX11_one 62 = .ok (.invokevirtual 90, 3) := by decide +kernel
theorem dX11_one_65 : decode cX11_one 65 = .ok (.aload_n 0, 1) := by decide +kernel
theorem dX11_one_66 : decode cX11_one 66 = .ok (.getfield 10, 3) := by decide +kernel
theorem dX11_one_69 : decode cX11_one 69 = .ok (.iconst 0, 1) := by decide +kernel
theorem dX11_one_70 : decode cX11_one 70 = .ok (.putfield 80, 3) := by decide +kernel
theorem dX11_one_73 : decode cX11_one 73 = .ok (.aload_n 0, 1) := by decide +kernel
theorem dX11_one_74 : decode cX11_one 74 = .ok (.getfield 10, 3) := by decide +kernel
theorem dX11_one_77 : decode cX11_one 77 = .ok (.getfield 57, 3) := by decide +kernel
theorem dX11_one_80 : decode cX11_one 80 = .ok (.iconst 1, 1) := by decide +kernel
theorem dX11_one_81 : decode cX11_one 81 = .ok (.isub, 1) := by decide +kernel
theorem dX11_one_82 : decode cX11_one 82 = .ok (.ireturn, 1) := by decide +kernel
theorem dX11_type_0 : decode cX11_type 0 = .ok (.iload_n 1, 1) := by decide +kernel
theorem dX11_type_1 : decode cX11_type 1 = .ok (.iconst 0, 1) := by decide +kernel
theorem dX11_type_2 : decode cX11_type 2 = .ok (.bipush 127, 2) := by decide +kernel
theorem dX11_type_4 : decode cX11_type 4 = .ok (.invokestatic 64, 3) := by decide +kernel
theorem dX11_type_7 : decode cX11_type 7 = .ok (.ifCond .ne 8, 3) := by decide +kernel
theorem dX11_type_10 : decode cX11_type 10 = .ok (.aload_n 0, 1) := by decide +kernel
theorem dX11_type_11 : decode cX11_type 11 = .ok (.invokevirtual 68, 3) := by decide +kernel
theorem dX11_type_14 : decode cX11_type 14 = .ok (.ireturn, 1) := by decide +kernel
theorem dX11_type_15 : decode cX11_type 15 = .ok (.aload_n 0, 1) := by decide +kernel
theorem dX11_type_16 : decode cX11_type 16 = .ok (.getfield 46, 3) := by decide +kernel
theorem dX11_type_19 : decode cX11_type 19 = .ok (.getfield 94, 3) := by decide +kernel
theorem dX11_type_22 : decode cX11_type 22 = .ok (.sipush 150, 3) := by decide +kernel
theorem dX11_type_25 : decode cX11_type 25 = .ok (.if_icmp .lt 8, 3) := by decide +kernel
theorem dX11_type_28 : decode cX11_type 28 = .ok (.aload_n 0, 1) := by decide +kernel
theorem dX11_type_29 : decode cX11_type 29 = .ok (.invokevirtual 87, 3) := by decide +kernel
theorem dX11_type_32 : decode cX11_type 32 = .ok (.ireturn, 1) := by decide +kernel
theorem dX11_type_33 : decode cX11_type 33 = .ok (.aload_n 0, 1) := by decide +kernel
theorem dX11_type_34 : decode cX11_type 34 = .ok (.getfield 46, 3) := by decide +kernel
theorem dX11_type_37 : decode cX11_type 37 = .ok (.iload_n 1, 1) := by decide +kernel
theorem dX11_type_38 : decode cX11_type 38 = .ok (.invokevirtual 97, 3) := by decide +kernel
theorem dX11_type_41 : decode cX11_type 41 = .ok (.aload_n 0, 1) := by decide +kernel
theorem dX11_type_42 : decode cX11_type 42 = .ok (.getfield 46, 3) := by decide +kernel
theorem dX11_type_45 : decode cX11_type 45 = .ok (.getfield 94, 3) := by decide +kernel
theorem dX11_type_48 : decode cX11_type 48 = .ok (.ireturn, 1) := by decide +kernel
theorem dX11_clear_0 : decode cX11_clear 0 = .ok (.aload_n 0, 1) := by decide +kernel
theorem dX11_clear_1 : decode cX11_clear 1 = .ok (.getfield 46, 3) := by decide +kernel
theorem dX11_clear_4 : decode cX11_clear 4 = .ok (.getfield 94, 3) := by decide +kernel
theorem dX11_clear_7 : decode cX11_clear 7 = .ok (.istore_n 1, 1) := by decide +kernel
theorem dX11_clear_8 : decode cX11_clear 8 = .ok (.aload_n 0, 1) := by decide +kernel
theorem dX11_clear_9 : decode cX11_clear 9 = .ok (.getfield 46, 3) := by decide +kernel
theorem dX11_clear_12 : decode cX11_clear 12 = .ok (.iconst 0, 1) := by decide +kernel
theorem dX11_clear_13 : decode cX11_clear 13 = .ok (.putfield 94, 3) := by decide +kernel
theorem dX11_clear_16 : decode cX11_clear 16 = .ok (.iload_n 1, 1) := by decide +kernel
theorem dX11_clear_17 : decode cX11_clear 17 = .ok (.ireturn, 1) := by decide +kernel
theorem dX11_read_0 : decode cX11_read 0 = .ok (.aload_n 0, 1) := by decide +kernel
theorem dX11_read_1 : decode cX11_read 1 = .ok (.getfield 46, 3) := by decide +kernel
theorem dX11_read_4 : decode cX11_read 4 = .ok (.aload_n 0, 1) := by decide +kernel
theorem dX11_read_5 : decode cX11_read 5 = .ok (.getfield 16, 3) := by decide +kernel
theorem dX11_read_8 : decode cX11_read 8 = .ok (.invokevirtual 101, 3) := by decide +kernel
theorem dX11_read_11 : decode cX11_read 11 = .ok (.istore_n 1, 1) := by decide +kernel
theorem dX11_read_12 : decode cX11_read 12 = .ok (.iload_n 1, 1) := by decide +kernel
theorem dX11_read_13 : decode cX11_read 13 = .ok (.ifCond .lt 14, 3) := by decide +kernel
theorem dX11_read_16 : decode cX11_read 16 = .ok (.aload_n 0, 1) := by decide +kernel
theorem dX11_read_17 : decode cX11_read 17 = .ok (.getfield 10, 3) := by decide +kernel
theorem dX11_read_20 : decode cX11_read 20 = .ok (.aload_n 0, 1) := by decide +kernel
theorem dX11_read_21 : decode cX11_read 21 = .ok (.getfield 16, 3) := by decide +kernel
theorem dX11_read_24 : decode cX11_read 24 = .ok (.invokevirtual 105, 3) := by decide +kernel
theorem dX11_read_27 : decode cX11_read 27 = .ok (.iload_n 1, 1) := by decide +kernel
theorem dX11_read_28 : decode cX11_read 28 = .ok (.ireturn, 1) := by decide +kernel
theorem dX11_year_0 : decode cX11_year 0 = .ok (.aload_n 0, 1) := by decide +kernel
theorem dX11_year_1 : decode cX11_year 1 = .ok (.getfield 10, 3) := by decide +kernel
theorem dX11_year_4 : decode cX11_year 4 = .ok (.getfield 109, 3) := by decide +kernel
theorem dX11_year_7 : decode cX11_year 7 = .ok (.bipush 8, 2) := by decide +kernel
theorem dX11_year_9 : decode cX11_year 9 = .ok (.if_icmp .lt 8, 3) := by decide +kernel
theorem dX11_year_12 : decode cX11_year 12 = .ok (.aload_n 0, 1) := by decide +kernel
theorem dX11_year_13 : decode cX11_year 13 = .ok (.invokevirtual 112, 3) := by decide +kernel
theorem dX11_year_16 : decode cX11_year 16 = .ok (.ireturn, 1) := by decide +kernel
theorem dX11_year_17 : decode cX11_year 17 = .ok (.aload_n 0, 1) := by decide +kernel
theorem dX11_year_18 : decode cX11_year 18 = .ok (.getfield 30, 3) := by decide +kernel
theorem dX11_year_21 : decode cX11_year 21 = .ok (.invokevirtual 115, 3) := by decide +kernel
theorem dX11_year_24 : decode cX11_year 24 = .ok (.aload_n 0, 1) := by decide +kernel
theorem dX11_year_25 : decode cX11_year 25 = .ok (.getfield 30, 3) := by decide +kernel
theorem dX11_year_28 : decode cX11_year 28 = .ok (.aload_n 0, 1) := by decide +kernel
theorem dX11_year_29 : decode cX11_year 29 = .ok (.getfield 10, 3) := by decide +kernel
theorem dX11_year_32 : decode cX11_year 32 = .ok (.aload_n 0, 1) := by decide +kernel
theorem dX11_year_33 : decode cX11_year 33 = .ok (.getfield 10, 3) := by decide +kernel
theorem dX11_year_36 : decode cX11_year 36 = .ok (.getfield 109, 3) := by decide +kernel
theorem dX11_year_39 : decode cX11_year 39 = .ok (.invokevirtual 118, 3) := by decide +kernel
theorem dX11_year_42 : decode cX11_year 42 = .ok (.aload_n 0, 1) := by decide +kernel
theorem dX11_year_43 : decode cX11_year 43 = .ok (.getfield 10, 3) := by decide +kernel
theorem dX11_year_46 : decode cX11_year 46 = .ok (.aload_n 0, 1) := by decide +kernel
theorem dX11_year_47 : decode cX11_year 47 = .ok (.getfield 30, 3) := by decide +kernel
theorem dX11_year_50 : decode cX11_year 50 = .ok (.getfield 122, 3) := by decide +kernel
theorem dX11_year_53 : decode cX11_year 53 = .ok (.aload_n 0, 1) := by decide +kernel
theorem dX11_year_54 : decode cX11_year 54 = .ok (.getfield 30, 3) := by decide +kernel
theorem dX11_year_57 : decode cX11_year 57 = .ok (.getfield 125, 3) := by decide +kernel
theorem dX11_year_60 : decode cX11_year 60 = .ok (.invokevirtual 128, 3) := by decide +kernel
theorem dX11_year_63 : decode cX11_year 63 = .ok (.aload_n 0, 1) := by decide +kernel
theorem dX11_year_64 : decode cX11_year 64 = .ok (.getfield 30, 3) := by decide +kernel
theorem dX11_year_67 : decode cX11_year 67 = .ok (.getfield 122, 3) := by decide +kernel
theorem dX11_year_70 : decode cX11_year 70 = .ok (.ireturn, 1) := by decide +kernel
theorem dX11_undo_0 : decode cX11_undo 0 = .ok (.aload_n 0, 1) := by decide +kernel
theorem dX11_undo_1 : decode cX11_undo 1 = .ok (.getfield 10, 3) := by decide +kernel
theorem dX11_undo_4 : decode cX11_undo 4 = .ok (.getfield 80, 3) := by decide +kernel
theorem dX11_undo_7 : decode cX11_undo 7 = .ok (.ifCond .gt 8, 3) := by decide +kernel
theorem dX11_undo_10 : decode cX11_undo 10 = .ok (.aload_n 0, 1) := by decide +kernel
theorem dX11_undo_11 : decode cX11_undo 11 = .ok (.invokevirtual 112, 3) := by decide +kernel
theorem dX11_undo_14 : decode cX11_undo 14 = .ok (.ireturn, 1) := by decide +kernel
theorem dX11_undo_15 : decode cX11_undo 15 = .ok (.aload_n 0, 1) := by decide +kernel
theorem dX11_undo_16 : decode cX11_undo 16 = .ok (.getfield 10, 3) := by decide +kernel
theorem dX11_undo_19 : decode cX11_undo 19 = .ok (.invokevirtual 132, 3) := by decide +kernel
theorem dX11_undo_22 : decode cX11_undo 22 = .ok (.aload_n 0, 1) := by decide +kernel
theorem dX11_undo_23 : decode cX11_undo 23 = .ok (.getfield 10, 3) := by decide +kernel
theorem dX11_undo_26 : decode cX11_undo 26 = .ok (.getfield 109, 3) := by decide +kernel
theorem dX11_undo_29 : decode cX11_undo 29 = .ok (.ireturn, 1) := by decide +kernel
theorem dX11_of_0 : decode cX11_of 0 = .ok (.aload_n 0, 1) := by decide +kernel
theorem dX11_of_1 : decode cX11_of 1 = .ok (.iload_n 1, 1) := by decide +kernel
theorem dX11_of_2 : decode cX11_of 2 = .ok (.invokevirtual 135, 3) := by decide +kernel
theorem dX11_of_5 : decode cX11_of 5 = .ok (.ifCond .eq 13, 3) := by decide +kernel
theorem dX11_of_8 : decode cX11_of 8 = .ok (.iload_n 2, 1) := by decide +kernel
theorem dX11_of_9 : decode cX11_of 9 = .ok (.iconst 0, 1) := by decide +kernel
theorem dX11_of_10 : decode cX11_of 10 = .ok (.bipush 6, 2) := by decide +kernel
theorem dX11_of_12 : decode cX11_of 12 = .ok (.invokestatic 64, 3) := by decide +kernel
theorem dX11_of_15 : decode cX11_of 15 = .ok (.ifCond .ne 8, 3) := by decide +kernel
theorem dX11_of_18 : decode cX11_of 18 = .ok (.aload_n 0, 1) := by decide +kernel
theorem dX11_of_19 : decode cX11_of 19 = .ok (.invokevirtual 68, 3) := by decide +kernel
theorem dX11_of_22 : decode cX11_of 22 = .ok (.ireturn, 1) := by decide +kernel
theorem dX11_of_23 : decode cX11_of 23 = .ok (.iload_n 2, 1) := by decide +kernel
theorem dX11_of_24 : decode cX11_of 24 = .ok (.tableswitch 95 0 6 #[44, 95, 95, 95, 54, 64, 74], 44) := by decide +kernel
theorem dX11_of_68 : decode cX11_of 68 = .ok (.aload_n 0, 1) := by decide +kernel
theorem dX11_of_69 : decode cX11_of 69 = .ok (.getfield 10, 3) := by decide +kernel
theorem dX11_of_72 : decode cX11_of 72 = .ok (.getfield 138, 3) := by decide +kernel
theorem dX11_of_75 : decode cX11_of 75 = .ok (.iload_n 1, 1) := by decide +kernel
theorem dX11_of_76 : decode cX11_of 76 = .ok (.iaload, 1) := by decide +kernel
theorem dX11_of_77 : decode cX11_of 77 = .ok (.ireturn, 1) := by decide +kernel
theorem dX11_of_78 : decode cX11_of 78 = .ok (.aload_n 0, 1) := by decide +kernel
theorem dX11_of_79 : decode cX11_of 79 = .ok (.getfield 10, 3) := by decide +kernel
theorem dX11_of_82 : decode cX11_of 82 = .ok (.getfield 141, 3) := by decide +kernel
theorem dX11_of_85 : decode cX11_of 85 = .ok (.iload_n 1, 1) := by decide +kernel
theorem dX11_of_86 : decode cX11_of 86 = .ok (.iaload, 1) := by decide +kernel
theorem dX11_of_87 : decode cX11_of 87 = .ok (.ireturn, 1) := by decide +kernel
theorem dX11_of_88 : decode cX11_of 88 = .ok (.aload_n 0, 1) := by decide +kernel
theorem dX11_of_89 : decode cX11_of 89 = .ok (.getfield 10, 3) := by decide +kernel
theorem dX11_of_92 : decode cX11_of 92 = .ok (.getfield 144, 3) := by decide +kernel
theorem dX11_of_95 : decode cX11_of 95 = .ok (.iload_n 1, 1) := by decide +kernel
theorem dX11_of_96 : decode cX11_of 96 = .ok (.iaload, 1) := by decide +kernel
theorem dX11_of_97 : decode cX11_of 97 = .ok (.ireturn, 1) := by decide +kernel
theorem dX11_of_98 : decode cX11_of 98 = .ok (.aload_n 0, 1) := by decide +kernel
theorem dX11_of_99 : decode cX11_of 99 = .ok (.getfield 30, 3) := by decide +kernel
theorem dX11_of_102 : decode cX11_of 102 = .ok (.aload_n 0, 1) := by decide +kernel
theorem dX11_of_103 : decode cX11_of 103 = .ok (.getfield 10, 3) := by decide +kernel
theorem dX11_of_106 : decode cX11_of 106 = .ok (.iload_n 1, 1) := by decide +kernel
theorem dX11_of_107 : decode cX11_of 107 = .ok (.invokevirtual 147, 3) := by decide +kernel
theorem dX11_of_110 : decode cX11_of 110 = .ok (.ifCond .eq 7, 3) := by decide +kernel
theorem dX11_of_113 : decode cX11_of 113 = .ok (.iconst 1, 1) := by decide +kernel
theorem dX11_of_114 : decode cX11_of 114 = .ok (.goto 4, 3) := by decide +kernel
theorem dX11_of_117 : decode cX11_of 117 = .ok (.iconst 0, 1) := by decide +kernel
theorem dX11_of_118 : decode cX11_of 118 = .ok (.ireturn, 1) := by decide +kernel
theorem dX11_of_119 : decode cX11_of 119 = .ok (.aload_n 0, 1) := by decide +kernel
theorem dX11_of_120 : decode cX11_of 120 = .ok (.getfield 10, 3) := by decide +kernel
theorem dX11_of_123 : decode cX11_of 123 = .ok (.getfield 151, 3) := by decide +kernel
theorem dX11_of_126 : decode cX11_of 126 = .ok (.iload_n 1, 1) := by decide +kernel
theorem dX11_of_127 : decode cX11_of 127 = .ok (.iconst 3, 1) := by decide +kernel
theorem dX11_of_128 : decode cX11_of 128 = .ok (.imul, 1) := by decide +kernel
theorem dX11_of_129 : decode cX11_of 129 = .ok (.iload_n 2, 1) := by decide +kernel
theorem dX11_of_130 : decode cX11_of 130 = .ok (.iadd, 1) := by decide +kernel
theorem dX11_of_131 : decode cX11_of 131 = .ok (.iconst 1, 1) := by decide +kernel
theorem dX11_of_132 : decode cX11_of 132 = .ok (.isub, 1) := by decide +kernel
theorem dX11_of_133 : decode cX11_of 133 = .ok (.iaload, 1) := by decide +kernel
theorem dX11_of_134 : decode cX11_of 134 = .ok (.ireturn, 1) := by decide +kernel
theorem dX11_about_0 : decode cX11_about 0 = .ok (.iload_n 1, 1) := by decide +kernel
theorem dX11_about_1 : decode cX11_about 1 = .ok (.iconst 0, 1) := by decide +kernel
theorem dX11_about_2 : decode cX11_about 2 = .ok (.bipush 7, 2) := by decide +kernel
theorem dX11_about_4 : decode cX11_about 4 = .ok (.invokestatic 64, 3) := by decide +kernel
theorem dX11_about_7 : decode cX11_about 7 = .ok (.ifCond .eq 12, 3) := by decide +kernel
theorem dX11_about_10 : decode cX11_about 10 = .ok (.iload_n 2, 1) := by decide +kernel
theorem dX11_about_11 : decode cX11_about 11 = .ok (.iconst 0, 1) := by decide +kernel
theorem dX11_about_12 : decode cX11_about 12 = .ok (.iconst 1, 1) := by decide +kernel
theorem dX11_about_13 : decode cX11_about 13 = .ok (.invokestatic 64, 3) := by decide +kernel
theorem dX11_about_16 : decode cX11_about 16 = .ok (.ifCond .ne 11, 3) := by decide +kernel
theorem dX11_about_19 : decode cX11_about 19 = .ok (.aload_n 0, 1) := by decide +kernel
theorem dX11_about_20 : decode cX11_about 20 = .ok (.invokevirtual 68, 3) := by decide +kernel
theorem dX11_about_23 : decode cX11_about 23 = .ok (.pop, 1) := by decide +kernel
theorem dX11_about_24 : decode cX11_about 24 = .ok (.bipush (-10), 2) := by decide +kernel
theorem dX11_about_26 : decode cX11_about 26 = .ok (.ireturn, 1) := by decide +kernel
theorem dX11_about_27 : decode cX11_about 27 = .ok (.iload_n 2, 1) := by decide +kernel
theorem dX11_about_28 : decode cX11_about 28 = .ok (.ifCond .ne 15, 3) := by decide +kernel
theorem dX11_about_31 : decode cX11_about 31 = .ok (.aload_n 0, 1) := by decide +kernel
theorem dX11_about_32 : decode cX11_about 32 = .ok (.getfield 10, 3) := by decide +kernel
theorem dX11_about_35 : decode cX11_about 35 = .ok (.getfield 154, 3) := by decide +kernel
theorem dX11_about_38 : decode cX11_about 38 = .ok (.iload_n 1, 1) := by decide +kernel
theorem dX11_about_39 : decode cX11_about 39 = .ok (.iaload, 1) := by decide +kernel
theorem dX11_about_40 : decode cX11_about 40 = .ok (.goto 12, 3) := by decide +kernel
theorem dX11_about_43 : decode cX11_about 43 = .ok (.aload_n 0, 1) := by decide +kernel
theorem dX11_about_44 : decode cX11_about 44 = .ok (.getfield 10, 3) := by decide +kernel
theorem dX11_about_47 : decode cX11_about 47 = .ok (.getfield 72, 3) := by decide +kernel
theorem dX11_about_50 : decode cX11_about 50 = .ok (.iload_n 1, 1) := by decide +kernel
theorem dX11_about_51 : decode cX11_about 51 = .ok (.iaload, 1) := by decide +kernel
theorem dX11_about_52 : decode cX11_about 52 = .ok (.ireturn, 1) := by decide +kernel
theorem dX11_good_0 : decode cX11_good 0 = .ok (.aload_n 0, 1) := by decide +kernel
theorem dX11_good_1 : decode cX11_good 1 = .ok (.iload_n 1, 1) := by decide +kernel
theorem dX11_good_2 : decode cX11_good 2 = .ok (.invokevirtual 135, 3) := by decide +kernel
theorem dX11_good_5 : decode cX11_good 5 = .ok (.ifCond .eq 22, 3) := by decide +kernel
theorem dX11_good_8 : decode cX11_good 8 = .ok (.iload_n 2, 1) := by decide +kernel
theorem dX11_good_9 : decode cX11_good 9 = .ok (.iconst 0, 1) := by decide +kernel
theorem dX11_good_10 : decode cX11_good 10 = .ok (.iconst 2, 1) := by decide +kernel
theorem dX11_good_11 : decode cX11_good 11 = .ok (.invokestatic 64, 3) := by decide +kernel
theorem dX11_good_14 : decode cX11_good 14 = .ok (.ifCond .eq 13, 3) := by decide +kernel
theorem dX11_good_17 : decode cX11_good 17 = .ok (.iload_n 3, 1) := by decide +kernel
theorem dX11_good_18 : decode cX11_good 18 = .ok (.iconst 0, 1) := by decide +kernel
theorem dX11_good_19 : decode cX11_good 19 = .ok (.bipush 7, 2) := by decide +kernel
theorem dX11_good_21 : decode cX11_good 21 = .ok (.invokestatic 64, 3) := by decide +kernel
theorem dX11_good_24 : decode cX11_good 24 = .ok (.ifCond .ne 8, 3) := by decide +kernel
theorem dX11_good_27 : decode cX11_good 27 = .ok (.aload_n 0, 1) := by decide +kernel
theorem dX11_good_28 : decode cX11_good 28 = .ok (.invokevirtual 68, 3) := by decide +kernel
theorem dX11_good_31 : decode cX11_good 31 = .ok (.ireturn, 1) := by decide +kernel
theorem dX11_good_32 : decode cX11_good 32 = .ok (.aload_n 0, 1) := by decide +kernel
theorem dX11_good_33 : decode cX11_good 33 = .ok (.getfield 30, 3) := by decide +kernel
theorem dX11_good_36 : decode cX11_good 36 = .ok (.aload_n 0, 1) := by decide +kernel
theorem dX11_good_37 : decode cX11_good 37 = .ok (.getfield 10, 3) := by decide +kernel
theorem dX11_good_40 : decode cX11_good 40 = .ok (.getfield 138, 3) := by decide +kernel
theorem dX11_good_43 : decode cX11_good 43 = .ok (.iload_n 1, 1) := by decide +kernel
theorem dX11_good_44 : decode cX11_good 44 = .ok (.iaload, 1) := by decide +kernel
theorem dX11_good_45 : decode cX11_good 45 = .ok (.aload_n 0, 1) := by decide +kernel
theorem dX11_good_46 : decode cX11_good 46 = .ok (.getfield 10, 3) := by decide +kernel
theorem dX11_good_49 : decode cX11_good 49 = .ok (.getfield 151, 3) := by decide +kernel
theorem dX11_good_52 : decode cX11_good 52 = .ok (.iload_n 1, 1) := by decide +kernel
theorem dX11_good_53 : decode cX11_good 53 = .ok (.iconst 3, 1) := by decide +kernel
theorem dX11_good_54 : decode cX11_good 54 = .ok (.imul, 1) := by decide +kernel
theorem dX11_good_55 : decode cX11_good 55 = .ok (.iload_n 2, 1) := by decide +kernel
theorem dX11_good_56 : decode cX11_good 56 = .ok (.iadd, 1) := by decide +kernel
theorem dX11_good_57 : decode cX11_good 57 = .ok (.iaload, 1) := by decide +kernel
theorem dX11_good_58 : decode cX11_good 58 = .ok (.iload_n 3, 1) := by decide +kernel
theorem dX11_good_59 : decode cX11_good 59 = .ok (.invokevirtual 157, 3) := by decide +kernel
theorem dX11_good_62 : decode cX11_good 62 = .ok (.ireturn, 1) := by decide +kernel
theorem dX11_enter_0 : decode cX11_enter 0 = .ok (.aload_n 0, 1) := by decide +kernel
theorem dX11_enter_1 : decode cX11_enter 1 = .ok (.iload_n 1, 1) := by decide +kernel
theorem dX11_enter_2 : decode cX11_enter 2 = .ok (.invokevirtual 161, 3) := by decide +kernel
theorem dX11_enter_5 : decode cX11_enter 5 = .ok (.ifCond .ne 8, 3) := by decide +kernel
theorem dX11_enter_8 : decode cX11_enter 8 = .ok (.aload_n 0, 1) := by decide +kernel
theorem dX11_enter_9 : decode cX11_enter 9 = .ok (.invokevirtual 68, 3) := by decide +kernel
theorem dX11_enter_12 : decode cX11_enter 12 = .ok (.ireturn, 1) := by decide +kernel
theorem dX11_enter_13 : decode cX11_enter 13 = .ok (.aload_n 0, 1) := by decide +kernel
theorem dX11_enter_14 : decode cX11_enter 14 = .ok (.getfield 39, 3) := by decide +kernel
theorem dX11_enter_17 : decode cX11_enter 17 = .ok (.aload_n 0, 1) := by decide +kernel
theorem dX11_enter_18 : decode cX11_enter 18 = .ok (.getfield 10, 3) := by decide +kernel
theorem dX11_enter_21 : decode cX11_enter 21 = .ok (.iload_n 1, 1) := by decide +kernel
theorem dX11_enter_22 : decode cX11_enter 22 = .ok (.invokevirtual 164, 3) := by decide +kernel
theorem dX11_enter_25 : decode cX11_enter 25 = .ok (.aload_n 0, 1) := by decide +kernel
theorem dX11_enter_26 : decode cX11_enter 26 = .ok (.getfield 30, 3) := by decide +kernel
theorem dX11_enter_29 : decode cX11_enter 29 = .ok (.getfield 167, 3) := by decide +kernel
theorem dX11_enter_32 : decode cX11_enter 32 = .ok (.ireturn, 1) := by decide +kernel
theorem dX11_winner_0 : decode cX11_winner 0 = .ok (.aload_n 0, 1) := by decide +kernel
theorem dX11_winner_1 : decode cX11_winner 1 = .ok (.iload_n 1, 1) := by decide +kernel
theorem dX11_winner_2 : decode cX11_winner 2 = .ok (.invokevirtual 161, 3) := by decide +kernel
theorem dX11_winner_5 : decode cX11_winner 5 = .ok (.ifCond .eq 12, 3) := by decide +kernel
theorem dX11_winner_8 : decode cX11_winner 8 = .ok (.iload_n 2, 1) := by decide +kernel
theorem dX11_winner_9 : decode cX11_winner 9 = .ok (.iconst 0, 1) := by decide +kernel
theorem dX11_winner_10 : decode cX11_winner 10 = .ok (.iconst 1, 1) := by decide +kernel
theorem dX11_winner_11 : decode cX11_winner 11 = .ok (.invokestatic 64, 3) := by decide +kernel
theorem dX11_winner_14 : decode cX11_winner 14 = .ok (.ifCond .ne 8, 3) := by decide +kernel
theorem dX11_winner_17 : decode cX11_winner 17 = .ok (.aload_n 0, 1) := by decide +kernel
theorem dX11_winner_18 : decode cX11_winner 18 = .ok (.invokevirtual 68, 3) := by decide +kernel
theorem dX11_winner_21 : decode cX11_winner 21 = .ok (.ireturn, 1) := by decide +kernel
theorem dX11_winner_22 : decode cX11_winner 22 = .ok (.aload_n 0, 1) := by decide +kernel
theorem dX11_winner_23 : decode cX11_winner 23 = .ok (.getfield 39, 3) := by decide +kernel
theorem dX11_winner_26 : decode cX11_winner 26 = .ok (.aload_n 0, 1) := by decide +kernel
theorem dX11_winner_27 : decode cX11_winner 27 = .ok (.getfield 10, 3) := by decide +kernel
theorem dX11_winner_30 : decode cX11_winner 30 = .ok (.iload_n 1, 1) := by decide +kernel
theorem dX11_winner_31 : decode cX11_winner 31 = .ok (.invokevirtual 164, 3) := by decide +kernel
theorem dX11_winner_34 : decode cX11_winner 34 = .ok (.iload_n 2, 1) := by decide +kernel
theorem dX11_winner_35 : decode cX11_winner 35 = .ok (.ifCond .ne 13, 3) := by decide +kernel
theorem dX11_winner_38 : decode cX11_winner 38 = .ok (.aload_n 0, 1) := by decide +kernel
theorem dX11_winner_39 : decode cX11_winner 39 = .ok (.getfield 30, 3) := by decide +kernel
theorem dX11_winner_42 : decode cX11_winner 42 = .ok (.getfield 122, 3) := by decide +kernel
theorem dX11_winner_45 : decode cX11_winner 45 = .ok (.goto 10, 3) := by decide +kernel
theorem dX11_winner_48 : decode cX11_winner 48 = .ok (.aload_n 0, 1) := by decide +kernel
theorem dX11_winner_49 : decode cX11_winner 49 = .ok (.getfield 30, 3) := by decide +kernel
theorem dX11_winner_52 : decode cX11_winner 52 = .ok (.getfield 125, 3) := by decide +kernel
theorem dX11_winner_55 : decode cX11_winner 55 = .ok (.ireturn, 1) := by decide +kernel
theorem dX11_end_0 : decode cX11_end 0 = .ok (.aload_n 0, 1) := by decide +kernel
theorem dX11_end_1 : decode cX11_end 1 = .ok (.iload_n 1, 1) := by decide +kernel
theorem dX11_end_2 : decode cX11_end 2 = .ok (.invokevirtual 135, 3) := by decide +kernel
theorem dX11_end_5 : decode cX11_end 5 = .ok (.ifCond .eq 12, 3) := by decide +kernel
theorem dX11_end_8 : decode cX11_end 8 = .ok (.iload_n 2, 1) := by decide +kernel
theorem dX11_end_9 : decode cX11_end 9 = .ok (.iconst 0, 1) := by decide +kernel
theorem dX11_end_10 : decode cX11_end 10 = .ok (.iconst 1, 1) := by decide +kernel
theorem dX11_end_11 : decode cX11_end 11 = .ok (.invokestatic 64, 3) := by decide +kernel
theorem dX11_end_14 : decode cX11_end 14 = .ok (.ifCond .ne 8, 3) := by decide +kernel
theorem dX11_end_17 : decode cX11_end 17 = .ok (.aload_n 0, 1) := by decide +kernel
theorem dX11_end_18 : decode cX11_end 18 = .ok (.invokevirtual 68, 3) := by decide +kernel
theorem dX11_end_21 : decode cX11_end 21 = .ok (.ireturn, 1) := by decide +kernel
theorem dX11_end_22 : decode cX11_end 22 = .ok (.aload_n 0, 1) := by decide +kernel
theorem dX11_end_23 : decode cX11_end 23 = .ok (.getfield 39, 3) := by decide +kernel
theorem dX11_end_26 : decode cX11_end 26 = .ok (.aload_n 0, 1) := by decide +kernel
theorem dX11_end_27 : decode cX11_end 27 = .ok (.getfield 10, 3) := by decide +kernel
theorem dX11_end_30 : decode cX11_end 30 = .ok (.invokevirtual 170, 3) := by decide +kernel
theorem dX11_end_33 : decode cX11_end 33 = .ok (.aload_n 0, 1) := by decide +kernel
theorem dX11_end_34 : decode cX11_end 34 = .ok (.getfield 39, 3) := by decide +kernel
theorem dX11_end_37 : decode cX11_end 37 = .ok (.bipush 8, 2) := by decide +kernel
theorem dX11_end_39 : decode cX11_end 39 = .ok (.invokevirtual 173, 3) := by decide +kernel
theorem dX11_end_42 : decode cX11_end 42 = .ok (.iload_n 2, 1) := by decide +kernel
theorem dX11_end_43 : decode cX11_end 43 = .ok (.ifCond .ne 17, 3) := by decide +kernel
theorem dX11_end_46 : decode cX11_end 46 = .ok (.aload_n 0, 1) := by decide +kernel
theorem dX11_end_47 : decode cX11_end 47 = .ok (.getfield 39, 3) := by decide +kernel
theorem dX11_end_50 : decode cX11_end 50 = .ok (.getfield 176, 3) := by decide +kernel
theorem dX11_end_53 : decode cX11_end 53 = .ok (.iload_n 1, 1) := by decide +kernel
theorem dX11_end_54 : decode cX11_end 54 = .ok (.invokevirtual 179, 3) := by decide +kernel
theorem dX11_end_57 : decode cX11_end 57 = .ok (.goto 15, 3) := by decide +kernel
theorem dX11_end_60 : decode cX11_end 60 = .ok (.aload_n 0, 1) := by decide +kernel
theorem dX11_end_61 : decode cX11_end 61 = .ok (.getfield 39, 3) := by decide +kernel
theorem dX11_end_64 : decode cX11_end 64 = .ok (.getfield 176, 3) := by decide +kernel
theorem dX11_end_67 : decode cX11_end 67 = .ok (.getfield 144, 3) := by decide +kernel
theorem dX11_end_70 : decode cX11_end 70 = .ok (.iload_n 1, 1) := by decide +kernel
theorem dX11_end_71 : decode cX11_end 71 = .ok (.iaload, 1) := by decide +kernel
theorem dX11_end_72 : decode cX11_end 72 = .ok (.ireturn, 1) := by decide +kernel
theorem dX11_left_0 : decode cX11_left 0 = .ok (.aload_n 0, 1) := by decide +kernel
theorem dX11_left_1 : decode cX11_left 1 = .ok (.getfield 39, 3) := by decide +kernel
theorem dX11_left_4 : decode cX11_left 4 = .ok (.aload_n 0, 1) := by decide +kernel
theorem dX11_left_5 : decode cX11_left 5 = .ok (.getfield 10, 3) := by decide +kernel
theorem dX11_left_8 : decode cX11_left 8 = .ok (.invokevirtual 183, 3) := by decide +kernel
theorem dX11_left_11 : decode cX11_left 11 = .ok (.ireturn, 1) := by decide +kernel
theorem dX11_best_0 : decode cX11_best 0 = .ok (.aload_n 0, 1) := by decide +kernel
theorem dX11_best_1 : decode cX11_best 1 = .ok (.iload_n 1, 1) := by decide +kernel
theorem dX11_best_2 : decode cX11_best 2 = .ok (.invokevirtual 135, 3) := by decide +kernel
theorem dX11_best_5 : decode cX11_best 5 = .ok (.ifCond .eq 12, 3) := by decide +kernel
theorem dX11_best_8 : decode cX11_best 8 = .ok (.iload_n 2, 1) := by decide +kernel
theorem dX11_best_9 : decode cX11_best 9 = .ok (.iconst 0, 1) := by decide +kernel
theorem dX11_best_10 : decode cX11_best 10 = .ok (.iconst 1, 1) := by decide +kernel
theorem dX11_best_11 : decode cX11_best 11 = .ok (.invokestatic 64, 3) := by decide +kernel
theorem dX11_best_14 : decode cX11_best 14 = .ok (.ifCond .ne 8, 3) := by decide +kernel
theorem dX11_best_17 : decode cX11_best 17 = .ok (.aload_n 0, 1) := by decide +kernel
theorem dX11_best_18 : decode cX11_best 18 = .ok (.invokevirtual 68, 3) := by decide +kernel
theorem dX11_best_21 : decode cX11_best 21 = .ok (.ireturn, 1) := by decide +kernel
theorem dX11_best_22 : decode cX11_best 22 = .ok (.aload_n 0, 1) := by decide +kernel
theorem dX11_best_23 : decode cX11_best 23 = .ok (.getfield 39, 3) := by decide +kernel
theorem dX11_best_26 : decode cX11_best 26 = .ok (.aload_n 0, 1) := by decide +kernel
theorem dX11_best_27 : decode cX11_best 27 = .ok (.getfield 10, 3) := by decide +kernel
theorem dX11_best_30 : decode cX11_best 30 = .ok (.iload_n 1, 1) := by decide +kernel
theorem dX11_best_31 : decode cX11_best 31 = .ok (.invokevirtual 186, 3) := by decide +kernel
theorem dX11_best_34 : decode cX11_best 34 = .ok (.istore_n 3, 1) := by decide +kernel
theorem dX11_best_35 : decode cX11_best 35 = .ok (.iload_n 3, 1) := by decide +kernel
theorem dX11_best_36 : decode cX11_best 36 = .ok (.iconst (-1), 1) := by decide +kernel
theorem dX11_best_37 : decode cX11_best 37 = .ok (.if_icmp .eq 7, 3) := by decide +kernel
theorem dX11_best_40 : decode cX11_best 40 = .ok (.iload_n 2, 1) := by decide +kernel
theorem dX11_best_41 : decode cX11_best 41 = .ok (.ifCond .ne 7, 3) := by decide +kernel
theorem dX11_best_44 : decode cX11_best 44 = .ok (.iload_n 3, 1) := by decide +kernel
theorem dX11_best_45 : decode cX11_best 45 = .ok (.goto 12, 3) := by decide +kernel
theorem dX11_best_48 : decode cX11_best 48 = .ok (.aload_n 0, 1) := by decide +kernel
theorem dX11_best_49 : decode cX11_best 49 = .ok (.getfield 10, 3) := by decide +kernel
theorem dX11_best_52 : decode cX11_best 52 = .ok (.getfield 72, 3) := by decide +kernel
theorem dX11_best_55 : decode cX11_best 55 = .ok (.iload_n 3, 1) := by decide +kernel
theorem dX11_best_56 : decode cX11_best 56 = .ok (.iaload, 1) := by decide +kernel
theorem dX11_best_57 : decode cX11_best 57 = .ok (.ireturn, 1) := by decide +kernel
theorem dX11_rivals_0 : decode cX11_rivals 0 = .ok (.aload_n 0, 1) := by decide +kernel
theorem dX11_rivals_1 : decode cX11_rivals 1 = .ok (.iload_n 1, 1) := by decide +kernel
theorem dX11_rivals_2 : decode cX11_rivals 2 = .ok (.invokevirtual 135, 3) := by decide +kernel
theorem dX11_rivals_5 : decode cX11_rivals 5 = .ok (.ifCond .eq 21, 3) := by decide +kernel
theorem dX11_rivals_8 : decode cX11_rivals 8 = .ok (.aload_n 0, 1) := by decide +kernel
theorem dX11_rivals_9 : decode cX11_rivals 9 = .ok (.iload_n 2, 1) := by decide +kernel
theorem dX11_rivals_10 : decode cX11_rivals 10 = .ok (.invokevirtual 135, 3) := by decide +kernel
theorem dX11_rivals_13 : decode cX11_rivals 13 = .ok (.ifCond .eq 13, 3) := by decide +kernel
theorem dX11_rivals_16 : decode cX11_rivals 16 = .ok (.iload_n 1, 1) := by decide +kernel
theorem dX11_rivals_17 : decode cX11_rivals 17 = .ok (.iload_n 2, 1) := by decide +kernel
theorem dX11_rivals_18 : decode cX11_rivals 18 = .ok (.if_icmp .eq 8, 3) := by decide +kernel
theorem dX11_rivals_21 : decode cX11_rivals 21 = .ok (.iload_n 3, 1) := by decide +kernel
theorem dX11_rivals_22 : decode cX11_rivals 22 = .ok (.iconst (-1), 1) := by decide +kernel
theorem dX11_rivals_23 : decode cX11_rivals 23 = .ok (.if_icmp .ge 11, 3) := by decide +kernel
theorem dX11_rivals_26 : decode cX11_rivals 26 = .ok (.aload_n 0, 1) := by decide +kernel
theorem dX11_rivals_27 : decode cX11_rivals 27 = .ok (.invokevirtual 68, 3) := by decide +kernel
theorem dX11_rivals_30 : decode cX11_rivals 30 = .ok (.pop, 1) := by decide +kernel
theorem dX11_rivals_31 : decode cX11_rivals 31 = .ok (.bipush (-10), 2) := by decide +kernel
theorem dX11_rivals_33 : decode cX11_rivals 33 = .ok (.ireturn, 1) := by decide +kernel
theorem dX11_rivals_34 : decode cX11_rivals 34 = .ok (.aload_n 0, 1) := by decide +kernel
theorem dX11_rivals_35 : decode cX11_rivals 35 = .ok (.getfield 39, 3) := by decide +kernel
theorem dX11_rivals_38 : decode cX11_rivals 38 = .ok (.aload_n 0, 1) := by decide +kernel
theorem dX11_rivals_39 : decode cX11_rivals 39 = .ok (.getfield 10, 3) := by decide +kernel
theorem dX11_rivals_42 : decode cX11_rivals 42 = .ok (.iload_n 1, 1) := by decide +kernel
theorem dX11_rivals_43 : decode cX11_rivals 43 = .ok (.iload_n 2, 1) := by decide +kernel
theorem dX11_rivals_44 : decode cX11_rivals 44 = .ok (.invokevirtual 190, 3) := by decide +kernel
theorem dX11_rivals_47 : decode cX11_rivals 47 = .ok (.aload_n 0, 1) := by decide +kernel
theorem dX11_rivals_48 : decode cX11_rivals 48 = .ok (.getfield 39, 3) := by decide +kernel
theorem dX11_rivals_51 : decode cX11_rivals 51 = .ok (.aload_n 0, 1) := by decide +kernel
theorem dX11_rivals_52 : decode cX11_rivals 52 = .ok (.getfield 10, 3) := by decide +kernel
theorem dX11_rivals_55 : decode cX11_rivals 55 = .ok (.getfield 109, 3) := by decide +kernel
theorem dX11_rivals_58 : decode cX11_rivals 58 = .ok (.iload_n 3, 1) := by decide +kernel
theorem dX11_rivals_59 : decode cX11_rivals 59 = .ok (.invokevirtual 194, 3) := by decide +kernel
theorem dX11_rivals_62 : decode cX11_rivals 62 = .ok (.ireturn, 1) := by decide +kernel
theorem dX11_handicap_0 : decode cX11_handicap 0 = .ok (.aload_n 0, 1) := by decide +kernel
theorem dX11_handicap_1 : decode cX11_handicap 1 = .ok (.iload_n 1, 1) := by decide +kernel
theorem dX11_handicap_2 : decode cX11_handicap 2 = .ok (.invokevirtual 135, 3) := by decide +kernel
theorem dX11_handicap_5 : decode cX11_handicap 5 = .ok (.ifCond .ne 8, 3) := by decide +kernel
theorem dX11_handicap_8 : decode cX11_handicap 8 = .ok (.aload_n 0, 1) := by decide +kernel
theorem dX11_handicap_9 : decode cX11_handicap 9 = .ok (.invokevirtual 68, 3) := by decide +kernel
theorem dX11_handicap_12 : decode cX11_handicap 12 = .ok (.ireturn, 1) := by decide +kernel
theorem dX11_handicap_13 : decode cX11_handicap 13 = .ok (.aload_n 0, 1) := by decide +kernel
theorem dX11_handicap_14 : decode cX11_handicap 14 = .ok (.getfield 30, 3) := by decide +kernel
theorem dX11_handicap_17 : decode cX11_handicap 17 = .ok (.invokevirtual 115, 3) := by decide +kernel
theorem dX11_handicap_20 : decode cX11_handicap 20 = .ok (.aload_n 0, 1) := by decide +kernel
theorem dX11_handicap_21 : decode cX11_handicap 21 = .ok (.getfield 30, 3) := by decide +kernel
theorem dX11_handicap_24 : decode cX11_handicap 24 = .ok (.aload_n 0, 1) := by decide +kernel
theorem dX11_handicap_25 : decode cX11_handicap 25 = .ok (.getfield 10, 3) := by decide +kernel
theorem dX11_handicap_28 : decode cX11_handicap 28 = .ok (.iload_n 1, 1) := by decide +kernel
theorem dX11_handicap_29 : decode cX11_handicap 29 = .ok (.invokevirtual 198, 3) := by decide +kernel
theorem dX11_handicap_32 : decode cX11_handicap 32 = .ok (.ireturn, 1) := by decide +kernel
theorem dX11_order_0 : decode cX11_order 0 = .ok (.aload_n 0, 1) := by decide +kernel
theorem dX11_order_1 : decode cX11_order 1 = .ok (.iload_n 1, 1) := by decide +kernel
theorem dX11_order_2 : decode cX11_order 2 = .ok (.invokevirtual 135, 3) := by decide +kernel
theorem dX11_order_5 : decode cX11_order 5 = .ok (.ifCond .ne 8, 3) := by decide +kernel
theorem dX11_order_8 : decode cX11_order 8 = .ok (.aload_n 0, 1) := by decide +kernel
theorem dX11_order_9 : decode cX11_order 9 = .ok (.invokevirtual 68, 3) := by decide +kernel
theorem dX11_order_12 : decode cX11_order 12 = .ok (.ireturn, 1) := by decide +kernel
theorem dX11_order_13 : decode cX11_order 13 = .ok (.aload_n 0, 1) := by decide +kernel
theorem dX11_order_14 : decode cX11_order 14 = .ok (.getfield 39, 3) := by decide +kernel
theorem dX11_order_17 : decode cX11_order 17 = .ok (.aload_n 0, 1) := by decide +kernel
theorem dX11_order_18 : decode cX11_order 18 = .ok (.getfield 10, 3) := by decide +kernel
theorem dX11_order_21 : decode cX11_order 21 = .ok (.iload_n 1, 1) := by decide +kernel
theorem dX11_order_22 : decode cX11_order 22 = .ok (.invokevirtual 201, 3) := by decide +kernel
theorem dX11_order_25 : decode cX11_order 25 = .ok (.ireturn, 1) := by decide +kernel
theorem dX11_note_0 : decode cX11_note 0 = .ok (.aload_n 0, 1) := by decide +kernel
theorem dX11_note_1 : decode cX11_note 1 = .ok (.iload_n 1, 1) := by decide +kernel
theorem dX11_note_2 : decode cX11_note 2 = .ok (.invokevirtual 135, 3) := by decide +kernel
theorem dX11_note_5 : decode cX11_note 5 = .ok (.ifCond .eq 33, 3) := by decide +kernel
theorem dX11_note_8 : decode cX11_note 8 = .ok (.iload_n 2, 1) := by decide +kernel
theorem dX11_note_9 : decode cX11_note 9 = .ok (.iconst 1, 1) := by decide +kernel
theorem dX11_note_10 : decode cX11_note 10 = .ok (.bipush 30, 2) := by decide +kernel
theorem dX11_note_12 : decode cX11_note 12 = .ok (.invokestatic 64, 3) := by decide +kernel
theorem dX11_note_15 : decode cX11_note 15 = .ok (.ifCond .eq 23, 3) := by decide +kernel
theorem dX11_note_18 : decode cX11_note 18 = .ok (.iload_n 3, 1) := by decide +kernel
theorem dX11_note_19 : decode cX11_note 19 = .ok (.iconst 0, 1) := by decide +kernel
theorem dX11_note_20 : decode cX11_note 20 = .ok (.bipush 7, 2) := by decide +kernel
theorem dX11_note_22 : decode cX11_note 22 = .ok (.invokestatic 64, 3) := by decide +kernel
theorem dX11_note_25 : decode cX11_note 25 = .ok (.ifCond .eq 13, 3) := by decide +kernel
theorem dX11_note_28 : decode cX11_note 28 = .ok (.iload 4, 2) := by decide +kernel
theorem dX11_note_30 : decode cX11_note 30 = .ok (.iconst 0, 1) := by decide +kernel
theorem dX11_note_31 : decode cX11_note 31 = .ok (.iconst 1, 1) := by decide +kernel
theorem dX11_note_32 : decode cX11_note 32 = .ok (.invokestatic 64, 3) := by decide +kernel
theorem dX11_note_35 : decode cX11_note 35 = .ok (.ifCond .ne 8, 3) := by decide +kernel
theorem dX11_note_38 : decode cX11_note 38 = .ok (.aload_n 0, 1) := by decide +kernel
theorem dX11_note_39 : decode cX11_note 39 = .ok (.invokevirtual 68, 3) := by decide +kernel
theorem dX11_note_42 : decode cX11_note 42 = .ok (.ireturn, 1) := by decide +kernel
theorem dX11_note_43 : decode cX11_note 43 = .ok (.aload_n 0, 1) := by decide +kernel
theorem dX11_note_44 : decode cX11_note 44 = .ok (.getfield 10, 3) := by decide +kernel
theorem dX11_note_47 : decode cX11_note 47 = .ok (.getfield 204, 3) := by decide +kernel
theorem dX11_note_50 : decode cX11_note 50 = .ok (.getfield 208, 3) := by decide +kernel
theorem dX11_note_53 : decode cX11_note 53 = .ok (.bipush 6, 2) := by decide +kernel
theorem dX11_note_55 : decode cX11_note 55 = .ok (.if_icmp .lt 8, 3) := by decide +kernel
theorem dX11_note_58 : decode cX11_note 58 = .ok (.aload_n 0, 1) := by decide +kernel
theorem dX11_note_59 : decode cX11_note 59 = .ok (.invokevirtual 87, 3) := by decide +kernel
theorem dX11_note_62 : decode cX11_note 62 = .ok (.ireturn, 1) := by decide +kernel
theorem dX11_note_63 : decode cX11_note 63 = .ok (.aload_n 0, 1) := by decide +kernel
theorem dX11_note_64 : decode cX11_note 64 = .ok (.getfield 10, 3) := by decide +kernel
theorem dX11_note_67 : decode cX11_note 67 = .ok (.getfield 204, 3) := by decide +kernel
theorem dX11_note_70 : decode cX11_note 70 = .ok (.iload_n 1, 1) := by decide +kernel
theorem dX11_note_71 : decode cX11_note 71 = .ok (.iload_n 2, 1) := by decide +kernel
theorem dX11_note_72 : decode cX11_note 72 = .ok (.iload_n 3, 1) := by decide +kernel
theorem dX11_note_73 : decode cX11_note 73 = .ok (.iload 4, 2) := by decide +kernel
theorem dX11_note_75 : decode cX11_note 75 = .ok (.invokevirtual 213, 3) := by decide +kernel
theorem dX11_note_78 : decode cX11_note 78 = .ok (.aload_n 0, 1) := by decide +kernel
theorem dX11_note_79 : decode cX11_note 79 = .ok (.getfield 10, 3) := by decide +kernel
theorem dX11_note_82 : decode cX11_note 82 = .ok (.getfield 204, 3) := by decide +kernel
theorem dX11_note_85 : decode cX11_note 85 = .ok (.getfield 208, 3) := by decide +kernel
theorem dX11_note_88 : decode cX11_note 88 = .ok (.ireturn, 1) := by decide +kernel
theorem dX11_beaten_0 : decode cX11_beaten 0 = .ok (.aload_n 0, 1) := by decide +kernel
theorem dX11_beaten_1 : decode cX11_beaten 1 = .ok (.iload_n 1, 1) := by decide +kernel
theorem dX11_beaten_2 : decode cX11_beaten 2 = .ok (.invokevirtual 135, 3) := by decide +kernel
theorem dX11_beaten_5 : decode cX11_beaten 5 = .ok (.ifCond .eq 36, 3) := by decide +kernel
theorem dX11_beaten_8 : decode cX11_beaten 8 = .ok (.aload_n 0, 1) := by decide +kernel
theorem dX11_beaten_9 : decode cX11_beaten 9 = .ok (.iload_n 2, 1) := by decide +kernel
theorem dX11_beaten_10 : decode cX11_beaten 10 = .ok (.invokevirtual 135, 3) := by decide +kernel
theorem dX11_beaten_13 : decode cX11_beaten 13 = .ok (.ifCond .eq 28, 3) := by decide +kernel
theorem dX11_beaten_16 : decode cX11_beaten 16 = .ok (.iload_n 1, 1) := by decide +kernel
theorem dX11_beaten_17 : decode cX11_beaten 17 = .ok (.iload_n 2, 1) := by decide +kernel
theorem dX11_beaten_18 : decode cX11_beaten 18 = .ok (.if_icmp .eq 23, 3) := by decide +kernel
theorem dX11_beaten_21 : decode cX11_beaten 21 = .ok (.iload_n 3, 1) := by decide +kernel
theorem dX11_beaten_22 : decode cX11_beaten 22 = .ok (.iconst 0, 1) := by decide +kernel
theorem dX11_beaten_23 : decode cX11_beaten 23 = .ok (.iconst 2, 1) := by decide +kernel
theorem dX11_beaten_24 : decode cX11_beaten 24 = .ok (.invokestatic 64, 3) := by decide +kernel
theorem dX11_beaten_27 : decode cX11_beaten 27 = .ok (.ifCond .eq 14, 3) := by decide +kernel
theorem dX11_beaten_30 : decode cX11_beaten 30 = .ok (.iload 4, 2) := by decide +kernel
theorem dX11_beaten_32 : decode cX11_beaten 32 = .ok (.iconst 0, 1) := by decide +kernel
theorem dX11_beaten_33 : decode cX11_beaten 33 = .ok (.bipush 7, 2) := by decide +kernel
theorem dX11_beaten_35 : decode cX11_beaten 35 = .ok (.invokestatic 64, 3) := by decide +kernel
theorem dX11_beaten_38 : decode cX11_beaten 38 = .ok (.ifCond .ne 8, 3) := by decide +kernel
theorem dX11_beaten_41 : decode cX11_beaten 41 = .ok (.aload_n 0, 1) := by decide +kernel
theorem dX11_beaten_42 : decode cX11_beaten 42 = .ok (.invokevirtual 68, 3) := by decide +kernel
theorem dX11_beaten_45 : decode cX11_beaten 45 = .ok (.ireturn, 1) := by decide +kernel
theorem dX11_beaten_46 : decode cX11_beaten 46 = .ok (.aload_n 0, 1) := by decide +kernel
theorem dX11_beaten_47 : decode cX11_beaten 47 = .ok (.getfield 10, 3) := by decide +kernel
theorem dX11_beaten_50 : decode cX11_beaten 50 = .ok (.getfield 216, 3) := by decide +kernel
theorem dX11_beaten_53 : decode cX11_beaten 53 = .ok (.getfield 208, 3) := by decide +kernel
theorem dX11_beaten_56 : decode cX11_beaten 56 = .ok (.bipush 6, 2) := by decide +kernel
theorem dX11_beaten_58 : decode cX11_beaten 58 = .ok (.if_icmp .lt 8, 3) := by decide +kernel
theorem dX11_beaten_61 : decode cX11_beaten 61 = .ok (.aload_n 0, 1) := by decide +kernel
theorem dX11_beaten_62 : decode cX11_beaten 62 = .ok (.invokevirtual 87, 3) := by decide +kernel
theorem dX11_beaten_65 : decode cX11_beaten 65 = .ok (.ireturn, 1) := by decide +kernel
theorem dX11_beaten_66 : decode cX11_beaten 66 = .ok (.aload_n 0, 1) := by decide +kernel
theorem dX11_beaten_67 : decode cX11_beaten 67 = .ok (.getfield 10, 3) := by decide +kernel
theorem dX11_beaten_70 : decode cX11_beaten 70 = .ok (.getfield 216, 3) := by decide +kernel
theorem dX11_beaten_73 : decode cX11_beaten 73 = .ok (.iload_n 1, 1) := by decide +kernel
theorem dX11_beaten_74 : decode cX11_beaten 74 = .ok (.iload_n 2, 1) := by decide +kernel
theorem dX11_beaten_75 : decode cX11_beaten 75 = .ok (.iload_n 3, 1) := by decide +kernel
theorem dX11_beaten_76 : decode cX11_beaten 76 = .ok (.iload 4, 2) := by decide +kernel
theorem dX11_beaten_78 : decode cX11_beaten 78 = .ok (.invokevirtual 213, 3) := by decide +kernel
theorem dX11_beaten_81 : decode cX11_beaten 81 = .ok (.aload_n 0, 1) := by decide +kernel
theorem dX11_beaten_82 : decode cX11_beaten 82 = .ok (.getfield 10, 3) := by decide +kernel
theorem dX11_beaten_85 : decode cX11_beaten 85 = .ok (.getfield 216, 3) := by decide +kernel
theorem dX11_beaten_88 : decode cX11_beaten 88 = .ok (.getfield 208, 3) := by decide +kernel
theorem dX11_beaten_91 : decode cX11_beaten 91 = .ok (.ireturn, 1) := by decide +kernel
theorem dX11_forget_0 : decode cX11_forget 0 = .ok (.iload_n 1, 1) := by decide +kernel
theorem dX11_forget_1 : decode cX11_forget 1 = .ok (.iconst 0, 1) := by decide +kernel
theorem dX11_forget_2 : decode cX11_forget 2 = .ok (.iconst 1, 1) := by decide +kernel
theorem dX11_forget_3 : decode cX11_forget 3 = .ok (.invokestatic 64, 3) := by decide +kernel
theorem dX11_forget_6 : decode cX11_forget 6 = .ok (.ifCond .ne 8, 3) := by decide +kernel
theorem dX11_forget_9 : decode cX11_forget 9 = .ok (.aload_n 0, 1) := by decide +kernel
theorem dX11_forget_10 : decode cX11_forget 10 = .ok (.invokevirtual 68, 3) := by decide +kernel
theorem dX11_forget_13 : decode cX11_forget 13 = .ok (.ireturn, 1) := by decide +kernel
theorem dX11_forget_14 : decode cX11_forget 14 = .ok (.iload_n 1, 1) := by decide +kernel
theorem dX11_forget_15 : decode cX11_forget 15 = .ok (.ifCond .ne 13, 3) := by decide +kernel
theorem dX11_forget_18 : decode cX11_forget 18 = .ok (.aload_n 0, 1) := by decide +kernel
theorem dX11_forget_19 : decode cX11_forget 19 = .ok (.getfield 10, 3) := by decide +kernel
theorem dX11_forget_22 : decode cX11_forget 22 = .ok (.getfield 204, 3) := by decide +kernel
theorem dX11_forget_25 : decode cX11_forget 25 = .ok (.goto 10, 3) := by decide +kernel
theorem dX11_forget_28 : decode cX11_forget 28 = .ok (.aload_n 0, 1) := by decide +kernel
theorem dX11_forget_29 : decode cX11_forget 29 = .ok (.getfield 10, 3) := by decide +kernel
theorem dX11_forget_32 : decode cX11_forget 32 = .ok (.getfield 216, 3) := by decide +kernel
theorem dX11_forget_35 : decode cX11_forget 35 = .ok (.astore_n 2, 1) := by decide +kernel
theorem dX11_forget_36 : decode cX11_forget 36 = .ok (.aload_n 2, 1) := by decide +kernel
theorem dX11_forget_37 : decode cX11_forget 37 = .ok (.getfield 208, 3) := by decide +kernel
theorem dX11_forget_40 : decode cX11_forget 40 = .ok (.istore_n 3, 1) := by decide +kernel
theorem dX11_forget_41 : decode cX11_forget 41 = .ok (.aload_n 2, 1) := by decide +kernel
theorem dX11_forget_42 : decode cX11_forget 42 = .ok (.iconst 0, 1) := by decide +kernel
theorem dX11_forget_43 : decode cX11_forget 43 = .ok (.putfield 208, 3) := by decide +kernel
theorem dX11_forget_46 : decode cX11_forget 46 = .ok (.iload_n 3, 1) := by decide +kernel
theorem dX11_forget_47 : decode cX11_forget 47 = .ok (.ireturn, 1) := by decide +kernel
theorem dX11_is_0 : decode cX11_is 0 = .ok (.aload_n 0, 1) := by decide +kernel
theorem dX11_is_1 : decode cX11_is 1 = .ok (.iload_n 1, 1) := by decide +kernel
theorem dX11_is_2 : decode cX11_is 2 = .ok (.invokevirtual 135, 3) := by decide +kernel
theorem dX11_is_5 : decode cX11_is 5 = .ok (.ifCond .ne 8, 3) := by decide +kernel
theorem dX11_is_8 : decode cX11_is 8 = .ok (.aload_n 0, 1) := by decide +kernel
theorem dX11_is_9 : decode cX11_is 9 = .ok (.invokevirtual 68, 3) := by decide +kernel
theorem dX11_is_12 : decode cX11_is 12 = .ok (.ireturn, 1) := by decide +kernel
theorem dX11_is_13 : decode cX11_is 13 = .ok (.aload_n 0, 1) := by decide +kernel
theorem dX11_is_14 : decode cX11_is 14 = .ok (.getfield 30, 3) := by decide +kernel
theorem dX11_is_17 : decode cX11_is 17 = .ok (.aload_n 0, 1) := by decide +kernel
theorem dX11_is_18 : decode cX11_is 18 = .ok (.getfield 10, 3) := by decide +kernel
theorem dX11_is_21 : decode cX11_is 21 = .ok (.getfield 204, 3) := by decide +kernel
theorem dX11_is_24 : decode cX11_is 24 = .ok (.iload_n 1, 1) := by decide +kernel
theorem dX11_is_25 : decode cX11_is 25 = .ok (.invokevirtual 219, 3) := by decide +kernel
theorem dX11_is_28 : decode cX11_is 28 = .ok (.ireturn, 1) := by decide +kernel
theorem dX11_offer_0 : decode cX11_offer 0 = .ok (.aload_n 0, 1) := by decide +kernel
theorem dX11_offer_1 : decode cX11_offer 1 = .ok (.iload_n 1, 1) := by decide +kernel
theorem dX11_offer_2 : decode cX11_offer 2 = .ok (.invokevirtual 135, 3) := by decide +kernel
theorem dX11_offer_5 : decode cX11_offer 5 = .ok (.ifCond .ne 8, 3) := by decide +kernel
theorem dX11_offer_8 : decode cX11_offer 8 = .ok (.aload_n 0, 1) := by decide +kernel
theorem dX11_offer_9 : decode cX11_offer 9 = .ok (.invokevirtual 68, 3) := by decide +kernel
theorem dX11_offer_12 : decode cX11_offer 12 = .ok (.ireturn, 1) := by decide +kernel
theorem dX11_offer_13 : decode cX11_offer 13 = .ok (.iconst 0, 1) := by decide +kernel
theorem dX11_offer_14 : decode cX11_offer 14 = .ok (.bipush 7, 2) := by decide +kernel
theorem dX11_offer_16 : decode cX11_offer 16 = .ok (.aload_n 0, 1) := by decide +kernel
theorem dX11_offer_17 : decode cX11_offer 17 = .ok (.getfield 10, 3) := by decide +kernel
theorem dX11_offer_20 : decode cX11_offer 20 = .ok (.getfield 109, 3) := by decide +kernel
theorem dX11_offer_23 : decode cX11_offer 23 = .ok (.isub, 1) := by decide +kernel
theorem dX11_offer_24 : decode cX11_offer 24 = .ok (.invokestatic 223, 3) := by decide +kernel
theorem dX11_offer_27 : decode cX11_offer 27 = .ok (.istore_n 2, 1) := by decide +kernel
theorem dX11_offer_28 : decode cX11_offer 28 = .ok (.aload_n 0, 1) := by decide +kernel
theorem dX11_offer_29 : decode cX11_offer 29 = .ok (.getfield 30, 3) := by decide +kernel
theorem dX11_offer_32 : decode cX11_offer 32 = .ok (.aload_n 0, 1) := by decide +kernel
theorem dX11_offer_33 : decode cX11_offer 33 = .ok (.getfield 30, 3) := by decide +kernel
theorem dX11_offer_36 : decode cX11_offer 36 = .ok (.aload_n 0, 1) := by decide +kernel
theorem dX11_offer_37 : decode cX11_offer 37 = .ok (.getfield 10, 3) := by decide +kernel
theorem dX11_offer_40 : decode cX11_offer 40 = .ok (.getfield 204, 3) := by decide +kernel
theorem dX11_offer_43 : decode cX11_offer 43 = .ok (.iload_n 1, 1) := by decide +kernel
theorem dX11_offer_44 : decode cX11_offer 44 = .ok (.invokevirtual 219, 3) := by decide +kernel
theorem dX11_offer_47 : decode cX11_offer 47 = .ok (.iload_n 2, 1) := by decide +kernel
theorem dX11_offer_48 : decode cX11_offer 48 = .ok (.invokevirtual 228, 3) := by decide +kernel
theorem dX11_offer_51 : decode cX11_offer 51 = .ok (.ireturn, 1) := by decide +kernel
theorem dX11_may_0 : decode cX11_may 0 = .ok (.aload_n 0, 1) := by decide +kernel
theorem dX11_may_1 : decode cX11_may 1 = .ok (.iload_n 1, 1) := by decide +kernel
theorem dX11_may_2 : decode cX11_may 2 = .ok (.invokevirtual 135, 3) := by decide +kernel
theorem dX11_may_5 : decode cX11_may 5 = .ok (.ifCond .eq 12, 3) := by decide +kernel
theorem dX11_may_8 : decode cX11_may 8 = .ok (.iload_n 2, 1) := by decide +kernel
theorem dX11_may_9 : decode cX11_may 9 = .ok (.iconst 0, 1) := by decide +kernel
theorem dX11_may_10 : decode cX11_may 10 = .ok (.iconst 2, 1) := by decide +kernel
theorem dX11_may_11 : decode cX11_may 11 = .ok (.invokestatic 64, 3) := by decide +kernel
theorem dX11_may_14 : decode cX11_may 14 = .ok (.ifCond .ne 8, 3) := by decide +kernel
theorem dX11_may_17 : decode cX11_may 17 = .ok (.aload_n 0, 1) := by decide +kernel
theorem dX11_may_18 : decode cX11_may 18 = .ok (.invokevirtual 68, 3) := by decide +kernel
theorem dX11_may_21 : decode cX11_may 21 = .ok (.ireturn, 1) := by decide +kernel
theorem dX11_may_22 : decode cX11_may 22 = .ok (.iconst 0, 1) := by decide +kernel
theorem dX11_may_23 : decode cX11_may 23 = .ok (.istore_n 3, 1) := by decide +kernel
theorem dX11_may_24 : decode cX11_may 24 = .ok (.iconst 0, 1) := by decide +kernel
theorem dX11_may_25 : decode cX11_may 25 = .ok (.istore 4, 2) := by decide +kernel
theorem dX11_may_27 : decode cX11_may 27 = .ok (.iload 4, 2) := by decide +kernel
theorem dX11_may_29 : decode cX11_may 29 = .ok (.bipush 10, 2) := by decide +kernel
theorem dX11_may_31 : decode cX11_may 31 = .ok (.if_icmp .ge 34, 3) := by decide +kernel
theorem dX11_may_34 : decode cX11_may 34 = .ok (.aload_n 0, 1) := by decide +kernel
theorem dX11_may_35 : decode cX11_may 35 = .ok (.getfield 30, 3) := by decide +kernel
theorem dX11_may_38 : decode cX11_may 38 = .ok (.aload_n 0, 1) := by decide +kernel
theorem dX11_may_39 : decode cX11_may 39 = .ok (.getfield 10, 3) := by decide +kernel
theorem dX11_may_42 : decode cX11_may 42 = .ok (.iload_n 1, 1) := by decide +kernel
theorem dX11_may_43 : decode cX11_may 43 = .ok (.iload_n 2, 1) := by decide +kernel
theorem dX11_may_44 : decode cX11_may 44 = .ok (.iload 4, 2) := by decide +kernel
theorem dX11_may_46 : decode cX11_may 46 = .ok (.invokevirtual 231, 3) := by decide +kernel
theorem dX11_may_49 : decode cX11_may 49 = .ok (.ifCond .eq 10, 3) := by decide +kernel
theorem dX11_may_52 : decode cX11_may 52 = .ok (.iload_n 3, 1) := by decide +kernel
theorem dX11_may_53 : decode cX11_may 53 = .ok (.iconst 1, 1) := by decide +kernel
theorem dX11_may_54 : decode cX11_may 54 = .ok (.iload 4, 2) := by decide +kernel
theorem dX11_may_56 : decode cX11_may 56 = .ok (.ishl, 1) := by decide +kernel
theorem dX11_may_57 : decode cX11_may 57 = .ok (.ior, 1) := by decide +kernel
theorem dX11_may_58 : decode cX11_may 58 = .ok (.istore_n 3, 1) := by decide +kernel
theorem dX11_may_59 : decode cX11_may 59 = .ok (.iinc 4 1, 3) := by decide +kernel
theorem dX11_may_62 : decode cX11_may 62 = .ok (.goto (-35), 3) := by decide +kernel
theorem dX11_may_65 : decode cX11_may 65 = .ok (.iload_n 3, 1) := by decide +kernel
theorem dX11_may_66 : decode cX11_may 66 = .ok (.ireturn, 1) := by decide +kernel
theorem dX11_clash_0 : decode cX11_clash 0 = .ok (.iconst 0, 1) := by decide +kernel
theorem dX11_clash_1 : decode cX11_clash 1 = .ok (.istore_n 1, 1) := by decide +kernel
theorem dX11_clash_2 : decode cX11_clash 2 = .ok (.iconst 0, 1) := by decide +kernel
theorem dX11_clash_3 : decode cX11_clash 3 = .ok (.istore_n 2, 1) := by decide +kernel
theorem dX11_clash_4 : decode cX11_clash 4 = .ok (.iload_n 2, 1) := by decide +kernel
theorem dX11_clash_5 : decode cX11_clash 5 = .ok (.aload_n 0, 1) := by decide +kernel
theorem dX11_clash_6 : decode cX11_clash 6 = .ok (.getfield 10, 3) := by decide +kernel
theorem dX11_clash_9 : decode cX11_clash 9 = .ok (.getfield 216, 3) := by decide +kernel
theorem dX11_clash_12 : decode cX11_clash 12 = .ok (.getfield 208, 3) := by decide +kernel
theorem dX11_clash_15 : decode cX11_clash 15 = .ok (.if_icmp .ge 27, 3) := by decide +kernel
theorem dX11_clash_18 : decode cX11_clash 18 = .ok (.aload_n 0, 1) := by decide +kernel
theorem dX11_clash_19 : decode cX11_clash 19 = .ok (.getfield 30, 3) := by decide +kernel
theorem dX11_clash_22 : decode cX11_clash 22 = .ok (.aload_n 0, 1) := by decide +kernel
theorem dX11_clash_23 : decode cX11_clash 23 = .ok (.getfield 10, 3) := by decide +kernel
theorem dX11_clash_26 : decode cX11_clash 26 = .ok (.iload_n 2, 1) := by decide +kernel
theorem dX11_clash_27 : decode cX11_clash 27 = .ok (.invokevirtual 235, 3) := by decide +kernel
theorem dX11_clash_30 : decode cX11_clash 30 = .ok (.ifCond .ne 6, 3) := by decide +kernel
theorem dX11_clash_33 : decode cX11_clash 33 = .ok (.iinc 1 1, 3) := by decide +kernel
theorem dX11_clash_36 : decode cX11_clash 36 = .ok (.iinc 2 1, 3) := by decide +kernel
theorem dX11_clash_39 : decode cX11_clash 39 = .ok (.goto (-35), 3) := by decide +kernel
theorem dX11_clash_42 : decode cX11_clash 42 = .ok (.iload_n 1, 1) := by decide +kernel
theorem dX11_clash_43 : decode cX11_clash 43 = .ok (.ireturn, 1) := by decide +kernel
theorem dX11_odds_0 : decode cX11_odds 0 = .ok (.aload_n 0, 1) := by decide +kernel
theorem dX11_odds_1 : decode cX11_odds 1 = .ok (.iload_n 1, 1) := by decide +kernel
theorem dX11_odds_2 : decode cX11_odds 2 = .ok (.invokevirtual 135, 3) := by decide +kernel
theorem dX11_odds_5 : decode cX11_odds 5 = .ok (.ifCond .eq 11, 3) := by decide +kernel
theorem dX11_odds_8 : decode cX11_odds 8 = .ok (.aload_n 0, 1) := by decide +kernel
theorem dX11_odds_9 : decode cX11_odds 9 = .ok (.iload_n 2, 1) := by decide +kernel
theorem dX11_odds_10 : decode cX11_odds 10 = .ok (.invokevirtual 161, 3) := by decide +kernel
theorem dX11_odds_13 : decode cX11_odds 13 = .ok (.ifCond .ne 8, 3) := by decide +kernel
theorem dX11_odds_16 : decode cX11_odds 16 = .ok (.aload_n 0, 1) := by decide +kernel
theorem dX11_odds_17 : decode cX11_odds 17 = .ok (.invokevirtual 68, 3) := by decide +kernel
theorem dX11_odds_20 : decode cX11_odds 20 = .ok (.ireturn, 1) := by decide +kernel
theorem dX11_odds_21 : decode cX11_odds 21 = .ok (.aload_n 0, 1) := by decide +kernel
theorem dX11_odds_22 : decode cX11_odds 22 = .ok (.getfield 39, 3) := by decide +kernel
theorem dX11_odds_25 : decode cX11_odds 25 = .ok (.aload_n 0, 1) := by decide +kernel
theorem dX11_odds_26 : decode cX11_odds 26 = .ok (.getfield 10, 3) := by decide +kernel
theorem dX11_odds_29 : decode cX11_odds 29 = .ok (.invokevirtual 170, 3) := by decide +kernel
theorem dX11_odds_32 : decode cX11_odds 32 = .ok (.aload_n 0, 1) := by decide +kernel
theorem dX11_odds_33 : decode cX11_odds 33 = .ok (.getfield 39, 3) := by decide +kernel
theorem dX11_odds_36 : decode cX11_odds 36 = .ok (.iload_n 2, 1) := by decide +kernel
theorem dX11_odds_37 : decode cX11_odds 37 = .ok (.invokevirtual 173, 3) := by decide +kernel
theorem dX11_odds_40 : decode cX11_odds 40 = .ok (.aload_n 0, 1) := by decide +kernel
theorem dX11_odds_41 : decode cX11_odds 41 = .ok (.aload_n 0, 1) := by decide +kernel
theorem dX11_odds_42 : decode cX11_odds 42 = .ok (.getfield 30, 3) := by decide +kernel
theorem dX11_odds_45 : decode cX11_odds 45 = .ok (.aload_n 0, 1) := by decide +kernel
theorem dX11_odds_46 : decode cX11_odds 46 = .ok (.getfield 39, 3) := by decide +kernel
theorem dX11_odds_49 : decode cX11_odds 49 = .ok (.getfield 176, 3) := by decide +kernel
theorem dX11_odds_52 : decode cX11_odds 52 = .ok (.iload_n 1, 1) := by decide +kernel
theorem dX11_odds_53 : decode cX11_odds 53 = .ok (.iload_n 2, 1) := by decide +kernel
theorem dX11_odds_54 : decode cX11_odds 54 = .ok (.invokevirtual 238, 3) := by decide +kernel
theorem dX11_odds_57 : decode cX11_odds 57 = .ok (.aload_n 0, 1) := by decide +kernel
theorem dX11_odds_58 : decode cX11_odds 58 = .ok (.getfield 30, 3) := by decide +kernel
theorem dX11_odds_61 : decode cX11_odds 61 = .ok (.aload_n 0, 1) := by decide +kernel
theorem dX11_odds_62 : decode cX11_odds 62 = .ok (.getfield 39, 3) := by decide +kernel
theorem dX11_odds_65 : decode cX11_odds 65 = .ok (.getfield 176, 3) := by decide +kernel
theorem dX11_odds_68 : decode cX11_odds 68 = .ok (.iload_n 2, 1) := by decide +kernel
theorem dX11_odds_69 : decode cX11_odds 69 = .ok (.invokevirtual 242, 3) := by decide +kernel
theorem dX11_odds_72 : decode cX11_odds 72 = .ok (.invokevirtual 245, 3) := by decide +kernel
theorem dX11_odds_75 : decode cX11_odds 75 = .ok (.iconst 1, 1) := by decide +kernel
theorem dX11_odds_76 : decode cX11_odds 76 = .ok (.ireturn, 1) := by decide +kernel
theorem dX11_valleys_0 : decode cX11_valleys 0 = .ok (.iload_n 1, 1) := by decide +kernel
theorem dX11_valleys_1 : decode cX11_valleys 1 = .ok (.iconst 0, 1) := by decide +kernel
theorem dX11_valleys_2 : decode cX11_valleys 2 = .ok (.ldc 248, 2) := by decide +kernel
theorem dX11_valleys_4 : decode cX11_valleys 4 = .ok (.invokestatic 64, 3) := by decide +kernel
theorem dX11_valleys_7 : decode cX11_valleys 7 = .ok (.ifCond .eq 13, 3) := by decide +kernel
theorem dX11_valleys_10 : decode cX11_valleys 10 = .ok (.iload_n 2, 1) := by decide +kernel
theorem dX11_valleys_11 : decode cX11_valleys 11 = .ok (.iconst 0, 1) := by decide +kernel
theorem dX11_valleys_12 : decode cX11_valleys 12 = .ok (.bipush 60, 2) := by decide +kernel
theorem dX11_valleys_14 : decode cX11_valleys 14 = .ok (.invokestatic 64, 3) := by decide +kernel
theorem dX11_valleys_17 : decode cX11_valleys 17 = .ok (.ifCond .ne 8, 3) := by decide +kernel
theorem dX11_valleys_20 : decode cX11_valleys 20 = .ok (.aload_n 0, 1) := by decide +kernel
theorem dX11_valleys_21 : decode cX11_valleys 21 = .ok (.invokevirtual 68, 3) := by decide +kernel
theorem dX11_valleys_24 : decode cX11_valleys 24 = .ok (.ireturn, 1) := by decide +kernel
theorem dX11_valleys_25 : decode cX11_valleys 25 = .ok (.aload_n 0, 1) := by decide +kernel
theorem dX11_valleys_26 : decode cX11_valleys 26 = .ok (.getfield 39, 3) := by decide +kernel
theorem dX11_valleys_29 : decode cX11_valleys 29 = .ok (.aload_n 0, 1) := by decide +kernel
theorem dX11_valleys_30 : decode cX11_valleys 30 = .ok (.getfield 10, 3) := by decide +kernel
theorem dX11_valleys_33 : decode cX11_valleys 33 = .ok (.iload_n 1, 1) := by decide +kernel
theorem dX11_valleys_34 : decode cX11_valleys 34 = .ok (.iload_n 2, 1) := by decide +kernel
theorem dX11_valleys_35 : decode cX11_valleys 35 = .ok (.invokevirtual 249, 3) := by decide +kernel
theorem dX11_valleys_38 : decode cX11_valleys 38 = .ok (.ireturn, 1) := by decide +kernel
theorem dX11_part_0 : decode cX11_part 0 = .ok (.iload_n 1, 1) := by decide +kernel
theorem dX11_part_1 : decode cX11_part 1 = .ok (.iconst 0, 1) := by decide +kernel
theorem dX11_part_2 : decode cX11_part 2 = .ok (.iconst 1, 1) := by decide +kernel
theorem dX11_part_3 : decode cX11_part 3 = .ok (.invokestatic 64, 3) := by decide +kernel
theorem dX11_part_6 : decode cX11_part 6 = .ok (.ifCond .ne 9, 3) := by decide +kernel
theorem dX11_part_9 : decode cX11_part 9 = .ok (.aload_n 0, 1) := by decide +kernel
theorem dX11_part_10 : decode cX11_part 10 = .ok (.invokevirtual 68, 3) := by decide +kernel
theorem dX11_part_13 : decode cX11_part 13 = .ok (.i2l, 1) := by decide +kernel
theorem dX11_part_14 : decode cX11_part 14 = .ok (.lreturn, 1) := by decide +kernel
theorem dX11_part_15 : decode cX11_part 15 = .ok (.iload_n 1, 1) := by decide +kernel
theorem dX11_part_16 : decode cX11_part 16 = .ok (.ifCond .ne 10, 3) := by decide +kernel
theorem dX11_part_19 : decode cX11_part 19 = .ok (.aload_n 0, 1) := by decide +kernel
theorem dX11_part_20 : decode cX11_part 20 = .ok (.getfield 50, 3) := by decide +kernel
theorem dX11_part_23 : decode cX11_part 23 = .ok (.goto 7, 3) := by decide +kernel
theorem dX11_part_26 : decode cX11_part 26 = .ok (.aload_n 0, 1) := by decide +kernel
theorem dX11_part_27 : decode cX11_part 27 = .ok (.getfield 54, 3) := by decide +kernel
theorem dX11_part_30 : decode cX11_part 30 = .ok (.lreturn, 1) := by decide +kernel
theorem dX11_image_0 : decode cX11_image 0 = .ok (.iload_n 1, 1) := by decide +kernel
theorem dX11_image_1 : decode cX11_image 1 = .ok (.iconst 0, 1) := by decide +kernel
theorem dX11_image_2 : decode cX11_image 2 = .ok (.iconst 1, 1) := by decide +kernel
theorem dX11_image_3 : decode cX11_image 3 = .ok (.invokestatic 64, 3) := by decide +kernel
theorem dX11_image_6 : decode cX11_image 6 = .ok (.ifCond .ne 8, 3) := by decide +kernel
theorem dX11_image_9 : decode cX11_image 9 = .ok (.aload_n 0, 1) := by decide +kernel
theorem dX11_image_10 : decode cX11_image 10 = .ok (.invokevirtual 68, 3) := by decide +kernel
theorem dX11_image_13 : decode cX11_image 13 = .ok (.ireturn, 1) := by decide +kernel
theorem dX11_image_14 : decode cX11_image 14 = .ok (.aload_n 0, 1) := by decide +kernel
theorem dX11_image_15 : decode cX11_image 15 = .ok (.getfield 19, 3) := by decide +kernel
theorem dX11_image_18 : decode cX11_image 18 = .ok (.iload_n 1, 1) := by decide +kernel
theorem dX11_image_19 : decode cX11_image 19 = .ok (.aaload, 1) := by decide +kernel
theorem dX11_image_20 : decode cX11_image 20 = .ok (.aload_n 0, 1) := by decide +kernel
theorem dX11_image_21 : decode cX11_image 21 = .ok (.getfield 10, 3) := by decide +kernel
theorem dX11_image_24 : decode cX11_image 24 = .ok (.invokevirtual 105, 3) := by decide +kernel
theorem dX11_image_27 : decode cX11_image 27 = .ok (.aload_n 0, 1) := by decide +kernel
theorem dX11_image_28 : decode cX11_image 28 = .ok (.getfield 23, 3) := by decide +kernel
theorem dX11_image_31 : decode cX11_image 31 = .ok (.iload_n 1, 1) := by decide +kernel
theorem dX11_image_32 : decode cX11_image 32 = .ok (.iconst 1, 1) := by decide +kernel
theorem dX11_image_33 : decode cX11_image 33 = .ok (.bastore, 1) := by decide +kernel
theorem dX11_image_34 : decode cX11_image 34 = .ok (.iconst 1, 1) := by decide +kernel
theorem dX11_image_35 : decode cX11_image 35 = .ok (.ireturn, 1) := by decide +kernel
theorem dX11_from_0 : decode cX11_from 0 = .ok (.iload_n 1, 1) := by decide +kernel
theorem dX11_from_1 : decode cX11_from 1 = .ok (.iconst 0, 1) := by decide +kernel
theorem dX11_from_2 : decode cX11_from 2 = .ok (.iconst 1, 1) := by decide +kernel
theorem dX11_from_3 : decode cX11_from 3 = .ok (.invokestatic 64, 3) := by decide +kernel
theorem dX11_from_6 : decode cX11_from 6 = .ok (.ifCond .ne 8, 3) := by decide +kernel
theorem dX11_from_9 : decode cX11_from 9 = .ok (.aload_n 0, 1) := by decide +kernel
theorem dX11_from_10 : decode cX11_from 10 = .ok (.invokevirtual 68, 3) := by decide +kernel
theorem dX11_from_13 : decode cX11_from 13 = .ok (.ireturn, 1) := by decide +kernel
theorem dX11_from_14 : decode cX11_from 14 = .ok (.aload_n 0, 1) := by decide +kernel
theorem dX11_from_15 : decode cX11_from 15 = .ok (.getfield 23, 3) := by decide +kernel
theorem dX11_from_18 : decode cX11_from 18 = .ok (.iload_n 1, 1) := by decide +kernel
theorem dX11_from_19 : decode cX11_from 19 = .ok (.baload, 1) := by decide +kernel
theorem dX11_from_20 : decode cX11_from 20 = .ok (.ifCond .ne 8, 3) := by decide +kernel
theorem dX11_from_23 : decode cX11_from 23 = .ok (.aload_n 0, 1) := by decide +kernel
theorem dX11_from_24 : decode cX11_from 24 = .ok (.invokevirtual 112, 3) := by decide +kernel
theorem dX11_from_27 : decode cX11_from 27 = .ok (.ireturn, 1) := by decide +kernel
theorem dX11_from_28 : decode cX11_from 28 = .ok (.aload_n 0, 1) := by decide +kernel
theorem dX11_from_29 : decode cX11_from 29 = .ok (.getfield 10, 3) := by decide +kernel
theorem dX11_from_32 : decode cX11_from 32 = .ok (.aload_n 0, 1) := by decide +kernel
theorem dX11_from_33 : decode cX11_from 33 = .ok (.getfield 19, 3) := by decide +kernel
theorem dX11_from_36 : decode cX11_from 36 = .ok (.iload_n 1, 1) := by decide +kernel
theorem dX11_from_37 : decode cX11_from 37 = .ok (.aaload, 1) := by decide +kernel
theorem dX11_from_38 : decode cX11_from 38 = .ok (.invokevirtual 105, 3) := by decide +kernel
theorem dX11_from_41 : decode cX11_from 41 = .ok (.iconst 1, 1) := by decide +kernel
theorem dX11_from_42 : decode cX11_from 42 = .ok (.ireturn, 1) := by decide +kernel
theorem dX11_status_0 : decode cX11_status 0 = .ok (.iload_n 1, 1) := by decide +kernel
theorem dX11_status_1 : decode cX11_status 1 = .ok (.tableswitch 42 0 2 #[27, 32, 37], 27) := by decide +kernel
theorem dX11_status_28 : decode cX11_status 28 = .ok (.aload_n 0, 1) := by decide +kernel
theorem dX11_status_29 : decode cX11_status 29 = .ok (.getfield 252, 3) := by decide +kernel
theorem dX11_status_32 : decode cX11_status 32 = .ok (.ireturn, 1) := by decide +kernel
theorem dX11_status_33 : decode cX11_status 33 = .ok (.aload_n 0, 1) := by decide +kernel
theorem dX11_status_34 : decode cX11_status 34 = .ok (.getfield 255, 3) := by decide +kernel
theorem dX11_status_37 : decode cX11_status 37 = .ok (.ireturn, 1) := by decide +kernel
theorem dX11_status_38 : decode cX11_status 38 = .ok (.aload_n 0, 1) := by decide +kernel
theorem dX11_status_39 : decode cX11_status 39 = .ok (.getfield 258, 3) := by decide +kernel
theorem dX11_status_42 : decode cX11_status 42 = .ok (.ireturn, 1) := by decide +kernel
theorem dX11_status_43 : decode cX11_status 43 = .ok (.aload_n 0, 1) := by decide +kernel
theorem dX11_status_44 : decode cX11_status 44 = .ok (.invokevirtual 68, 3) := by decide +kernel
theorem dX11_status_47 : decode cX11_status 47 = .ok (.pop, 1) := by decide +kernel
theorem dX11_status_48 : decode cX11_status 48 = .ok (.iconst (-1), 1) := by decide +kernel
theorem dX11_status_49 : decode cX11_status 49 = .ok (.ireturn, 1) := by decide +kernel
theorem dX11_count_0 : decode cX11_count 0 = .ok (.iload_n 1, 1) := by decide +kernel
theorem dX11_count_1 : decode cX11_count 1 = .ok (.iconst 0, 1) := by decide +kernel
theorem dX11_count_2 : decode cX11_count 2 = .ok (.bipush 7, 2) := by decide +kernel
theorem dX11_count_4 : decode cX11_count 4 = .ok (.invokestatic 64, 3) := by decide +kernel
theorem dX11_count_7 : decode cX11_count 7 = .ok (.ifCond .ne 8, 3) := by decide +kernel
theorem dX11_count_10 : decode cX11_count 10 = .ok (.aload_n 0, 1) := by decide +kernel
theorem dX11_count_11 : decode cX11_count 11 = .ok (.invokevirtual 68, 3) := by decide +kernel
theorem dX11_count_14 : decode cX11_count 14 = .ok (.ireturn, 1) := by decide +kernel
theorem dX11_count_15 : decode cX11_count 15 = .ok (.aload_n 0, 1) := by decide +kernel
theorem dX11_count_16 : decode cX11_count 16 = .ok (.iload_n 1, 1) := by decide +kernel
theorem dX11_count_17 : decode cX11_count 17 = .ok (.invokevirtual 261, 3) := by decide +kernel
theorem dX11_count_20 : decode cX11_count 20 = .ok (.ireturn, 1) := by decide +kernel
theorem dX11_digest_0 : decode cX11_digest 0 = .ok (.ldc2_w 264, 3) := by decide +kernel
theorem dX11_digest_3 : decode cX11_digest 3 = .ok (.lstore_n 1, 1) := by decide +kernel
theorem dX11_digest_4 : decode cX11_digest 4 = .ok (.iconst 0, 1) := by decide +kernel
theorem dX11_digest_5 : decode cX11_digest 5 = .ok (.istore_n 3, 1) := by decide +kernel
theorem dX11_digest_6 : decode cX11_digest 6 = .ok (.iload_n 3, 1) := by decide +kernel
theorem dX11_digest_7 : decode cX11_digest 7 = .ok (.bipush 8, 2) := by decide +kernel
theorem dX11_digest_9 : decode cX11_digest 9 = .ok (.if_icmp .ge 22, 3) := by decide +kernel
theorem dX11_digest_12 : decode cX11_digest 12 = .ok (.ldc2_w 266, 3) := by decide +kernel
theorem dX11_digest_15 : decode cX11_digest 15 = .ok (.lload_n 1, 1) := by decide +kernel
theorem dX11_digest_16 : decode cX11_digest 16 = .ok (.lmul, 1) := by decide +kernel
theorem dX11_digest_17 : decode cX11_digest 17 = .ok (.aload_n 0, 1) := by decide +kernel
theorem dX11_digest_18 : decode cX11_digest 18 = .ok (.iload_n 3, 1) := by decide +kernel
theorem dX11_digest_19 : decode cX11_digest 19 = .ok (.invokevirtual 261, 3) := by decide +kernel
theorem dX11_digest_22 : decode cX11_digest 22 = .ok (.i2l, 1) := by decide +kernel
theorem dX11_digest_23 : decode cX11_digest 23 = .ok (.ladd, 1) := by decide +kernel
theorem dX11_digest_24 : decode cX11_digest 24 = .ok (.lstore_n 1, 1) := by decide +kernel
theorem dX11_digest_25 : decode cX11_digest 25 = .ok (.iinc 3 1, 3) := by decide +kernel
theorem dX11_digest_28 : decode cX11_digest 28 = .ok (.goto (-22), 3) := by decide +kernel
theorem dX11_digest_31 : decode cX11_digest 31 = .ok (.aload_n 0, 1) := by decide +kernel
theorem dX11_digest_32 : decode cX11_digest 32 = .ok (.getfield 10, 3) := by decide +kernel
theorem dX11_digest_35 : decode cX11_digest 35 = .ok (.lload_n 1, 1) := by decide +kernel
theorem dX11_digest_36 : decode cX11_digest 36 = .ok (.invokevirtual 268, 3) := by decide +kernel
theorem dX11_digest_39 : decode cX11_digest 39 = .ok (.lstore_n 1, 1) := by decide +kernel
theorem dX11_digest_40 : decode cX11_digest 40 = .ok (.ldc2_w 266, 3) := by decide +kernel
theorem dX11_digest_43 : decode cX11_digest 43 = .ok (.lload_n 1, 1) := by decide +kernel
theorem dX11_digest_44 : decode cX11_digest 44 = .ok (.lmul, 1) := by decide +kernel
theorem dX11_digest_45 : decode cX11_digest 45 = .ok (.aload_n 0, 1) := by decide +kernel
theorem dX11_digest_46 : decode cX11_digest 46 = .ok (.getfield 50, 3) := by decide +kernel
theorem dX11_digest_49 : decode cX11_digest 49 = .ok (.ladd, 1) := by decide +kernel
theorem dX11_digest_50 : decode cX11_digest 50 = .ok (.lstore_n 1, 1) := by decide +kernel
theorem dX11_digest_51 : decode cX11_digest 51 = .ok (.ldc2_w 266, 3) := by decide +kernel
theorem dX11_digest_54 : decode cX11_digest 54 = .ok (.lload_n 1, 1) := by decide +kernel
theorem dX11_digest_55 : decode cX11_digest 55 = .ok (.lmul, 1) := by decide +kernel
theorem dX11_digest_56 : decode cX11_digest 56 = .ok (.aload_n 0, 1) := by decide +kernel
theorem dX11_digest_57 : decode cX11_digest 57 = .ok (.getfield 54, 3) := by decide +kernel
theorem dX11_digest_60 : decode cX11_digest 60 = .ok (.ladd, 1) := by decide +kernel
theorem dX11_digest_61 : decode cX11_digest 61 = .ok (.lreturn, 1) := by decide +kernel
theorem dX11_within_0 : decode cX11_within 0 = .ok (.iload_n 0, 1) := by decide +kernel
theorem dX11_within_1 : decode cX11_within 1 = .ok (.iload_n 1, 1) := by decide +kernel
theorem dX11_within_2 : decode cX11_within 2 = .ok (.if_icmp .lt 12, 3) := by decide +kernel
theorem dX11_within_5 : decode cX11_within 5 = .ok (.iload_n 0, 1) := by decide +kernel
theorem dX11_within_6 : decode cX11_within 6 = .ok (.iload_n 2, 1) := by decide +kernel
theorem dX11_within_7 : decode cX11_within 7 = .ok (.if_icmp .gt 7, 3) := by decide +kernel
theorem dX11_within_10 : decode cX11_within 10 = .ok (.iconst 1, 1) := by decide +kernel
theorem dX11_within_11 : decode cX11_within 11 = .ok (.goto 4, 3) := by decide +kernel
theorem dX11_within_14 : decode cX11_within 14 = .ok (.iconst 0, 1) := by decide +kernel
theorem dX11_within_15 : decode cX11_within 15 = .ok (.ireturn, 1) := by decide +kernel
theorem dX11_isArt_0 : decode cX11_isArt 0 = .ok (.iload_n 0, 1) := by decide +kernel
theorem dX11_isArt_1 : decode cX11_isArt 1 = .ok (.iconst 0, 1) := by decide +kernel
theorem dX11_isArt_2 : decode cX11_isArt 2 = .ok (.bipush 9, 2) := by decide +kernel
theorem dX11_isArt_4 : decode cX11_isArt 4 = .ok (.invokestatic 64, 3) := by decide +kernel
theorem dX11_isArt_7 : decode cX11_isArt 7 = .ok (.ireturn, 1) := by decide +kernel
theorem dX11_isOne_0 : decode cX11_isOne 0 = .ok (.iload_n 1, 1) := by decide +kernel
theorem dX11_isOne_1 : decode cX11_isOne 1 = .ok (.iconst 0, 1) := by decide +kernel
theorem dX11_isOne_2 : decode cX11_isOne 2 = .ok (.aload_n 0, 1) := by decide +kernel
theorem dX11_isOne_3 : decode cX11_isOne 3 = .ok (.getfield 10, 3) := by decide +kernel
theorem dX11_isOne_6 : decode cX11_isOne 6 = .ok (.getfield 57, 3) := by decide +kernel
theorem dX11_isOne_9 : decode cX11_isOne 9 = .ok (.iconst 1, 1) := by decide +kernel
theorem dX11_isOne_10 : decode cX11_isOne 10 = .ok (.isub, 1) := by decide +kernel
theorem dX11_isOne_11 : decode cX11_isOne 11 = .ok (.invokestatic 64, 3) := by decide +kernel
theorem dX11_isOne_14 : decode cX11_isOne 14 = .ok (.ireturn, 1) := by decide +kernel
theorem dX11_isToCome_0 : decode cX11_isToCome 0 = .ok (.iload_n 1, 1) := by decide +kernel
theorem dX11_isToCome_1 : decode cX11_isToCome 1 = .ok (.aload_n 0, 1) := by decide +kernel
theorem dX11_isToCome_2 : decode cX11_isToCome 2 = .ok (.getfield 10, 3) := by decide +kernel
theorem dX11_isToCome_5 : decode cX11_isToCome 5 = .ok (.getfield 109, 3) := by decide +kernel
theorem dX11_isToCome_8 : decode cX11_isToCome 8 = .ok (.bipush 7, 2) := by decide +kernel
theorem dX11_isToCome_10 : decode cX11_isToCome 10 = .ok (.invokestatic 64, 3) := by decide +kernel
theorem dX11_isToCome_13 : decode cX11_isToCome 13 = .ok (.ireturn, 1) := by decide +kernel
theorem dX11_bad_0 : decode cX11_bad 0 = .ok (.aload_n 0, 1) := by decide +kernel
theorem dX11_bad_1 : decode cX11_bad 1 = .ok (.dup, 1) := by decide +kernel
theorem dX11_bad_2 : decode cX11_bad 2 = .ok (.getfield 252, 3) := by decide +kernel
theorem dX11_bad_5 : decode cX11_bad 5 = .ok (.iconst 1, 1) := by decide +kernel
theorem dX11_bad_6 : decode cX11_bad 6 = .ok (.iadd, 1) := by decide +kernel
theorem dX11_bad_7 : decode cX11_bad 7 = .ok (.putfield 252, 3) := by decide +kernel
theorem dX11_bad_10 : decode cX11_bad 10 = .ok (.bipush (-2), 2) := by decide +kernel
theorem dX11_bad_12 : decode cX11_bad 12 = .ok (.ireturn, 1) := by decide +kernel
theorem dX11_no_0 : decode cX11_no 0 = .ok (.aload_n 0, 1) := by decide +kernel
theorem dX11_no_1 : decode cX11_no 1 = .ok (.dup, 1) := by decide +kernel
theorem dX11_no_2 : decode cX11_no 2 = .ok (.getfield 255, 3) := by decide +kernel
theorem dX11_no_5 : decode cX11_no 5 = .ok (.iconst 1, 1) := by decide +kernel
theorem dX11_no_6 : decode cX11_no 6 = .ok (.iadd, 1) := by decide +kernel
theorem dX11_no_7 : decode cX11_no 7 = .ok (.putfield 255, 3) := by decide +kernel
theorem dX11_no_10 : decode cX11_no 10 = .ok (.bipush (-3), 2) := by decide +kernel
theorem dX11_no_12 : decode cX11_no 12 = .ok (.ireturn, 1) := by decide +kernel
theorem dX11_full_0 : decode cX11_full 0 = .ok (.aload_n 0, 1) := by decide +kernel
theorem dX11_full_1 : decode cX11_full 1 = .ok (.dup, 1) := by decide +kernel
theorem dX11_full_2 : decode cX11_full 2 = .ok (.getfield 258, 3) := by decide +kernel
theorem dX11_full_5 : decode cX11_full 5 = .ok (.iconst 1, 1) := by decide +kernel
theorem dX11_full_6 : decode cX11_full 6 = .ok (.iadd, 1) := by decide +kernel
theorem dX11_full_7 : decode cX11_full 7 = .ok (.putfield 258, 3) := by decide +kernel
theorem dX11_full_10 : decode cX11_full 10 = .ok (.bipush (-4), 2) := by decide +kernel
theorem dX11_full_12 : decode cX11_full 12 = .ok (.ireturn, 1) := by decide +kernel
theorem dX11_amount_0 : decode cX11_amount 0 = .ok (.iload_n 1, 1) := by decide +kernel
theorem dX11_amount_1 : decode cX11_amount 1 = .ok (.tableswitch 105 0 6 #[43, 51, 59, 67, 75, 86, 97], 43) := by decide +kernel
theorem dX11_amount_44 : decode cX11_amount 44 = .ok (.aload_n 0, 1) := by decide +kernel
theorem dX11_amount_45 : decode cX11_amount 45 = .ok (.getfield 10, 3) := by decide +kernel
theorem dX11_amount_48 : decode cX11_amount 48 = .ok (.getfield 57, 3) := by decide +kernel
theorem dX11_amount_51 : decode cX11_amount 51 = .ok (.ireturn, 1) := by decide +kernel
theorem dX11_amount_52 : decode cX11_amount 52 = .ok (.aload_n 0, 1) := by decide +kernel
theorem dX11_amount_53 : decode cX11_amount 53 = .ok (.getfield 10, 3) := by decide +kernel
theorem dX11_amount_56 : decode cX11_amount 56 = .ok (.getfield 109, 3) := by decide +kernel
theorem dX11_amount_59 : decode cX11_amount 59 = .ok (.ireturn, 1) := by decide +kernel
theorem dX11_amount_60 : decode cX11_amount 60 = .ok (.aload_n 0, 1) := by decide +kernel
theorem dX11_amount_61 : decode cX11_amount 61 = .ok (.getfield 10, 3) := by decide +kernel
theorem dX11_amount_64 : decode cX11_amount 64 = .ok (.invokevirtual 272, 3) := by decide +kernel
theorem dX11_amount_67 : decode cX11_amount 67 = .ok (.ireturn, 1) := by decide +kernel
theorem dX11_amount_68 : decode cX11_amount 68 = .ok (.aload_n 0, 1) := by decide +kernel
theorem dX11_amount_69 : decode cX11_amount 69 = .ok (.getfield 10, 3) := by decide +kernel
theorem dX11_amount_72 : decode cX11_amount 72 = .ok (.invokevirtual 275, 3) := by decide +kernel
theorem dX11_amount_75 : decode cX11_amount 75 = .ok (.ireturn, 1) := by decide +kernel
theorem dX11_amount_76 : decode cX11_amount 76 = .ok (.aload_n 0, 1) := by decide +kernel
theorem dX11_amount_77 : decode cX11_amount 77 = .ok (.getfield 10, 3) := by decide +kernel
theorem dX11_amount_80 : decode cX11_amount 80 = .ok (.getfield 204, 3) := by decide +kernel
theorem dX11_amount_83 : decode cX11_amount 83 = .ok (.getfield 208, 3) := by decide +kernel
theorem dX11_amount_86 : decode cX11_amount 86 = .ok (.ireturn, 1) := by decide +kernel
theorem dX11_amount_87 : decode cX11_amount 87 = .ok (.aload_n 0, 1) := by decide +kernel
theorem dX11_amount_88 : decode cX11_amount 88 = .ok (.getfield 10, 3) := by decide +kernel
theorem dX11_amount_91 : decode cX11_amount 91 = .ok (.getfield 216, 3) := by decide +kernel
theorem dX11_amount_94 : decode cX11_amount 94 = .ok (.getfield 208, 3) := by decide +kernel
theorem dX11_amount_97 : decode cX11_amount 97 = .ok (.ireturn, 1) := by decide +kernel
theorem dX11_amount_98 : decode cX11_amount 98 = .ok (.aload_n 0, 1) := by decide +kernel
theorem dX11_amount_99 : decode cX11_amount 99 = .ok (.getfield 10, 3) := by decide +kernel
theorem dX11_amount_102 : decode cX11_amount 102 = .ok (.getfield 80, 3) := by decide +kernel
theorem dX11_amount_105 : decode cX11_amount 105 = .ok (.ireturn, 1) := by decide +kernel
theorem dX11_amount_106 : decode cX11_amount 106 = .ok (.aload_n 0, 1) := by decide +kernel
theorem dX11_amount_107 : decode cX11_amount 107 = .ok (.getfield 46, 3) := by decide +kernel
theorem dX11_amount_110 : decode cX11_amount 110 = .ok (.getfield 94, 3) := by decide +kernel
theorem dX11_amount_113 : decode cX11_amount 113 = .ok (.ireturn, 1) := by decide +kernel
theorem dX11_setFraction_0 : decode cX11_setFraction 0 = .ok (.aload_n 0, 1) := by decide +kernel
theorem dX11_setFraction_1 : decode cX11_setFraction 1 = .ok (.lconst 0, 1) := by decide +kernel
theorem dX11_setFraction_2 : decode cX11_setFraction 2 = .ok (.putfield 50, 3) := by decide +kernel
theorem dX11_setFraction_5 : decode cX11_setFraction 5 = .ok (.aload_n 0, 1) := by decide +kernel
theorem dX11_setFraction_6 : decode cX11_setFraction 6 = .ok (.lconst 1, 1) := by decide +kernel
theorem dX11_setFraction_7 : decode cX11_setFraction 7 = .ok (.putfield 54, 3) := by decide +kernel
theorem dX11_setFraction_10 : decode cX11_setFraction 10 = .ok (.iload_n 1, 1) := by decide +kernel
theorem dX11_setFraction_11 : decode cX11_setFraction 11 = .ok (.ifCond .le 7, 3) := by decide +kernel
theorem dX11_setFraction_14 : decode cX11_setFraction 14 = .ok (.iload_n 2, 1) := by decide +kernel
theorem dX11_setFraction_15 : decode cX11_setFraction 15 = .ok (.ifCond .gt 4, 3) := by decide +kernel
theorem dX11_setFraction_18 : decode cX11_setFraction 18 = .ok (.return_, 1) := by decide +kernel
theorem dX11_setFraction_19 : decode cX11_setFraction 19 = .ok (.iconst 1, 1) := by decide +kernel
theorem dX11_setFraction_20 : decode cX11_setFraction 20 = .ok (.istore_n 3, 1) := by decide +kernel
theorem dX11_setFraction_21 : decode cX11_setFraction 21 = .ok (.iconst 2, 1) := by decide +kernel
theorem dX11_setFraction_22 : decode cX11_setFraction 22 = .ok (.istore 4, 2) := by decide +kernel
theorem dX11_setFraction_24 : decode cX11_setFraction 24 = .ok (.iload 4, 2) := by decide +kernel
theorem dX11_setFraction_26 : decode cX11_setFraction 26 = .ok (.iload_n 1, 1) := by decide +kernel
theorem dX11_setFraction_27 : decode cX11_setFraction 27 = .ok (.if_icmp .gt 26, 3) := by decide +kernel
theorem dX11_setFraction_30 : decode cX11_setFraction 30 = .ok (.iload_n 1, 1) := by decide +kernel
theorem dX11_setFraction_31 : decode cX11_setFraction 31 = .ok (.iload 4, 2) := by decide +kernel
theorem dX11_setFraction_33 : decode cX11_setFraction 33 = .ok (.irem, 1) := by decide +kernel
theorem dX11_setFraction_34 : decode cX11_setFraction 34 = .ok (.ifCond .ne 13, 3) := by decide +kernel
theorem dX11_setFraction_37 : decode cX11_setFraction 37 = .ok (.iload_n 2, 1) := by decide +kernel
theorem dX11_setFraction_38 : decode cX11_setFraction 38 = .ok (.iload 4, 2) := by decide +kernel
theorem dX11_setFraction_40 : decode cX11_setFraction 40 = .ok (.irem, 1) := by decide +kernel
theorem dX11_setFraction_41 : decode cX11_setFraction 41 = .ok (.ifCond .ne 6, 3) := by decide +kernel
theorem dX11_setFraction_44 : decode cX11_setFraction 44 = .ok (.iload 4, 2) := by decide +kernel
theorem dX11_setFraction_46 : decode cX11_setFraction 46 = .ok (.istore_n 3, 1) := by decide +kernel
theorem dX11_setFraction_47 : decode cX11_setFraction 47 = .ok (.iinc 4 1, 3) := by decide +kernel
theorem dX11_setFraction_50 : decode cX11_setFraction 50 = .ok (.goto (-26), 3) := by decide +kernel
theorem dX11_setFraction_53 : decode cX11_setFraction 53 = .ok (.aload_n 0, 1) := by decide +kernel
theorem dX11_setFraction_54 : decode cX11_setFraction 54 = .ok (.iload_n 1, 1) := by decide +kernel
theorem dX11_setFraction_55 : decode cX11_setFraction 55 = .ok (.iload_n 3, 1) := by decide +kernel
theorem dX11_setFraction_56 : decode cX11_setFraction 56 = .ok (.idiv, 1) := by decide +kernel
theorem dX11_setFraction_57 : decode cX11_setFraction 57 = .ok (.i2l, 1) := by decide +kernel
theorem dX11_setFraction_58 : decode cX11_setFraction 58 = .ok (.putfield 50, 3) := by decide +kernel
theorem dX11_setFraction_61 : decode cX11_setFraction 61 = .ok (.aload_n 0, 1) := by decide +kernel
theorem dX11_setFraction_62 : decode cX11_setFraction 62 = .ok (.iload_n 2, 1) := by decide +kernel
theorem dX11_setFraction_63 : decode cX11_setFraction 63 = .ok (.iload_n 3, 1) := by decide +kernel
theorem dX11_setFraction_64 : decode cX11_setFraction 64 = .ok (.idiv, 1) := by decide +kernel
theorem dX11_setFraction_65 : decode cX11_setFraction 65 = .ok (.i2l, 1) := by decide +kernel
theorem dX11_setFraction_66 : decode cX11_setFraction 66 = .ok (.putfield 54, 3) := by decide +kernel
theorem dX11_setFraction_69 : decode cX11_setFraction 69 = .ok (.return_, 1) := by decide +kernel
theorem dX12_init_0 : decode cX12_init 0 = .ok (.aload_n 0, 1) := by decide +kernel
theorem dX12_init_1 : decode cX12_init 1 = .ok (.invokespecial 1, 3) := by decide +kernel
theorem dX12_init_4 : decode cX12_init 4 = .ok (.aload_n 0, 1) := by decide +kernel
theorem dX12_init_5 : decode cX12_init 5 = .ok (.sipush 209, 3) := by decide +kernel
theorem dX12_init_8 : decode cX12_init 8 = .ok (.newarray .int, 2) := by decide +kernel
theorem dX12_init_10 : decode cX12_init 10 = .ok (.putfield 7, 3) := by decide +kernel
theorem dX12_init_13 : decode cX12_init 13 = .ok (.aload_n 0, 1) := by decide +kernel
theorem dX12_init_14 : decode cX12_init 14 = .ok (.sipush 418, 3) := by decide +kernel
theorem dX12_init_17 : decode cX12_init 17 = .ok (.newarray .int, 2) := by decide +kernel
theorem dX12_init_19 : decode cX12_init 19 = .ok (.putfield 13, 3) := by decide +kernel
theorem dX12_init_22 : decode cX12_init 22 = .ok (.aload_n 0, 1) := by decide +kernel
theorem dX12_init_23 : decode cX12_init 23 = .ok (.iconst 2, 1) := by decide +kernel
theorem dX12_init_24 : decode cX12_init 24 = .ok (.newarray .boolean, 2) := by decide +kernel
theorem dX12_init_26 : decode cX12_init 26 = .ok (.putfield 16, 3) := by decide +kernel
theorem dX12_init_29 : decode cX12_init 29 = .ok (.aload_n 0, 1) := by decide +kernel
theorem dX12_init_30 : decode cX12_init 30 = .ok (.iconst 3, 1) := by decide +kernel
theorem dX12_init_31 : decode cX12_init 31 = .ok (.newarray .int, 2) := by decide +kernel
theorem dX12_init_33 : decode cX12_init 33 = .ok (.putfield 20, 3) := by decide +kernel
theorem dX12_init_36 : decode cX12_init 36 = .ok (.aload_n 0, 1) := by decide +kernel
theorem dX12_init_37 : decode cX12_init 37 = .ok (.lconst 1, 1) := by decide +kernel
theorem dX12_init_38 : decode cX12_init 38 = .ok (.putfield 23, 3) := by decide +kernel
theorem dX12_init_41 : decode cX12_init 41 = .ok (.aload_n 0, 1) := by decide +kernel
theorem dX12_init_42 : decode cX12_init 42 = .ok (.bipush 6, 2) := by decide +kernel
theorem dX12_init_44 : decode cX12_init 44 = .ok (.newarray .int, 2) := by decide +kernel
theorem dX12_init_46 : decode cX12_init 46 = .ok (.putfield 27, 3) := by decide +kernel
theorem dX12_init_49 : decode cX12_init 49 = .ok (.aload_n 0, 1) := by decide +kernel
theorem dX12_init_50 : decode cX12_init 50 = .ok (.bipush 6, 2) := by decide +kernel
theorem dX12_init_52 : decode cX12_init 52 = .ok (.newarray .int, 2) := by decide +kernel
theorem dX12_init_54 : decode cX12_init 54 = .ok (.putfield 30, 3) := by decide +kernel
theorem dX12_init_57 : decode cX12_init 57 = .ok (.aload_n 0, 1) := by decide +kernel
theorem dX12_init_58 : decode cX12_init 58 = .ok (.bipush 8, 2) := by decide +kernel
theorem dX12_init_60 : decode cX12_init 60 = .ok (.newarray .int, 2) := by decide +kernel
theorem dX12_init_62 : decode cX12_init 62 = .ok (.putfield 33, 3) := by decide +kernel
theorem dX12_init_65 : decode cX12_init 65 = .ok (.aload_n 0, 1) := by decide +kernel
theorem dX12_init_66 : decode cX12_init 66 = .ok (.bipush 8, 2) := by decide +kernel
theorem dX12_init_68 : decode cX12_init 68 = .ok (.newarray .int, 2) := by decide +kernel
theorem dX12_init_70 : decode cX12_init 70 = .ok (.putfield 36, 3) := by decide +kernel
theorem dX12_init_73 : decode cX12_init 73 = .ok (.aload_n 0, 1) := by decide +kernel
theorem dX12_init_74 : decode cX12_init 74 = .ok (.bipush 6, 2) := by decide +kernel
theorem dX12_init_76 : decode cX12_init 76 = .ok (.newarray .int, 2) := by decide +kernel
theorem dX12_init_78 : decode cX12_init 78 = .ok (.putfield 39, 3) := by decide +kernel
theorem dX12_init_81 : decode cX12_init 81 = .ok (.aload_n 0, 1) := by decide +kernel
theorem dX12_init_82 : decode cX12_init 82 = .ok (.bipush 64, 2) := by decide +kernel
theorem dX12_init_84 : decode cX12_init 84 = .ok (.newarray .int, 2) := by decide +kernel
theorem dX12_init_86 : decode cX12_init 86 = .ok (.putfield 42, 3) := by decide +kernel
theorem dX12_init_89 : decode cX12_init 89 = .ok (.aload_n 0, 1) := by decide +kernel
theorem dX12_init_90 : decode cX12_init 90 = .ok (.bipush 64, 2) := by decide +kernel
theorem dX12_init_92 : decode cX12_init 92 = .ok (.newarray .int, 2) := by decide +kernel
theorem dX12_init_94 : decode cX12_init 94 = .ok (.putfield 45, 3) := by decide +kernel
theorem dX12_init_97 : decode cX12_init 97 = .ok (.aload_n 0, 1) := by decide +kernel
theorem dX12_init_98 : decode cX12_init 98 = .ok (.sipush 150, 3) := by decide +kernel
theorem dX12_init_101 : decode cX12_init 101 = .ok (.newarray .int, 2) := by decide +kernel
theorem dX12_init_103 : decode cX12_init 103 = .ok (.putfield 48, 3) := by decide +kernel
theorem dX12_init_106 : decode cX12_init 106 = .ok (.aload_n 0, 1) := by decide +kernel
theorem dX12_init_107 : decode cX12_init 107 = .ok (.bipush 105, 2) := by decide +kernel
theorem dX12_init_109 : decode cX12_init 109 = .ok (.newarray .int, 2) := by decide +kernel
theorem dX12_init_111 : decode cX12_init 111 = .ok (.putfield 51, 3) := by decide +kernel
theorem dX12_init_114 : decode cX12_init 114 = .ok (.aload_n 0, 1) := by decide +kernel
theorem dX12_init_115 : decode cX12_init 115 = .ok (.iconst 4, 1) := by decide +kernel
theorem dX12_init_116 : decode cX12_init 116 = .ok (.newarray .int, 2) := by decide +kernel
theorem dX12_init_118 : decode cX12_init 118 = .ok (.putfield 54, 3) := by decide +kernel
theorem dX12_init_121 : decode cX12_init 121 = .ok (.aload_n 0, 1) := by decide +kernel
theorem dX12_init_122 : decode cX12_init 122 = .ok (.getfield 7, 3) := by decide +kernel
theorem dX12_init_125 : decode cX12_init 125 = .ok (.invokestatic 57, 3) := by decide +kernel
theorem dX12_init_128 : decode cX12_init 128 = .ok (.return_, 1) := by decide +kernel
theorem dX12_in_0 : decode cX12_in 0 = .ok (.lload_n 0, 1) := by decide +kernel
theorem dX12_in_1 : decode cX12_in 1 = .ok (.lload_n 2, 1) := by decide +kernel
theorem dX12_in_2 : decode cX12_in 2 = .ok (.lcmp, 1) := by decide +kernel
theorem dX12_in_3 : decode cX12_in 3 = .ok (.ifCond .lt 14, 3) := by decide +kernel
theorem dX12_in_6 : decode cX12_in 6 = .ok (.lload_n 0, 1) := by decide +kernel
theorem dX12_in_7 : decode cX12_in 7 = .ok (.lload 4, 2) := by decide +kernel
theorem dX12_in_9 : decode cX12_in 9 = .ok (.lcmp, 1) := by decide +kernel
theorem dX12_in_10 : decode cX12_in 10 = .ok (.ifCond .gt 7, 3) := by decide +kernel
theorem dX12_in_13 : decode cX12_in 13 = .ok (.iconst 1, 1) := by decide +kernel
theorem dX12_in_14 : decode cX12_in 14 = .ok (.goto 4, 3) := by decide +kernel
theorem dX12_in_17 : decode cX12_in 17 = .ok (.iconst 0, 1) := by decide +kernel
theorem dX12_in_18 : decode cX12_in 18 = .ok (.ireturn, 1) := by decide +kernel
theorem dX12_bad_0 : decode cX12_bad 0 = .ok (.aload_n 0, 1) := by decide +kernel
theorem dX12_bad_1 : decode cX12_bad 1 = .ok (.getfield 20, 3) := by decide +kernel
theorem dX12_bad_4 : decode cX12_bad 4 = .ok (.iconst 0, 1) := by decide +kernel
theorem dX12_bad_5 : decode cX12_bad 5 = .ok (.dup2, 1) := by decide +kernel
theorem dX12_bad_6 : decode cX12_bad 6 = .ok (.iaload, 1) := by decide +kernel
theorem dX12_bad_7 : decode cX12_bad 7 = .ok (.iconst 1, 1) := by decide +kernel
theorem dX12_bad_8 : decode cX12_bad 8 = .ok (.iadd, 1) := by decide +kernel
theorem dX12_bad_9 : decode cX12_bad 9 = .ok (.iastore, 1) := by decide +kernel
theorem dX12_bad_10 : decode cX12_bad 10 = .ok (.iload_n 1, 1) := by decide +kernel
theorem dX12_bad_11 : decode cX12_bad 11 = .ok (.ireturn, 1) := by decide +kernel
theorem dX12_no_0 : decode cX12_no 0 = .ok (.aload_n 0, 1) := by decide +kernel
theorem dX12_no_1 : decode cX12_no 1 = .ok (.getfield 20, 3) := by decide +kernel
theorem dX12_no_4 : decode cX12_no 4 = .ok (.iconst 1, 1) := by decide +kernel
theorem dX12_no_5 : decode cX12_no 5 = .ok (.dup2, 1) := by decide +kernel
theorem dX12_no_6 : decode cX12_no 6 = .ok (.iaload, 1) := by decide +kernel
theorem dX12_no_7 : decode cX12_no 7 = .ok (.iconst 1, 1) := by decide +kernel
theorem dX12_no_8 : decode cX12_no 8 = .ok (.iadd, 1) := by decide +kernel
theorem dX12_no_9 : decode cX12_no 9 = .ok (.iastore, 1) := by decide +kernel
theorem dX12_no_10 : decode cX12_no 10 = .ok (.bipush (-3), 2) := by decide +kernel
theorem dX12_no_12 : decode cX12_no 12 = .ok (.ireturn, 1) := by decide +kernel
theorem dX12_full_0 : decode cX12_full 0 = .ok (.aload_n 0, 1) := by decide +kernel
theorem dX12_full_1 : decode cX12_full 1 = .ok (.getfield 20, 3) := by decide +kernel
theorem dX12_full_4 : decode cX12_full 4 = .ok (.iconst 2, 1) := by decide +kernel
theorem dX12_full_5 : decode cX12_full 5 = .ok (.dup2, 1) := by decide +kernel
theorem dX12_full_6 : decode cX12_full 6 = .ok (.iaload, 1) := by decide +kernel
theorem dX12_full_7 : decode cX12_full 7 = .ok (.iconst 1, 1) := by decide +kernel
theorem dX12_full_8 : decode cX12_full 8 = .ok (.iadd, 1) := by decide +kernel
theorem dX12_full_9 : decode cX12_full 9 = .ok (.iastore, 1) := by decide +kernel
theorem dX12_full_10 : decode cX12_full 10 = .ok (.bipush (-4), 2) := by decide +kernel
theorem dX12_full_12 : decode cX12_full 12 = .ok (.ireturn, 1) := by decide +kernel
theorem dX12_bits_0 : decode cX12_bits 0 = .ok (.iconst 0, 1) := by decide +kernel
theorem dX12_bits_1 : decode cX12_bits 1 = .ok (.istore_n 1, 1) := by decide +kernel
theorem dX12_bits_2 : decode cX12_bits 2 = .ok (.iload_n 0, 1) := by decide +kernel
theorem dX12_bits_3 : decode cX12_bits 3 = .ok (.istore_n 2, 1) := by decide +kernel
theorem dX12_bits_4 : decode cX12_bits 4 = .ok (.iload_n 2, 1) := by decide +kernel
theorem dX12_bits_5 : decode cX12_bits 5 = .ok (.ifCond .le 16, 3) := by decide +kernel
theorem dX12_bits_8 : decode cX12_bits 8 = .ok (.iload_n 1, 1) := by decide +kernel
theorem dX12_bits_9 : decode cX12_bits 9 = .ok (.iload_n 2, 1) := by decide +kernel
theorem dX12_bits_10 : decode cX12_bits 10 = .ok (.iconst 1, 1) := by decide +kernel
theorem dX12_bits_11 : decode cX12_bits 11 = .ok (.iand, 1) := by decide +kernel
theorem dX12_bits_12 : decode cX12_bits 12 = .ok (.iadd, 1) := by decide +kernel
theorem dX12_bits_13 : decode cX12_bits 13 = .ok (.istore_n 1, 1) := by decide +kernel
theorem dX12_bits_14 : decode cX12_bits 14 = .ok (.iload_n 2, 1) := by decide +kernel
theorem dX12_bits_15 : decode cX12_bits 15 = .ok (.iconst 1, 1) := by decide +kernel
theorem dX12_bits_16 : decode cX12_bits 16 = .ok (.ishr, 1) := by decide +kernel
theorem dX12_bits_17 : decode cX12_bits 17 = .ok (.istore_n 2, 1) := by decide +kernel
theorem dX12_bits_18 : decode cX12_bits 18 = .ok (.goto (-14), 3) := by decide +kernel
theorem dX12_bits_21 : decode cX12_bits 21 = .ok (.iload_n 1, 1) := by decide +kernel
theorem dX12_bits_22 : decode cX12_bits 22 = .ok (.ireturn, 1) := by decide +kernel
theorem dX12_has_0 : decode cX12_has 0 = .ok (.iload_n 0, 1) := by decide +kernel
theorem dX12_has_1 : decode cX12_has 1 = .ok (.iload_n 1, 1) := by decide +kernel
theorem dX12_has_2 : decode cX12_has 2 = .ok (.ishr, 1) := by decide +kernel
theorem dX12_has_3 : decode cX12_has 3 = .ok (.iconst 1, 1) := by decide +kernel
theorem dX12_has_4 : decode cX12_has 4 = .ok (.iand, 1) := by decide +kernel
theorem dX12_has_5 : decode cX12_has 5 = .ok (.iconst 1, 1) := by decide +kernel
theorem dX12_has_6 : decode cX12_has 6 = .ok (.if_icmp .ne 7, 3) := by decide +kernel
theorem dX12_has_9 : decode cX12_has 9 = .ok (.iconst 1, 1) := by decide +kernel
theorem dX12_has_10 : decode cX12_has 10 = .ok (.goto 4, 3) := by decide +kernel
theorem dX12_has_13 : decode cX12_has 13 = .ok (.iconst 0, 1) := by decide +kernel
theorem dX12_has_14 : decode cX12_has 14 = .ok (.ireturn, 1) := by decide +kernel
theorem dX12_begin_0 : decode cX12_begin 0 = .ok (.iconst 0, 1) := by decide +kernel
theorem dX12_begin_1 : decode cX12_begin 1 = .ok (.istore_n 1, 1) := by decide +kernel
theorem dX12_begin_2 : decode cX12_begin 2 = .ok (.iload_n 1, 1) := by decide +kernel
theorem dX12_begin_3 : decode cX12_begin 3 = .ok (.bipush 105, 2) := by decide +kernel
theorem dX12_begin_5 : decode cX12_begin 5 = .ok (.if_icmp .ge 13, 3) := by decide +kernel
theorem dX12_begin_8 : decode cX12_begin 8 = .ok (.aload_n 0, 1) := by decide +kernel
theorem dX12_begin_9 : decode cX12_begin 9 = .ok (.iload_n 1, 1) := by decide +kernel
theorem dX12_begin_10 : decode cX12_begin 10 = .ok (.iconst 0, 1) := by decide +kernel
theorem dX12_begin_11 : decode cX12_begin 11 = .ok (.iastore, 1) := by decide +kernel
theorem dX12_begin_12 : decode cX12_begin 12 = .ok (.iinc 1 1, 3) := by decide +kernel
theorem dX12_begin_15 : decode cX12_begin 15 = .ok (.goto (-13), 3) := by decide +kernel
theorem dX12_begin_18 : decode cX12_begin 18 = .ok (.iconst 0, 1) := by decide +kernel
theorem dX12_begin_19 : decode cX12_begin 19 = .ok (.istore_n 1, 1) := by decide +kernel
theorem dX12_begin_20 : decode cX12_begin 20 = .ok (.iload_n 1, 1) := by decide +kernel
theorem dX12_begin_21 : decode cX12_begin 21 = .ok (.bipush 8, 2) := by decide +kernel
theorem dX12_begin_23 : decode cX12_begin 23 = .ok (.if_icmp .ge 16, 3) := by decide +kernel
theorem dX12_begin_26 : decode cX12_begin 26 = .ok (.aload_n 0, 1) := by decide +kernel
theorem dX12_begin_27 : decode cX12_begin 27 = .ok (.bipush 41, 2) := by decide +kernel
theorem dX12_begin_29 : decode cX12_begin 29 = .ok (.iload_n 1, 1) := by decide +kernel
theorem dX12_begin_30 : decode cX12_begin 30 = .ok (.iadd, 1) := by decide +kernel
theorem dX12_begin_31 : decode cX12_begin 31 = .ok (.iconst (-1), 1) := by decide +kernel
theorem dX12_begin_32 : decode cX12_begin 32 = .ok (.iastore, 1) := by decide +kernel
theorem dX12_begin_33 : decode cX12_begin 33 = .ok (.iinc 1 1, 3) := by decide +kernel
theorem dX12_begin_36 : decode cX12_begin 36 = .ok (.goto (-16), 3) := by decide +kernel
theorem dX12_begin_39 : decode cX12_begin 39 = .ok (.return_, 1) := by decide +kernel
theorem dX12_many_0 : decode cX12_many 0 = .ok (.aload_n 0, 1) := by decide +kernel
theorem dX12_many_1 : decode cX12_many 1 = .ok (.getfield 7, 3) := by decide +kernel
theorem dX12_many_4 : decode cX12_many 4 = .ok (.iconst 0, 1) := by decide +kernel
theorem dX12_many_5 : decode cX12_many 5 = .ok (.iaload, 1) := by decide +kernel
theorem dX12_many_6 : decode cX12_many 6 = .ok (.ireturn, 1) := by decide +kernel
theorem dX12_isOne_0 : decode cX12_isOne 0 = .ok (.iload_n 1, 1) := by decide +kernel
theorem dX12_isOne_1 : decode cX12_isOne 1 = .ok (.i2l, 1) := by decide +kernel
theorem dX12_isOne_2 : decode cX12_isOne 2 = .ok (.lconst 0, 1) := by decide +kernel
theorem dX12_isOne_3 : decode cX12_isOne 3 = .ok (.aload_n 0, 1) := by decide +kernel
theorem dX12_isOne_4 : decode cX12_isOne 4 = .ok (.invokevirtual 61, 3) := by decide +kernel
theorem dX12_isOne_7 : decode cX12_isOne 7 = .ok (.iconst 1, 1) := by decide +kernel
theorem dX12_isOne_8 : decode cX12_isOne 8 = .ok (.isub, 1) := by decide +kernel
theorem dX12_isOne_9 : decode cX12_isOne 9 = .ok (.i2l, 1) := by decide +kernel
theorem dX12_isOne_10 : decode cX12_isOne 10 = .ok (.invokestatic 65, 3) := by decide +kernel
theorem dX12_isOne_13 : decode cX12_isOne 13 = .ok (.ireturn, 1) := by decide +kernel
theorem dX12_isYear_0 : decode cX12_isYear 0 = .ok (.iload_n 0, 1) := by decide +kernel
theorem dX12_isYear_1 : decode cX12_isYear 1 = .ok (.i2l, 1) := by decide +kernel
theorem dX12_isYear_2 : decode cX12_isYear 2 = .ok (.lconst 0, 1) := by decide +kernel
theorem dX12_isYear_3 : decode cX12_isYear 3 = .ok (.ldc2_w 69, 3) := by decide +kernel
theorem dX12_isYear_6 : decode cX12_isYear 6 = .ok (.invokestatic 65, 3) := by decide +kernel
theorem dX12_isYear_9 : decode cX12_isYear 9 = .ok (.ireturn, 1) := by decide +kernel
theorem dX12_isToCome_0 : decode cX12_isToCome 0 = .ok (.iload_n 1, 1) := by decide +kernel
theorem dX12_isToCome_1 : decode cX12_isToCome 1 = .ok (.i2l, 1) := by decide +kernel
theorem dX12_isToCome_2 : decode cX12_isToCome 2 = .ok (.aload_n 0, 1) := by decide +kernel
theorem dX12_isToCome_3 : decode cX12_isToCome 3 = .ok (.getfield 7, 3) := by decide +kernel
theorem dX12_isToCome_6 : decode cX12_isToCome 6 = .ok (.iconst 4, 1) := by decide +kernel
theorem dX12_isToCome_7 : decode cX12_isToCome 7 = .ok (.iaload, 1) := by decide +kernel
theorem dX12_isToCome_8 : decode cX12_isToCome 8 = .ok (.i2l, 1) := by decide +kernel
theorem dX12_isToCome_9 : decode cX12_isToCome 9 = .ok (.ldc2_w 69, 3) := by decide +kernel
theorem dX12_isToCome_12 : decode cX12_isToCome 12 = .ok (.invokestatic 65, 3) := by decide +kernel
theorem dX12_isToCome_15 : decode cX12_isToCome 15 = .ok (.ireturn, 1) := by decide +kernel
theorem dX12_isSort_0 : decode cX12_isSort 0 = .ok (.iload_n 0, 1) := by decide +kernel
theorem dX12_isSort_1 : decode cX12_isSort 1 = .ok (.i2l, 1) := by decide +kernel
theorem dX12_isSort_2 : decode cX12_isSort 2 = .ok (.lconst 0, 1) := by decide +kernel
theorem dX12_isSort_3 : decode cX12_isSort 3 = .ok (.ldc2_w 71, 3) := by decide +kernel
theorem dX12_isSort_6 : decode cX12_isSort 6 = .ok (.invokestatic 65, 3) := by decide +kernel
theorem dX12_isSort_9 : decode cX12_isSort 9 = .ok (.ireturn, 1) := by decide +kernel
theorem dX12_valley_0 : decode cX12_valley 0 = .ok (.aload_n 0, 1) := by decide +kernel
theorem dX12_valley_1 : decode cX12_valley 1 = .ok (.invokevirtual 61, 3) := by decide +kernel
theorem dX12_valley_4 : decode cX12_valley 4 = .ok (.istore_n 1, 1) := by decide +kernel
theorem dX12_valley_5 : decode cX12_valley 5 = .ok (.aload_n 0, 1) := by decide +kernel
theorem dX12_valley_6 : decode cX12_valley 6 = .ok (.getfield 7, 3) := by decide +kernel
theorem dX12_valley_9 : decode cX12_valley 9 = .ok (.invokestatic 57, 3) := by decide +kernel
theorem dX12_valley_12 : decode cX12_valley 12 = .ok (.iload_n 1, 1) := by decide +kernel
theorem dX12_valley_13 : decode cX12_valley 13 = .ok (.ireturn, 1) := by decide +kernel
theorem dX12_prize_0 : decode cX12_prize 0 = .ok (.iload_n 1, 1) := by decide +kernel
theorem dX12_prize_1 : decode cX12_prize 1 = .ok (.invokestatic 73, 3) := by decide +kernel
theorem dX12_prize_4 : decode cX12_prize 4 = .ok (.ifCond .eq 22, 3) := by decide +kernel
theorem dX12_prize_7 : decode cX12_prize 7 = .ok (.iload_n 2, 1) := by decide +kernel
theorem dX12_prize_8 : decode cX12_prize 8 = .ok (.invokestatic 77, 3) := by decide +kernel
theorem dX12_prize_11 : decode cX12_prize 11 = .ok (.ifCond .eq 15, 3) := by decide +kernel
theorem dX12_prize_14 : decode cX12_prize 14 = .ok (.iload_n 3, 1) := by decide +kernel
theorem dX12_prize_15 : decode cX12_prize 15 = .ok (.i2l, 1) := by decide +kernel
theorem dX12_prize_16 : decode cX12_prize 16 = .ok (.lconst 1, 1) := by decide +kernel
theorem dX12_prize_17 : decode cX12_prize 17 = .ok (.ldc2_w 80, 3) := by decide +kernel
theorem dX12_prize_20 : decode cX12_prize 20 = .ok (.invokestatic 65, 3) := by decide +kernel
theorem dX12_prize_23 : decode cX12_prize 23 = .ok (.ifCond .ne 10, 3) := by decide +kernel
theorem dX12_prize_26 : decode cX12_prize 26 = .ok (.aload_n 0, 1) := by decide +kernel
theorem dX12_prize_27 : decode cX12_prize 27 = .ok (.bipush (-2), 2) := by decide +kernel
theorem dX12_prize_29 : decode cX12_prize 29 = .ok (.invokevirtual 82, 3) := by decide +kernel
theorem dX12_prize_32 : decode cX12_prize 32 = .ok (.ireturn, 1) := by decide +kernel
theorem dX12_prize_33 : decode cX12_prize 33 = .ok (.aload_n 0, 1) := by decide +kernel
theorem dX12_prize_34 : decode cX12_prize 34 = .ok (.getfield 7, 3) := by decide +kernel
theorem dX12_prize_37 : decode cX12_prize 37 = .ok (.bipush 49, 2) := by decide +kernel
theorem dX12_prize_39 : decode cX12_prize 39 = .ok (.iload_n 1, 1) := by decide +kernel
theorem dX12_prize_40 : decode cX12_prize 40 = .ok (.iadd, 1) := by decide +kernel
theorem dX12_prize_41 : decode cX12_prize 41 = .ok (.iaload, 1) := by decide +kernel
theorem dX12_prize_42 : decode cX12_prize 42 = .ok (.istore 4, 2) := by decide +kernel
theorem dX12_prize_44 : decode cX12_prize 44 = .ok (.aload_n 0, 1) := by decide +kernel
theorem dX12_prize_45 : decode cX12_prize 45 = .ok (.getfield 7, 3) := by decide +kernel
theorem dX12_prize_48 : decode cX12_prize 48 = .ok (.bipush 41, 2) := by decide +kernel
theorem dX12_prize_50 : decode cX12_prize 50 = .ok (.iload_n 1, 1) := by decide +kernel
theorem dX12_prize_51 : decode cX12_prize 51 = .ok (.iadd, 1) := by decide +kernel
theorem dX12_prize_52 : decode cX12_prize 52 = .ok (.iload_n 2, 1) := by decide +kernel
theorem dX12_prize_53 : decode cX12_prize 53 = .ok (.iastore, 1) := by decide +kernel
theorem dX12_prize_54 : decode cX12_prize 54 = .ok (.aload_n 0, 1) := by decide +kernel
theorem dX12_prize_55 : decode cX12_prize 55 = .ok (.getfield 7, 3) := by decide +kernel
theorem dX12_prize_58 : decode cX12_prize 58 = .ok (.bipush 49, 2) := by decide +kernel
theorem dX12_prize_60 : decode cX12_prize 60 = .ok (.iload_n 1, 1) := by decide +kernel
theorem dX12_prize_61 : decode cX12_prize 61 = .ok (.iadd, 1) := by decide +kernel
theorem dX12_prize_62 : decode cX12_prize 62 = .ok (.iload_n 3, 1) := by decide +kernel
theorem dX12_prize_63 : decode cX12_prize 63 = .ok (.iastore, 1) := by decide +kernel
theorem dX12_prize_64 : decode cX12_prize 64 = .ok (.aload_n 0, 1) := by decide +kernel
theorem dX12_prize_65 : decode cX12_prize 65 = .ok (.getfield 7, 3) := by decide +kernel
theorem dX12_prize_68 : decode cX12_prize 68 = .ok (.iconst 3, 1) := by decide +kernel
theorem dX12_prize_69 : decode cX12_prize 69 = .ok (.iconst 0, 1) := by decide +kernel
theorem dX12_prize_70 : decode cX12_prize 70 = .ok (.iastore, 1) := by decide +kernel
theorem dX12_prize_71 : decode cX12_prize 71 = .ok (.iload 4, 2) := by decide +kernel
theorem dX12_prize_73 : decode cX12_prize 73 = .ok (.ireturn, 1) := by decide +kernel
theorem dX12_layOne_0 : decode cX12_layOne 0 = .ok (.aload_n 0, 1) := by decide +kernel
theorem dX12_layOne_1 : decode cX12_layOne 1 = .ok (.iconst 0, 1) := by decide +kernel
theorem dX12_layOne_2 : decode cX12_layOne 2 = .ok (.iaload, 1) := by decide +kernel
theorem dX12_layOne_3 : decode cX12_layOne 3 = .ok (.istore 5, 2) := by decide +kernel
theorem dX12_layOne_5 : decode cX12_layOne 5 = .ok (.aload_n 0, 1) := by decide +kernel
theorem dX12_layOne_6 : decode cX12_layOne 6 = .ok (.bipush 17, 2) := by decide +kernel
theorem dX12_layOne_8 : decode cX12_layOne 8 = .ok (.iload 5, 2) := by decide +kernel
theorem dX12_layOne_10 : decode cX12_layOne 10 = .ok (.iadd, 1) := by decide +kernel
theorem dX12_layOne_11 : decode cX12_layOne 11 = .ok (.iload_n 1, 1) := by decide +kernel
theorem dX12_layOne_12 : decode cX12_layOne 12 = .ok (.iastore, 1) := by decide +kernel
theorem dX12_layOne_13 : decode cX12_layOne 13 = .ok (.aload_n 0, 1) := by decide +kernel
theorem dX12_layOne_14 : decode cX12_layOne 14 = .ok (.bipush 23, 2) := by decide +kernel
theorem dX12_layOne_16 : decode cX12_layOne 16 = .ok (.iconst 3, 1) := by decide +kernel
theorem dX12_layOne_17 : decode cX12_layOne 17 = .ok (.iload 5, 2) := by decide +kernel
theorem dX12_layOne_19 : decode cX12_layOne 19 = .ok (.imul, 1) := by decide +kernel
theorem dX12_layOne_20 : decode cX12_layOne 20 = .ok (.iadd, 1) := by decide +kernel
theorem dX12_layOne_21 : decode cX12_layOne 21 = .ok (.iload_n 2, 1) := by decide +kernel
theorem dX12_layOne_22 : decode cX12_layOne 22 = .ok (.iastore, 1) := by decide +kernel
theorem dX12_layOne_23 : decode cX12_layOne 23 = .ok (.aload_n 0, 1) := by decide +kernel
theorem dX12_layOne_24 : decode cX12_layOne 24 = .ok (.bipush 23, 2) := by decide +kernel
theorem dX12_layOne_26 : decode cX12_layOne 26 = .ok (.iconst 3, 1) := by decide +kernel
theorem dX12_layOne_27 : decode cX12_layOne 27 = .ok (.iload 5, 2) := by decide +kernel
theorem dX12_layOne_29 : decode cX12_layOne 29 = .ok (.imul, 1) := by decide +kernel
theorem dX12_layOne_30 : decode cX12_layOne 30 = .ok (.iadd, 1) := by decide +kernel
theorem dX12_layOne_31 : decode cX12_layOne 31 = .ok (.iconst 1, 1) := by decide +kernel
theorem dX12_layOne_32 : decode cX12_layOne 32 = .ok (.iadd, 1) := by decide +kernel
theorem dX12_layOne_33 : decode cX12_layOne 33 = .ok (.iload_n 3, 1) := by decide +kernel
theorem dX12_layOne_34 : decode cX12_layOne 34 = .ok (.iastore, 1) := by decide +kernel
theorem dX12_layOne_35 : decode cX12_layOne 35 = .ok (.aload_n 0, 1) := by decide +kernel
theorem dX12_layOne_36 : decode cX12_layOne 36 = .ok (.bipush 23, 2) := by decide +kernel
theorem dX12_layOne_38 : decode cX12_layOne 38 = .ok (.iconst 3, 1) := by decide +kernel
theorem dX12_layOne_39 : decode cX12_layOne 39 = .ok (.iload 5, 2) := by decide +kernel
theorem dX12_layOne_41 : decode cX12_layOne 41 = .ok (.imul, 1) := by decide +kernel
theorem dX12_layOne_42 : decode cX12_layOne 42 = .ok (.iadd, 1) := by decide +kernel
theorem dX12_layOne_43 : decode cX12_layOne 43 = .ok (.iconst 2, 1) := by decide +kernel
theorem dX12_layOne_44 : decode cX12_layOne 44 = .ok (.iadd, 1) := by decide +kernel
theorem dX12_layOne_45 : decode cX12_layOne 45 = .ok (.iload 4, 2) := by decide +kernel
theorem dX12_layOne_47 : decode cX12_layOne 47 = .ok (.iastore, 1) := by decide +kernel
theorem dX12_layOne_48 : decode cX12_layOne 48 = .ok (.aload_n 0, 1) := by decide +kernel
theorem dX12_layOne_49 : decode cX12_layOne 49 = .ok (.iconst 5, 1) := by decide +kernel
theorem dX12_layOne_50 : decode cX12_layOne 50 = .ok (.iload 5, 2) := by decide +kernel
theorem dX12_layOne_52 : decode cX12_layOne 52 = .ok (.iadd, 1) := by decide +kernel
theorem dX12_layOne_53 : decode cX12_layOne 53 = .ok (.iconst 0, 1) := by decide +kernel
theorem dX12_layOne_54 : decode cX12_layOne 54 = .ok (.iastore, 1) := by decide +kernel
theorem dX12_layOne_55 : decode cX12_layOne 55 = .ok (.aload_n 0, 1) := by decide +kernel
theorem dX12_layOne_56 : decode cX12_layOne 56 = .ok (.bipush 11, 2) := by decide +kernel
theorem dX12_layOne_58 : decode cX12_layOne 58 = .ok (.iload 5, 2) := by decide +kernel
theorem dX12_layOne_60 : decode cX12_layOne 60 = .ok (.iadd, 1) := by decide +kernel
theorem dX12_layOne_61 : decode cX12_layOne 61 = .ok (.iconst 0, 1) := by decide +kernel
theorem dX12_layOne_62 : decode cX12_layOne 62 = .ok (.iastore, 1) := by decide +kernel
theorem dX12_layOne_63 : decode cX12_layOne 63 = .ok (.aload_n 0, 1) := by decide +kernel
theorem dX12_layOne_64 : decode cX12_layOne 64 = .ok (.iconst 0, 1) := by decide +kernel
theorem dX12_layOne_65 : decode cX12_layOne 65 = .ok (.dup2, 1) := by decide +kernel
theorem dX12_layOne_66 : decode cX12_layOne 66 = .ok (.iaload, 1) := by decide +kernel
theorem dX12_layOne_67 : decode cX12_layOne 67 = .ok (.iconst 1, 1) := by decide +kernel
theorem dX12_layOne_68 : decode cX12_layOne 68 = .ok (.iadd, 1) := by decide +kernel
theorem dX12_layOne_69 : decode cX12_layOne 69 = .ok (.iastore, 1) := by decide +kernel
theorem dX12_layOne_70 : decode cX12_layOne 70 = .ok (.return_, 1) := by decide +kernel
theorem dX12_one_0 : decode cX12_one 0 = .ok (.iload_n 1, 1) := by decide +kernel
theorem dX12_one_1 : decode cX12_one 1 = .ok (.i2l, 1) := by decide +kernel
theorem dX12_one_2 : decode cX12_one 2 = .ok (.lconst 0, 1) := by decide +kernel
theorem dX12_one_3 : decode cX12_one 3 = .ok (.ldc2_w 86, 3) := by decide +kernel
theorem dX12_one_6 : decode cX12_one 6 = .ok (.invokestatic 65, 3) := by decide +kernel
theorem dX12_one_9 : decode cX12_one 9 = .ok (.ifCond .eq 40, 3) := by decide +kernel
theorem dX12_one_12 : decode cX12_one 12 = .ok (.iload_n 2, 1) := by decide +kernel
theorem dX12_one_13 : decode cX12_one 13 = .ok (.i2l, 1) := by decide +kernel
theorem dX12_one_14 : decode cX12_one 14 = .ok (.lconst 0, 1) := by decide +kernel
theorem dX12_one_15 : decode cX12_one 15 = .ok (.ldc2_w 88, 3) := by decide +kernel
theorem dX12_one_18 : decode cX12_one 18 = .ok (.invokestatic 65, 3) := by decide +kernel
theorem dX12_one_21 : decode cX12_one 21 = .ok (.ifCond .eq 28, 3) := by decide +kernel
theorem dX12_one_24 : decode cX12_one 24 = .ok (.iload_n 3, 1) := by decide +kernel
theorem dX12_one_25 : decode cX12_one 25 = .ok (.i2l, 1) := by decide +kernel
theorem dX12_one_26 : decode cX12_one 26 = .ok (.lconst 0, 1) := by decide +kernel
theorem dX12_one_27 : decode cX12_one 27 = .ok (.ldc2_w 88, 3) := by decide +kernel
theorem dX12_one_30 : decode cX12_one 30 = .ok (.invokestatic 65, 3) := by decide +kernel
theorem dX12_one_33 : decode cX12_one 33 = .ok (.ifCond .eq 16, 3) := by decide +kernel
theorem dX12_one_36 : decode cX12_one 36 = .ok (.iload 4, 2) := by decide +kernel
theorem dX12_one_38 : decode cX12_one 38 = .ok (.i2l, 1) := by decide +kernel
theorem dX12_one_39 : decode cX12_one 39 = .ok (.lconst 0, 1) := by decide +kernel
theorem dX12_one_40 : decode cX12_one 40 = .ok (.ldc2_w 88, 3) := by decide +kernel
theorem dX12_one_43 : decode cX12_one 43 = .ok (.invokestatic 65, 3) := by decide +kernel
theorem dX12_one_46 : decode cX12_one 46 = .ok (.ifCond .ne 10, 3) := by decide +kernel
theorem dX12_one_49 : decode cX12_one 49 = .ok (.aload_n 0, 1) := by decide +kernel
theorem dX12_one_50 : decode cX12_one 50 = .ok (.bipush (-2), 2) := by decide +kernel
theorem dX12_one_52 : decode cX12_one 52 = .ok (.invokevirtual 82, 3) := by decide +kernel
theorem dX12_one_55 : decode cX12_one 55 = .ok (.ireturn, 1) := by decide +kernel
theorem dX12_one_56 : decode cX12_one 56 = .ok (.aload_n 0, 1) := by decide +kernel
theorem dX12_one_57 : decode cX12_one 57 = .ok (.invokevirtual 61, 3) := by decide +kernel
theorem dX12_one_60 : decode cX12_one 60 = .ok (.bipush 6, 2) := by decide +kernel
theorem dX12_one_62 : decode cX12_one 62 = .ok (.if_icmp .ne 8, 3) := by decide +kernel
theorem dX12_one_65 : decode cX12_one 65 = .ok (.aload_n 0, 1) := by decide +kernel
theorem dX12_one_66 : decode cX12_one 66 = .ok (.invokevirtual 90, 3) := by decide +kernel
theorem dX12_one_69 : decode cX12_one 69 = .ok (.ireturn, 1) := by decide +kernel
theorem dX12_one_70 : decode cX12_one 70 = .ok (.aload_n 0, 1) := by decide +kernel
theorem dX12_one_71 : decode cX12_one 71 = .ok (.getfield 7, 3) := by decide +kernel
theorem dX12_one_74 : decode cX12_one 74 = .ok (.iload_n 1, 1) := by decide +kernel
theorem dX12_one_75 : decode cX12_one 75 = .ok (.iload_n 2, 1) := by decide +kernel
theorem dX12_one_76 : decode cX12_one 76 = .ok (.iload_n 3, 1) := by decide +kernel
theorem dX12_one_77 : decode cX12_one 77 = .ok (.iload 4, 2) := by decide +kernel
theorem dX12_one_79 : decode cX12_one 79 = .ok (.invokestatic 93, 3) := by decide +kernel
theorem dX12_one_82 : decode cX12_one 82 = .ok (.aload_n 0, 1) := by decide +kernel
theorem dX12_one_83 : decode cX12_one 83 = .ok (.getfield 7, 3) := by decide +kernel
theorem dX12_one_86 : decode cX12_one 86 = .ok (.iconst 3, 1) := by decide +kernel
theorem dX12_one_87 : decode cX12_one 87 = .ok (.iconst 0, 1) := by decide +kernel
theorem dX12_one_88 : decode cX12_one 88 = .ok (.iastore, 1) := by decide +kernel
theorem dX12_one_89 : decode cX12_one 89 = .ok (.aload_n 0, 1) := by decide +kernel
theorem dX12_one_90 : decode cX12_one 90 = .ok (.invokevirtual 61, 3) := by decide +kernel
theorem dX12_one_93 : decode cX12_one 93 = .ok (.iconst 1, 1) := by decide +kernel
theorem dX12_one_94 : decode cX12_one 94 = .ok (.isub, 1) := by decide +kernel
theorem dX12_one_95 : decode cX12_one 95 = .ok (.ireturn, 1) := by decide +kernel
theorem dX12_triesAs_0 : decode cX12_triesAs 0 = .ok (.iload_n 1, 1) := by decide +kernel
theorem dX12_triesAs_1 : decode cX12_triesAs 1 = .ok (.bipush 15, 2) := by decide +kernel
theorem dX12_triesAs_3 : decode cX12_triesAs 3 = .ok (.if_icmp .ge 8, 3) := by decide +kernel
theorem dX12_triesAs_6 : decode cX12_triesAs 6 = .ok (.iload_n 2, 1) := by decide +kernel
theorem dX12_triesAs_7 : decode cX12_triesAs 7 = .ok (.iconst 1, 1) := by decide +kernel
theorem dX12_triesAs_8 : decode cX12_triesAs 8 = .ok (.if_icmp .gt 7, 3) := by decide +kernel
theorem dX12_triesAs_11 : decode cX12_triesAs 11 = .ok (.iconst 1, 1) := by decide +kernel
theorem dX12_triesAs_12 : decode cX12_triesAs 12 = .ok (.goto 4, 3) := by decide +kernel
theorem dX12_triesAs_15 : decode cX12_triesAs 15 = .ok (.iconst 0, 1) := by decide +kernel
theorem dX12_triesAs_16 : decode cX12_triesAs 16 = .ok (.istore_n 3, 1) := by decide +kernel
theorem dX12_triesAs_17 : decode cX12_triesAs 17 = .ok (.iload_n 0, 1) := by decide +kernel
theorem dX12_triesAs_18 : decode cX12_triesAs 18 = .ok (.iconst 3, 1) := by decide +kernel
theorem dX12_triesAs_19 : decode cX12_triesAs 19 = .ok (.if_icmp .ne 21, 3) := by decide +kernel
theorem dX12_triesAs_22 : decode cX12_triesAs 22 = .ok (.iload_n 3, 1) := by decide +kernel
theorem dX12_triesAs_23 : decode cX12_triesAs 23 = .ok (.ifCond .eq 13, 3) := by decide +kernel
theorem dX12_triesAs_26 : decode cX12_triesAs 26 = .ok (.iload_n 1, 1) := by decide +kernel
theorem dX12_triesAs_27 : decode cX12_triesAs 27 = .ok (.bipush 8, 2) := by decide +kernel
theorem dX12_triesAs_29 : decode cX12_triesAs 29 = .ok (.if_icmp .lt 7, 3) := by decide +kernel
theorem dX12_triesAs_32 : decode cX12_triesAs 32 = .ok (.iconst 1, 1) := by decide +kernel
theorem dX12_triesAs_33 : decode cX12_triesAs 33 = .ok (.goto 26, 3) := by decide +kernel
theorem dX12_triesAs_36 : decode cX12_triesAs 36 = .ok (.iconst 0, 1) := by decide +kernel
theorem dX12_triesAs_37 : decode cX12_triesAs 37 = .ok (.goto 22, 3) := by decide +kernel
theorem dX12_triesAs_40 : decode cX12_triesAs 40 = .ok (.iload_n 0, 1) := by decide +kernel
theorem dX12_triesAs_41 : decode cX12_triesAs 41 = .ok (.iconst 1, 1) := by decide +kernel
theorem dX12_triesAs_42 : decode cX12_triesAs 42 = .ok (.if_icmp .eq 8, 3) := by decide +kernel
theorem dX12_triesAs_45 : decode cX12_triesAs 45 = .ok (.iload_n 0, 1) := by decide +kernel
theorem dX12_triesAs_46 : decode cX12_triesAs 46 = .ok (.iconst 5, 1) := by decide +kernel
theorem dX12_triesAs_47 : decode cX12_triesAs 47 = .ok (.if_icmp .ne 7, 3) := by decide +kernel
theorem dX12_triesAs_50 : decode cX12_triesAs 50 = .ok (.iload_n 3, 1) := by decide +kernel
theorem dX12_triesAs_51 : decode cX12_triesAs 51 = .ok (.ifCond .eq 7, 3) := by decide +kernel
theorem dX12_triesAs_54 : decode cX12_triesAs 54 = .ok (.iconst 1, 1) := by decide +kernel
theorem dX12_triesAs_55 : decode cX12_triesAs 55 = .ok (.goto 4, 3) := by decide +kernel
theorem dX12_triesAs_58 : decode cX12_triesAs 58 = .ok (.iconst 0, 1) := by decide +kernel
theorem dX12_triesAs_59 : decode cX12_triesAs 59 = .ok (.ireturn, 1) := by decide +kernel
theorem dX12_goodAs_0 : decode cX12_goodAs 0 = .ok (.iload_n 0, 1) := by decide +kernel
theorem dX12_goodAs_1 : decode cX12_goodAs 1 = .ok (.tableswitch 63 3 5 #[27, 31, 46], 27) := by decide +kernel
theorem dX12_goodAs_28 : decode cX12_goodAs 28 = .ok (.iload_n 1, 1) := by decide +kernel
theorem dX12_goodAs_29 : decode cX12_goodAs 29 = .ok (.iconst 1, 1) := by decide +kernel
theorem dX12_goodAs_30 : decode cX12_goodAs 30 = .ok (.iadd, 1) := by decide +kernel
theorem dX12_goodAs_31 : decode cX12_goodAs 31 = .ok (.ireturn, 1) := by decide +kernel
theorem dX12_goodAs_32 : decode cX12_goodAs 32 = .ok (.iload_n 2, 1) := by decide +kernel
theorem dX12_goodAs_33 : decode cX12_goodAs 33 = .ok (.iconst 2, 1) := by decide +kernel
theorem dX12_goodAs_34 : decode cX12_goodAs 34 = .ok (.irem, 1) := by decide +kernel
theorem dX12_goodAs_35 : decode cX12_goodAs 35 = .ok (.iconst 1, 1) := by decide +kernel
theorem dX12_goodAs_36 : decode cX12_goodAs 36 = .ok (.if_icmp .ne 9, 3) := by decide +kernel
theorem dX12_goodAs_39 : decode cX12_goodAs 39 = .ok (.iconst 2, 1) := by decide +kernel
theorem dX12_goodAs_40 : decode cX12_goodAs 40 = .ok (.iload_n 1, 1) := by decide +kernel
theorem dX12_goodAs_41 : decode cX12_goodAs 41 = .ok (.imul, 1) := by decide +kernel
theorem dX12_goodAs_42 : decode cX12_goodAs 42 = .ok (.goto 4, 3) := by decide +kernel
theorem dX12_goodAs_45 : decode cX12_goodAs 45 = .ok (.iconst 0, 1) := by decide +kernel
theorem dX12_goodAs_46 : decode cX12_goodAs 46 = .ok (.ireturn, 1) := by decide +kernel
theorem dX12_goodAs_47 : decode cX12_goodAs 47 = .ok (.iload_n 1, 1) := by decide +kernel
theorem dX12_goodAs_48 : decode cX12_goodAs 48 = .ok (.iload_n 2, 1) := by decide +kernel
theorem dX12_goodAs_49 : decode cX12_goodAs 49 = .ok (.iconst 2, 1) := by decide +kernel
theorem dX12_goodAs_50 : decode cX12_goodAs 50 = .ok (.idiv, 1) := by decide +kernel
theorem dX12_goodAs_51 : decode cX12_goodAs 51 = .ok (.if_icmp .le 11, 3) := by decide +kernel
theorem dX12_goodAs_54 : decode cX12_goodAs 54 = .ok (.iload_n 1, 1) := by decide +kernel
theorem dX12_goodAs_55 : decode cX12_goodAs 55 = .ok (.iload_n 2, 1) := by decide +kernel
theorem dX12_goodAs_56 : decode cX12_goodAs 56 = .ok (.iconst 2, 1) := by decide +kernel
theorem dX12_goodAs_57 : decode cX12_goodAs 57 = .ok (.idiv, 1) := by decide +kernel
theorem dX12_goodAs_58 : decode cX12_goodAs 58 = .ok (.isub, 1) := by decide +kernel
theorem dX12_goodAs_59 : decode cX12_goodAs 59 = .ok (.goto 4, 3) := by decide +kernel
theorem dX12_goodAs_62 : decode cX12_goodAs 62 = .ok (.iconst 0, 1) := by decide +kernel
theorem dX12_goodAs_63 : decode cX12_goodAs 63 = .ok (.ireturn, 1) := by decide +kernel
theorem dX12_goodAs_64 : decode cX12_goodAs 64 = .ok (.iload_n 1, 1) := by decide +kernel
theorem dX12_goodAs_65 : decode cX12_goodAs 65 = .ok (.ireturn, 1) := by decide +kernel
theorem dX12_isBarredBy_0 : decode cX12_isBarredBy 0 = .ok (.iload_n 1, 1) := by decide +kernel
theorem dX12_isBarredBy_1 : decode cX12_isBarredBy 1 = .ok (.iload_n 0, 1) := by decide +kernel
theorem dX12_isBarredBy_2 : decode cX12_isBarredBy 2 = .ok (.iconst 2, 1) := by decide +kernel
theorem dX12_isBarredBy_3 : decode cX12_isBarredBy 3 = .ok (.if_icmp .ne 7, 3) := by decide +kernel
theorem dX12_isBarredBy_6 : decode cX12_isBarredBy 6 = .ok (.iconst 2, 1) := by decide +kernel
theorem dX12_isBarredBy_7 : decode cX12_isBarredBy 7 = .ok (.goto 4, 3) := by decide +kernel
theorem dX12_isBarredBy_10 : decode cX12_isBarredBy 10 = .ok (.iconst 1, 1) := by decide +kernel
theorem dX12_isBarredBy_11 : decode cX12_isBarredBy 11 = .ok (.if_icmp .lt 7, 3) := by decide +kernel
theorem dX12_isBarredBy_14 : decode cX12_isBarredBy 14 = .ok (.iconst 1, 1) := by decide +kernel
theorem dX12_isBarredBy_15 : decode cX12_isBarredBy 15 = .ok (.goto 4, 3) := by decide +kernel
theorem dX12_isBarredBy_18 : decode cX12_isBarredBy 18 = .ok (.iconst 0, 1) := by decide +kernel
theorem dX12_isBarredBy_19 : decode cX12_isBarredBy 19 = .ok (.ireturn, 1) := by decide +kernel
theorem dX12_goodOf_0 : decode cX12_goodOf 0 = .ok (.aload_n 0, 1) := by decide +kernel
theorem dX12_goodOf_1 : decode cX12_goodOf 1 = .ok (.getfield 7, 3) := by decide +kernel
theorem dX12_goodOf_4 : decode cX12_goodOf 4 = .ok (.bipush 17, 2) := by decide +kernel
theorem dX12_goodOf_6 : decode cX12_goodOf 6 = .ok (.iload_n 1, 1) := by decide +kernel
theorem dX12_goodOf_7 : decode cX12_goodOf 7 = .ok (.iadd, 1) := by decide +kernel
theorem dX12_goodOf_8 : decode cX12_goodOf 8 = .ok (.iaload, 1) := by decide +kernel
theorem dX12_goodOf_9 : decode cX12_goodOf 9 = .ok (.aload_n 0, 1) := by decide +kernel
theorem dX12_goodOf_10 : decode cX12_goodOf 10 = .ok (.getfield 7, 3) := by decide +kernel
theorem dX12_goodOf_13 : decode cX12_goodOf 13 = .ok (.bipush 23, 2) := by decide +kernel
end
section
theorem dX12_goodOf_15 : decode cX12_goodOf 15 = .ok (.iconst 3, 1) := by decide +kernel
theorem dX12_goodOf_16 : decode cX12_goodOf 16 = .ok (.iload_n 1, 1) := by decide +kernel
theorem dX12_goodOf_17 : decode cX12_goodOf 17 = .ok (.imul, 1) := by decide +kernel
theorem dX12_goodOf_18 : decode cX12_goodOf 18 = .ok (.iadd, 1) := by decide +kernel
theorem dX12_goodOf_19 : decode cX12_goodOf 19 = .ok (.iload_n 2, 1) := by decide +kernel
theorem dX12_goodOf_20 : decode cX12_goodOf 20 = .ok (.iadd, 1) := by decide +kernel
theorem dX12_goodOf_21 : decode cX12_goodOf 21 = .ok (.iaload, 1) := by decide +kernel
theorem dX12_goodOf_22 : decode cX12_goodOf 22 = .ok (.iload_n 3, 1) := by decide +kernel
theorem dX12_goodOf_23 : decode cX12_goodOf 23 = .ok (.invokestatic 97, 3) := by decide +kernel
theorem dX12_goodOf_26 : decode cX12_goodOf 26 = .ok (.ireturn, 1) := by decide +kernel
theorem dX12_layHand_0 : decode cX12_layHand 0 = .ok (.iconst 0, 1) := by decide +kernel
theorem dX12_layHand_1 : decode cX12_layHand 1 = .ok (.istore_n 1, 1) := by decide +kernel
theorem dX12_layHand_2 : decode cX12_layHand 2 = .ok (.iload_n 1, 1) := by decide +kernel
theorem dX12_layHand_3 : decode cX12_layHand 3 = .ok (.aload_n 0, 1) := by decide +kernel
theorem dX12_layHand_4 : decode cX12_layHand 4 = .ok (.invokevirtual 61, 3) := by decide +kernel
theorem dX12_layHand_7 : decode cX12_layHand 7 = .ok (.if_icmp .ge 46, 3) := by decide +kernel
theorem dX12_layHand_10 : decode cX12_layHand 10 = .ok (.aload_n 0, 1) := by decide +kernel
theorem dX12_layHand_11 : decode cX12_layHand 11 = .ok (.getfield 27, 3) := by decide +kernel
theorem dX12_layHand_14 : decode cX12_layHand 14 = .ok (.iload_n 1, 1) := by decide +kernel
theorem dX12_layHand_15 : decode cX12_layHand 15 = .ok (.aload_n 0, 1) := by decide +kernel
theorem dX12_layHand_16 : decode cX12_layHand 16 = .ok (.getfield 7, 3) := by decide +kernel
theorem dX12_layHand_19 : decode cX12_layHand 19 = .ok (.iconst 5, 1) := by decide +kernel
theorem dX12_layHand_20 : decode cX12_layHand 20 = .ok (.iload_n 1, 1) := by decide +kernel
theorem dX12_layHand_21 : decode cX12_layHand 21 = .ok (.iadd, 1) := by decide +kernel
theorem dX12_layHand_22 : decode cX12_layHand 22 = .ok (.iaload, 1) := by decide +kernel
theorem dX12_layHand_23 : decode cX12_layHand 23 = .ok (.iastore, 1) := by decide +kernel
theorem dX12_layHand_24 : decode cX12_layHand 24 = .ok (.aload_n 0, 1) := by decide +kernel
theorem dX12_layHand_25 : decode cX12_layHand 25 = .ok (.getfield 30, 3) := by decide +kernel
theorem dX12_layHand_28 : decode cX12_layHand 28 = .ok (.iload_n 1, 1) := by decide +kernel
theorem dX12_layHand_29 : decode cX12_layHand 29 = .ok (.aload_n 0, 1) := by decide +kernel
theorem dX12_layHand_30 : decode cX12_layHand 30 = .ok (.getfield 7, 3) := by decide +kernel
theorem dX12_layHand_33 : decode cX12_layHand 33 = .ok (.bipush 11, 2) := by decide +kernel
theorem dX12_layHand_35 : decode cX12_layHand 35 = .ok (.iload_n 1, 1) := by decide +kernel
theorem dX12_layHand_36 : decode cX12_layHand 36 = .ok (.iadd, 1) := by decide +kernel
theorem dX12_layHand_37 : decode cX12_layHand 37 = .ok (.iaload, 1) := by decide +kernel
theorem dX12_layHand_38 : decode cX12_layHand 38 = .ok (.iastore, 1) := by decide +kernel
theorem dX12_layHand_39 : decode cX12_layHand 39 = .ok (.aload_n 0, 1) := by decide +kernel
theorem dX12_layHand_40 : decode cX12_layHand 40 = .ok (.getfield 39, 3) := by decide +kernel
theorem dX12_layHand_43 : decode cX12_layHand 43 = .ok (.iload_n 1, 1) := by decide +kernel
theorem dX12_layHand_44 : decode cX12_layHand 44 = .ok (.bipush (-2), 2) := by decide +kernel
theorem dX12_layHand_46 : decode cX12_layHand 46 = .ok (.iastore, 1) := by decide +kernel
theorem dX12_layHand_47 : decode cX12_layHand 47 = .ok (.iinc 1 1, 3) := by decide +kernel
theorem dX12_layHand_50 : decode cX12_layHand 50 = .ok (.goto (-48), 3) := by decide +kernel
theorem dX12_layHand_53 : decode cX12_layHand 53 = .ok (.iconst 0, 1) := by decide +kernel
theorem dX12_layHand_54 : decode cX12_layHand 54 = .ok (.istore_n 1, 1) := by decide +kernel
theorem dX12_layHand_55 : decode cX12_layHand 55 = .ok (.iload_n 1, 1) := by decide +kernel
theorem dX12_layHand_56 : decode cX12_layHand 56 = .ok (.bipush 8, 2) := by decide +kernel
theorem dX12_layHand_58 : decode cX12_layHand 58 = .ok (.if_icmp .ge 39, 3) := by decide +kernel
theorem dX12_layHand_61 : decode cX12_layHand 61 = .ok (.aload_n 0, 1) := by decide +kernel
theorem dX12_layHand_62 : decode cX12_layHand 62 = .ok (.getfield 33, 3) := by decide +kernel
theorem dX12_layHand_65 : decode cX12_layHand 65 = .ok (.iload_n 1, 1) := by decide +kernel
theorem dX12_layHand_66 : decode cX12_layHand 66 = .ok (.aload_n 0, 1) := by decide +kernel
theorem dX12_layHand_67 : decode cX12_layHand 67 = .ok (.getfield 7, 3) := by decide +kernel
theorem dX12_layHand_70 : decode cX12_layHand 70 = .ok (.bipush 41, 2) := by decide +kernel
theorem dX12_layHand_72 : decode cX12_layHand 72 = .ok (.iload_n 1, 1) := by decide +kernel
theorem dX12_layHand_73 : decode cX12_layHand 73 = .ok (.iadd, 1) := by decide +kernel
theorem dX12_layHand_74 : decode cX12_layHand 74 = .ok (.iaload, 1) := by decide +kernel
theorem dX12_layHand_75 : decode cX12_layHand 75 = .ok (.iastore, 1) := by decide +kernel
theorem dX12_layHand_76 : decode cX12_layHand 76 = .ok (.aload_n 0, 1) := by decide +kernel
theorem dX12_layHand_77 : decode cX12_layHand 77 = .ok (.getfield 36, 3) := by decide +kernel
theorem dX12_layHand_80 : decode cX12_layHand 80 = .ok (.iload_n 1, 1) := by decide +kernel
theorem dX12_layHand_81 : decode cX12_layHand 81 = .ok (.aload_n 0, 1) := by decide +kernel
theorem dX12_layHand_82 : decode cX12_layHand 82 = .ok (.getfield 7, 3) := by decide +kernel
theorem dX12_layHand_85 : decode cX12_layHand 85 = .ok (.bipush 49, 2) := by decide +kernel
theorem dX12_layHand_87 : decode cX12_layHand 87 = .ok (.iload_n 1, 1) := by decide +kernel
theorem dX12_layHand_88 : decode cX12_layHand 88 = .ok (.iadd, 1) := by decide +kernel
theorem dX12_layHand_89 : decode cX12_layHand 89 = .ok (.iaload, 1) := by decide +kernel
theorem dX12_layHand_90 : decode cX12_layHand 90 = .ok (.iastore, 1) := by decide +kernel
theorem dX12_layHand_91 : decode cX12_layHand 91 = .ok (.iinc 1 1, 3) := by decide +kernel
theorem dX12_layHand_94 : decode cX12_layHand 94 = .ok (.goto (-39), 3) := by decide +kernel
theorem dX12_layHand_97 : decode cX12_layHand 97 = .ok (.return_, 1) := by decide +kernel
theorem dX12_tries_0 : decode cX12_tries 0 = .ok (.aload_n 0, 1) := by decide +kernel
theorem dX12_tries_1 : decode cX12_tries 1 = .ok (.getfield 39, 3) := by decide +kernel
theorem dX12_tries_4 : decode cX12_tries 4 = .ok (.iload_n 1, 1) := by decide +kernel
theorem dX12_tries_5 : decode cX12_tries 5 = .ok (.iaload, 1) := by decide +kernel
theorem dX12_tries_6 : decode cX12_tries 6 = .ok (.bipush (-2), 2) := by decide +kernel
theorem dX12_tries_8 : decode cX12_tries 8 = .ok (.if_icmp .ne 28, 3) := by decide +kernel
theorem dX12_tries_11 : decode cX12_tries 11 = .ok (.aload_n 0, 1) := by decide +kernel
theorem dX12_tries_12 : decode cX12_tries 12 = .ok (.getfield 7, 3) := by decide +kernel
theorem dX12_tries_15 : decode cX12_tries 15 = .ok (.bipush 17, 2) := by decide +kernel
theorem dX12_tries_17 : decode cX12_tries 17 = .ok (.iload_n 1, 1) := by decide +kernel
theorem dX12_tries_18 : decode cX12_tries 18 = .ok (.iadd, 1) := by decide +kernel
theorem dX12_tries_19 : decode cX12_tries 19 = .ok (.iaload, 1) := by decide +kernel
theorem dX12_tries_20 : decode cX12_tries 20 = .ok (.aload_n 0, 1) := by decide +kernel
theorem dX12_tries_21 : decode cX12_tries 21 = .ok (.getfield 36, 3) := by decide +kernel
theorem dX12_tries_24 : decode cX12_tries 24 = .ok (.iload_n 2, 1) := by decide +kernel
theorem dX12_tries_25 : decode cX12_tries 25 = .ok (.iaload, 1) := by decide +kernel
theorem dX12_tries_26 : decode cX12_tries 26 = .ok (.bipush 7, 2) := by decide +kernel
theorem dX12_tries_28 : decode cX12_tries 28 = .ok (.iload_n 2, 1) := by decide +kernel
theorem dX12_tries_29 : decode cX12_tries 29 = .ok (.isub, 1) := by decide +kernel
theorem dX12_tries_30 : decode cX12_tries 30 = .ok (.invokestatic 101, 3) := by decide +kernel
theorem dX12_tries_33 : decode cX12_tries 33 = .ok (.goto 18, 3) := by decide +kernel
theorem dX12_tries_36 : decode cX12_tries 36 = .ok (.aload_n 0, 1) := by decide +kernel
theorem dX12_tries_37 : decode cX12_tries 37 = .ok (.getfield 39, 3) := by decide +kernel
theorem dX12_tries_40 : decode cX12_tries 40 = .ok (.iload_n 1, 1) := by decide +kernel
theorem dX12_tries_41 : decode cX12_tries 41 = .ok (.iaload, 1) := by decide +kernel
theorem dX12_tries_42 : decode cX12_tries 42 = .ok (.iload_n 2, 1) := by decide +kernel
theorem dX12_tries_43 : decode cX12_tries 43 = .ok (.if_icmp .ne 7, 3) := by decide +kernel
theorem dX12_tries_46 : decode cX12_tries 46 = .ok (.iconst 1, 1) := by decide +kernel
theorem dX12_tries_47 : decode cX12_tries 47 = .ok (.goto 4, 3) := by decide +kernel
theorem dX12_tries_50 : decode cX12_tries 50 = .ok (.iconst 0, 1) := by decide +kernel
theorem dX12_tries_51 : decode cX12_tries 51 = .ok (.ireturn, 1) := by decide +kernel
theorem dX12_isBarred_0 : decode cX12_isBarred 0 = .ok (.aload_n 0, 1) := by decide +kernel
theorem dX12_isBarred_1 : decode cX12_isBarred 1 = .ok (.getfield 7, 3) := by decide +kernel
theorem dX12_isBarred_4 : decode cX12_isBarred 4 = .ok (.bipush 17, 2) := by decide +kernel
theorem dX12_isBarred_6 : decode cX12_isBarred 6 = .ok (.iload_n 1, 1) := by decide +kernel
theorem dX12_isBarred_7 : decode cX12_isBarred 7 = .ok (.iadd, 1) := by decide +kernel
theorem dX12_isBarred_8 : decode cX12_isBarred 8 = .ok (.iaload, 1) := by decide +kernel
theorem dX12_isBarred_9 : decode cX12_isBarred 9 = .ok (.aload_n 0, 1) := by decide +kernel
theorem dX12_isBarred_10 : decode cX12_isBarred 10 = .ok (.getfield 27, 3) := by decide +kernel
theorem dX12_isBarred_13 : decode cX12_isBarred 13 = .ok (.iload_n 1, 1) := by decide +kernel
theorem dX12_isBarred_14 : decode cX12_isBarred 14 = .ok (.iaload, 1) := by decide +kernel
theorem dX12_isBarred_15 : decode cX12_isBarred 15 = .ok (.invokestatic 105, 3) := by decide +kernel
theorem dX12_isBarred_18 : decode cX12_isBarred 18 = .ok (.invokestatic 108, 3) := by decide +kernel
theorem dX12_isBarred_21 : decode cX12_isBarred 21 = .ok (.ireturn, 1) := by decide +kernel
theorem dX12_enters_0 : decode cX12_enters 0 = .ok (.aload_n 0, 1) := by decide +kernel
theorem dX12_enters_1 : decode cX12_enters 1 = .ok (.getfield 33, 3) := by decide +kernel
theorem dX12_enters_4 : decode cX12_enters 4 = .ok (.iload_n 2, 1) := by decide +kernel
theorem dX12_enters_5 : decode cX12_enters 5 = .ok (.iaload, 1) := by decide +kernel
theorem dX12_enters_6 : decode cX12_enters 6 = .ok (.iconst (-1), 1) := by decide +kernel
theorem dX12_enters_7 : decode cX12_enters 7 = .ok (.if_icmp .eq 40, 3) := by decide +kernel
theorem dX12_enters_10 : decode cX12_enters 10 = .ok (.aload_n 0, 1) := by decide +kernel
theorem dX12_enters_11 : decode cX12_enters 11 = .ok (.iload_n 1, 1) := by decide +kernel
theorem dX12_enters_12 : decode cX12_enters 12 = .ok (.invokevirtual 112, 3) := by decide +kernel
theorem dX12_enters_15 : decode cX12_enters 15 = .ok (.ifCond .ne 32, 3) := by decide +kernel
theorem dX12_enters_18 : decode cX12_enters 18 = .ok (.aload_n 0, 1) := by decide +kernel
theorem dX12_enters_19 : decode cX12_enters 19 = .ok (.iload_n 1, 1) := by decide +kernel
theorem dX12_enters_20 : decode cX12_enters 20 = .ok (.iload_n 2, 1) := by decide +kernel
theorem dX12_enters_21 : decode cX12_enters 21 = .ok (.invokevirtual 115, 3) := by decide +kernel
theorem dX12_enters_24 : decode cX12_enters 24 = .ok (.ifCond .eq 23, 3) := by decide +kernel
theorem dX12_enters_27 : decode cX12_enters 27 = .ok (.aload_n 0, 1) := by decide +kernel
theorem dX12_enters_28 : decode cX12_enters 28 = .ok (.iload_n 1, 1) := by decide +kernel
theorem dX12_enters_29 : decode cX12_enters 29 = .ok (.aload_n 0, 1) := by decide +kernel
theorem dX12_enters_30 : decode cX12_enters 30 = .ok (.getfield 33, 3) := by decide +kernel
theorem dX12_enters_33 : decode cX12_enters 33 = .ok (.iload_n 2, 1) := by decide +kernel
theorem dX12_enters_34 : decode cX12_enters 34 = .ok (.iaload, 1) := by decide +kernel
theorem dX12_enters_35 : decode cX12_enters 35 = .ok (.iload_n 2, 1) := by decide +kernel
theorem dX12_enters_36 : decode cX12_enters 36 = .ok (.invokevirtual 118, 3) := by decide +kernel
theorem dX12_enters_39 : decode cX12_enters 39 = .ok (.iconst 1, 1) := by decide +kernel
theorem dX12_enters_40 : decode cX12_enters 40 = .ok (.if_icmp .lt 7, 3) := by decide +kernel
theorem dX12_enters_43 : decode cX12_enters 43 = .ok (.iconst 1, 1) := by decide +kernel
theorem dX12_enters_44 : decode cX12_enters 44 = .ok (.goto 4, 3) := by decide +kernel
theorem dX12_enters_47 : decode cX12_enters 47 = .ok (.iconst 0, 1) := by decide +kernel
theorem dX12_enters_48 : decode cX12_enters 48 = .ok (.ireturn, 1) := by decide +kernel
theorem dX12_bestIn_0 : decode cX12_bestIn 0 = .ok (.iconst (-1), 1) := by decide +kernel
theorem dX12_bestIn_1 : decode cX12_bestIn 1 = .ok (.istore_n 3, 1) := by decide +kernel
theorem dX12_bestIn_2 : decode cX12_bestIn 2 = .ok (.iconst 0, 1) := by decide +kernel
theorem dX12_bestIn_3 : decode cX12_bestIn 3 = .ok (.istore 4, 2) := by decide +kernel
theorem dX12_bestIn_5 : decode cX12_bestIn 5 = .ok (.iconst 0, 1) := by decide +kernel
theorem dX12_bestIn_6 : decode cX12_bestIn 6 = .ok (.istore 5, 2) := by decide +kernel
theorem dX12_bestIn_8 : decode cX12_bestIn 8 = .ok (.iload 5, 2) := by decide +kernel
theorem dX12_bestIn_10 : decode cX12_bestIn 10 = .ok (.aload_n 0, 1) := by decide +kernel
theorem dX12_bestIn_11 : decode cX12_bestIn 11 = .ok (.invokevirtual 61, 3) := by decide +kernel
theorem dX12_bestIn_14 : decode cX12_bestIn 14 = .ok (.if_icmp .ge 61, 3) := by decide +kernel
theorem dX12_bestIn_17 : decode cX12_bestIn 17 = .ok (.iload 5, 2) := by decide +kernel
theorem dX12_bestIn_19 : decode cX12_bestIn 19 = .ok (.iload_n 2, 1) := by decide +kernel
theorem dX12_bestIn_20 : decode cX12_bestIn 20 = .ok (.if_icmp .eq 49, 3) := by decide +kernel
theorem dX12_bestIn_23 : decode cX12_bestIn 23 = .ok (.aload_n 0, 1) := by decide +kernel
theorem dX12_bestIn_24 : decode cX12_bestIn 24 = .ok (.iload 5, 2) := by decide +kernel
theorem dX12_bestIn_26 : decode cX12_bestIn 26 = .ok (.iload_n 1, 1) := by decide +kernel
theorem dX12_bestIn_27 : decode cX12_bestIn 27 = .ok (.invokevirtual 121, 3) := by decide +kernel
theorem dX12_bestIn_30 : decode cX12_bestIn 30 = .ok (.ifCond .eq 39, 3) := by decide +kernel
theorem dX12_bestIn_33 : decode cX12_bestIn 33 = .ok (.aload_n 0, 1) := by decide +kernel
theorem dX12_bestIn_34 : decode cX12_bestIn 34 = .ok (.iload 5, 2) := by decide +kernel
theorem dX12_bestIn_36 : decode cX12_bestIn 36 = .ok (.aload_n 0, 1) := by decide +kernel
theorem dX12_bestIn_37 : decode cX12_bestIn 37 = .ok (.getfield 33, 3) := by decide +kernel
theorem dX12_bestIn_40 : decode cX12_bestIn 40 = .ok (.iload_n 1, 1) := by decide +kernel
theorem dX12_bestIn_41 : decode cX12_bestIn 41 = .ok (.iaload, 1) := by decide +kernel
theorem dX12_bestIn_42 : decode cX12_bestIn 42 = .ok (.iload_n 1, 1) := by decide +kernel
theorem dX12_bestIn_43 : decode cX12_bestIn 43 = .ok (.invokevirtual 118, 3) := by decide +kernel
theorem dX12_bestIn_46 : decode cX12_bestIn 46 = .ok (.iload 4, 2) := by decide +kernel
theorem dX12_bestIn_48 : decode cX12_bestIn 48 = .ok (.if_icmp .le 21, 3) := by decide +kernel
theorem dX12_bestIn_51 : decode cX12_bestIn 51 = .ok (.iload 5, 2) := by decide +kernel
theorem dX12_bestIn_53 : decode cX12_bestIn 53 = .ok (.istore_n 3, 1) := by decide +kernel
theorem dX12_bestIn_54 : decode cX12_bestIn 54 = .ok (.aload_n 0, 1) := by decide +kernel
theorem dX12_bestIn_55 : decode cX12_bestIn 55 = .ok (.iload 5, 2) := by decide +kernel
theorem dX12_bestIn_57 : decode cX12_bestIn 57 = .ok (.aload_n 0, 1) := by decide +kernel
theorem dX12_bestIn_58 : decode cX12_bestIn 58 = .ok (.getfield 33, 3) := by decide +kernel
theorem dX12_bestIn_61 : decode cX12_bestIn 61 = .ok (.iload_n 1, 1) := by decide +kernel
theorem dX12_bestIn_62 : decode cX12_bestIn 62 = .ok (.iaload, 1) := by decide +kernel
theorem dX12_bestIn_63 : decode cX12_bestIn 63 = .ok (.iload_n 1, 1) := by decide +kernel
theorem dX12_bestIn_64 : decode cX12_bestIn 64 = .ok (.invokevirtual 118, 3) := by decide +kernel
theorem dX12_bestIn_67 : decode cX12_bestIn 67 = .ok (.istore 4, 2) := by decide +kernel
theorem dX12_bestIn_69 : decode cX12_bestIn 69 = .ok (.iinc 5 1, 3) := by decide +kernel
theorem dX12_bestIn_72 : decode cX12_bestIn 72 = .ok (.goto (-64), 3) := by decide +kernel
theorem dX12_bestIn_75 : decode cX12_bestIn 75 = .ok (.iload_n 3, 1) := by decide +kernel
theorem dX12_bestIn_76 : decode cX12_bestIn 76 = .ok (.ireturn, 1) := by decide +kernel
theorem dX12_goYear_0 : decode cX12_goYear 0 = .ok (.aload_n 0, 1) := by decide +kernel
theorem dX12_goYear_1 : decode cX12_goYear 1 = .ok (.iload_n 1, 1) := by decide +kernel
theorem dX12_goYear_2 : decode cX12_goYear 2 = .ok (.iconst (-1), 1) := by decide +kernel
theorem dX12_goYear_3 : decode cX12_goYear 3 = .ok (.invokevirtual 124, 3) := by decide +kernel
theorem dX12_goYear_6 : decode cX12_goYear 6 = .ok (.istore_n 2, 1) := by decide +kernel
theorem dX12_goYear_7 : decode cX12_goYear 7 = .ok (.iload_n 2, 1) := by decide +kernel
theorem dX12_goYear_8 : decode cX12_goYear 8 = .ok (.iconst (-1), 1) := by decide +kernel
theorem dX12_goYear_9 : decode cX12_goYear 9 = .ok (.if_icmp .ne 7, 3) := by decide +kernel
theorem dX12_goYear_12 : decode cX12_goYear 12 = .ok (.iconst (-1), 1) := by decide +kernel
theorem dX12_goYear_13 : decode cX12_goYear 13 = .ok (.goto 9, 3) := by decide +kernel
theorem dX12_goYear_16 : decode cX12_goYear 16 = .ok (.aload_n 0, 1) := by decide +kernel
theorem dX12_goYear_17 : decode cX12_goYear 17 = .ok (.iload_n 1, 1) := by decide +kernel
theorem dX12_goYear_18 : decode cX12_goYear 18 = .ok (.iload_n 2, 1) := by decide +kernel
theorem dX12_goYear_19 : decode cX12_goYear 19 = .ok (.invokevirtual 124, 3) := by decide +kernel
theorem dX12_goYear_22 : decode cX12_goYear 22 = .ok (.istore_n 3, 1) := by decide +kernel
theorem dX12_goYear_23 : decode cX12_goYear 23 = .ok (.iload_n 2, 1) := by decide +kernel
theorem dX12_goYear_24 : decode cX12_goYear 24 = .ok (.iconst (-1), 1) := by decide +kernel
theorem dX12_goYear_25 : decode cX12_goYear 25 = .ok (.if_icmp .eq 15, 3) := by decide +kernel
theorem dX12_goYear_28 : decode cX12_goYear 28 = .ok (.aload_n 0, 1) := by decide +kernel
theorem dX12_goYear_29 : decode cX12_goYear 29 = .ok (.getfield 27, 3) := by decide +kernel
theorem dX12_goYear_32 : decode cX12_goYear 32 = .ok (.iload_n 2, 1) := by decide +kernel
theorem dX12_goYear_33 : decode cX12_goYear 33 = .ok (.dup2, 1) := by decide +kernel
theorem dX12_goYear_34 : decode cX12_goYear 34 = .ok (.iaload, 1) := by decide +kernel
theorem dX12_goYear_35 : decode cX12_goYear 35 = .ok (.iconst 1, 1) := by decide +kernel
theorem dX12_goYear_36 : decode cX12_goYear 36 = .ok (.iload_n 1, 1) := by decide +kernel
theorem dX12_goYear_37 : decode cX12_goYear 37 = .ok (.ishl, 1) := by decide +kernel
theorem dX12_goYear_38 : decode cX12_goYear 38 = .ok (.ior, 1) := by decide +kernel
theorem dX12_goYear_39 : decode cX12_goYear 39 = .ok (.iastore, 1) := by decide +kernel
theorem dX12_goYear_40 : decode cX12_goYear 40 = .ok (.iload_n 3, 1) := by decide +kernel
theorem dX12_goYear_41 : decode cX12_goYear 41 = .ok (.iconst (-1), 1) := by decide +kernel
theorem dX12_goYear_42 : decode cX12_goYear 42 = .ok (.if_icmp .eq 13, 3) := by decide +kernel
theorem dX12_goYear_45 : decode cX12_goYear 45 = .ok (.aload_n 0, 1) := by decide +kernel
theorem dX12_goYear_46 : decode cX12_goYear 46 = .ok (.getfield 30, 3) := by decide +kernel
theorem dX12_goYear_49 : decode cX12_goYear 49 = .ok (.iload_n 3, 1) := by decide +kernel
theorem dX12_goYear_50 : decode cX12_goYear 50 = .ok (.dup2, 1) := by decide +kernel
theorem dX12_goYear_51 : decode cX12_goYear 51 = .ok (.iaload, 1) := by decide +kernel
theorem dX12_goYear_52 : decode cX12_goYear 52 = .ok (.iconst 1, 1) := by decide +kernel
theorem dX12_goYear_53 : decode cX12_goYear 53 = .ok (.iadd, 1) := by decide +kernel
theorem dX12_goYear_54 : decode cX12_goYear 54 = .ok (.iastore, 1) := by decide +kernel
theorem dX12_goYear_55 : decode cX12_goYear 55 = .ok (.iload_n 2, 1) := by decide +kernel
theorem dX12_goYear_56 : decode cX12_goYear 56 = .ok (.ireturn, 1) := by decide +kernel
theorem dX12_goTill_0 : decode cX12_goTill 0 = .ok (.aload_n 0, 1) := by decide +kernel
theorem dX12_goTill_1 : decode cX12_goTill 1 = .ok (.getfield 7, 3) := by decide +kernel
theorem dX12_goTill_4 : decode cX12_goTill 4 = .ok (.iconst 4, 1) := by decide +kernel
theorem dX12_goTill_5 : decode cX12_goTill 5 = .ok (.iaload, 1) := by decide +kernel
theorem dX12_goTill_6 : decode cX12_goTill 6 = .ok (.istore_n 2, 1) := by decide +kernel
theorem dX12_goTill_7 : decode cX12_goTill 7 = .ok (.iload_n 2, 1) := by decide +kernel
theorem dX12_goTill_8 : decode cX12_goTill 8 = .ok (.iload_n 1, 1) := by decide +kernel
theorem dX12_goTill_9 : decode cX12_goTill 9 = .ok (.if_icmp .ge 15, 3) := by decide +kernel
theorem dX12_goTill_12 : decode cX12_goTill 12 = .ok (.aload_n 0, 1) := by decide +kernel
theorem dX12_goTill_13 : decode cX12_goTill 13 = .ok (.iload_n 2, 1) := by decide +kernel
theorem dX12_goTill_14 : decode cX12_goTill 14 = .ok (.invokevirtual 128, 3) := by decide +kernel
theorem dX12_goTill_17 : decode cX12_goTill 17 = .ok (.istore_n 3, 1) := by decide +kernel
theorem dX12_goTill_18 : decode cX12_goTill 18 = .ok (.iinc 2 1, 3) := by decide +kernel
theorem dX12_goTill_21 : decode cX12_goTill 21 = .ok (.goto (-14), 3) := by decide +kernel
theorem dX12_goTill_24 : decode cX12_goTill 24 = .ok (.return_, 1) := by decide +kernel
theorem dX12_worthOf_0 : decode cX12_worthOf 0 = .ok (.iconst 0, 1) := by decide +kernel
theorem dX12_worthOf_1 : decode cX12_worthOf 1 = .ok (.istore_n 2, 1) := by decide +kernel
theorem dX12_worthOf_2 : decode cX12_worthOf 2 = .ok (.iconst 0, 1) := by decide +kernel
theorem dX12_worthOf_3 : decode cX12_worthOf 3 = .ok (.istore_n 3, 1) := by decide +kernel
theorem dX12_worthOf_4 : decode cX12_worthOf 4 = .ok (.iload_n 3, 1) := by decide +kernel
theorem dX12_worthOf_5 : decode cX12_worthOf 5 = .ok (.bipush 8, 2) := by decide +kernel
theorem dX12_worthOf_7 : decode cX12_worthOf 7 = .ok (.if_icmp .ge 35, 3) := by decide +kernel
theorem dX12_worthOf_10 : decode cX12_worthOf 10 = .ok (.iload_n 2, 1) := by decide +kernel
theorem dX12_worthOf_11 : decode cX12_worthOf 11 = .ok (.aload_n 0, 1) := by decide +kernel
theorem dX12_worthOf_12 : decode cX12_worthOf 12 = .ok (.getfield 27, 3) := by decide +kernel
theorem dX12_worthOf_15 : decode cX12_worthOf 15 = .ok (.iload_n 1, 1) := by decide +kernel
theorem dX12_worthOf_16 : decode cX12_worthOf 16 = .ok (.iaload, 1) := by decide +kernel
theorem dX12_worthOf_17 : decode cX12_worthOf 17 = .ok (.iload_n 3, 1) := by decide +kernel
theorem dX12_worthOf_18 : decode cX12_worthOf 18 = .ok (.invokestatic 131, 3) := by decide +kernel
theorem dX12_worthOf_21 : decode cX12_worthOf 21 = .ok (.ifCond .eq 12, 3) := by decide +kernel
theorem dX12_worthOf_24 : decode cX12_worthOf 24 = .ok (.aload_n 0, 1) := by decide +kernel
theorem dX12_worthOf_25 : decode cX12_worthOf 25 = .ok (.getfield 36, 3) := by decide +kernel
theorem dX12_worthOf_28 : decode cX12_worthOf 28 = .ok (.iload_n 3, 1) := by decide +kernel
theorem dX12_worthOf_29 : decode cX12_worthOf 29 = .ok (.iaload, 1) := by decide +kernel
theorem dX12_worthOf_30 : decode cX12_worthOf 30 = .ok (.goto 4, 3) := by decide +kernel
theorem dX12_worthOf_33 : decode cX12_worthOf 33 = .ok (.iconst 0, 1) := by decide +kernel
theorem dX12_worthOf_34 : decode cX12_worthOf 34 = .ok (.iadd, 1) := by decide +kernel
theorem dX12_worthOf_35 : decode cX12_worthOf 35 = .ok (.istore_n 2, 1) := by decide +kernel
theorem dX12_worthOf_36 : decode cX12_worthOf 36 = .ok (.iinc 3 1, 3) := by decide +kernel
theorem dX12_worthOf_39 : decode cX12_worthOf 39 = .ok (.goto (-35), 3) := by decide +kernel
theorem dX12_worthOf_42 : decode cX12_worthOf 42 = .ok (.iload_n 2, 1) := by decide +kernel
theorem dX12_worthOf_43 : decode cX12_worthOf 43 = .ok (.ireturn, 1) := by decide +kernel
theorem dX12_keep_0 : decode cX12_keep 0 = .ok (.aload_n 0, 1) := by decide +kernel
theorem dX12_keep_1 : decode cX12_keep 1 = .ok (.getfield 7, 3) := by decide +kernel
theorem dX12_keep_4 : decode cX12_keep 4 = .ok (.iconst 3, 1) := by decide +kernel
theorem dX12_keep_5 : decode cX12_keep 5 = .ok (.iaload, 1) := by decide +kernel
theorem dX12_keep_6 : decode cX12_keep 6 = .ok (.bipush 8, 2) := by decide +kernel
theorem dX12_keep_8 : decode cX12_keep 8 = .ok (.if_icmp .ne 43, 3) := by decide +kernel
theorem dX12_keep_11 : decode cX12_keep 11 = .ok (.iconst 0, 1) := by decide +kernel
theorem dX12_keep_12 : decode cX12_keep 12 = .ok (.istore_n 1, 1) := by decide +kernel
theorem dX12_keep_13 : decode cX12_keep 13 = .ok (.iload_n 1, 1) := by decide +kernel
theorem dX12_keep_14 : decode cX12_keep 14 = .ok (.bipush 91, 2) := by decide +kernel
theorem dX12_keep_16 : decode cX12_keep 16 = .ok (.if_icmp .ge 27, 3) := by decide +kernel
theorem dX12_keep_19 : decode cX12_keep 19 = .ok (.aload_n 0, 1) := by decide +kernel
theorem dX12_keep_20 : decode cX12_keep 20 = .ok (.getfield 7, 3) := by decide +kernel
theorem dX12_keep_23 : decode cX12_keep 23 = .ok (.bipush 105, 2) := by decide +kernel
theorem dX12_keep_25 : decode cX12_keep 25 = .ok (.iload_n 1, 1) := by decide +kernel
theorem dX12_keep_26 : decode cX12_keep 26 = .ok (.iadd, 1) := by decide +kernel
theorem dX12_keep_27 : decode cX12_keep 27 = .ok (.aload_n 0, 1) := by decide +kernel
theorem dX12_keep_28 : decode cX12_keep 28 = .ok (.getfield 7, 3) := by decide +kernel
theorem dX12_keep_31 : decode cX12_keep 31 = .ok (.bipush 118, 2) := by decide +kernel
theorem dX12_keep_33 : decode cX12_keep 33 = .ok (.iload_n 1, 1) := by decide +kernel
theorem dX12_keep_34 : decode cX12_keep 34 = .ok (.iadd, 1) := by decide +kernel
theorem dX12_keep_35 : decode cX12_keep 35 = .ok (.iaload, 1) := by decide +kernel
theorem dX12_keep_36 : decode cX12_keep 36 = .ok (.iastore, 1) := by decide +kernel
theorem dX12_keep_37 : decode cX12_keep 37 = .ok (.iinc 1 1, 3) := by decide +kernel
theorem dX12_keep_40 : decode cX12_keep 40 = .ok (.goto (-27), 3) := by decide +kernel
theorem dX12_keep_43 : decode cX12_keep 43 = .ok (.aload_n 0, 1) := by decide +kernel
theorem dX12_keep_44 : decode cX12_keep 44 = .ok (.getfield 7, 3) := by decide +kernel
theorem dX12_keep_47 : decode cX12_keep 47 = .ok (.iconst 3, 1) := by decide +kernel
theorem dX12_keep_48 : decode cX12_keep 48 = .ok (.bipush 7, 2) := by decide +kernel
theorem dX12_keep_50 : decode cX12_keep 50 = .ok (.iastore, 1) := by decide +kernel
theorem dX12_keep_51 : decode cX12_keep 51 = .ok (.iconst 0, 1) := by decide +kernel
theorem dX12_keep_52 : decode cX12_keep 52 = .ok (.istore_n 1, 1) := by decide +kernel
theorem dX12_keep_53 : decode cX12_keep 53 = .ok (.iload_n 1, 1) := by decide +kernel
theorem dX12_keep_54 : decode cX12_keep 54 = .ok (.bipush 13, 2) := by decide +kernel
theorem dX12_keep_56 : decode cX12_keep 56 = .ok (.if_icmp .ge 36, 3) := by decide +kernel
theorem dX12_keep_59 : decode cX12_keep 59 = .ok (.aload_n 0, 1) := by decide +kernel
theorem dX12_keep_60 : decode cX12_keep 60 = .ok (.getfield 7, 3) := by decide +kernel
theorem dX12_keep_63 : decode cX12_keep 63 = .ok (.bipush 105, 2) := by decide +kernel
theorem dX12_keep_65 : decode cX12_keep 65 = .ok (.bipush 13, 2) := by decide +kernel
theorem dX12_keep_67 : decode cX12_keep 67 = .ok (.aload_n 0, 1) := by decide +kernel
theorem dX12_keep_68 : decode cX12_keep 68 = .ok (.getfield 7, 3) := by decide +kernel
theorem dX12_keep_71 : decode cX12_keep 71 = .ok (.iconst 3, 1) := by decide +kernel
theorem dX12_keep_72 : decode cX12_keep 72 = .ok (.iaload, 1) := by decide +kernel
theorem dX12_keep_73 : decode cX12_keep 73 = .ok (.imul, 1) := by decide +kernel
theorem dX12_keep_74 : decode cX12_keep 74 = .ok (.iadd, 1) := by decide +kernel
theorem dX12_keep_75 : decode cX12_keep 75 = .ok (.iload_n 1, 1) := by decide +kernel
theorem dX12_keep_76 : decode cX12_keep 76 = .ok (.iadd, 1) := by decide +kernel
theorem dX12_keep_77 : decode cX12_keep 77 = .ok (.aload_n 0, 1) := by decide +kernel
theorem dX12_keep_78 : decode cX12_keep 78 = .ok (.getfield 7, 3) := by decide +kernel
theorem dX12_keep_81 : decode cX12_keep 81 = .ok (.iconst 4, 1) := by decide +kernel
theorem dX12_keep_82 : decode cX12_keep 82 = .ok (.iload_n 1, 1) := by decide +kernel
theorem dX12_keep_83 : decode cX12_keep 83 = .ok (.iadd, 1) := by decide +kernel
theorem dX12_keep_84 : decode cX12_keep 84 = .ok (.iaload, 1) := by decide +kernel
theorem dX12_keep_85 : decode cX12_keep 85 = .ok (.iastore, 1) := by decide +kernel
theorem dX12_keep_86 : decode cX12_keep 86 = .ok (.iinc 1 1, 3) := by decide +kernel
theorem dX12_keep_89 : decode cX12_keep 89 = .ok (.goto (-36), 3) := by decide +kernel
theorem dX12_keep_92 : decode cX12_keep 92 = .ok (.aload_n 0, 1) := by decide +kernel
theorem dX12_keep_93 : decode cX12_keep 93 = .ok (.getfield 7, 3) := by decide +kernel
theorem dX12_keep_96 : decode cX12_keep 96 = .ok (.iconst 3, 1) := by decide +kernel
theorem dX12_keep_97 : decode cX12_keep 97 = .ok (.dup2, 1) := by decide +kernel
theorem dX12_keep_98 : decode cX12_keep 98 = .ok (.iaload, 1) := by decide +kernel
theorem dX12_keep_99 : decode cX12_keep 99 = .ok (.iconst 1, 1) := by decide +kernel
theorem dX12_keep_100 : decode cX12_keep 100 = .ok (.iadd, 1) := by decide +kernel
theorem dX12_keep_101 : decode cX12_keep 101 = .ok (.iastore, 1) := by decide +kernel
theorem dX12_keep_102 : decode cX12_keep 102 = .ok (.return_, 1) := by decide +kernel
theorem dX12_year_0 : decode cX12_year 0 = .ok (.aload_n 0, 1) := by decide +kernel
theorem dX12_year_1 : decode cX12_year 1 = .ok (.getfield 7, 3) := by decide +kernel
theorem dX12_year_4 : decode cX12_year 4 = .ok (.iconst 4, 1) := by decide +kernel
theorem dX12_year_5 : decode cX12_year 5 = .ok (.iaload, 1) := by decide +kernel
theorem dX12_year_6 : decode cX12_year 6 = .ok (.bipush 8, 2) := by decide +kernel
theorem dX12_year_8 : decode cX12_year 8 = .ok (.if_icmp .ne 8, 3) := by decide +kernel
theorem dX12_year_11 : decode cX12_year 11 = .ok (.aload_n 0, 1) := by decide +kernel
theorem dX12_year_12 : decode cX12_year 12 = .ok (.invokevirtual 134, 3) := by decide +kernel
theorem dX12_year_15 : decode cX12_year 15 = .ok (.ireturn, 1) := by decide +kernel
theorem dX12_year_16 : decode cX12_year 16 = .ok (.aload_n 0, 1) := by decide +kernel
theorem dX12_year_17 : decode cX12_year 17 = .ok (.invokevirtual 137, 3) := by decide +kernel
theorem dX12_year_20 : decode cX12_year 20 = .ok (.aload_n 0, 1) := by decide +kernel
theorem dX12_year_21 : decode cX12_year 21 = .ok (.invokevirtual 140, 3) := by decide +kernel
theorem dX12_year_24 : decode cX12_year 24 = .ok (.aload_n 0, 1) := by decide +kernel
theorem dX12_year_25 : decode cX12_year 25 = .ok (.aload_n 0, 1) := by decide +kernel
theorem dX12_year_26 : decode cX12_year 26 = .ok (.getfield 7, 3) := by decide +kernel
theorem dX12_year_29 : decode cX12_year 29 = .ok (.iconst 4, 1) := by decide +kernel
theorem dX12_year_30 : decode cX12_year 30 = .ok (.iaload, 1) := by decide +kernel
theorem dX12_year_31 : decode cX12_year 31 = .ok (.invokevirtual 128, 3) := by decide +kernel
theorem dX12_year_34 : decode cX12_year 34 = .ok (.istore_n 1, 1) := by decide +kernel
theorem dX12_year_35 : decode cX12_year 35 = .ok (.iconst 0, 1) := by decide +kernel
theorem dX12_year_36 : decode cX12_year 36 = .ok (.istore_n 2, 1) := by decide +kernel
theorem dX12_year_37 : decode cX12_year 37 = .ok (.iload_n 2, 1) := by decide +kernel
theorem dX12_year_38 : decode cX12_year 38 = .ok (.aload_n 0, 1) := by decide +kernel
theorem dX12_year_39 : decode cX12_year 39 = .ok (.invokevirtual 61, 3) := by decide +kernel
theorem dX12_year_42 : decode cX12_year 42 = .ok (.if_icmp .ge 38, 3) := by decide +kernel
theorem dX12_year_45 : decode cX12_year 45 = .ok (.aload_n 0, 1) := by decide +kernel
theorem dX12_year_46 : decode cX12_year 46 = .ok (.getfield 7, 3) := by decide +kernel
theorem dX12_year_49 : decode cX12_year 49 = .ok (.iconst 5, 1) := by decide +kernel
theorem dX12_year_50 : decode cX12_year 50 = .ok (.iload_n 2, 1) := by decide +kernel
theorem dX12_year_51 : decode cX12_year 51 = .ok (.iadd, 1) := by decide +kernel
theorem dX12_year_52 : decode cX12_year 52 = .ok (.aload_n 0, 1) := by decide +kernel
theorem dX12_year_53 : decode cX12_year 53 = .ok (.getfield 27, 3) := by decide +kernel
theorem dX12_year_56 : decode cX12_year 56 = .ok (.iload_n 2, 1) := by decide +kernel
theorem dX12_year_57 : decode cX12_year 57 = .ok (.iaload, 1) := by decide +kernel
theorem dX12_year_58 : decode cX12_year 58 = .ok (.iastore, 1) := by decide +kernel
theorem dX12_year_59 : decode cX12_year 59 = .ok (.aload_n 0, 1) := by decide +kernel
theorem dX12_year_60 : decode cX12_year 60 = .ok (.getfield 7, 3) := by decide +kernel
theorem dX12_year_63 : decode cX12_year 63 = .ok (.bipush 11, 2) := by decide +kernel
theorem dX12_year_65 : decode cX12_year 65 = .ok (.iload_n 2, 1) := by decide +kernel
theorem dX12_year_66 : decode cX12_year 66 = .ok (.iadd, 1) := by decide +kernel
theorem dX12_year_67 : decode cX12_year 67 = .ok (.aload_n 0, 1) := by decide +kernel
theorem dX12_year_68 : decode cX12_year 68 = .ok (.getfield 30, 3) := by decide +kernel
theorem dX12_year_71 : decode cX12_year 71 = .ok (.iload_n 2, 1) := by decide +kernel
theorem dX12_year_72 : decode cX12_year 72 = .ok (.iaload, 1) := by decide +kernel
theorem dX12_year_73 : decode cX12_year 73 = .ok (.iastore, 1) := by decide +kernel
theorem dX12_year_74 : decode cX12_year 74 = .ok (.iinc 2 1, 3) := by decide +kernel
theorem dX12_year_77 : decode cX12_year 77 = .ok (.goto (-40), 3) := by decide +kernel
theorem dX12_year_80 : decode cX12_year 80 = .ok (.aload_n 0, 1) := by decide +kernel
theorem dX12_year_81 : decode cX12_year 81 = .ok (.getfield 7, 3) := by decide +kernel
theorem dX12_year_84 : decode cX12_year 84 = .ok (.iconst 4, 1) := by decide +kernel
theorem dX12_year_85 : decode cX12_year 85 = .ok (.dup2, 1) := by decide +kernel
theorem dX12_year_86 : decode cX12_year 86 = .ok (.iaload, 1) := by decide +kernel
theorem dX12_year_87 : decode cX12_year 87 = .ok (.iconst 1, 1) := by decide +kernel
theorem dX12_year_88 : decode cX12_year 88 = .ok (.iadd, 1) := by decide +kernel
theorem dX12_year_89 : decode cX12_year 89 = .ok (.iastore, 1) := by decide +kernel
theorem dX12_year_90 : decode cX12_year 90 = .ok (.iload_n 1, 1) := by decide +kernel
theorem dX12_year_91 : decode cX12_year 91 = .ok (.ireturn, 1) := by decide +kernel
theorem dX12_undo_0 : decode cX12_undo 0 = .ok (.aload_n 0, 1) := by decide +kernel
theorem dX12_undo_1 : decode cX12_undo 1 = .ok (.getfield 7, 3) := by decide +kernel
theorem dX12_undo_4 : decode cX12_undo 4 = .ok (.iconst 3, 1) := by decide +kernel
theorem dX12_undo_5 : decode cX12_undo 5 = .ok (.iaload, 1) := by decide +kernel
theorem dX12_undo_6 : decode cX12_undo 6 = .ok (.ifCond .ne 8, 3) := by decide +kernel
theorem dX12_undo_9 : decode cX12_undo 9 = .ok (.aload_n 0, 1) := by decide +kernel
theorem dX12_undo_10 : decode cX12_undo 10 = .ok (.invokevirtual 134, 3) := by decide +kernel
theorem dX12_undo_13 : decode cX12_undo 13 = .ok (.ireturn, 1) := by decide +kernel
theorem dX12_undo_14 : decode cX12_undo 14 = .ok (.aload_n 0, 1) := by decide +kernel
theorem dX12_undo_15 : decode cX12_undo 15 = .ok (.getfield 7, 3) := by decide +kernel
theorem dX12_undo_18 : decode cX12_undo 18 = .ok (.iconst 3, 1) := by decide +kernel
theorem dX12_undo_19 : decode cX12_undo 19 = .ok (.dup2, 1) := by decide +kernel
theorem dX12_undo_20 : decode cX12_undo 20 = .ok (.iaload, 1) := by decide +kernel
theorem dX12_undo_21 : decode cX12_undo 21 = .ok (.iconst 1, 1) := by decide +kernel
theorem dX12_undo_22 : decode cX12_undo 22 = .ok (.isub, 1) := by decide +kernel
theorem dX12_undo_23 : decode cX12_undo 23 = .ok (.iastore, 1) := by decide +kernel
theorem dX12_undo_24 : decode cX12_undo 24 = .ok (.iconst 0, 1) := by decide +kernel
theorem dX12_undo_25 : decode cX12_undo 25 = .ok (.istore_n 1, 1) := by decide +kernel
theorem dX12_undo_26 : decode cX12_undo 26 = .ok (.iload_n 1, 1) := by decide +kernel
theorem dX12_undo_27 : decode cX12_undo 27 = .ok (.bipush 13, 2) := by decide +kernel
theorem dX12_undo_29 : decode cX12_undo 29 = .ok (.if_icmp .ge 36, 3) := by decide +kernel
theorem dX12_undo_32 : decode cX12_undo 32 = .ok (.aload_n 0, 1) := by decide +kernel
theorem dX12_undo_33 : decode cX12_undo 33 = .ok (.getfield 7, 3) := by decide +kernel
theorem dX12_undo_36 : decode cX12_undo 36 = .ok (.iconst 4, 1) := by decide +kernel
theorem dX12_undo_37 : decode cX12_undo 37 = .ok (.iload_n 1, 1) := by decide +kernel
theorem dX12_undo_38 : decode cX12_undo 38 = .ok (.iadd, 1) := by decide +kernel
theorem dX12_undo_39 : decode cX12_undo 39 = .ok (.aload_n 0, 1) := by decide +kernel
theorem dX12_undo_40 : decode cX12_undo 40 = .ok (.getfield 7, 3) := by decide +kernel
theorem dX12_undo_43 : decode cX12_undo 43 = .ok (.bipush 105, 2) := by decide +kernel
theorem dX12_undo_45 : decode cX12_undo 45 = .ok (.bipush 13, 2) := by decide +kernel
theorem dX12_undo_47 : decode cX12_undo 47 = .ok (.aload_n 0, 1) := by decide +kernel
theorem dX12_undo_48 : decode cX12_undo 48 = .ok (.getfield 7, 3) := by decide +kernel
theorem dX12_undo_51 : decode cX12_undo 51 = .ok (.iconst 3, 1) := by decide +kernel
theorem dX12_undo_52 : decode cX12_undo 52 = .ok (.iaload, 1) := by decide +kernel
theorem dX12_undo_53 : decode cX12_undo 53 = .ok (.imul, 1) := by decide +kernel
theorem dX12_undo_54 : decode cX12_undo 54 = .ok (.iadd, 1) := by decide +kernel
theorem dX12_undo_55 : decode cX12_undo 55 = .ok (.iload_n 1, 1) := by decide +kernel
theorem dX12_undo_56 : decode cX12_undo 56 = .ok (.iadd, 1) := by decide +kernel
theorem dX12_undo_57 : decode cX12_undo 57 = .ok (.iaload, 1) := by decide +kernel
theorem dX12_undo_58 : decode cX12_undo 58 = .ok (.iastore, 1) := by decide +kernel
theorem dX12_undo_59 : decode cX12_undo 59 = .ok (.iinc 1 1, 3) := by decide +kernel
theorem dX12_undo_62 : decode cX12_undo 62 = .ok (.goto (-36), 3) := by decide +kernel
theorem dX12_undo_65 : decode cX12_undo 65 = .ok (.aload_n 0, 1) := by decide +kernel
theorem dX12_undo_66 : decode cX12_undo 66 = .ok (.getfield 7, 3) := by decide +kernel
theorem dX12_undo_69 : decode cX12_undo 69 = .ok (.iconst 4, 1) := by decide +kernel
theorem dX12_undo_70 : decode cX12_undo 70 = .ok (.iaload, 1) := by decide +kernel
theorem dX12_undo_71 : decode cX12_undo 71 = .ok (.ireturn, 1) := by decide +kernel
theorem dX12_of_0 : decode cX12_of 0 = .ok (.aload_n 0, 1) := by decide +kernel
theorem dX12_of_1 : decode cX12_of 1 = .ok (.iload_n 1, 1) := by decide +kernel
theorem dX12_of_2 : decode cX12_of 2 = .ok (.invokevirtual 143, 3) := by decide +kernel
theorem dX12_of_5 : decode cX12_of 5 = .ok (.ifCond .eq 15, 3) := by decide +kernel
theorem dX12_of_8 : decode cX12_of 8 = .ok (.iload_n 2, 1) := by decide +kernel
theorem dX12_of_9 : decode cX12_of 9 = .ok (.i2l, 1) := by decide +kernel
theorem dX12_of_10 : decode cX12_of 10 = .ok (.lconst 0, 1) := by decide +kernel
theorem dX12_of_11 : decode cX12_of 11 = .ok (.ldc2_w 146, 3) := by decide +kernel
theorem dX12_of_14 : decode cX12_of 14 = .ok (.invokestatic 65, 3) := by decide +kernel
theorem dX12_of_17 : decode cX12_of 17 = .ok (.ifCond .ne 10, 3) := by decide +kernel
theorem dX12_of_20 : decode cX12_of 20 = .ok (.aload_n 0, 1) := by decide +kernel
theorem dX12_of_21 : decode cX12_of 21 = .ok (.bipush (-2), 2) := by decide +kernel
theorem dX12_of_23 : decode cX12_of 23 = .ok (.invokevirtual 82, 3) := by decide +kernel
theorem dX12_of_26 : decode cX12_of 26 = .ok (.ireturn, 1) := by decide +kernel
theorem dX12_of_27 : decode cX12_of 27 = .ok (.aload_n 0, 1) := by decide +kernel
theorem dX12_of_28 : decode cX12_of 28 = .ok (.invokevirtual 140, 3) := by decide +kernel
theorem dX12_of_31 : decode cX12_of 31 = .ok (.iload_n 2, 1) := by decide +kernel
theorem dX12_of_32 : decode cX12_of 32 = .ok (.tableswitch 82 0 6 #[44, 82, 82, 82, 54, 61, 68], 44) := by decide +kernel
theorem dX12_of_76 : decode cX12_of 76 = .ok (.aload_n 0, 1) := by decide +kernel
theorem dX12_of_77 : decode cX12_of 77 = .ok (.getfield 7, 3) := by decide +kernel
theorem dX12_of_80 : decode cX12_of 80 = .ok (.bipush 17, 2) := by decide +kernel
theorem dX12_of_82 : decode cX12_of 82 = .ok (.iload_n 1, 1) := by decide +kernel
theorem dX12_of_83 : decode cX12_of 83 = .ok (.iadd, 1) := by decide +kernel
theorem dX12_of_84 : decode cX12_of 84 = .ok (.iaload, 1) := by decide +kernel
theorem dX12_of_85 : decode cX12_of 85 = .ok (.ireturn, 1) := by decide +kernel
theorem dX12_of_86 : decode cX12_of 86 = .ok (.aload_n 0, 1) := by decide +kernel
theorem dX12_of_87 : decode cX12_of 87 = .ok (.getfield 27, 3) := by decide +kernel
theorem dX12_of_90 : decode cX12_of 90 = .ok (.iload_n 1, 1) := by decide +kernel
theorem dX12_of_91 : decode cX12_of 91 = .ok (.iaload, 1) := by decide +kernel
theorem dX12_of_92 : decode cX12_of 92 = .ok (.ireturn, 1) := by decide +kernel
theorem dX12_of_93 : decode cX12_of 93 = .ok (.aload_n 0, 1) := by decide +kernel
theorem dX12_of_94 : decode cX12_of 94 = .ok (.getfield 30, 3) := by decide +kernel
theorem dX12_of_97 : decode cX12_of 97 = .ok (.iload_n 1, 1) := by decide +kernel
theorem dX12_of_98 : decode cX12_of 98 = .ok (.iaload, 1) := by decide +kernel
theorem dX12_of_99 : decode cX12_of 99 = .ok (.ireturn, 1) := by decide +kernel
theorem dX12_of_100 : decode cX12_of 100 = .ok (.aload_n 0, 1) := by decide +kernel
theorem dX12_of_101 : decode cX12_of 101 = .ok (.iload_n 1, 1) := by decide +kernel
theorem dX12_of_102 : decode cX12_of 102 = .ok (.invokevirtual 112, 3) := by decide +kernel
theorem dX12_of_105 : decode cX12_of 105 = .ok (.ifCond .eq 7, 3) := by decide +kernel
theorem dX12_of_108 : decode cX12_of 108 = .ok (.iconst 1, 1) := by decide +kernel
theorem dX12_of_109 : decode cX12_of 109 = .ok (.goto 4, 3) := by decide +kernel
theorem dX12_of_112 : decode cX12_of 112 = .ok (.iconst 0, 1) := by decide +kernel
theorem dX12_of_113 : decode cX12_of 113 = .ok (.ireturn, 1) := by decide +kernel
theorem dX12_of_114 : decode cX12_of 114 = .ok (.aload_n 0, 1) := by decide +kernel
theorem dX12_of_115 : decode cX12_of 115 = .ok (.getfield 7, 3) := by decide +kernel
theorem dX12_of_118 : decode cX12_of 118 = .ok (.bipush 23, 2) := by decide +kernel
theorem dX12_of_120 : decode cX12_of 120 = .ok (.iconst 3, 1) := by decide +kernel
theorem dX12_of_121 : decode cX12_of 121 = .ok (.iload_n 1, 1) := by decide +kernel
theorem dX12_of_122 : decode cX12_of 122 = .ok (.imul, 1) := by decide +kernel
theorem dX12_of_123 : decode cX12_of 123 = .ok (.iadd, 1) := by decide +kernel
theorem dX12_of_124 : decode cX12_of 124 = .ok (.iload_n 2, 1) := by decide +kernel
theorem dX12_of_125 : decode cX12_of 125 = .ok (.iadd, 1) := by decide +kernel
theorem dX12_of_126 : decode cX12_of 126 = .ok (.iconst 1, 1) := by decide +kernel
theorem dX12_of_127 : decode cX12_of 127 = .ok (.isub, 1) := by decide +kernel
theorem dX12_of_128 : decode cX12_of 128 = .ok (.iaload, 1) := by decide +kernel
theorem dX12_of_129 : decode cX12_of 129 = .ok (.ireturn, 1) := by decide +kernel
theorem dX12_about_0 : decode cX12_about 0 = .ok (.iload_n 1, 1) := by decide +kernel
theorem dX12_about_1 : decode cX12_about 1 = .ok (.invokestatic 73, 3) := by decide +kernel
theorem dX12_about_4 : decode cX12_about 4 = .ok (.ifCond .eq 34, 3) := by decide +kernel
theorem dX12_about_7 : decode cX12_about 7 = .ok (.iload_n 2, 1) := by decide +kernel
theorem dX12_about_8 : decode cX12_about 8 = .ok (.i2l, 1) := by decide +kernel
theorem dX12_about_9 : decode cX12_about 9 = .ok (.lconst 0, 1) := by decide +kernel
theorem dX12_about_10 : decode cX12_about 10 = .ok (.lconst 1, 1) := by decide +kernel
theorem dX12_about_11 : decode cX12_about 11 = .ok (.invokestatic 65, 3) := by decide +kernel
theorem dX12_about_14 : decode cX12_about 14 = .ok (.ifCond .eq 24, 3) := by decide +kernel
theorem dX12_about_17 : decode cX12_about 17 = .ok (.aload_n 0, 1) := by decide +kernel
theorem dX12_about_18 : decode cX12_about 18 = .ok (.getfield 7, 3) := by decide +kernel
theorem dX12_about_21 : decode cX12_about 21 = .ok (.iload_n 2, 1) := by decide +kernel
theorem dX12_about_22 : decode cX12_about 22 = .ok (.ifCond .ne 8, 3) := by decide +kernel
theorem dX12_about_25 : decode cX12_about 25 = .ok (.bipush 41, 2) := by decide +kernel
theorem dX12_about_27 : decode cX12_about 27 = .ok (.goto 5, 3) := by decide +kernel
theorem dX12_about_30 : decode cX12_about 30 = .ok (.bipush 49, 2) := by decide +kernel
theorem dX12_about_32 : decode cX12_about 32 = .ok (.iload_n 1, 1) := by decide +kernel
theorem dX12_about_33 : decode cX12_about 33 = .ok (.iadd, 1) := by decide +kernel
theorem dX12_about_34 : decode cX12_about 34 = .ok (.iaload, 1) := by decide +kernel
theorem dX12_about_35 : decode cX12_about 35 = .ok (.goto 9, 3) := by decide +kernel
theorem dX12_about_38 : decode cX12_about 38 = .ok (.aload_n 0, 1) := by decide +kernel
theorem dX12_about_39 : decode cX12_about 39 = .ok (.bipush (-10), 2) := by decide +kernel
theorem dX12_about_41 : decode cX12_about 41 = .ok (.invokevirtual 82, 3) := by decide +kernel
theorem dX12_about_44 : decode cX12_about 44 = .ok (.ireturn, 1) := by decide +kernel
theorem dX12_good_0 : decode cX12_good 0 = .ok (.aload_n 0, 1) := by decide +kernel
theorem dX12_good_1 : decode cX12_good 1 = .ok (.iload_n 1, 1) := by decide +kernel
theorem dX12_good_2 : decode cX12_good 2 = .ok (.invokevirtual 143, 3) := by decide +kernel
theorem dX12_good_5 : decode cX12_good 5 = .ok (.ifCond .eq 27, 3) := by decide +kernel
theorem dX12_good_8 : decode cX12_good 8 = .ok (.iload_n 2, 1) := by decide +kernel
theorem dX12_good_9 : decode cX12_good 9 = .ok (.invokestatic 77, 3) := by decide +kernel
theorem dX12_good_12 : decode cX12_good 12 = .ok (.ifCond .eq 20, 3) := by decide +kernel
theorem dX12_good_15 : decode cX12_good 15 = .ok (.iload_n 3, 1) := by decide +kernel
theorem dX12_good_16 : decode cX12_good 16 = .ok (.invokestatic 73, 3) := by decide +kernel
theorem dX12_good_19 : decode cX12_good 19 = .ok (.ifCond .eq 13, 3) := by decide +kernel
theorem dX12_good_22 : decode cX12_good 22 = .ok (.aload_n 0, 1) := by decide +kernel
theorem dX12_good_23 : decode cX12_good 23 = .ok (.iload_n 1, 1) := by decide +kernel
theorem dX12_good_24 : decode cX12_good 24 = .ok (.iload_n 2, 1) := by decide +kernel
theorem dX12_good_25 : decode cX12_good 25 = .ok (.iload_n 3, 1) := by decide +kernel
theorem dX12_good_26 : decode cX12_good 26 = .ok (.invokevirtual 118, 3) := by decide +kernel
theorem dX12_good_29 : decode cX12_good 29 = .ok (.goto 9, 3) := by decide +kernel
theorem dX12_good_32 : decode cX12_good 32 = .ok (.aload_n 0, 1) := by decide +kernel
theorem dX12_good_33 : decode cX12_good 33 = .ok (.bipush (-2), 2) := by decide +kernel
theorem dX12_good_35 : decode cX12_good 35 = .ok (.invokevirtual 82, 3) := by decide +kernel
theorem dX12_good_38 : decode cX12_good 38 = .ok (.ireturn, 1) := by decide +kernel
theorem dX12_enter_0 : decode cX12_enter 0 = .ok (.aload_n 0, 1) := by decide +kernel
theorem dX12_enter_1 : decode cX12_enter 1 = .ok (.iload_n 1, 1) := by decide +kernel
theorem dX12_enter_2 : decode cX12_enter 2 = .ok (.invokevirtual 148, 3) := by decide +kernel
theorem dX12_enter_5 : decode cX12_enter 5 = .ok (.ifCond .ne 10, 3) := by decide +kernel
theorem dX12_enter_8 : decode cX12_enter 8 = .ok (.aload_n 0, 1) := by decide +kernel
theorem dX12_enter_9 : decode cX12_enter 9 = .ok (.bipush (-2), 2) := by decide +kernel
theorem dX12_enter_11 : decode cX12_enter 11 = .ok (.invokevirtual 82, 3) := by decide +kernel
theorem dX12_enter_14 : decode cX12_enter 14 = .ok (.ireturn, 1) := by decide +kernel
theorem dX12_enter_15 : decode cX12_enter 15 = .ok (.iconst 0, 1) := by decide +kernel
theorem dX12_enter_16 : decode cX12_enter 16 = .ok (.istore_n 2, 1) := by decide +kernel
theorem dX12_enter_17 : decode cX12_enter 17 = .ok (.aload_n 0, 1) := by decide +kernel
theorem dX12_enter_18 : decode cX12_enter 18 = .ok (.invokevirtual 140, 3) := by decide +kernel
theorem dX12_enter_21 : decode cX12_enter 21 = .ok (.aload_n 0, 1) := by decide +kernel
theorem dX12_enter_22 : decode cX12_enter 22 = .ok (.iload_n 1, 1) := by decide +kernel
theorem dX12_enter_23 : decode cX12_enter 23 = .ok (.invokevirtual 151, 3) := by decide +kernel
theorem dX12_enter_26 : decode cX12_enter 26 = .ok (.iconst 0, 1) := by decide +kernel
theorem dX12_enter_27 : decode cX12_enter 27 = .ok (.istore_n 3, 1) := by decide +kernel
theorem dX12_enter_28 : decode cX12_enter 28 = .ok (.iload_n 3, 1) := by decide +kernel
theorem dX12_enter_29 : decode cX12_enter 29 = .ok (.aload_n 0, 1) := by decide +kernel
theorem dX12_enter_30 : decode cX12_enter 30 = .ok (.invokevirtual 61, 3) := by decide +kernel
theorem dX12_enter_33 : decode cX12_enter 33 = .ok (.if_icmp .ge 28, 3) := by decide +kernel
theorem dX12_enter_36 : decode cX12_enter 36 = .ok (.iload_n 2, 1) := by decide +kernel
theorem dX12_enter_37 : decode cX12_enter 37 = .ok (.aload_n 0, 1) := by decide +kernel
theorem dX12_enter_38 : decode cX12_enter 38 = .ok (.iload_n 3, 1) := by decide +kernel
theorem dX12_enter_39 : decode cX12_enter 39 = .ok (.iload_n 1, 1) := by decide +kernel
theorem dX12_enter_40 : decode cX12_enter 40 = .ok (.invokevirtual 121, 3) := by decide +kernel
theorem dX12_enter_43 : decode cX12_enter 43 = .ok (.ifCond .eq 9, 3) := by decide +kernel
theorem dX12_enter_46 : decode cX12_enter 46 = .ok (.iconst 1, 1) := by decide +kernel
theorem dX12_enter_47 : decode cX12_enter 47 = .ok (.iload_n 3, 1) := by decide +kernel
theorem dX12_enter_48 : decode cX12_enter 48 = .ok (.ishl, 1) := by decide +kernel
theorem dX12_enter_49 : decode cX12_enter 49 = .ok (.goto 4, 3) := by decide +kernel
theorem dX12_enter_52 : decode cX12_enter 52 = .ok (.iconst 0, 1) := by decide +kernel
theorem dX12_enter_53 : decode cX12_enter 53 = .ok (.ior, 1) := by decide +kernel
theorem dX12_enter_54 : decode cX12_enter 54 = .ok (.istore_n 2, 1) := by decide +kernel
theorem dX12_enter_55 : decode cX12_enter 55 = .ok (.iinc 3 1, 3) := by decide +kernel
theorem dX12_enter_58 : decode cX12_enter 58 = .ok (.goto (-30), 3) := by decide +kernel
theorem dX12_enter_61 : decode cX12_enter 61 = .ok (.iload_n 2, 1) := by decide +kernel
theorem dX12_enter_62 : decode cX12_enter 62 = .ok (.ireturn, 1) := by decide +kernel
theorem dX12_winner_0 : decode cX12_winner 0 = .ok (.aload_n 0, 1) := by decide +kernel
theorem dX12_winner_1 : decode cX12_winner 1 = .ok (.iload_n 1, 1) := by decide +kernel
theorem dX12_winner_2 : decode cX12_winner 2 = .ok (.invokevirtual 148, 3) := by decide +kernel
theorem dX12_winner_5 : decode cX12_winner 5 = .ok (.ifCond .eq 13, 3) := by decide +kernel
theorem dX12_winner_8 : decode cX12_winner 8 = .ok (.iload_n 2, 1) := by decide +kernel
theorem dX12_winner_9 : decode cX12_winner 9 = .ok (.i2l, 1) := by decide +kernel
theorem dX12_winner_10 : decode cX12_winner 10 = .ok (.lconst 0, 1) := by decide +kernel
theorem dX12_winner_11 : decode cX12_winner 11 = .ok (.lconst 1, 1) := by decide +kernel
theorem dX12_winner_12 : decode cX12_winner 12 = .ok (.invokestatic 65, 3) := by decide +kernel
theorem dX12_winner_15 : decode cX12_winner 15 = .ok (.ifCond .ne 10, 3) := by decide +kernel
theorem dX12_winner_18 : decode cX12_winner 18 = .ok (.aload_n 0, 1) := by decide +kernel
theorem dX12_winner_19 : decode cX12_winner 19 = .ok (.bipush (-2), 2) := by decide +kernel
theorem dX12_winner_21 : decode cX12_winner 21 = .ok (.invokevirtual 82, 3) := by decide +kernel
theorem dX12_winner_24 : decode cX12_winner 24 = .ok (.ireturn, 1) := by decide +kernel
theorem dX12_winner_25 : decode cX12_winner 25 = .ok (.aload_n 0, 1) := by decide +kernel
theorem dX12_winner_26 : decode cX12_winner 26 = .ok (.invokevirtual 140, 3) := by decide +kernel
theorem dX12_winner_29 : decode cX12_winner 29 = .ok (.aload_n 0, 1) := by decide +kernel
theorem dX12_winner_30 : decode cX12_winner 30 = .ok (.iload_n 1, 1) := by decide +kernel
theorem dX12_winner_31 : decode cX12_winner 31 = .ok (.invokevirtual 151, 3) := by decide +kernel
theorem dX12_winner_34 : decode cX12_winner 34 = .ok (.aload_n 0, 1) := by decide +kernel
theorem dX12_winner_35 : decode cX12_winner 35 = .ok (.iload_n 1, 1) := by decide +kernel
theorem dX12_winner_36 : decode cX12_winner 36 = .ok (.iconst (-1), 1) := by decide +kernel
theorem dX12_winner_37 : decode cX12_winner 37 = .ok (.invokevirtual 124, 3) := by decide +kernel
theorem dX12_winner_40 : decode cX12_winner 40 = .ok (.istore_n 3, 1) := by decide +kernel
theorem dX12_winner_41 : decode cX12_winner 41 = .ok (.iload_n 2, 1) := by decide +kernel
theorem dX12_winner_42 : decode cX12_winner 42 = .ok (.ifCond .eq 8, 3) := by decide +kernel
theorem dX12_winner_45 : decode cX12_winner 45 = .ok (.iload_n 3, 1) := by decide +kernel
theorem dX12_winner_46 : decode cX12_winner 46 = .ok (.iconst (-1), 1) := by decide +kernel
theorem dX12_winner_47 : decode cX12_winner 47 = .ok (.if_icmp .ne 7, 3) := by decide +kernel
theorem dX12_winner_50 : decode cX12_winner 50 = .ok (.iload_n 3, 1) := by decide +kernel
theorem dX12_winner_51 : decode cX12_winner 51 = .ok (.goto 9, 3) := by decide +kernel
theorem dX12_winner_54 : decode cX12_winner 54 = .ok (.aload_n 0, 1) := by decide +kernel
theorem dX12_winner_55 : decode cX12_winner 55 = .ok (.iload_n 1, 1) := by decide +kernel
theorem dX12_winner_56 : decode cX12_winner 56 = .ok (.iload_n 3, 1) := by decide +kernel
theorem dX12_winner_57 : decode cX12_winner 57 = .ok (.invokevirtual 124, 3) := by decide +kernel
theorem dX12_winner_60 : decode cX12_winner 60 = .ok (.ireturn, 1) := by decide +kernel
theorem dX12_end_0 : decode cX12_end 0 = .ok (.aload_n 0, 1) := by decide +kernel
theorem dX12_end_1 : decode cX12_end 1 = .ok (.iload_n 1, 1) := by decide +kernel
theorem dX12_end_2 : decode cX12_end 2 = .ok (.invokevirtual 143, 3) := by decide +kernel
theorem dX12_end_5 : decode cX12_end 5 = .ok (.ifCond .eq 13, 3) := by decide +kernel
theorem dX12_end_8 : decode cX12_end 8 = .ok (.iload_n 2, 1) := by decide +kernel
theorem dX12_end_9 : decode cX12_end 9 = .ok (.i2l, 1) := by decide +kernel
theorem dX12_end_10 : decode cX12_end 10 = .ok (.lconst 0, 1) := by decide +kernel
theorem dX12_end_11 : decode cX12_end 11 = .ok (.lconst 1, 1) := by decide +kernel
theorem dX12_end_12 : decode cX12_end 12 = .ok (.invokestatic 65, 3) := by decide +kernel
theorem dX12_end_15 : decode cX12_end 15 = .ok (.ifCond .ne 10, 3) := by decide +kernel
theorem dX12_end_18 : decode cX12_end 18 = .ok (.aload_n 0, 1) := by decide +kernel
theorem dX12_end_19 : decode cX12_end 19 = .ok (.bipush (-2), 2) := by decide +kernel
theorem dX12_end_21 : decode cX12_end 21 = .ok (.invokevirtual 82, 3) := by decide +kernel
theorem dX12_end_24 : decode cX12_end 24 = .ok (.ireturn, 1) := by decide +kernel
theorem dX12_end_25 : decode cX12_end 25 = .ok (.aload_n 0, 1) := by decide +kernel
theorem dX12_end_26 : decode cX12_end 26 = .ok (.invokevirtual 140, 3) := by decide +kernel
theorem dX12_end_29 : decode cX12_end 29 = .ok (.aload_n 0, 1) := by decide +kernel
theorem dX12_end_30 : decode cX12_end 30 = .ok (.bipush 8, 2) := by decide +kernel
theorem dX12_end_32 : decode cX12_end 32 = .ok (.invokevirtual 151, 3) := by decide +kernel
theorem dX12_end_35 : decode cX12_end 35 = .ok (.iload_n 2, 1) := by decide +kernel
theorem dX12_end_36 : decode cX12_end 36 = .ok (.ifCond .ne 11, 3) := by decide +kernel
theorem dX12_end_39 : decode cX12_end 39 = .ok (.aload_n 0, 1) := by decide +kernel
theorem dX12_end_40 : decode cX12_end 40 = .ok (.iload_n 1, 1) := by decide +kernel
theorem dX12_end_41 : decode cX12_end 41 = .ok (.invokevirtual 155, 3) := by decide +kernel
theorem dX12_end_44 : decode cX12_end 44 = .ok (.goto 9, 3) := by decide +kernel
theorem dX12_end_47 : decode cX12_end 47 = .ok (.aload_n 0, 1) := by decide +kernel
theorem dX12_end_48 : decode cX12_end 48 = .ok (.getfield 30, 3) := by decide +kernel
theorem dX12_end_51 : decode cX12_end 51 = .ok (.iload_n 1, 1) := by decide +kernel
theorem dX12_end_52 : decode cX12_end 52 = .ok (.iaload, 1) := by decide +kernel
theorem dX12_end_53 : decode cX12_end 53 = .ok (.ireturn, 1) := by decide +kernel
theorem dX12_left_0 : decode cX12_left 0 = .ok (.iconst 0, 1) := by decide +kernel
theorem dX12_left_1 : decode cX12_left 1 = .ok (.istore_n 1, 1) := by decide +kernel
theorem dX12_left_2 : decode cX12_left 2 = .ok (.aload_n 0, 1) := by decide +kernel
theorem dX12_left_3 : decode cX12_left 3 = .ok (.invokevirtual 140, 3) := by decide +kernel
theorem dX12_left_6 : decode cX12_left 6 = .ok (.aload_n 0, 1) := by decide +kernel
theorem dX12_left_7 : decode cX12_left 7 = .ok (.getfield 7, 3) := by decide +kernel
theorem dX12_left_10 : decode cX12_left 10 = .ok (.iconst 4, 1) := by decide +kernel
theorem dX12_left_11 : decode cX12_left 11 = .ok (.iaload, 1) := by decide +kernel
theorem dX12_left_12 : decode cX12_left 12 = .ok (.istore_n 2, 1) := by decide +kernel
theorem dX12_left_13 : decode cX12_left 13 = .ok (.iload_n 2, 1) := by decide +kernel
theorem dX12_left_14 : decode cX12_left 14 = .ok (.bipush 8, 2) := by decide +kernel
theorem dX12_left_16 : decode cX12_left 16 = .ok (.if_icmp .ge 38, 3) := by decide +kernel
theorem dX12_left_19 : decode cX12_left 19 = .ok (.iload_n 1, 1) := by decide +kernel
theorem dX12_left_20 : decode cX12_left 20 = .ok (.aload_n 0, 1) := by decide +kernel
theorem dX12_left_21 : decode cX12_left 21 = .ok (.iload_n 2, 1) := by decide +kernel
theorem dX12_left_22 : decode cX12_left 22 = .ok (.invokevirtual 128, 3) := by decide +kernel
theorem dX12_left_25 : decode cX12_left 25 = .ok (.iconst (-1), 1) := by decide +kernel
theorem dX12_left_26 : decode cX12_left 26 = .ok (.if_icmp .ne 19, 3) := by decide +kernel
theorem dX12_left_29 : decode cX12_left 29 = .ok (.aload_n 0, 1) := by decide +kernel
theorem dX12_left_30 : decode cX12_left 30 = .ok (.getfield 33, 3) := by decide +kernel
theorem dX12_left_33 : decode cX12_left 33 = .ok (.iload_n 2, 1) := by decide +kernel
theorem dX12_left_34 : decode cX12_left 34 = .ok (.iaload, 1) := by decide +kernel
theorem dX12_left_35 : decode cX12_left 35 = .ok (.iconst (-1), 1) := by decide +kernel
theorem dX12_left_36 : decode cX12_left 36 = .ok (.if_icmp .eq 9, 3) := by decide +kernel
theorem dX12_left_39 : decode cX12_left 39 = .ok (.iconst 1, 1) := by decide +kernel
theorem dX12_left_40 : decode cX12_left 40 = .ok (.iload_n 2, 1) := by decide +kernel
theorem dX12_left_41 : decode cX12_left 41 = .ok (.ishl, 1) := by decide +kernel
theorem dX12_left_42 : decode cX12_left 42 = .ok (.goto 4, 3) := by decide +kernel
theorem dX12_left_45 : decode cX12_left 45 = .ok (.iconst 0, 1) := by decide +kernel
theorem dX12_left_46 : decode cX12_left 46 = .ok (.ior, 1) := by decide +kernel
theorem dX12_left_47 : decode cX12_left 47 = .ok (.istore_n 1, 1) := by decide +kernel
theorem dX12_left_48 : decode cX12_left 48 = .ok (.iinc 2 1, 3) := by decide +kernel
theorem dX12_left_51 : decode cX12_left 51 = .ok (.goto (-38), 3) := by decide +kernel
theorem dX12_left_54 : decode cX12_left 54 = .ok (.iload_n 1, 1) := by decide +kernel
theorem dX12_left_55 : decode cX12_left 55 = .ok (.ireturn, 1) := by decide +kernel
theorem dX12_winsBy_0 : decode cX12_winsBy 0 = .ok (.aload_n 0, 1) := by decide +kernel
theorem dX12_winsBy_1 : decode cX12_winsBy 1 = .ok (.invokevirtual 140, 3) := by decide +kernel
theorem dX12_winsBy_4 : decode cX12_winsBy 4 = .ok (.aload_n 0, 1) := by decide +kernel
theorem dX12_winsBy_5 : decode cX12_winsBy 5 = .ok (.iload_n 1, 1) := by decide +kernel
theorem dX12_winsBy_6 : decode cX12_winsBy 6 = .ok (.invokevirtual 155, 3) := by decide +kernel
theorem dX12_winsBy_9 : decode cX12_winsBy 9 = .ok (.istore_n 3, 1) := by decide +kernel
theorem dX12_winsBy_10 : decode cX12_winsBy 10 = .ok (.aload_n 0, 1) := by decide +kernel
theorem dX12_winsBy_11 : decode cX12_winsBy 11 = .ok (.getfield 39, 3) := by decide +kernel
theorem dX12_winsBy_14 : decode cX12_winsBy 14 = .ok (.iload_n 1, 1) := by decide +kernel
theorem dX12_winsBy_15 : decode cX12_winsBy 15 = .ok (.iload_n 2, 1) := by decide +kernel
theorem dX12_winsBy_16 : decode cX12_winsBy 16 = .ok (.iastore, 1) := by decide +kernel
theorem dX12_winsBy_17 : decode cX12_winsBy 17 = .ok (.aload_n 0, 1) := by decide +kernel
theorem dX12_winsBy_18 : decode cX12_winsBy 18 = .ok (.bipush 8, 2) := by decide +kernel
theorem dX12_winsBy_20 : decode cX12_winsBy 20 = .ok (.invokevirtual 151, 3) := by decide +kernel
theorem dX12_winsBy_23 : decode cX12_winsBy 23 = .ok (.aload_n 0, 1) := by decide +kernel
theorem dX12_winsBy_24 : decode cX12_winsBy 24 = .ok (.iload_n 1, 1) := by decide +kernel
theorem dX12_winsBy_25 : decode cX12_winsBy 25 = .ok (.invokevirtual 155, 3) := by decide +kernel
theorem dX12_winsBy_28 : decode cX12_winsBy 28 = .ok (.iload_n 3, 1) := by decide +kernel
theorem dX12_winsBy_29 : decode cX12_winsBy 29 = .ok (.isub, 1) := by decide +kernel
theorem dX12_winsBy_30 : decode cX12_winsBy 30 = .ok (.ireturn, 1) := by decide +kernel
theorem dX12_best_0 : decode cX12_best 0 = .ok (.aload_n 0, 1) := by decide +kernel
theorem dX12_best_1 : decode cX12_best 1 = .ok (.iload_n 1, 1) := by decide +kernel
theorem dX12_best_2 : decode cX12_best 2 = .ok (.invokevirtual 143, 3) := by decide +kernel
theorem dX12_best_5 : decode cX12_best 5 = .ok (.ifCond .eq 13, 3) := by decide +kernel
theorem dX12_best_8 : decode cX12_best 8 = .ok (.iload_n 2, 1) := by decide +kernel
theorem dX12_best_9 : decode cX12_best 9 = .ok (.i2l, 1) := by decide +kernel
theorem dX12_best_10 : decode cX12_best 10 = .ok (.lconst 0, 1) := by decide +kernel
theorem dX12_best_11 : decode cX12_best 11 = .ok (.lconst 1, 1) := by decide +kernel
theorem dX12_best_12 : decode cX12_best 12 = .ok (.invokestatic 65, 3) := by decide +kernel
theorem dX12_best_15 : decode cX12_best 15 = .ok (.ifCond .ne 10, 3) := by decide +kernel
theorem dX12_best_18 : decode cX12_best 18 = .ok (.aload_n 0, 1) := by decide +kernel
theorem dX12_best_19 : decode cX12_best 19 = .ok (.bipush (-2), 2) := by decide +kernel
theorem dX12_best_21 : decode cX12_best 21 = .ok (.invokevirtual 82, 3) := by decide +kernel
theorem dX12_best_24 : decode cX12_best 24 = .ok (.ireturn, 1) := by decide +kernel
theorem dX12_best_25 : decode cX12_best 25 = .ok (.iconst (-1), 1) := by decide +kernel
theorem dX12_best_26 : decode cX12_best 26 = .ok (.istore_n 3, 1) := by decide +kernel
theorem dX12_best_27 : decode cX12_best 27 = .ok (.iconst 0, 1) := by decide +kernel
theorem dX12_best_28 : decode cX12_best 28 = .ok (.istore 4, 2) := by decide +kernel
theorem dX12_best_30 : decode cX12_best 30 = .ok (.aload_n 0, 1) := by decide +kernel
theorem dX12_best_31 : decode cX12_best 31 = .ok (.getfield 7, 3) := by decide +kernel
theorem dX12_best_34 : decode cX12_best 34 = .ok (.iconst 4, 1) := by decide +kernel
theorem dX12_best_35 : decode cX12_best 35 = .ok (.iaload, 1) := by decide +kernel
theorem dX12_best_36 : decode cX12_best 36 = .ok (.istore 5, 2) := by decide +kernel
theorem dX12_best_38 : decode cX12_best 38 = .ok (.iload 5, 2) := by decide +kernel
theorem dX12_best_40 : decode cX12_best 40 = .ok (.bipush 8, 2) := by decide +kernel
theorem dX12_best_42 : decode cX12_best 42 = .ok (.if_icmp .ge 48, 3) := by decide +kernel
theorem dX12_best_45 : decode cX12_best 45 = .ok (.aload_n 0, 1) := by decide +kernel
theorem dX12_best_46 : decode cX12_best 46 = .ok (.iload_n 1, 1) := by decide +kernel
theorem dX12_best_47 : decode cX12_best 47 = .ok (.iload 5, 2) := by decide +kernel
theorem dX12_best_49 : decode cX12_best 49 = .ok (.invokevirtual 158, 3) := by decide +kernel
theorem dX12_best_52 : decode cX12_best 52 = .ok (.istore 6, 2) := by decide +kernel
theorem dX12_best_54 : decode cX12_best 54 = .ok (.iload 6, 2) := by decide +kernel
theorem dX12_best_56 : decode cX12_best 56 = .ok (.iload 4, 2) := by decide +kernel
theorem dX12_best_58 : decode cX12_best 58 = .ok (.if_icmp .le 8, 3) := by decide +kernel
theorem dX12_best_61 : decode cX12_best 61 = .ok (.iload 5, 2) := by decide +kernel
theorem dX12_best_63 : decode cX12_best 63 = .ok (.goto 4, 3) := by decide +kernel
theorem dX12_best_66 : decode cX12_best 66 = .ok (.iload_n 3, 1) := by decide +kernel
theorem dX12_best_67 : decode cX12_best 67 = .ok (.istore_n 3, 1) := by decide +kernel
theorem dX12_best_68 : decode cX12_best 68 = .ok (.iload 6, 2) := by decide +kernel
theorem dX12_best_70 : decode cX12_best 70 = .ok (.iload 4, 2) := by decide +kernel
theorem dX12_best_72 : decode cX12_best 72 = .ok (.if_icmp .le 8, 3) := by decide +kernel
theorem dX12_best_75 : decode cX12_best 75 = .ok (.iload 6, 2) := by decide +kernel
theorem dX12_best_77 : decode cX12_best 77 = .ok (.goto 5, 3) := by decide +kernel
theorem dX12_best_80 : decode cX12_best 80 = .ok (.iload 4, 2) := by decide +kernel
theorem dX12_best_82 : decode cX12_best 82 = .ok (.istore 4, 2) := by decide +kernel
theorem dX12_best_84 : decode cX12_best 84 = .ok (.iinc 5 1, 3) := by decide +kernel
theorem dX12_best_87 : decode cX12_best 87 = .ok (.goto (-49), 3) := by decide +kernel
theorem dX12_best_90 : decode cX12_best 90 = .ok (.iload_n 2, 1) := by decide +kernel
theorem dX12_best_91 : decode cX12_best 91 = .ok (.ifCond .eq 8, 3) := by decide +kernel
theorem dX12_best_94 : decode cX12_best 94 = .ok (.iload_n 3, 1) := by decide +kernel
theorem dX12_best_95 : decode cX12_best 95 = .ok (.iconst (-1), 1) := by decide +kernel
theorem dX12_best_96 : decode cX12_best 96 = .ok (.if_icmp .ne 7, 3) := by decide +kernel
theorem dX12_best_99 : decode cX12_best 99 = .ok (.iload_n 3, 1) := by decide +kernel
theorem dX12_best_100 : decode cX12_best 100 = .ok (.goto 5, 3) := by decide +kernel
theorem dX12_best_103 : decode cX12_best 103 = .ok (.iload 4, 2) := by decide +kernel
theorem dX12_best_105 : decode cX12_best 105 = .ok (.ireturn, 1) := by decide +kernel
theorem dX12_rests_0 : decode cX12_rests 0 = .ok (.iconst 1, 1) := by decide +kernel
theorem dX12_rests_1 : decode cX12_rests 1 = .ok (.istore_n 3, 1) := by decide +kernel
theorem dX12_rests_2 : decode cX12_rests 2 = .ok (.aload_n 0, 1) := by decide +kernel
theorem dX12_rests_3 : decode cX12_rests 3 = .ok (.getfield 7, 3) := by decide +kernel
theorem dX12_rests_6 : decode cX12_rests 6 = .ok (.iconst 4, 1) := by decide +kernel
theorem dX12_rests_7 : decode cX12_rests 7 = .ok (.iaload, 1) := by decide +kernel
theorem dX12_rests_8 : decode cX12_rests 8 = .ok (.istore 4, 2) := by decide +kernel
theorem dX12_rests_10 : decode cX12_rests 10 = .ok (.iload 4, 2) := by decide +kernel
theorem dX12_rests_12 : decode cX12_rests 12 = .ok (.bipush 8, 2) := by decide +kernel
theorem dX12_rests_14 : decode cX12_rests 14 = .ok (.if_icmp .ge 71, 3) := by decide +kernel
theorem dX12_rests_17 : decode cX12_rests 17 = .ok (.iload_n 3, 1) := by decide +kernel
theorem dX12_rests_18 : decode cX12_rests 18 = .ok (.ifCond .eq 59, 3) := by decide +kernel
theorem dX12_rests_21 : decode cX12_rests 21 = .ok (.aload_n 0, 1) := by decide +kernel
theorem dX12_rests_22 : decode cX12_rests 22 = .ok (.getfield 42, 3) := by decide +kernel
theorem dX12_rests_25 : decode cX12_rests 25 = .ok (.bipush 8, 2) := by decide +kernel
theorem dX12_rests_27 : decode cX12_rests 27 = .ok (.iload 4, 2) := by decide +kernel
theorem dX12_rests_29 : decode cX12_rests 29 = .ok (.imul, 1) := by decide +kernel
theorem dX12_rests_30 : decode cX12_rests 30 = .ok (.iload_n 2, 1) := by decide +kernel
theorem dX12_rests_31 : decode cX12_rests 31 = .ok (.iadd, 1) := by decide +kernel
theorem dX12_rests_32 : decode cX12_rests 32 = .ok (.iaload, 1) := by decide +kernel
theorem dX12_rests_33 : decode cX12_rests 33 = .ok (.aload_n 0, 1) := by decide +kernel
theorem dX12_rests_34 : decode cX12_rests 34 = .ok (.getfield 42, 3) := by decide +kernel
theorem dX12_rests_37 : decode cX12_rests 37 = .ok (.bipush 8, 2) := by decide +kernel
theorem dX12_rests_39 : decode cX12_rests 39 = .ok (.iload_n 1, 1) := by decide +kernel
theorem dX12_rests_40 : decode cX12_rests 40 = .ok (.imul, 1) := by decide +kernel
theorem dX12_rests_41 : decode cX12_rests 41 = .ok (.iload_n 2, 1) := by decide +kernel
theorem dX12_rests_42 : decode cX12_rests 42 = .ok (.iadd, 1) := by decide +kernel
theorem dX12_rests_43 : decode cX12_rests 43 = .ok (.iaload, 1) := by decide +kernel
theorem dX12_rests_44 : decode cX12_rests 44 = .ok (.if_icmp .gt 33, 3) := by decide +kernel
theorem dX12_rests_47 : decode cX12_rests 47 = .ok (.aload_n 0, 1) := by decide +kernel
theorem dX12_rests_48 : decode cX12_rests 48 = .ok (.getfield 45, 3) := by decide +kernel
theorem dX12_rests_51 : decode cX12_rests 51 = .ok (.bipush 8, 2) := by decide +kernel
theorem dX12_rests_53 : decode cX12_rests 53 = .ok (.iload_n 1, 1) := by decide +kernel
theorem dX12_rests_54 : decode cX12_rests 54 = .ok (.imul, 1) := by decide +kernel
theorem dX12_rests_55 : decode cX12_rests 55 = .ok (.iload 4, 2) := by decide +kernel
theorem dX12_rests_57 : decode cX12_rests 57 = .ok (.iadd, 1) := by decide +kernel
theorem dX12_rests_58 : decode cX12_rests 58 = .ok (.iaload, 1) := by decide +kernel
theorem dX12_rests_59 : decode cX12_rests 59 = .ok (.aload_n 0, 1) := by decide +kernel
theorem dX12_rests_60 : decode cX12_rests 60 = .ok (.getfield 45, 3) := by decide +kernel
theorem dX12_rests_63 : decode cX12_rests 63 = .ok (.bipush 8, 2) := by decide +kernel
theorem dX12_rests_65 : decode cX12_rests 65 = .ok (.iload_n 1, 1) := by decide +kernel
theorem dX12_rests_66 : decode cX12_rests 66 = .ok (.imul, 1) := by decide +kernel
theorem dX12_rests_67 : decode cX12_rests 67 = .ok (.iload_n 2, 1) := by decide +kernel
theorem dX12_rests_68 : decode cX12_rests 68 = .ok (.iadd, 1) := by decide +kernel
theorem dX12_rests_69 : decode cX12_rests 69 = .ok (.iaload, 1) := by decide +kernel
theorem dX12_rests_70 : decode cX12_rests 70 = .ok (.if_icmp .gt 7, 3) := by decide +kernel
theorem dX12_rests_73 : decode cX12_rests 73 = .ok (.iconst 1, 1) := by decide +kernel
theorem dX12_rests_74 : decode cX12_rests 74 = .ok (.goto 4, 3) := by decide +kernel
theorem dX12_rests_77 : decode cX12_rests 77 = .ok (.iconst 0, 1) := by decide +kernel
theorem dX12_rests_78 : decode cX12_rests 78 = .ok (.istore_n 3, 1) := by decide +kernel
theorem dX12_rests_79 : decode cX12_rests 79 = .ok (.iinc 4 1, 3) := by decide +kernel
theorem dX12_rests_82 : decode cX12_rests 82 = .ok (.goto (-72), 3) := by decide +kernel
theorem dX12_rests_85 : decode cX12_rests 85 = .ok (.iload_n 3, 1) := by decide +kernel
theorem dX12_rests_86 : decode cX12_rests 86 = .ok (.ireturn, 1) := by decide +kernel
theorem dX12_rivals_0 : decode cX12_rivals 0 = .ok (.aload_n 0, 1) := by decide +kernel
theorem dX12_rivals_1 : decode cX12_rivals 1 = .ok (.iload_n 1, 1) := by decide +kernel
theorem dX12_rivals_2 : decode cX12_rivals 2 = .ok (.invokevirtual 143, 3) := by decide +kernel
theorem dX12_rivals_5 : decode cX12_rivals 5 = .ok (.ifCond .eq 21, 3) := by decide +kernel
theorem dX12_rivals_8 : decode cX12_rivals 8 = .ok (.aload_n 0, 1) := by decide +kernel
theorem dX12_rivals_9 : decode cX12_rivals 9 = .ok (.iload_n 2, 1) := by decide +kernel
theorem dX12_rivals_10 : decode cX12_rivals 10 = .ok (.invokevirtual 143, 3) := by decide +kernel
theorem dX12_rivals_13 : decode cX12_rivals 13 = .ok (.ifCond .eq 13, 3) := by decide +kernel
theorem dX12_rivals_16 : decode cX12_rivals 16 = .ok (.iload_n 1, 1) := by decide +kernel
theorem dX12_rivals_17 : decode cX12_rivals 17 = .ok (.iload_n 2, 1) := by decide +kernel
theorem dX12_rivals_18 : decode cX12_rivals 18 = .ok (.if_icmp .eq 8, 3) := by decide +kernel
theorem dX12_rivals_21 : decode cX12_rivals 21 = .ok (.iload_n 3, 1) := by decide +kernel
theorem dX12_rivals_22 : decode cX12_rivals 22 = .ok (.iconst (-1), 1) := by decide +kernel
theorem dX12_rivals_23 : decode cX12_rivals 23 = .ok (.if_icmp .ge 10, 3) := by decide +kernel
theorem dX12_rivals_26 : decode cX12_rivals 26 = .ok (.aload_n 0, 1) := by decide +kernel
theorem dX12_rivals_27 : decode cX12_rivals 27 = .ok (.bipush (-10), 2) := by decide +kernel
theorem dX12_rivals_29 : decode cX12_rivals 29 = .ok (.invokevirtual 82, 3) := by decide +kernel
theorem dX12_rivals_32 : decode cX12_rivals 32 = .ok (.ireturn, 1) := by decide +kernel
theorem dX12_rivals_33 : decode cX12_rivals 33 = .ok (.aload_n 0, 1) := by decide +kernel
theorem dX12_rivals_34 : decode cX12_rivals 34 = .ok (.getfield 7, 3) := by decide +kernel
theorem dX12_rivals_37 : decode cX12_rivals 37 = .ok (.iconst 4, 1) := by decide +kernel
theorem dX12_rivals_38 : decode cX12_rivals 38 = .ok (.iaload, 1) := by decide +kernel
theorem dX12_rivals_39 : decode cX12_rivals 39 = .ok (.istore 4, 2) := by decide +kernel
theorem dX12_rivals_41 : decode cX12_rivals 41 = .ok (.iload 4, 2) := by decide +kernel
theorem dX12_rivals_43 : decode cX12_rivals 43 = .ok (.bipush 8, 2) := by decide +kernel
theorem dX12_rivals_45 : decode cX12_rivals 45 = .ok (.if_icmp .ge 136, 3) := by decide +kernel
theorem dX12_rivals_48 : decode cX12_rivals 48 = .ok (.aload_n 0, 1) := by decide +kernel
theorem dX12_rivals_49 : decode cX12_rivals 49 = .ok (.getfield 7, 3) := by decide +kernel
theorem dX12_rivals_52 : decode cX12_rivals 52 = .ok (.iconst 4, 1) := by decide +kernel
theorem dX12_rivals_53 : decode cX12_rivals 53 = .ok (.iaload, 1) := by decide +kernel
theorem dX12_rivals_54 : decode cX12_rivals 54 = .ok (.istore 5, 2) := by decide +kernel
theorem dX12_rivals_56 : decode cX12_rivals 56 = .ok (.iload 5, 2) := by decide +kernel
theorem dX12_rivals_58 : decode cX12_rivals 58 = .ok (.bipush 8, 2) := by decide +kernel
theorem dX12_rivals_60 : decode cX12_rivals 60 = .ok (.if_icmp .ge 115, 3) := by decide +kernel
theorem dX12_rivals_63 : decode cX12_rivals 63 = .ok (.aload_n 0, 1) := by decide +kernel
theorem dX12_rivals_64 : decode cX12_rivals 64 = .ok (.invokevirtual 140, 3) := by decide +kernel
theorem dX12_rivals_67 : decode cX12_rivals 67 = .ok (.aload_n 0, 1) := by decide +kernel
theorem dX12_rivals_68 : decode cX12_rivals 68 = .ok (.getfield 42, 3) := by decide +kernel
theorem dX12_rivals_71 : decode cX12_rivals 71 = .ok (.bipush 8, 2) := by decide +kernel
theorem dX12_rivals_73 : decode cX12_rivals 73 = .ok (.iload 4, 2) := by decide +kernel
theorem dX12_rivals_75 : decode cX12_rivals 75 = .ok (.imul, 1) := by decide +kernel
theorem dX12_rivals_76 : decode cX12_rivals 76 = .ok (.iload 5, 2) := by decide +kernel
theorem dX12_rivals_78 : decode cX12_rivals 78 = .ok (.iadd, 1) := by decide +kernel
theorem dX12_rivals_79 : decode cX12_rivals 79 = .ok (.aload_n 0, 1) := by decide +kernel
theorem dX12_rivals_80 : decode cX12_rivals 80 = .ok (.iload_n 1, 1) := by decide +kernel
theorem dX12_rivals_81 : decode cX12_rivals 81 = .ok (.invokevirtual 155, 3) := by decide +kernel
theorem dX12_rivals_84 : decode cX12_rivals 84 = .ok (.ineg, 1) := by decide +kernel
theorem dX12_rivals_85 : decode cX12_rivals 85 = .ok (.iastore, 1) := by decide +kernel
theorem dX12_rivals_86 : decode cX12_rivals 86 = .ok (.aload_n 0, 1) := by decide +kernel
theorem dX12_rivals_87 : decode cX12_rivals 87 = .ok (.getfield 45, 3) := by decide +kernel
theorem dX12_rivals_90 : decode cX12_rivals 90 = .ok (.bipush 8, 2) := by decide +kernel
theorem dX12_rivals_92 : decode cX12_rivals 92 = .ok (.iload 4, 2) := by decide +kernel
theorem dX12_rivals_94 : decode cX12_rivals 94 = .ok (.imul, 1) := by decide +kernel
theorem dX12_rivals_95 : decode cX12_rivals 95 = .ok (.iload 5, 2) := by decide +kernel
theorem dX12_rivals_97 : decode cX12_rivals 97 = .ok (.iadd, 1) := by decide +kernel
theorem dX12_rivals_98 : decode cX12_rivals 98 = .ok (.aload_n 0, 1) := by decide +kernel
theorem dX12_rivals_99 : decode cX12_rivals 99 = .ok (.iload_n 2, 1) := by decide +kernel
theorem dX12_rivals_100 : decode cX12_rivals 100 = .ok (.invokevirtual 155, 3) := by decide +kernel
theorem dX12_rivals_103 : decode cX12_rivals 103 = .ok (.ineg, 1) := by decide +kernel
theorem dX12_rivals_104 : decode cX12_rivals 104 = .ok (.iastore, 1) := by decide +kernel
theorem dX12_rivals_105 : decode cX12_rivals 105 = .ok (.aload_n 0, 1) := by decide +kernel
theorem dX12_rivals_106 : decode cX12_rivals 106 = .ok (.getfield 39, 3) := by decide +kernel
theorem dX12_rivals_109 : decode cX12_rivals 109 = .ok (.iload_n 1, 1) := by decide +kernel
theorem dX12_rivals_110 : decode cX12_rivals 110 = .ok (.iload 4, 2) := by decide +kernel
theorem dX12_rivals_112 : decode cX12_rivals 112 = .ok (.iastore, 1) := by decide +kernel
theorem dX12_rivals_113 : decode cX12_rivals 113 = .ok (.aload_n 0, 1) := by decide +kernel
theorem dX12_rivals_114 : decode cX12_rivals 114 = .ok (.getfield 39, 3) := by decide +kernel
theorem dX12_rivals_117 : decode cX12_rivals 117 = .ok (.iload_n 2, 1) := by decide +kernel
theorem dX12_rivals_118 : decode cX12_rivals 118 = .ok (.iload 5, 2) := by decide +kernel
theorem dX12_rivals_120 : decode cX12_rivals 120 = .ok (.iastore, 1) := by decide +kernel
theorem dX12_rivals_121 : decode cX12_rivals 121 = .ok (.aload_n 0, 1) := by decide +kernel
theorem dX12_rivals_122 : decode cX12_rivals 122 = .ok (.bipush 8, 2) := by decide +kernel
theorem dX12_rivals_124 : decode cX12_rivals 124 = .ok (.invokevirtual 151, 3) := by decide +kernel
theorem dX12_rivals_127 : decode cX12_rivals 127 = .ok (.aload_n 0, 1) := by decide +kernel
theorem dX12_rivals_128 : decode cX12_rivals 128 = .ok (.getfield 42, 3) := by decide +kernel
theorem dX12_rivals_131 : decode cX12_rivals 131 = .ok (.bipush 8, 2) := by decide +kernel
theorem dX12_rivals_133 : decode cX12_rivals 133 = .ok (.iload 4, 2) := by decide +kernel
theorem dX12_rivals_135 : decode cX12_rivals 135 = .ok (.imul, 1) := by decide +kernel
theorem dX12_rivals_136 : decode cX12_rivals 136 = .ok (.iload 5, 2) := by decide +kernel
theorem dX12_rivals_138 : decode cX12_rivals 138 = .ok (.iadd, 1) := by decide +kernel
theorem dX12_rivals_139 : decode cX12_rivals 139 = .ok (.dup2, 1) := by decide +kernel
theorem dX12_rivals_140 : decode cX12_rivals 140 = .ok (.iaload, 1) := by decide +kernel
theorem dX12_rivals_141 : decode cX12_rivals 141 = .ok (.aload_n 0, 1) := by decide +kernel
theorem dX12_rivals_142 : decode cX12_rivals 142 = .ok (.iload_n 1, 1) := by decide +kernel
theorem dX12_rivals_143 : decode cX12_rivals 143 = .ok (.invokevirtual 155, 3) := by decide +kernel
theorem dX12_rivals_146 : decode cX12_rivals 146 = .ok (.iadd, 1) := by decide +kernel
theorem dX12_rivals_147 : decode cX12_rivals 147 = .ok (.iastore, 1) := by decide +kernel
theorem dX12_rivals_148 : decode cX12_rivals 148 = .ok (.aload_n 0, 1) := by decide +kernel
theorem dX12_rivals_149 : decode cX12_rivals 149 = .ok (.getfield 45, 3) := by decide +kernel
theorem dX12_rivals_152 : decode cX12_rivals 152 = .ok (.bipush 8, 2) := by decide +kernel
theorem dX12_rivals_154 : decode cX12_rivals 154 = .ok (.iload 4, 2) := by decide +kernel
theorem dX12_rivals_156 : decode cX12_rivals 156 = .ok (.imul, 1) := by decide +kernel
theorem dX12_rivals_157 : decode cX12_rivals 157 = .ok (.iload 5, 2) := by decide +kernel
theorem dX12_rivals_159 : decode cX12_rivals 159 = .ok (.iadd, 1) := by decide +kernel
theorem dX12_rivals_160 : decode cX12_rivals 160 = .ok (.dup2, 1) := by decide +kernel
theorem dX12_rivals_161 : decode cX12_rivals 161 = .ok (.iaload, 1) := by decide +kernel
theorem dX12_rivals_162 : decode cX12_rivals 162 = .ok (.aload_n 0, 1) := by decide +kernel
theorem dX12_rivals_163 : decode cX12_rivals 163 = .ok (.iload_n 2, 1) := by decide +kernel
theorem dX12_rivals_164 : decode cX12_rivals 164 = .ok (.invokevirtual 155, 3) := by decide +kernel
theorem dX12_rivals_167 : decode cX12_rivals 167 = .ok (.iadd, 1) := by decide +kernel
theorem dX12_rivals_168 : decode cX12_rivals 168 = .ok (.iastore, 1) := by decide +kernel
theorem dX12_rivals_169 : decode cX12_rivals 169 = .ok (.iinc 5 1, 3) := by decide +kernel
theorem dX12_rivals_172 : decode cX12_rivals 172 = .ok (.goto (-116), 3) := by decide +kernel
theorem dX12_rivals_175 : decode cX12_rivals 175 = .ok (.iinc 4 1, 3) := by decide +kernel
theorem dX12_rivals_178 : decode cX12_rivals 178 = .ok (.goto (-137), 3) := by decide +kernel
theorem dX12_rivals_181 : decode cX12_rivals 181 = .ok (.iconst 0, 1) := by decide +kernel
theorem dX12_rivals_182 : decode cX12_rivals 182 = .ok (.istore 4, 2) := by decide +kernel
theorem dX12_rivals_184 : decode cX12_rivals 184 = .ok (.bipush (-5), 2) := by decide +kernel
theorem dX12_rivals_186 : decode cX12_rivals 186 = .ok (.istore 5, 2) := by decide +kernel
theorem dX12_rivals_188 : decode cX12_rivals 188 = .ok (.aload_n 0, 1) := by decide +kernel
theorem dX12_rivals_189 : decode cX12_rivals 189 = .ok (.getfield 7, 3) := by decide +kernel
theorem dX12_rivals_192 : decode cX12_rivals 192 = .ok (.iconst 4, 1) := by decide +kernel
theorem dX12_rivals_193 : decode cX12_rivals 193 = .ok (.iaload, 1) := by decide +kernel
theorem dX12_rivals_194 : decode cX12_rivals 194 = .ok (.istore 6, 2) := by decide +kernel
theorem dX12_rivals_196 : decode cX12_rivals 196 = .ok (.iload 6, 2) := by decide +kernel
theorem dX12_rivals_198 : decode cX12_rivals 198 = .ok (.bipush 8, 2) := by decide +kernel
theorem dX12_rivals_200 : decode cX12_rivals 200 = .ok (.if_icmp .ge 65, 3) := by decide +kernel
theorem dX12_rivals_203 : decode cX12_rivals 203 = .ok (.aload_n 0, 1) := by decide +kernel
theorem dX12_rivals_204 : decode cX12_rivals 204 = .ok (.getfield 7, 3) := by decide +kernel
theorem dX12_rivals_207 : decode cX12_rivals 207 = .ok (.iconst 4, 1) := by decide +kernel
theorem dX12_rivals_208 : decode cX12_rivals 208 = .ok (.iaload, 1) := by decide +kernel
theorem dX12_rivals_209 : decode cX12_rivals 209 = .ok (.istore 7, 2) := by decide +kernel
theorem dX12_rivals_211 : decode cX12_rivals 211 = .ok (.iload 7, 2) := by decide +kernel
theorem dX12_rivals_213 : decode cX12_rivals 213 = .ok (.bipush 8, 2) := by decide +kernel
theorem dX12_rivals_215 : decode cX12_rivals 215 = .ok (.if_icmp .ge 44, 3) := by decide +kernel
theorem dX12_rivals_218 : decode cX12_rivals 218 = .ok (.aload_n 0, 1) := by decide +kernel
theorem dX12_rivals_219 : decode cX12_rivals 219 = .ok (.iload 6, 2) := by decide +kernel
theorem dX12_rivals_221 : decode cX12_rivals 221 = .ok (.iload 7, 2) := by decide +kernel
theorem dX12_rivals_223 : decode cX12_rivals 223 = .ok (.invokevirtual 161, 3) := by decide +kernel
theorem dX12_rivals_226 : decode cX12_rivals 226 = .ok (.ifCond .eq 27, 3) := by decide +kernel
theorem dX12_rivals_229 : decode cX12_rivals 229 = .ok (.iload 4, 2) := by decide +kernel
theorem dX12_rivals_231 : decode cX12_rivals 231 = .ok (.iload_n 3, 1) := by decide +kernel
theorem dX12_rivals_232 : decode cX12_rivals 232 = .ok (.if_icmp .ne 14, 3) := by decide +kernel
theorem dX12_rivals_235 : decode cX12_rivals 235 = .ok (.bipush 8, 2) := by decide +kernel
theorem dX12_rivals_237 : decode cX12_rivals 237 = .ok (.iload 6, 2) := by decide +kernel
theorem dX12_rivals_239 : decode cX12_rivals 239 = .ok (.imul, 1) := by decide +kernel
theorem dX12_rivals_240 : decode cX12_rivals 240 = .ok (.iload 7, 2) := by decide +kernel
theorem dX12_rivals_242 : decode cX12_rivals 242 = .ok (.iadd, 1) := by decide +kernel
theorem dX12_rivals_243 : decode cX12_rivals 243 = .ok (.goto 5, 3) := by decide +kernel
theorem dX12_rivals_246 : decode cX12_rivals 246 = .ok (.iload 5, 2) := by decide +kernel
theorem dX12_rivals_248 : decode cX12_rivals 248 = .ok (.istore 5, 2) := by decide +kernel
theorem dX12_rivals_250 : decode cX12_rivals 250 = .ok (.iinc 4 1, 3) := by decide +kernel
theorem dX12_rivals_253 : decode cX12_rivals 253 = .ok (.iinc 7 1, 3) := by decide +kernel
theorem dX12_rivals_256 : decode cX12_rivals 256 = .ok (.goto (-45), 3) := by decide +kernel
theorem dX12_rivals_259 : decode cX12_rivals 259 = .ok (.iinc 6 1, 3) := by decide +kernel
theorem dX12_rivals_262 : decode cX12_rivals 262 = .ok (.goto (-66), 3) := by decide +kernel
theorem dX12_rivals_265 : decode cX12_rivals 265 = .ok (.iload_n 3, 1) := by decide +kernel
theorem dX12_rivals_266 : decode cX12_rivals 266 = .ok (.iconst (-1), 1) := by decide +kernel
theorem dX12_rivals_267 : decode cX12_rivals 267 = .ok (.if_icmp .ne 8, 3) := by decide +kernel
theorem dX12_rivals_270 : decode cX12_rivals 270 = .ok (.iload 4, 2) := by decide +kernel
theorem dX12_rivals_272 : decode cX12_rivals 272 = .ok (.goto 5, 3) := by decide +kernel
theorem dX12_rivals_275 : decode cX12_rivals 275 = .ok (.iload 5, 2) := by decide +kernel
theorem dX12_rivals_277 : decode cX12_rivals 277 = .ok (.ireturn, 1) := by decide +kernel
theorem dX12_handicap_0 : decode cX12_handicap 0 = .ok (.aload_n 0, 1) := by decide +kernel
theorem dX12_handicap_1 : decode cX12_handicap 1 = .ok (.iload_n 1, 1) := by decide +kernel
theorem dX12_handicap_2 : decode cX12_handicap 2 = .ok (.invokevirtual 143, 3) := by decide +kernel
theorem dX12_handicap_5 : decode cX12_handicap 5 = .ok (.ifCond .ne 10, 3) := by decide +kernel
theorem dX12_handicap_8 : decode cX12_handicap 8 = .ok (.aload_n 0, 1) := by decide +kernel
theorem dX12_handicap_9 : decode cX12_handicap 9 = .ok (.bipush (-2), 2) := by decide +kernel
theorem dX12_handicap_11 : decode cX12_handicap 11 = .ok (.invokevirtual 82, 3) := by decide +kernel
theorem dX12_handicap_14 : decode cX12_handicap 14 = .ok (.ireturn, 1) := by decide +kernel
theorem dX12_handicap_15 : decode cX12_handicap 15 = .ok (.aload_n 0, 1) := by decide +kernel
theorem dX12_handicap_16 : decode cX12_handicap 16 = .ok (.getfield 7, 3) := by decide +kernel
theorem dX12_handicap_19 : decode cX12_handicap 19 = .ok (.iconst 4, 1) := by decide +kernel
theorem dX12_handicap_20 : decode cX12_handicap 20 = .ok (.iaload, 1) := by decide +kernel
theorem dX12_handicap_21 : decode cX12_handicap 21 = .ok (.istore_n 2, 1) := by decide +kernel
theorem dX12_handicap_22 : decode cX12_handicap 22 = .ok (.aload_n 0, 1) := by decide +kernel
theorem dX12_handicap_23 : decode cX12_handicap 23 = .ok (.invokevirtual 140, 3) := by decide +kernel
theorem dX12_handicap_26 : decode cX12_handicap 26 = .ok (.iload_n 2, 1) := by decide +kernel
theorem dX12_handicap_27 : decode cX12_handicap 27 = .ok (.bipush 8, 2) := by decide +kernel
theorem dX12_handicap_29 : decode cX12_handicap 29 = .ok (.if_icmp .eq 36, 3) := by decide +kernel
theorem dX12_handicap_32 : decode cX12_handicap 32 = .ok (.aload_n 0, 1) := by decide +kernel
theorem dX12_handicap_33 : decode cX12_handicap 33 = .ok (.getfield 33, 3) := by decide +kernel
theorem dX12_handicap_36 : decode cX12_handicap 36 = .ok (.iload_n 2, 1) := by decide +kernel
theorem dX12_handicap_37 : decode cX12_handicap 37 = .ok (.iaload, 1) := by decide +kernel
theorem dX12_handicap_38 : decode cX12_handicap 38 = .ok (.iconst (-1), 1) := by decide +kernel
theorem dX12_handicap_39 : decode cX12_handicap 39 = .ok (.if_icmp .eq 26, 3) := by decide +kernel
theorem dX12_handicap_42 : decode cX12_handicap 42 = .ok (.aload_n 0, 1) := by decide +kernel
theorem dX12_handicap_43 : decode cX12_handicap 43 = .ok (.iload_n 1, 1) := by decide +kernel
theorem dX12_handicap_44 : decode cX12_handicap 44 = .ok (.invokevirtual 112, 3) := by decide +kernel
theorem dX12_handicap_47 : decode cX12_handicap 47 = .ok (.ifCond .ne 18, 3) := by decide +kernel
theorem dX12_handicap_50 : decode cX12_handicap 50 = .ok (.aload_n 0, 1) := by decide +kernel
theorem dX12_handicap_51 : decode cX12_handicap 51 = .ok (.iload_n 1, 1) := by decide +kernel
theorem dX12_handicap_52 : decode cX12_handicap 52 = .ok (.aload_n 0, 1) := by decide +kernel
theorem dX12_handicap_53 : decode cX12_handicap 53 = .ok (.getfield 33, 3) := by decide +kernel
theorem dX12_handicap_56 : decode cX12_handicap 56 = .ok (.iload_n 2, 1) := by decide +kernel
theorem dX12_handicap_57 : decode cX12_handicap 57 = .ok (.iaload, 1) := by decide +kernel
theorem dX12_handicap_58 : decode cX12_handicap 58 = .ok (.iload_n 2, 1) := by decide +kernel
theorem dX12_handicap_59 : decode cX12_handicap 59 = .ok (.invokevirtual 118, 3) := by decide +kernel
theorem dX12_handicap_62 : decode cX12_handicap 62 = .ok (.ifCond .ne 5, 3) := by decide +kernel
theorem dX12_handicap_65 : decode cX12_handicap 65 = .ok (.iconst (-1), 1) := by decide +kernel
theorem dX12_handicap_66 : decode cX12_handicap 66 = .ok (.ireturn, 1) := by decide +kernel
theorem dX12_handicap_67 : decode cX12_handicap 67 = .ok (.aload_n 0, 1) := by decide +kernel
theorem dX12_handicap_68 : decode cX12_handicap 68 = .ok (.iload_n 1, 1) := by decide +kernel
theorem dX12_handicap_69 : decode cX12_handicap 69 = .ok (.aload_n 0, 1) := by decide +kernel
theorem dX12_handicap_70 : decode cX12_handicap 70 = .ok (.getfield 33, 3) := by decide +kernel
theorem dX12_handicap_73 : decode cX12_handicap 73 = .ok (.iload_n 2, 1) := by decide +kernel
theorem dX12_handicap_74 : decode cX12_handicap 74 = .ok (.iaload, 1) := by decide +kernel
theorem dX12_handicap_75 : decode cX12_handicap 75 = .ok (.iload_n 2, 1) := by decide +kernel
theorem dX12_handicap_76 : decode cX12_handicap 76 = .ok (.invokevirtual 118, 3) := by decide +kernel
theorem dX12_handicap_79 : decode cX12_handicap 79 = .ok (.istore_n 3, 1) := by decide +kernel
theorem dX12_handicap_80 : decode cX12_handicap 80 = .ok (.iconst 0, 1) := by decide +kernel
theorem dX12_handicap_81 : decode cX12_handicap 81 = .ok (.istore 4, 2) := by decide +kernel
theorem dX12_handicap_83 : decode cX12_handicap 83 = .ok (.iconst 0, 1) := by decide +kernel
theorem dX12_handicap_84 : decode cX12_handicap 84 = .ok (.istore 5, 2) := by decide +kernel
theorem dX12_handicap_86 : decode cX12_handicap 86 = .ok (.iload 5, 2) := by decide +kernel
theorem dX12_handicap_88 : decode cX12_handicap 88 = .ok (.aload_n 0, 1) := by decide +kernel
theorem dX12_handicap_89 : decode cX12_handicap 89 = .ok (.invokevirtual 61, 3) := by decide +kernel
theorem dX12_handicap_92 : decode cX12_handicap 92 = .ok (.if_icmp .ge 80, 3) := by decide +kernel
theorem dX12_handicap_95 : decode cX12_handicap 95 = .ok (.iload 5, 2) := by decide +kernel
theorem dX12_handicap_97 : decode cX12_handicap 97 = .ok (.iload_n 1, 1) := by decide +kernel
theorem dX12_handicap_98 : decode cX12_handicap 98 = .ok (.if_icmp .ge 9, 3) := by decide +kernel
theorem dX12_handicap_101 : decode cX12_handicap 101 = .ok (.iload_n 3, 1) := by decide +kernel
theorem dX12_handicap_102 : decode cX12_handicap 102 = .ok (.iconst 1, 1) := by decide +kernel
theorem dX12_handicap_103 : decode cX12_handicap 103 = .ok (.isub, 1) := by decide +kernel
theorem dX12_handicap_104 : decode cX12_handicap 104 = .ok (.goto 4, 3) := by decide +kernel
theorem dX12_handicap_107 : decode cX12_handicap 107 = .ok (.iload_n 3, 1) := by decide +kernel
theorem dX12_handicap_108 : decode cX12_handicap 108 = .ok (.istore 6, 2) := by decide +kernel
theorem dX12_handicap_110 : decode cX12_handicap 110 = .ok (.iload 5, 2) := by decide +kernel
theorem dX12_handicap_112 : decode cX12_handicap 112 = .ok (.iload_n 1, 1) := by decide +kernel
theorem dX12_handicap_113 : decode cX12_handicap 113 = .ok (.if_icmp .eq 29, 3) := by decide +kernel
theorem dX12_handicap_116 : decode cX12_handicap 116 = .ok (.aload_n 0, 1) := by decide +kernel
theorem dX12_handicap_117 : decode cX12_handicap 117 = .ok (.iload 5, 2) := by decide +kernel
theorem dX12_handicap_119 : decode cX12_handicap 119 = .ok (.iload_n 2, 1) := by decide +kernel
theorem dX12_handicap_120 : decode cX12_handicap 120 = .ok (.invokevirtual 121, 3) := by decide +kernel
theorem dX12_handicap_123 : decode cX12_handicap 123 = .ok (.ifCond .eq 19, 3) := by decide +kernel
theorem dX12_handicap_126 : decode cX12_handicap 126 = .ok (.aload_n 0, 1) := by decide +kernel
theorem dX12_handicap_127 : decode cX12_handicap 127 = .ok (.iload 5, 2) := by decide +kernel
theorem dX12_handicap_129 : decode cX12_handicap 129 = .ok (.aload_n 0, 1) := by decide +kernel
theorem dX12_handicap_130 : decode cX12_handicap 130 = .ok (.getfield 33, 3) := by decide +kernel
theorem dX12_handicap_133 : decode cX12_handicap 133 = .ok (.iload_n 2, 1) := by decide +kernel
theorem dX12_handicap_134 : decode cX12_handicap 134 = .ok (.iaload, 1) := by decide +kernel
theorem dX12_handicap_135 : decode cX12_handicap 135 = .ok (.iload_n 2, 1) := by decide +kernel
theorem dX12_handicap_136 : decode cX12_handicap 136 = .ok (.invokevirtual 118, 3) := by decide +kernel
theorem dX12_handicap_139 : decode cX12_handicap 139 = .ok (.goto 4, 3) := by decide +kernel
theorem dX12_handicap_142 : decode cX12_handicap 142 = .ok (.iconst 0, 1) := by decide +kernel
theorem dX12_handicap_143 : decode cX12_handicap 143 = .ok (.istore 7, 2) := by decide +kernel
theorem dX12_handicap_145 : decode cX12_handicap 145 = .ok (.iload 4, 2) := by decide +kernel
theorem dX12_handicap_147 : decode cX12_handicap 147 = .ok (.iload 7, 2) := by decide +kernel
theorem dX12_handicap_149 : decode cX12_handicap 149 = .ok (.iload 6, 2) := by decide +kernel
theorem dX12_handicap_151 : decode cX12_handicap 151 = .ok (.if_icmp .le 11, 3) := by decide +kernel
theorem dX12_handicap_154 : decode cX12_handicap 154 = .ok (.iload 7, 2) := by decide +kernel
theorem dX12_handicap_156 : decode cX12_handicap 156 = .ok (.iload 6, 2) := by decide +kernel
theorem dX12_handicap_158 : decode cX12_handicap 158 = .ok (.isub, 1) := by decide +kernel
theorem dX12_handicap_159 : decode cX12_handicap 159 = .ok (.goto 4, 3) := by decide +kernel
theorem dX12_handicap_162 : decode cX12_handicap 162 = .ok (.iconst 0, 1) := by decide +kernel
theorem dX12_handicap_163 : decode cX12_handicap 163 = .ok (.iadd, 1) := by decide +kernel
theorem dX12_handicap_164 : decode cX12_handicap 164 = .ok (.istore 4, 2) := by decide +kernel
theorem dX12_handicap_166 : decode cX12_handicap 166 = .ok (.iinc 5 1, 3) := by decide +kernel
theorem dX12_handicap_169 : decode cX12_handicap 169 = .ok (.goto (-83), 3) := by decide +kernel
theorem dX12_handicap_172 : decode cX12_handicap 172 = .ok (.iload 4, 2) := by decide +kernel
theorem dX12_handicap_174 : decode cX12_handicap 174 = .ok (.ireturn, 1) := by decide +kernel
theorem dX12_order_0 : decode cX12_order 0 = .ok (.aload_n 0, 1) := by decide +kernel
theorem dX12_order_1 : decode cX12_order 1 = .ok (.iload_n 1, 1) := by decide +kernel
theorem dX12_order_2 : decode cX12_order 2 = .ok (.invokevirtual 143, 3) := by decide +kernel
theorem dX12_order_5 : decode cX12_order 5 = .ok (.ifCond .ne 10, 3) := by decide +kernel
theorem dX12_order_8 : decode cX12_order 8 = .ok (.aload_n 0, 1) := by decide +kernel
theorem dX12_order_9 : decode cX12_order 9 = .ok (.bipush (-2), 2) := by decide +kernel
theorem dX12_order_11 : decode cX12_order 11 = .ok (.invokevirtual 82, 3) := by decide +kernel
theorem dX12_order_14 : decode cX12_order 14 = .ok (.ireturn, 1) := by decide +kernel
theorem dX12_order_15 : decode cX12_order 15 = .ok (.aload_n 0, 1) := by decide +kernel
theorem dX12_order_16 : decode cX12_order 16 = .ok (.invokevirtual 140, 3) := by decide +kernel
theorem dX12_order_19 : decode cX12_order 19 = .ok (.aload_n 0, 1) := by decide +kernel
theorem dX12_order_20 : decode cX12_order 20 = .ok (.bipush 8, 2) := by decide +kernel
theorem dX12_order_22 : decode cX12_order 22 = .ok (.invokevirtual 151, 3) := by decide +kernel
theorem dX12_order_25 : decode cX12_order 25 = .ok (.iconst (-1), 1) := by decide +kernel
theorem dX12_order_26 : decode cX12_order 26 = .ok (.istore_n 2, 1) := by decide +kernel
theorem dX12_order_27 : decode cX12_order 27 = .ok (.aload_n 0, 1) := by decide +kernel
theorem dX12_order_28 : decode cX12_order 28 = .ok (.iload_n 1, 1) := by decide +kernel
theorem dX12_order_29 : decode cX12_order 29 = .ok (.invokevirtual 155, 3) := by decide +kernel
theorem dX12_order_32 : decode cX12_order 32 = .ok (.istore_n 3, 1) := by decide +kernel
theorem dX12_order_33 : decode cX12_order 33 = .ok (.aload_n 0, 1) := by decide +kernel
theorem dX12_order_34 : decode cX12_order 34 = .ok (.getfield 7, 3) := by decide +kernel
theorem dX12_order_37 : decode cX12_order 37 = .ok (.iconst 4, 1) := by decide +kernel
theorem dX12_order_38 : decode cX12_order 38 = .ok (.iaload, 1) := by decide +kernel
theorem dX12_order_39 : decode cX12_order 39 = .ok (.istore 4, 2) := by decide +kernel
theorem dX12_order_41 : decode cX12_order 41 = .ok (.iload 4, 2) := by decide +kernel
theorem dX12_order_43 : decode cX12_order 43 = .ok (.bipush 8, 2) := by decide +kernel
theorem dX12_order_45 : decode cX12_order 45 = .ok (.if_icmp .ge 147, 3) := by decide +kernel
theorem dX12_order_48 : decode cX12_order 48 = .ok (.iload 4, 2) := by decide +kernel
theorem dX12_order_50 : decode cX12_order 50 = .ok (.iconst 1, 1) := by decide +kernel
theorem dX12_order_51 : decode cX12_order 51 = .ok (.iadd, 1) := by decide +kernel
theorem dX12_order_52 : decode cX12_order 52 = .ok (.istore 5, 2) := by decide +kernel
theorem dX12_order_54 : decode cX12_order 54 = .ok (.iload 5, 2) := by decide +kernel
theorem dX12_order_56 : decode cX12_order 56 = .ok (.bipush 8, 2) := by decide +kernel
theorem dX12_order_58 : decode cX12_order 58 = .ok (.if_icmp .ge 128, 3) := by decide +kernel
theorem dX12_order_61 : decode cX12_order 61 = .ok (.aload_n 0, 1) := by decide +kernel
theorem dX12_order_62 : decode cX12_order 62 = .ok (.invokevirtual 140, 3) := by decide +kernel
theorem dX12_order_65 : decode cX12_order 65 = .ok (.aload_n 0, 1) := by decide +kernel
theorem dX12_order_66 : decode cX12_order 66 = .ok (.getfield 33, 3) := by decide +kernel
theorem dX12_order_69 : decode cX12_order 69 = .ok (.iload 4, 2) := by decide +kernel
theorem dX12_order_71 : decode cX12_order 71 = .ok (.aload_n 0, 1) := by decide +kernel
theorem dX12_order_72 : decode cX12_order 72 = .ok (.getfield 7, 3) := by decide +kernel
theorem dX12_order_75 : decode cX12_order 75 = .ok (.bipush 41, 2) := by decide +kernel
theorem dX12_order_77 : decode cX12_order 77 = .ok (.iload 5, 2) := by decide +kernel
theorem dX12_order_79 : decode cX12_order 79 = .ok (.iadd, 1) := by decide +kernel
theorem dX12_order_80 : decode cX12_order 80 = .ok (.iaload, 1) := by decide +kernel
theorem dX12_order_81 : decode cX12_order 81 = .ok (.iastore, 1) := by decide +kernel
theorem dX12_order_82 : decode cX12_order 82 = .ok (.aload_n 0, 1) := by decide +kernel
theorem dX12_order_83 : decode cX12_order 83 = .ok (.getfield 36, 3) := by decide +kernel
theorem dX12_order_86 : decode cX12_order 86 = .ok (.iload 4, 2) := by decide +kernel
theorem dX12_order_88 : decode cX12_order 88 = .ok (.aload_n 0, 1) := by decide +kernel
theorem dX12_order_89 : decode cX12_order 89 = .ok (.getfield 7, 3) := by decide +kernel
theorem dX12_order_92 : decode cX12_order 92 = .ok (.bipush 49, 2) := by decide +kernel
theorem dX12_order_94 : decode cX12_order 94 = .ok (.iload 5, 2) := by decide +kernel
theorem dX12_order_96 : decode cX12_order 96 = .ok (.iadd, 1) := by decide +kernel
theorem dX12_order_97 : decode cX12_order 97 = .ok (.iaload, 1) := by decide +kernel
theorem dX12_order_98 : decode cX12_order 98 = .ok (.iastore, 1) := by decide +kernel
theorem dX12_order_99 : decode cX12_order 99 = .ok (.aload_n 0, 1) := by decide +kernel
theorem dX12_order_100 : decode cX12_order 100 = .ok (.getfield 33, 3) := by decide +kernel
theorem dX12_order_103 : decode cX12_order 103 = .ok (.iload 5, 2) := by decide +kernel
theorem dX12_order_105 : decode cX12_order 105 = .ok (.aload_n 0, 1) := by decide +kernel
theorem dX12_order_106 : decode cX12_order 106 = .ok (.getfield 7, 3) := by decide +kernel
theorem dX12_order_109 : decode cX12_order 109 = .ok (.bipush 41, 2) := by decide +kernel
theorem dX12_order_111 : decode cX12_order 111 = .ok (.iload 4, 2) := by decide +kernel
theorem dX12_order_113 : decode cX12_order 113 = .ok (.iadd, 1) := by decide +kernel
theorem dX12_order_114 : decode cX12_order 114 = .ok (.iaload, 1) := by decide +kernel
theorem dX12_order_115 : decode cX12_order 115 = .ok (.iastore, 1) := by decide +kernel
theorem dX12_order_116 : decode cX12_order 116 = .ok (.aload_n 0, 1) := by decide +kernel
theorem dX12_order_117 : decode cX12_order 117 = .ok (.getfield 36, 3) := by decide +kernel
theorem dX12_order_120 : decode cX12_order 120 = .ok (.iload 5, 2) := by decide +kernel
theorem dX12_order_122 : decode cX12_order 122 = .ok (.aload_n 0, 1) := by decide +kernel
theorem dX12_order_123 : decode cX12_order 123 = .ok (.getfield 7, 3) := by decide +kernel
theorem dX12_order_126 : decode cX12_order 126 = .ok (.bipush 49, 2) := by decide +kernel
theorem dX12_order_128 : decode cX12_order 128 = .ok (.iload 4, 2) := by decide +kernel
theorem dX12_order_130 : decode cX12_order 130 = .ok (.iadd, 1) := by decide +kernel
theorem dX12_order_131 : decode cX12_order 131 = .ok (.iaload, 1) := by decide +kernel
theorem dX12_order_132 : decode cX12_order 132 = .ok (.iastore, 1) := by decide +kernel
theorem dX12_order_133 : decode cX12_order 133 = .ok (.aload_n 0, 1) := by decide +kernel
theorem dX12_order_134 : decode cX12_order 134 = .ok (.bipush 8, 2) := by decide +kernel
theorem dX12_order_136 : decode cX12_order 136 = .ok (.invokevirtual 151, 3) := by decide +kernel
theorem dX12_order_139 : decode cX12_order 139 = .ok (.aload_n 0, 1) := by decide +kernel
theorem dX12_order_140 : decode cX12_order 140 = .ok (.iload_n 1, 1) := by decide +kernel
theorem dX12_order_141 : decode cX12_order 141 = .ok (.invokevirtual 155, 3) := by decide +kernel
theorem dX12_order_144 : decode cX12_order 144 = .ok (.iload_n 3, 1) := by decide +kernel
theorem dX12_order_145 : decode cX12_order 145 = .ok (.if_icmp .le 14, 3) := by decide +kernel
theorem dX12_order_148 : decode cX12_order 148 = .ok (.bipush 10, 2) := by decide +kernel
theorem dX12_order_150 : decode cX12_order 150 = .ok (.iload 4, 2) := by decide +kernel
theorem dX12_order_152 : decode cX12_order 152 = .ok (.imul, 1) := by decide +kernel
theorem dX12_order_153 : decode cX12_order 153 = .ok (.iload 5, 2) := by decide +kernel
theorem dX12_order_155 : decode cX12_order 155 = .ok (.iadd, 1) := by decide +kernel
theorem dX12_order_156 : decode cX12_order 156 = .ok (.goto 4, 3) := by decide +kernel
theorem dX12_order_159 : decode cX12_order 159 = .ok (.iload_n 2, 1) := by decide +kernel
theorem dX12_order_160 : decode cX12_order 160 = .ok (.istore_n 2, 1) := by decide +kernel
theorem dX12_order_161 : decode cX12_order 161 = .ok (.aload_n 0, 1) := by decide +kernel
theorem dX12_order_162 : decode cX12_order 162 = .ok (.iload_n 1, 1) := by decide +kernel
theorem dX12_order_163 : decode cX12_order 163 = .ok (.invokevirtual 155, 3) := by decide +kernel
theorem dX12_order_166 : decode cX12_order 166 = .ok (.iload_n 3, 1) := by decide +kernel
theorem dX12_order_167 : decode cX12_order 167 = .ok (.if_icmp .le 11, 3) := by decide +kernel
theorem dX12_order_170 : decode cX12_order 170 = .ok (.aload_n 0, 1) := by decide +kernel
theorem dX12_order_171 : decode cX12_order 171 = .ok (.iload_n 1, 1) := by decide +kernel
theorem dX12_order_172 : decode cX12_order 172 = .ok (.invokevirtual 155, 3) := by decide +kernel
theorem dX12_order_175 : decode cX12_order 175 = .ok (.goto 4, 3) := by decide +kernel
theorem dX12_order_178 : decode cX12_order 178 = .ok (.iload_n 3, 1) := by decide +kernel
theorem dX12_order_179 : decode cX12_order 179 = .ok (.istore_n 3, 1) := by decide +kernel
theorem dX12_order_180 : decode cX12_order 180 = .ok (.iinc 5 1, 3) := by decide +kernel
theorem dX12_order_183 : decode cX12_order 183 = .ok (.goto (-129), 3) := by decide +kernel
theorem dX12_order_186 : decode cX12_order 186 = .ok (.iinc 4 1, 3) := by decide +kernel
theorem dX12_order_189 : decode cX12_order 189 = .ok (.goto (-148), 3) := by decide +kernel
theorem dX12_order_192 : decode cX12_order 192 = .ok (.iload_n 2, 1) := by decide +kernel
theorem dX12_order_193 : decode cX12_order 193 = .ok (.ireturn, 1) := by decide +kernel
theorem dX12_note_0 : decode cX12_note 0 = .ok (.aload_n 0, 1) := by decide +kernel
theorem dX12_note_1 : decode cX12_note 1 = .ok (.iload_n 1, 1) := by decide +kernel
theorem dX12_note_2 : decode cX12_note 2 = .ok (.invokevirtual 143, 3) := by decide +kernel
theorem dX12_note_5 : decode cX12_note 5 = .ok (.ifCond .eq 38, 3) := by decide +kernel
theorem dX12_note_8 : decode cX12_note 8 = .ok (.iload_n 2, 1) := by decide +kernel
theorem dX12_note_9 : decode cX12_note 9 = .ok (.i2l, 1) := by decide +kernel
theorem dX12_note_10 : decode cX12_note 10 = .ok (.lconst 1, 1) := by decide +kernel
theorem dX12_note_11 : decode cX12_note 11 = .ok (.ldc2_w 80, 3) := by decide +kernel
theorem dX12_note_14 : decode cX12_note 14 = .ok (.invokestatic 65, 3) := by decide +kernel
theorem dX12_note_17 : decode cX12_note 17 = .ok (.ifCond .eq 26, 3) := by decide +kernel
theorem dX12_note_20 : decode cX12_note 20 = .ok (.iload_n 3, 1) := by decide +kernel
theorem dX12_note_21 : decode cX12_note 21 = .ok (.i2l, 1) := by decide +kernel
theorem dX12_note_22 : decode cX12_note 22 = .ok (.lconst 0, 1) := by decide +kernel
theorem dX12_note_23 : decode cX12_note 23 = .ok (.ldc2_w 69, 3) := by decide +kernel
theorem dX12_note_26 : decode cX12_note 26 = .ok (.invokestatic 65, 3) := by decide +kernel
theorem dX12_note_29 : decode cX12_note 29 = .ok (.ifCond .eq 14, 3) := by decide +kernel
theorem dX12_note_32 : decode cX12_note 32 = .ok (.iload 4, 2) := by decide +kernel
theorem dX12_note_34 : decode cX12_note 34 = .ok (.i2l, 1) := by decide +kernel
theorem dX12_note_35 : decode cX12_note 35 = .ok (.lconst 0, 1) := by decide +kernel
theorem dX12_note_36 : decode cX12_note 36 = .ok (.lconst 1, 1) := by decide +kernel
theorem dX12_note_37 : decode cX12_note 37 = .ok (.invokestatic 65, 3) := by decide +kernel
theorem dX12_note_40 : decode cX12_note 40 = .ok (.ifCond .ne 10, 3) := by decide +kernel
theorem dX12_note_43 : decode cX12_note 43 = .ok (.aload_n 0, 1) := by decide +kernel
theorem dX12_note_44 : decode cX12_note 44 = .ok (.bipush (-2), 2) := by decide +kernel
theorem dX12_note_46 : decode cX12_note 46 = .ok (.invokevirtual 82, 3) := by decide +kernel
theorem dX12_note_49 : decode cX12_note 49 = .ok (.ireturn, 1) := by decide +kernel
theorem dX12_note_50 : decode cX12_note 50 = .ok (.aload_n 0, 1) := by decide +kernel
theorem dX12_note_51 : decode cX12_note 51 = .ok (.getfield 7, 3) := by decide +kernel
theorem dX12_note_54 : decode cX12_note 54 = .ok (.iconst 1, 1) := by decide +kernel
theorem dX12_note_55 : decode cX12_note 55 = .ok (.iaload, 1) := by decide +kernel
theorem dX12_note_56 : decode cX12_note 56 = .ok (.bipush 6, 2) := by decide +kernel
theorem dX12_note_58 : decode cX12_note 58 = .ok (.if_icmp .ne 8, 3) := by decide +kernel
theorem dX12_note_61 : decode cX12_note 61 = .ok (.aload_n 0, 1) := by decide +kernel
theorem dX12_note_62 : decode cX12_note 62 = .ok (.invokevirtual 90, 3) := by decide +kernel
theorem dX12_note_65 : decode cX12_note 65 = .ok (.ireturn, 1) := by decide +kernel
theorem dX12_note_66 : decode cX12_note 66 = .ok (.bipush 57, 2) := by decide +kernel
theorem dX12_note_68 : decode cX12_note 68 = .ok (.iconst 4, 1) := by decide +kernel
theorem dX12_note_69 : decode cX12_note 69 = .ok (.aload_n 0, 1) := by decide +kernel
theorem dX12_note_70 : decode cX12_note 70 = .ok (.getfield 7, 3) := by decide +kernel
theorem dX12_note_73 : decode cX12_note 73 = .ok (.iconst 1, 1) := by decide +kernel
theorem dX12_note_74 : decode cX12_note 74 = .ok (.iaload, 1) := by decide +kernel
theorem dX12_note_75 : decode cX12_note 75 = .ok (.imul, 1) := by decide +kernel
theorem dX12_note_76 : decode cX12_note 76 = .ok (.iadd, 1) := by decide +kernel
theorem dX12_note_77 : decode cX12_note 77 = .ok (.istore 5, 2) := by decide +kernel
theorem dX12_note_79 : decode cX12_note 79 = .ok (.aload_n 0, 1) := by decide +kernel
theorem dX12_note_80 : decode cX12_note 80 = .ok (.getfield 7, 3) := by decide +kernel
theorem dX12_note_83 : decode cX12_note 83 = .ok (.iload 5, 2) := by decide +kernel
theorem dX12_note_85 : decode cX12_note 85 = .ok (.iload_n 1, 1) := by decide +kernel
theorem dX12_note_86 : decode cX12_note 86 = .ok (.iastore, 1) := by decide +kernel
theorem dX12_note_87 : decode cX12_note 87 = .ok (.aload_n 0, 1) := by decide +kernel
theorem dX12_note_88 : decode cX12_note 88 = .ok (.getfield 7, 3) := by decide +kernel
theorem dX12_note_91 : decode cX12_note 91 = .ok (.iload 5, 2) := by decide +kernel
theorem dX12_note_93 : decode cX12_note 93 = .ok (.iconst 1, 1) := by decide +kernel
theorem dX12_note_94 : decode cX12_note 94 = .ok (.iadd, 1) := by decide +kernel
theorem dX12_note_95 : decode cX12_note 95 = .ok (.iload_n 2, 1) := by decide +kernel
theorem dX12_note_96 : decode cX12_note 96 = .ok (.iastore, 1) := by decide +kernel
theorem dX12_note_97 : decode cX12_note 97 = .ok (.aload_n 0, 1) := by decide +kernel
theorem dX12_note_98 : decode cX12_note 98 = .ok (.getfield 7, 3) := by decide +kernel
theorem dX12_note_101 : decode cX12_note 101 = .ok (.iload 5, 2) := by decide +kernel
theorem dX12_note_103 : decode cX12_note 103 = .ok (.iconst 2, 1) := by decide +kernel
theorem dX12_note_104 : decode cX12_note 104 = .ok (.iadd, 1) := by decide +kernel
theorem dX12_note_105 : decode cX12_note 105 = .ok (.iload_n 3, 1) := by decide +kernel
theorem dX12_note_106 : decode cX12_note 106 = .ok (.iastore, 1) := by decide +kernel
theorem dX12_note_107 : decode cX12_note 107 = .ok (.aload_n 0, 1) := by decide +kernel
theorem dX12_note_108 : decode cX12_note 108 = .ok (.getfield 7, 3) := by decide +kernel
theorem dX12_note_111 : decode cX12_note 111 = .ok (.iload 5, 2) := by decide +kernel
theorem dX12_note_113 : decode cX12_note 113 = .ok (.iconst 3, 1) := by decide +kernel
theorem dX12_note_114 : decode cX12_note 114 = .ok (.iadd, 1) := by decide +kernel
theorem dX12_note_115 : decode cX12_note 115 = .ok (.iload 4, 2) := by decide +kernel
theorem dX12_note_117 : decode cX12_note 117 = .ok (.iastore, 1) := by decide +kernel
theorem dX12_note_118 : decode cX12_note 118 = .ok (.aload_n 0, 1) := by decide +kernel
theorem dX12_note_119 : decode cX12_note 119 = .ok (.getfield 7, 3) := by decide +kernel
theorem dX12_note_122 : decode cX12_note 122 = .ok (.iconst 1, 1) := by decide +kernel
theorem dX12_note_123 : decode cX12_note 123 = .ok (.dup2, 1) := by decide +kernel
theorem dX12_note_124 : decode cX12_note 124 = .ok (.iaload, 1) := by decide +kernel
theorem dX12_note_125 : decode cX12_note 125 = .ok (.iconst 1, 1) := by decide +kernel
theorem dX12_note_126 : decode cX12_note 126 = .ok (.iadd, 1) := by decide +kernel
theorem dX12_note_127 : decode cX12_note 127 = .ok (.iastore, 1) := by decide +kernel
theorem dX12_note_128 : decode cX12_note 128 = .ok (.aload_n 0, 1) := by decide +kernel
theorem dX12_note_129 : decode cX12_note 129 = .ok (.getfield 7, 3) := by decide +kernel
theorem dX12_note_132 : decode cX12_note 132 = .ok (.iconst 1, 1) := by decide +kernel
theorem dX12_note_133 : decode cX12_note 133 = .ok (.iaload, 1) := by decide +kernel
theorem dX12_note_134 : decode cX12_note 134 = .ok (.ireturn, 1) := by decide +kernel
theorem dX12_beaten_0 : decode cX12_beaten 0 = .ok (.aload_n 0, 1) := by decide +kernel
theorem dX12_beaten_1 : decode cX12_beaten 1 = .ok (.iload_n 1, 1) := by decide +kernel
theorem dX12_beaten_2 : decode cX12_beaten 2 = .ok (.invokevirtual 143, 3) := by decide +kernel
theorem dX12_beaten_5 : decode cX12_beaten 5 = .ok (.ifCond .eq 31, 3) := by decide +kernel
theorem dX12_beaten_8 : decode cX12_beaten 8 = .ok (.aload_n 0, 1) := by decide +kernel
theorem dX12_beaten_9 : decode cX12_beaten 9 = .ok (.iload_n 2, 1) := by decide +kernel
theorem dX12_beaten_10 : decode cX12_beaten 10 = .ok (.invokevirtual 143, 3) := by decide +kernel
theorem dX12_beaten_13 : decode cX12_beaten 13 = .ok (.ifCond .eq 23, 3) := by decide +kernel
theorem dX12_beaten_16 : decode cX12_beaten 16 = .ok (.iload_n 1, 1) := by decide +kernel
theorem dX12_beaten_17 : decode cX12_beaten 17 = .ok (.iload_n 2, 1) := by decide +kernel
theorem dX12_beaten_18 : decode cX12_beaten 18 = .ok (.if_icmp .eq 18, 3) := by decide +kernel
theorem dX12_beaten_21 : decode cX12_beaten 21 = .ok (.iload_n 3, 1) := by decide +kernel
theorem dX12_beaten_22 : decode cX12_beaten 22 = .ok (.invokestatic 77, 3) := by decide +kernel
theorem dX12_beaten_25 : decode cX12_beaten 25 = .ok (.ifCond .eq 11, 3) := by decide +kernel
theorem dX12_beaten_28 : decode cX12_beaten 28 = .ok (.iload 4, 2) := by decide +kernel
theorem dX12_beaten_30 : decode cX12_beaten 30 = .ok (.invokestatic 73, 3) := by decide +kernel
theorem dX12_beaten_33 : decode cX12_beaten 33 = .ok (.ifCond .ne 10, 3) := by decide +kernel
theorem dX12_beaten_36 : decode cX12_beaten 36 = .ok (.aload_n 0, 1) := by decide +kernel
theorem dX12_beaten_37 : decode cX12_beaten 37 = .ok (.bipush (-2), 2) := by decide +kernel
theorem dX12_beaten_39 : decode cX12_beaten 39 = .ok (.invokevirtual 82, 3) := by decide +kernel
theorem dX12_beaten_42 : decode cX12_beaten 42 = .ok (.ireturn, 1) := by decide +kernel
theorem dX12_beaten_43 : decode cX12_beaten 43 = .ok (.aload_n 0, 1) := by decide +kernel
theorem dX12_beaten_44 : decode cX12_beaten 44 = .ok (.getfield 7, 3) := by decide +kernel
theorem dX12_beaten_47 : decode cX12_beaten 47 = .ok (.iconst 2, 1) := by decide +kernel
theorem dX12_beaten_48 : decode cX12_beaten 48 = .ok (.iaload, 1) := by decide +kernel
theorem dX12_beaten_49 : decode cX12_beaten 49 = .ok (.bipush 6, 2) := by decide +kernel
theorem dX12_beaten_51 : decode cX12_beaten 51 = .ok (.if_icmp .ne 8, 3) := by decide +kernel
theorem dX12_beaten_54 : decode cX12_beaten 54 = .ok (.aload_n 0, 1) := by decide +kernel
theorem dX12_beaten_55 : decode cX12_beaten 55 = .ok (.invokevirtual 90, 3) := by decide +kernel
theorem dX12_beaten_58 : decode cX12_beaten 58 = .ok (.ireturn, 1) := by decide +kernel
theorem dX12_beaten_59 : decode cX12_beaten 59 = .ok (.bipush 81, 2) := by decide +kernel
theorem dX12_beaten_61 : decode cX12_beaten 61 = .ok (.iconst 4, 1) := by decide +kernel
theorem dX12_beaten_62 : decode cX12_beaten 62 = .ok (.aload_n 0, 1) := by decide +kernel
theorem dX12_beaten_63 : decode cX12_beaten 63 = .ok (.getfield 7, 3) := by decide +kernel
theorem dX12_beaten_66 : decode cX12_beaten 66 = .ok (.iconst 2, 1) := by decide +kernel
theorem dX12_beaten_67 : decode cX12_beaten 67 = .ok (.iaload, 1) := by decide +kernel
theorem dX12_beaten_68 : decode cX12_beaten 68 = .ok (.imul, 1) := by decide +kernel
theorem dX12_beaten_69 : decode cX12_beaten 69 = .ok (.iadd, 1) := by decide +kernel
theorem dX12_beaten_70 : decode cX12_beaten 70 = .ok (.istore 5, 2) := by decide +kernel
theorem dX12_beaten_72 : decode cX12_beaten 72 = .ok (.aload_n 0, 1) := by decide +kernel
theorem dX12_beaten_73 : decode cX12_beaten 73 = .ok (.getfield 7, 3) := by decide +kernel
theorem dX12_beaten_76 : decode cX12_beaten 76 = .ok (.iload 5, 2) := by decide +kernel
theorem dX12_beaten_78 : decode cX12_beaten 78 = .ok (.iload_n 1, 1) := by decide +kernel
theorem dX12_beaten_79 : decode cX12_beaten 79 = .ok (.iastore, 1) := by decide +kernel
theorem dX12_beaten_80 : decode cX12_beaten 80 = .ok (.aload_n 0, 1) := by decide +kernel
theorem dX12_beaten_81 : decode cX12_beaten 81 = .ok (.getfield 7, 3) := by decide +kernel
theorem dX12_beaten_84 : decode cX12_beaten 84 = .ok (.iload 5, 2) := by decide +kernel
theorem dX12_beaten_86 : decode cX12_beaten 86 = .ok (.iconst 1, 1) := by decide +kernel
theorem dX12_beaten_87 : decode cX12_beaten 87 = .ok (.iadd, 1) := by decide +kernel
theorem dX12_beaten_88 : decode cX12_beaten 88 = .ok (.iload_n 2, 1) := by decide +kernel
theorem dX12_beaten_89 : decode cX12_beaten 89 = .ok (.iastore, 1) := by decide +kernel
theorem dX12_beaten_90 : decode cX12_beaten 90 = .ok (.aload_n 0, 1) := by decide +kernel
theorem dX12_beaten_91 : decode cX12_beaten 91 = .ok (.getfield 7, 3) := by decide +kernel
theorem dX12_beaten_94 : decode cX12_beaten 94 = .ok (.iload 5, 2) := by decide +kernel
theorem dX12_beaten_96 : decode cX12_beaten 96 = .ok (.iconst 2, 1) := by decide +kernel
theorem dX12_beaten_97 : decode cX12_beaten 97 = .ok (.iadd, 1) := by decide +kernel
theorem dX12_beaten_98 : decode cX12_beaten 98 = .ok (.iload_n 3, 1) := by decide +kernel
theorem dX12_beaten_99 : decode cX12_beaten 99 = .ok (.iastore, 1) := by decide +kernel
theorem dX12_beaten_100 : decode cX12_beaten 100 = .ok (.aload_n 0, 1) := by decide +kernel
theorem dX12_beaten_101 : decode cX12_beaten 101 = .ok (.getfield 7, 3) := by decide +kernel
theorem dX12_beaten_104 : decode cX12_beaten 104 = .ok (.iload 5, 2) := by decide +kernel
theorem dX12_beaten_106 : decode cX12_beaten 106 = .ok (.iconst 3, 1) := by decide +kernel
theorem dX12_beaten_107 : decode cX12_beaten 107 = .ok (.iadd, 1) := by decide +kernel
theorem dX12_beaten_108 : decode cX12_beaten 108 = .ok (.iload 4, 2) := by decide +kernel
theorem dX12_beaten_110 : decode cX12_beaten 110 = .ok (.iastore, 1) := by decide +kernel
theorem dX12_beaten_111 : decode cX12_beaten 111 = .ok (.aload_n 0, 1) := by decide +kernel
theorem dX12_beaten_112 : decode cX12_beaten 112 = .ok (.getfield 7, 3) := by decide +kernel
theorem dX12_beaten_115 : decode cX12_beaten 115 = .ok (.iconst 2, 1) := by decide +kernel
theorem dX12_beaten_116 : decode cX12_beaten 116 = .ok (.dup2, 1) := by decide +kernel
theorem dX12_beaten_117 : decode cX12_beaten 117 = .ok (.iaload, 1) := by decide +kernel
theorem dX12_beaten_118 : decode cX12_beaten 118 = .ok (.iconst 1, 1) := by decide +kernel
theorem dX12_beaten_119 : decode cX12_beaten 119 = .ok (.iadd, 1) := by decide +kernel
theorem dX12_beaten_120 : decode cX12_beaten 120 = .ok (.iastore, 1) := by decide +kernel
theorem dX12_beaten_121 : decode cX12_beaten 121 = .ok (.aload_n 0, 1) := by decide +kernel
theorem dX12_beaten_122 : decode cX12_beaten 122 = .ok (.getfield 7, 3) := by decide +kernel
theorem dX12_beaten_125 : decode cX12_beaten 125 = .ok (.iconst 2, 1) := by decide +kernel
theorem dX12_beaten_126 : decode cX12_beaten 126 = .ok (.iaload, 1) := by decide +kernel
theorem dX12_beaten_127 : decode cX12_beaten 127 = .ok (.ireturn, 1) := by decide +kernel
theorem dX12_forget_0 : decode cX12_forget 0 = .ok (.iload_n 1, 1) := by decide +kernel
theorem dX12_forget_1 : decode cX12_forget 1 = .ok (.i2l, 1) := by decide +kernel
theorem dX12_forget_2 : decode cX12_forget 2 = .ok (.lconst 0, 1) := by decide +kernel
theorem dX12_forget_3 : decode cX12_forget 3 = .ok (.lconst 1, 1) := by decide +kernel
theorem dX12_forget_4 : decode cX12_forget 4 = .ok (.invokestatic 65, 3) := by decide +kernel
theorem dX12_forget_7 : decode cX12_forget 7 = .ok (.ifCond .ne 10, 3) := by decide +kernel
theorem dX12_forget_10 : decode cX12_forget 10 = .ok (.aload_n 0, 1) := by decide +kernel
theorem dX12_forget_11 : decode cX12_forget 11 = .ok (.bipush (-2), 2) := by decide +kernel
theorem dX12_forget_13 : decode cX12_forget 13 = .ok (.invokevirtual 82, 3) := by decide +kernel
theorem dX12_forget_16 : decode cX12_forget 16 = .ok (.ireturn, 1) := by decide +kernel
theorem dX12_forget_17 : decode cX12_forget 17 = .ok (.aload_n 0, 1) := by decide +kernel
theorem dX12_forget_18 : decode cX12_forget 18 = .ok (.getfield 7, 3) := by decide +kernel
theorem dX12_forget_21 : decode cX12_forget 21 = .ok (.iconst 1, 1) := by decide +kernel
theorem dX12_forget_22 : decode cX12_forget 22 = .ok (.iload_n 1, 1) := by decide +kernel
theorem dX12_forget_23 : decode cX12_forget 23 = .ok (.iadd, 1) := by decide +kernel
theorem dX12_forget_24 : decode cX12_forget 24 = .ok (.iaload, 1) := by decide +kernel
theorem dX12_forget_25 : decode cX12_forget 25 = .ok (.istore_n 2, 1) := by decide +kernel
theorem dX12_forget_26 : decode cX12_forget 26 = .ok (.aload_n 0, 1) := by decide +kernel
theorem dX12_forget_27 : decode cX12_forget 27 = .ok (.getfield 7, 3) := by decide +kernel
theorem dX12_forget_30 : decode cX12_forget 30 = .ok (.iconst 1, 1) := by decide +kernel
theorem dX12_forget_31 : decode cX12_forget 31 = .ok (.iload_n 1, 1) := by decide +kernel
theorem dX12_forget_32 : decode cX12_forget 32 = .ok (.iadd, 1) := by decide +kernel
theorem dX12_forget_33 : decode cX12_forget 33 = .ok (.iconst 0, 1) := by decide +kernel
theorem dX12_forget_34 : decode cX12_forget 34 = .ok (.iastore, 1) := by decide +kernel
theorem dX12_forget_35 : decode cX12_forget 35 = .ok (.iload_n 2, 1) := by decide +kernel
theorem dX12_forget_36 : decode cX12_forget 36 = .ok (.ireturn, 1) := by decide +kernel
theorem dX12_kindsOf_0 : decode cX12_kindsOf 0 = .ok (.iconst 0, 1) := by decide +kernel
theorem dX12_kindsOf_1 : decode cX12_kindsOf 1 = .ok (.istore_n 2, 1) := by decide +kernel
theorem dX12_kindsOf_2 : decode cX12_kindsOf 2 = .ok (.iconst 0, 1) := by decide +kernel
theorem dX12_kindsOf_3 : decode cX12_kindsOf 3 = .ok (.istore_n 3, 1) := by decide +kernel
theorem dX12_kindsOf_4 : decode cX12_kindsOf 4 = .ok (.iload_n 3, 1) := by decide +kernel
theorem dX12_kindsOf_5 : decode cX12_kindsOf 5 = .ok (.bipush 6, 2) := by decide +kernel
theorem dX12_kindsOf_7 : decode cX12_kindsOf 7 = .ok (.if_icmp .ge 122, 3) := by decide +kernel
theorem dX12_kindsOf_10 : decode cX12_kindsOf 10 = .ok (.iconst 1, 1) := by decide +kernel
theorem dX12_kindsOf_11 : decode cX12_kindsOf 11 = .ok (.istore 4, 2) := by decide +kernel
theorem dX12_kindsOf_13 : decode cX12_kindsOf 13 = .ok (.iconst 0, 1) := by decide +kernel
theorem dX12_kindsOf_14 : decode cX12_kindsOf 14 = .ok (.istore 5, 2) := by decide +kernel
theorem dX12_kindsOf_16 : decode cX12_kindsOf 16 = .ok (.iload 5, 2) := by decide +kernel
theorem dX12_kindsOf_18 : decode cX12_kindsOf 18 = .ok (.aload_n 0, 1) := by decide +kernel
theorem dX12_kindsOf_19 : decode cX12_kindsOf 19 = .ok (.getfield 7, 3) := by decide +kernel
theorem dX12_kindsOf_22 : decode cX12_kindsOf 22 = .ok (.iconst 1, 1) := by decide +kernel
theorem dX12_kindsOf_23 : decode cX12_kindsOf 23 = .ok (.iaload, 1) := by decide +kernel
theorem dX12_kindsOf_24 : decode cX12_kindsOf 24 = .ok (.if_icmp .ge 84, 3) := by decide +kernel
theorem dX12_kindsOf_27 : decode cX12_kindsOf 27 = .ok (.bipush 57, 2) := by decide +kernel
theorem dX12_kindsOf_29 : decode cX12_kindsOf 29 = .ok (.iconst 4, 1) := by decide +kernel
theorem dX12_kindsOf_30 : decode cX12_kindsOf 30 = .ok (.iload 5, 2) := by decide +kernel
theorem dX12_kindsOf_32 : decode cX12_kindsOf 32 = .ok (.imul, 1) := by decide +kernel
theorem dX12_kindsOf_33 : decode cX12_kindsOf 33 = .ok (.iadd, 1) := by decide +kernel
theorem dX12_kindsOf_34 : decode cX12_kindsOf 34 = .ok (.istore 6, 2) := by decide +kernel
theorem dX12_kindsOf_36 : decode cX12_kindsOf 36 = .ok (.iload 4, 2) := by decide +kernel
theorem dX12_kindsOf_38 : decode cX12_kindsOf 38 = .ok (.ifCond .eq 61, 3) := by decide +kernel
theorem dX12_kindsOf_41 : decode cX12_kindsOf 41 = .ok (.aload_n 0, 1) := by decide +kernel
theorem dX12_kindsOf_42 : decode cX12_kindsOf 42 = .ok (.getfield 7, 3) := by decide +kernel
theorem dX12_kindsOf_45 : decode cX12_kindsOf 45 = .ok (.iload 6, 2) := by decide +kernel
theorem dX12_kindsOf_47 : decode cX12_kindsOf 47 = .ok (.iaload, 1) := by decide +kernel
theorem dX12_kindsOf_48 : decode cX12_kindsOf 48 = .ok (.iload_n 1, 1) := by decide +kernel
theorem dX12_kindsOf_49 : decode cX12_kindsOf 49 = .ok (.if_icmp .ne 46, 3) := by decide +kernel
theorem dX12_kindsOf_52 : decode cX12_kindsOf 52 = .ok (.iload_n 3, 1) := by decide +kernel
theorem dX12_kindsOf_53 : decode cX12_kindsOf 53 = .ok (.aload_n 0, 1) := by decide +kernel
theorem dX12_kindsOf_54 : decode cX12_kindsOf 54 = .ok (.getfield 7, 3) := by decide +kernel
theorem dX12_kindsOf_57 : decode cX12_kindsOf 57 = .ok (.iload 6, 2) := by decide +kernel
theorem dX12_kindsOf_59 : decode cX12_kindsOf 59 = .ok (.iconst 1, 1) := by decide +kernel
theorem dX12_kindsOf_60 : decode cX12_kindsOf 60 = .ok (.iadd, 1) := by decide +kernel
theorem dX12_kindsOf_61 : decode cX12_kindsOf 61 = .ok (.iaload, 1) := by decide +kernel
theorem dX12_kindsOf_62 : decode cX12_kindsOf 62 = .ok (.aload_n 0, 1) := by decide +kernel
theorem dX12_kindsOf_63 : decode cX12_kindsOf 63 = .ok (.getfield 7, 3) := by decide +kernel
theorem dX12_kindsOf_66 : decode cX12_kindsOf 66 = .ok (.iload 6, 2) := by decide +kernel
theorem dX12_kindsOf_68 : decode cX12_kindsOf 68 = .ok (.iconst 2, 1) := by decide +kernel
theorem dX12_kindsOf_69 : decode cX12_kindsOf 69 = .ok (.iadd, 1) := by decide +kernel
theorem dX12_kindsOf_70 : decode cX12_kindsOf 70 = .ok (.iaload, 1) := by decide +kernel
theorem dX12_kindsOf_71 : decode cX12_kindsOf 71 = .ok (.invokestatic 101, 3) := by decide +kernel
theorem dX12_kindsOf_74 : decode cX12_kindsOf 74 = .ok (.aload_n 0, 1) := by decide +kernel
theorem dX12_kindsOf_75 : decode cX12_kindsOf 75 = .ok (.getfield 7, 3) := by decide +kernel
theorem dX12_kindsOf_78 : decode cX12_kindsOf 78 = .ok (.iload 6, 2) := by decide +kernel
theorem dX12_kindsOf_80 : decode cX12_kindsOf 80 = .ok (.iconst 3, 1) := by decide +kernel
theorem dX12_kindsOf_81 : decode cX12_kindsOf 81 = .ok (.iadd, 1) := by decide +kernel
theorem dX12_kindsOf_82 : decode cX12_kindsOf 82 = .ok (.iaload, 1) := by decide +kernel
theorem dX12_kindsOf_83 : decode cX12_kindsOf 83 = .ok (.iconst 1, 1) := by decide +kernel
theorem dX12_kindsOf_84 : decode cX12_kindsOf 84 = .ok (.if_icmp .ne 7, 3) := by decide +kernel
theorem dX12_kindsOf_87 : decode cX12_kindsOf 87 = .ok (.iconst 1, 1) := by decide +kernel
theorem dX12_kindsOf_88 : decode cX12_kindsOf 88 = .ok (.goto 4, 3) := by decide +kernel
theorem dX12_kindsOf_91 : decode cX12_kindsOf 91 = .ok (.iconst 0, 1) := by decide +kernel
theorem dX12_kindsOf_92 : decode cX12_kindsOf 92 = .ok (.if_icmp .ne 7, 3) := by decide +kernel
theorem dX12_kindsOf_95 : decode cX12_kindsOf 95 = .ok (.iconst 1, 1) := by decide +kernel
theorem dX12_kindsOf_96 : decode cX12_kindsOf 96 = .ok (.goto 4, 3) := by decide +kernel
theorem dX12_kindsOf_99 : decode cX12_kindsOf 99 = .ok (.iconst 0, 1) := by decide +kernel
theorem dX12_kindsOf_100 : decode cX12_kindsOf 100 = .ok (.istore 4, 2) := by decide +kernel
theorem dX12_kindsOf_102 : decode cX12_kindsOf 102 = .ok (.iinc 5 1, 3) := by decide +kernel
theorem dX12_kindsOf_105 : decode cX12_kindsOf 105 = .ok (.goto (-89), 3) := by decide +kernel
theorem dX12_kindsOf_108 : decode cX12_kindsOf 108 = .ok (.iload_n 2, 1) := by decide +kernel
theorem dX12_kindsOf_109 : decode cX12_kindsOf 109 = .ok (.iload 4, 2) := by decide +kernel
theorem dX12_kindsOf_111 : decode cX12_kindsOf 111 = .ok (.ifCond .eq 9, 3) := by decide +kernel
theorem dX12_kindsOf_114 : decode cX12_kindsOf 114 = .ok (.iconst 1, 1) := by decide +kernel
theorem dX12_kindsOf_115 : decode cX12_kindsOf 115 = .ok (.iload_n 3, 1) := by decide +kernel
theorem dX12_kindsOf_116 : decode cX12_kindsOf 116 = .ok (.ishl, 1) := by decide +kernel
theorem dX12_kindsOf_117 : decode cX12_kindsOf 117 = .ok (.goto 4, 3) := by decide +kernel
theorem dX12_kindsOf_120 : decode cX12_kindsOf 120 = .ok (.iconst 0, 1) := by decide +kernel
theorem dX12_kindsOf_121 : decode cX12_kindsOf 121 = .ok (.ior, 1) := by decide +kernel
theorem dX12_kindsOf_122 : decode cX12_kindsOf 122 = .ok (.istore_n 2, 1) := by decide +kernel
theorem dX12_kindsOf_123 : decode cX12_kindsOf 123 = .ok (.iinc 3 1, 3) := by decide +kernel
theorem dX12_kindsOf_126 : decode cX12_kindsOf 126 = .ok (.goto (-122), 3) := by decide +kernel
theorem dX12_kindsOf_129 : decode cX12_kindsOf 129 = .ok (.iload_n 2, 1) := by decide +kernel
theorem dX12_kindsOf_130 : decode cX12_kindsOf 130 = .ok (.ireturn, 1) := by decide +kernel
theorem dX12_is_0 : decode cX12_is 0 = .ok (.aload_n 0, 1) := by decide +kernel
theorem dX12_is_1 : decode cX12_is 1 = .ok (.iload_n 1, 1) := by decide +kernel
theorem dX12_is_2 : decode cX12_is 2 = .ok (.invokevirtual 143, 3) := by decide +kernel
theorem dX12_is_5 : decode cX12_is 5 = .ok (.ifCond .eq 11, 3) := by decide +kernel
theorem dX12_is_8 : decode cX12_is 8 = .ok (.aload_n 0, 1) := by decide +kernel
theorem dX12_is_9 : decode cX12_is 9 = .ok (.iload_n 1, 1) := by decide +kernel
theorem dX12_is_10 : decode cX12_is 10 = .ok (.invokevirtual 164, 3) := by decide +kernel
theorem dX12_is_13 : decode cX12_is 13 = .ok (.goto 9, 3) := by decide +kernel
theorem dX12_is_16 : decode cX12_is 16 = .ok (.aload_n 0, 1) := by decide +kernel
theorem dX12_is_17 : decode cX12_is 17 = .ok (.bipush (-2), 2) := by decide +kernel
theorem dX12_is_19 : decode cX12_is 19 = .ok (.invokevirtual 82, 3) := by decide +kernel
theorem dX12_is_22 : decode cX12_is 22 = .ok (.ireturn, 1) := by decide +kernel
theorem dX12_offer_0 : decode cX12_offer 0 = .ok (.aload_n 0, 1) := by decide +kernel
theorem dX12_offer_1 : decode cX12_offer 1 = .ok (.iload_n 1, 1) := by decide +kernel
theorem dX12_offer_2 : decode cX12_offer 2 = .ok (.invokevirtual 143, 3) := by decide +kernel
theorem dX12_offer_5 : decode cX12_offer 5 = .ok (.ifCond .ne 10, 3) := by decide +kernel
theorem dX12_offer_8 : decode cX12_offer 8 = .ok (.aload_n 0, 1) := by decide +kernel
theorem dX12_offer_9 : decode cX12_offer 9 = .ok (.bipush (-2), 2) := by decide +kernel
theorem dX12_offer_11 : decode cX12_offer 11 = .ok (.invokevirtual 82, 3) := by decide +kernel
theorem dX12_offer_14 : decode cX12_offer 14 = .ok (.ireturn, 1) := by decide +kernel
theorem dX12_offer_15 : decode cX12_offer 15 = .ok (.aload_n 0, 1) := by decide +kernel
theorem dX12_offer_16 : decode cX12_offer 16 = .ok (.iload_n 1, 1) := by decide +kernel
theorem dX12_offer_17 : decode cX12_offer 17 = .ok (.invokevirtual 164, 3) := by decide +kernel
theorem dX12_offer_20 : decode cX12_offer 20 = .ok (.istore_n 2, 1) := by decide +kernel
theorem dX12_offer_21 : decode cX12_offer 21 = .ok (.aload_n 0, 1) := by decide +kernel
theorem dX12_offer_22 : decode cX12_offer 22 = .ok (.getfield 7, 3) := by decide +kernel
theorem dX12_offer_25 : decode cX12_offer 25 = .ok (.iconst 4, 1) := by decide +kernel
theorem dX12_offer_26 : decode cX12_offer 26 = .ok (.iaload, 1) := by decide +kernel
theorem dX12_offer_27 : decode cX12_offer 27 = .ok (.bipush 8, 2) := by decide +kernel
theorem dX12_offer_29 : decode cX12_offer 29 = .ok (.if_icmp .ne 7, 3) := by decide +kernel
theorem dX12_offer_32 : decode cX12_offer 32 = .ok (.iconst 0, 1) := by decide +kernel
theorem dX12_offer_33 : decode cX12_offer 33 = .ok (.goto 12, 3) := by decide +kernel
theorem dX12_offer_36 : decode cX12_offer 36 = .ok (.bipush 7, 2) := by decide +kernel
theorem dX12_offer_38 : decode cX12_offer 38 = .ok (.aload_n 0, 1) := by decide +kernel
theorem dX12_offer_39 : decode cX12_offer 39 = .ok (.getfield 7, 3) := by decide +kernel
theorem dX12_offer_42 : decode cX12_offer 42 = .ok (.iconst 4, 1) := by decide +kernel
theorem dX12_offer_43 : decode cX12_offer 43 = .ok (.iaload, 1) := by decide +kernel
theorem dX12_offer_44 : decode cX12_offer 44 = .ok (.isub, 1) := by decide +kernel
theorem dX12_offer_45 : decode cX12_offer 45 = .ok (.istore_n 3, 1) := by decide +kernel
theorem dX12_offer_46 : decode cX12_offer 46 = .ok (.iconst (-1), 1) := by decide +kernel
theorem dX12_offer_47 : decode cX12_offer 47 = .ok (.istore 4, 2) := by decide +kernel
theorem dX12_offer_49 : decode cX12_offer 49 = .ok (.ldc 167, 2) := by decide +kernel
theorem dX12_offer_51 : decode cX12_offer 51 = .ok (.istore 5, 2) := by decide +kernel
theorem dX12_offer_53 : decode cX12_offer 53 = .ok (.iconst 1, 1) := by decide +kernel
theorem dX12_offer_54 : decode cX12_offer 54 = .ok (.istore 6, 2) := by decide +kernel
theorem dX12_offer_56 : decode cX12_offer 56 = .ok (.iload 6, 2) := by decide +kernel
theorem dX12_offer_58 : decode cX12_offer 58 = .ok (.bipush 30, 2) := by decide +kernel
theorem dX12_offer_60 : decode cX12_offer 60 = .ok (.if_icmp .gt 119, 3) := by decide +kernel
theorem dX12_offer_63 : decode cX12_offer 63 = .ok (.iload_n 2, 1) := by decide +kernel
theorem dX12_offer_64 : decode cX12_offer 64 = .ok (.ifCond .le 115, 3) := by decide +kernel
theorem dX12_offer_67 : decode cX12_offer 67 = .ok (.iconst 0, 1) := by decide +kernel
theorem dX12_offer_68 : decode cX12_offer 68 = .ok (.istore 7, 2) := by decide +kernel
theorem dX12_offer_70 : decode cX12_offer 70 = .ok (.iconst 0, 1) := by decide +kernel
theorem dX12_offer_71 : decode cX12_offer 71 = .ok (.istore 8, 2) := by decide +kernel
theorem dX12_offer_73 : decode cX12_offer 73 = .ok (.iload 8, 2) := by decide +kernel
theorem dX12_offer_75 : decode cX12_offer 75 = .ok (.bipush 6, 2) := by decide +kernel
theorem dX12_offer_77 : decode cX12_offer 77 = .ok (.if_icmp .ge 39, 3) := by decide +kernel
theorem dX12_offer_80 : decode cX12_offer 80 = .ok (.iload 7, 2) := by decide +kernel
theorem dX12_offer_82 : decode cX12_offer 82 = .ok (.iload_n 2, 1) := by decide +kernel
theorem dX12_offer_83 : decode cX12_offer 83 = .ok (.iload 8, 2) := by decide +kernel
theorem dX12_offer_85 : decode cX12_offer 85 = .ok (.invokestatic 131, 3) := by decide +kernel
theorem dX12_offer_88 : decode cX12_offer 88 = .ok (.ifCond .eq 18, 3) := by decide +kernel
theorem dX12_offer_91 : decode cX12_offer 91 = .ok (.iload 8, 2) := by decide +kernel
theorem dX12_offer_93 : decode cX12_offer 93 = .ok (.iload 6, 2) := by decide +kernel
theorem dX12_offer_95 : decode cX12_offer 95 = .ok (.iload_n 3, 1) := by decide +kernel
theorem dX12_offer_96 : decode cX12_offer 96 = .ok (.invokestatic 101, 3) := by decide +kernel
theorem dX12_offer_99 : decode cX12_offer 99 = .ok (.ifCond .eq 7, 3) := by decide +kernel
theorem dX12_offer_102 : decode cX12_offer 102 = .ok (.iconst 1, 1) := by decide +kernel
theorem dX12_offer_103 : decode cX12_offer 103 = .ok (.goto 4, 3) := by decide +kernel
theorem dX12_offer_106 : decode cX12_offer 106 = .ok (.iconst 0, 1) := by decide +kernel
theorem dX12_offer_107 : decode cX12_offer 107 = .ok (.iadd, 1) := by decide +kernel
theorem dX12_offer_108 : decode cX12_offer 108 = .ok (.istore 7, 2) := by decide +kernel
theorem dX12_offer_110 : decode cX12_offer 110 = .ok (.iinc 8 1, 3) := by decide +kernel
theorem dX12_offer_113 : decode cX12_offer 113 = .ok (.goto (-40), 3) := by decide +kernel
theorem dX12_offer_116 : decode cX12_offer 116 = .ok (.iconst 2, 1) := by decide +kernel
theorem dX12_offer_117 : decode cX12_offer 117 = .ok (.iload 7, 2) := by decide +kernel
theorem dX12_offer_119 : decode cX12_offer 119 = .ok (.imul, 1) := by decide +kernel
theorem dX12_offer_120 : decode cX12_offer 120 = .ok (.iload_n 2, 1) := by decide +kernel
theorem dX12_offer_121 : decode cX12_offer 121 = .ok (.invokestatic 105, 3) := by decide +kernel
theorem dX12_offer_124 : decode cX12_offer 124 = .ok (.if_icmp .le 8, 3) := by decide +kernel
theorem dX12_offer_127 : decode cX12_offer 127 = .ok (.iload 7, 2) := by decide +kernel
theorem dX12_offer_129 : decode cX12_offer 129 = .ok (.goto 10, 3) := by decide +kernel
theorem dX12_offer_132 : decode cX12_offer 132 = .ok (.iload_n 2, 1) := by decide +kernel
theorem dX12_offer_133 : decode cX12_offer 133 = .ok (.invokestatic 105, 3) := by decide +kernel
theorem dX12_offer_136 : decode cX12_offer 136 = .ok (.iload 7, 2) := by decide +kernel
theorem dX12_offer_138 : decode cX12_offer 138 = .ok (.isub, 1) := by decide +kernel
theorem dX12_offer_139 : decode cX12_offer 139 = .ok (.istore 8, 2) := by decide +kernel
theorem dX12_offer_141 : decode cX12_offer 141 = .ok (.iload 8, 2) := by decide +kernel
theorem dX12_offer_143 : decode cX12_offer 143 = .ok (.iload 5, 2) := by decide +kernel
theorem dX12_offer_145 : decode cX12_offer 145 = .ok (.if_icmp .ge 8, 3) := by decide +kernel
theorem dX12_offer_148 : decode cX12_offer 148 = .ok (.iload 6, 2) := by decide +kernel
theorem dX12_offer_150 : decode cX12_offer 150 = .ok (.goto 5, 3) := by decide +kernel
theorem dX12_offer_153 : decode cX12_offer 153 = .ok (.iload 4, 2) := by decide +kernel
theorem dX12_offer_155 : decode cX12_offer 155 = .ok (.istore 4, 2) := by decide +kernel
theorem dX12_offer_157 : decode cX12_offer 157 = .ok (.iload 8, 2) := by decide +kernel
theorem dX12_offer_159 : decode cX12_offer 159 = .ok (.iload 5, 2) := by decide +kernel
theorem dX12_offer_161 : decode cX12_offer 161 = .ok (.if_icmp .ge 8, 3) := by decide +kernel
theorem dX12_offer_164 : decode cX12_offer 164 = .ok (.iload 8, 2) := by decide +kernel
theorem dX12_offer_166 : decode cX12_offer 166 = .ok (.goto 5, 3) := by decide +kernel
theorem dX12_offer_169 : decode cX12_offer 169 = .ok (.iload 5, 2) := by decide +kernel
theorem dX12_offer_171 : decode cX12_offer 171 = .ok (.istore 5, 2) := by decide +kernel
theorem dX12_offer_173 : decode cX12_offer 173 = .ok (.iinc 6 1, 3) := by decide +kernel
theorem dX12_offer_176 : decode cX12_offer 176 = .ok (.goto (-120), 3) := by decide +kernel
theorem dX12_offer_179 : decode cX12_offer 179 = .ok (.iload 4, 2) := by decide +kernel
theorem dX12_offer_181 : decode cX12_offer 181 = .ok (.ireturn, 1) := by decide +kernel
theorem dX12_goodThen_0 : decode cX12_goodThen 0 = .ok (.aload_n 0, 1) := by decide +kernel
theorem dX12_goodThen_1 : decode cX12_goodThen 1 = .ok (.getfield 7, 3) := by decide +kernel
theorem dX12_goodThen_4 : decode cX12_goodThen 4 = .ok (.bipush 81, 2) := by decide +kernel
theorem dX12_goodThen_6 : decode cX12_goodThen 6 = .ok (.iconst 4, 1) := by decide +kernel
theorem dX12_goodThen_7 : decode cX12_goodThen 7 = .ok (.iload_n 1, 1) := by decide +kernel
theorem dX12_goodThen_8 : decode cX12_goodThen 8 = .ok (.imul, 1) := by decide +kernel
theorem dX12_goodThen_9 : decode cX12_goodThen 9 = .ok (.iadd, 1) := by decide +kernel
theorem dX12_goodThen_10 : decode cX12_goodThen 10 = .ok (.iconst 2, 1) := by decide +kernel
theorem dX12_goodThen_11 : decode cX12_goodThen 11 = .ok (.iadd, 1) := by decide +kernel
theorem dX12_goodThen_12 : decode cX12_goodThen 12 = .ok (.iaload, 1) := by decide +kernel
theorem dX12_goodThen_13 : decode cX12_goodThen 13 = .ok (.istore 5, 2) := by decide +kernel
theorem dX12_goodThen_15 : decode cX12_goodThen 15 = .ok (.aload_n 0, 1) := by decide +kernel
theorem dX12_goodThen_16 : decode cX12_goodThen 16 = .ok (.getfield 7, 3) := by decide +kernel
theorem dX12_goodThen_19 : decode cX12_goodThen 19 = .ok (.bipush 81, 2) := by decide +kernel
theorem dX12_goodThen_21 : decode cX12_goodThen 21 = .ok (.iconst 4, 1) := by decide +kernel
theorem dX12_goodThen_22 : decode cX12_goodThen 22 = .ok (.iload_n 1, 1) := by decide +kernel
theorem dX12_goodThen_23 : decode cX12_goodThen 23 = .ok (.imul, 1) := by decide +kernel
theorem dX12_goodThen_24 : decode cX12_goodThen 24 = .ok (.iadd, 1) := by decide +kernel
theorem dX12_goodThen_25 : decode cX12_goodThen 25 = .ok (.iconst 3, 1) := by decide +kernel
theorem dX12_goodThen_26 : decode cX12_goodThen 26 = .ok (.iadd, 1) := by decide +kernel
theorem dX12_goodThen_27 : decode cX12_goodThen 27 = .ok (.iaload, 1) := by decide +kernel
theorem dX12_goodThen_28 : decode cX12_goodThen 28 = .ok (.istore 6, 2) := by decide +kernel
theorem dX12_goodThen_30 : decode cX12_goodThen 30 = .ok (.iload_n 2, 1) := by decide +kernel
theorem dX12_goodThen_31 : decode cX12_goodThen 31 = .ok (.iload_n 3, 1) := by decide +kernel
theorem dX12_goodThen_32 : decode cX12_goodThen 32 = .ok (.if_icmp .ne 22, 3) := by decide +kernel
theorem dX12_goodThen_35 : decode cX12_goodThen 35 = .ok (.aload_n 0, 1) := by decide +kernel
theorem dX12_goodThen_36 : decode cX12_goodThen 36 = .ok (.getfield 7, 3) := by decide +kernel
theorem dX12_goodThen_39 : decode cX12_goodThen 39 = .ok (.bipush 17, 2) := by decide +kernel
theorem dX12_goodThen_41 : decode cX12_goodThen 41 = .ok (.iload_n 2, 1) := by decide +kernel
theorem dX12_goodThen_42 : decode cX12_goodThen 42 = .ok (.iadd, 1) := by decide +kernel
theorem dX12_goodThen_43 : decode cX12_goodThen 43 = .ok (.iaload, 1) := by decide +kernel
theorem dX12_goodThen_44 : decode cX12_goodThen 44 = .ok (.iload 4, 2) := by decide +kernel
theorem dX12_goodThen_46 : decode cX12_goodThen 46 = .ok (.iload 6, 2) := by decide +kernel
theorem dX12_goodThen_48 : decode cX12_goodThen 48 = .ok (.invokestatic 97, 3) := by decide +kernel
theorem dX12_goodThen_51 : decode cX12_goodThen 51 = .ok (.goto 12, 3) := by decide +kernel
theorem dX12_goodThen_54 : decode cX12_goodThen 54 = .ok (.aload_n 0, 1) := by decide +kernel
theorem dX12_goodThen_55 : decode cX12_goodThen 55 = .ok (.iload_n 2, 1) := by decide +kernel
theorem dX12_goodThen_56 : decode cX12_goodThen 56 = .ok (.iload 5, 2) := by decide +kernel
theorem dX12_goodThen_58 : decode cX12_goodThen 58 = .ok (.iload 6, 2) := by decide +kernel
theorem dX12_goodThen_60 : decode cX12_goodThen 60 = .ok (.invokevirtual 118, 3) := by decide +kernel
theorem dX12_goodThen_63 : decode cX12_goodThen 63 = .ok (.ireturn, 1) := by decide +kernel
theorem dX12_isBeaten_0 : decode cX12_isBeaten 0 = .ok (.aload_n 0, 1) := by decide +kernel
theorem dX12_isBeaten_1 : decode cX12_isBeaten 1 = .ok (.iload_n 1, 1) := by decide +kernel
theorem dX12_isBeaten_2 : decode cX12_isBeaten 2 = .ok (.aload_n 0, 1) := by decide +kernel
theorem dX12_isBeaten_3 : decode cX12_isBeaten 3 = .ok (.getfield 7, 3) := by decide +kernel
theorem dX12_isBeaten_6 : decode cX12_isBeaten 6 = .ok (.bipush 81, 2) := by decide +kernel
theorem dX12_isBeaten_8 : decode cX12_isBeaten 8 = .ok (.iconst 4, 1) := by decide +kernel
theorem dX12_isBeaten_9 : decode cX12_isBeaten 9 = .ok (.iload_n 1, 1) := by decide +kernel
theorem dX12_isBeaten_10 : decode cX12_isBeaten 10 = .ok (.imul, 1) := by decide +kernel
theorem dX12_isBeaten_11 : decode cX12_isBeaten 11 = .ok (.iadd, 1) := by decide +kernel
theorem dX12_isBeaten_12 : decode cX12_isBeaten 12 = .ok (.iaload, 1) := by decide +kernel
theorem dX12_isBeaten_13 : decode cX12_isBeaten 13 = .ok (.iload_n 2, 1) := by decide +kernel
theorem dX12_isBeaten_14 : decode cX12_isBeaten 14 = .ok (.iload_n 3, 1) := by decide +kernel
theorem dX12_isBeaten_15 : decode cX12_isBeaten 15 = .ok (.invokevirtual 168, 3) := by decide +kernel
theorem dX12_isBeaten_18 : decode cX12_isBeaten 18 = .ok (.aload_n 0, 1) := by decide +kernel
theorem dX12_isBeaten_19 : decode cX12_isBeaten 19 = .ok (.iload_n 1, 1) := by decide +kernel
theorem dX12_isBeaten_20 : decode cX12_isBeaten 20 = .ok (.aload_n 0, 1) := by decide +kernel
theorem dX12_isBeaten_21 : decode cX12_isBeaten 21 = .ok (.getfield 7, 3) := by decide +kernel
theorem dX12_isBeaten_24 : decode cX12_isBeaten 24 = .ok (.bipush 81, 2) := by decide +kernel
theorem dX12_isBeaten_26 : decode cX12_isBeaten 26 = .ok (.iconst 4, 1) := by decide +kernel
theorem dX12_isBeaten_27 : decode cX12_isBeaten 27 = .ok (.iload_n 1, 1) := by decide +kernel
theorem dX12_isBeaten_28 : decode cX12_isBeaten 28 = .ok (.imul, 1) := by decide +kernel
theorem dX12_isBeaten_29 : decode cX12_isBeaten 29 = .ok (.iadd, 1) := by decide +kernel
theorem dX12_isBeaten_30 : decode cX12_isBeaten 30 = .ok (.iconst 1, 1) := by decide +kernel
theorem dX12_isBeaten_31 : decode cX12_isBeaten 31 = .ok (.iadd, 1) := by decide +kernel
theorem dX12_isBeaten_32 : decode cX12_isBeaten 32 = .ok (.iaload, 1) := by decide +kernel
theorem dX12_isBeaten_33 : decode cX12_isBeaten 33 = .ok (.iload_n 2, 1) := by decide +kernel
theorem dX12_isBeaten_34 : decode cX12_isBeaten 34 = .ok (.iload_n 3, 1) := by decide +kernel
theorem dX12_isBeaten_35 : decode cX12_isBeaten 35 = .ok (.invokevirtual 168, 3) := by decide +kernel
theorem dX12_isBeaten_38 : decode cX12_isBeaten 38 = .ok (.if_icmp .le 7, 3) := by decide +kernel
theorem dX12_isBeaten_41 : decode cX12_isBeaten 41 = .ok (.iconst 1, 1) := by decide +kernel
theorem dX12_isBeaten_42 : decode cX12_isBeaten 42 = .ok (.goto 4, 3) := by decide +kernel
theorem dX12_isBeaten_45 : decode cX12_isBeaten 45 = .ok (.iconst 0, 1) := by decide +kernel
theorem dX12_isBeaten_46 : decode cX12_isBeaten 46 = .ok (.ireturn, 1) := by decide +kernel
theorem dX12_may_0 : decode cX12_may 0 = .ok (.aload_n 0, 1) := by decide +kernel
theorem dX12_may_1 : decode cX12_may 1 = .ok (.iload_n 1, 1) := by decide +kernel
theorem dX12_may_2 : decode cX12_may 2 = .ok (.invokevirtual 143, 3) := by decide +kernel
theorem dX12_may_5 : decode cX12_may 5 = .ok (.ifCond .eq 10, 3) := by decide +kernel
theorem dX12_may_8 : decode cX12_may 8 = .ok (.iload_n 2, 1) := by decide +kernel
theorem dX12_may_9 : decode cX12_may 9 = .ok (.invokestatic 77, 3) := by decide +kernel
theorem dX12_may_12 : decode cX12_may 12 = .ok (.ifCond .ne 10, 3) := by decide +kernel
theorem dX12_may_15 : decode cX12_may 15 = .ok (.aload_n 0, 1) := by decide +kernel
theorem dX12_may_16 : decode cX12_may 16 = .ok (.bipush (-2), 2) := by decide +kernel
theorem dX12_may_18 : decode cX12_may 18 = .ok (.invokevirtual 82, 3) := by decide +kernel
theorem dX12_may_21 : decode cX12_may 21 = .ok (.ireturn, 1) := by decide +kernel
theorem dX12_may_22 : decode cX12_may 22 = .ok (.iconst 0, 1) := by decide +kernel
theorem dX12_may_23 : decode cX12_may 23 = .ok (.istore_n 3, 1) := by decide +kernel
theorem dX12_may_24 : decode cX12_may 24 = .ok (.iconst 0, 1) := by decide +kernel
theorem dX12_may_25 : decode cX12_may 25 = .ok (.istore 4, 2) := by decide +kernel
theorem dX12_may_27 : decode cX12_may 27 = .ok (.iload 4, 2) := by decide +kernel
theorem dX12_may_29 : decode cX12_may 29 = .ok (.bipush 10, 2) := by decide +kernel
theorem dX12_may_31 : decode cX12_may 31 = .ok (.if_icmp .ge 136, 3) := by decide +kernel
theorem dX12_may_34 : decode cX12_may 34 = .ok (.iconst 1, 1) := by decide +kernel
theorem dX12_may_35 : decode cX12_may 35 = .ok (.istore 5, 2) := by decide +kernel
theorem dX12_may_37 : decode cX12_may 37 = .ok (.iconst 0, 1) := by decide +kernel
theorem dX12_may_38 : decode cX12_may 38 = .ok (.istore 6, 2) := by decide +kernel
theorem dX12_may_40 : decode cX12_may 40 = .ok (.iload 6, 2) := by decide +kernel
theorem dX12_may_42 : decode cX12_may 42 = .ok (.aload_n 0, 1) := by decide +kernel
theorem dX12_may_43 : decode cX12_may 43 = .ok (.getfield 7, 3) := by decide +kernel
theorem dX12_may_46 : decode cX12_may 46 = .ok (.iconst 2, 1) := by decide +kernel
theorem dX12_may_47 : decode cX12_may 47 = .ok (.iaload, 1) := by decide +kernel
theorem dX12_may_48 : decode cX12_may 48 = .ok (.if_icmp .ge 97, 3) := by decide +kernel
theorem dX12_may_51 : decode cX12_may 51 = .ok (.aload_n 0, 1) := by decide +kernel
theorem dX12_may_52 : decode cX12_may 52 = .ok (.getfield 7, 3) := by decide +kernel
theorem dX12_may_55 : decode cX12_may 55 = .ok (.bipush 81, 2) := by decide +kernel
theorem dX12_may_57 : decode cX12_may 57 = .ok (.iconst 4, 1) := by decide +kernel
theorem dX12_may_58 : decode cX12_may 58 = .ok (.iload 6, 2) := by decide +kernel
theorem dX12_may_60 : decode cX12_may 60 = .ok (.imul, 1) := by decide +kernel
theorem dX12_may_61 : decode cX12_may 61 = .ok (.iadd, 1) := by decide +kernel
theorem dX12_may_62 : decode cX12_may 62 = .ok (.iaload, 1) := by decide +kernel
theorem dX12_may_63 : decode cX12_may 63 = .ok (.iload_n 1, 1) := by decide +kernel
theorem dX12_may_64 : decode cX12_may 64 = .ok (.if_icmp .eq 21, 3) := by decide +kernel
theorem dX12_may_67 : decode cX12_may 67 = .ok (.aload_n 0, 1) := by decide +kernel
theorem dX12_may_68 : decode cX12_may 68 = .ok (.getfield 7, 3) := by decide +kernel
theorem dX12_may_71 : decode cX12_may 71 = .ok (.bipush 81, 2) := by decide +kernel
theorem dX12_may_73 : decode cX12_may 73 = .ok (.iconst 4, 1) := by decide +kernel
theorem dX12_may_74 : decode cX12_may 74 = .ok (.iload 6, 2) := by decide +kernel
theorem dX12_may_76 : decode cX12_may 76 = .ok (.imul, 1) := by decide +kernel
theorem dX12_may_77 : decode cX12_may 77 = .ok (.iadd, 1) := by decide +kernel
theorem dX12_may_78 : decode cX12_may 78 = .ok (.iconst 1, 1) := by decide +kernel
theorem dX12_may_79 : decode cX12_may 79 = .ok (.iadd, 1) := by decide +kernel
theorem dX12_may_80 : decode cX12_may 80 = .ok (.iaload, 1) := by decide +kernel
theorem dX12_may_81 : decode cX12_may 81 = .ok (.iload_n 1, 1) := by decide +kernel
theorem dX12_may_82 : decode cX12_may 82 = .ok (.if_icmp .ne 7, 3) := by decide +kernel
theorem dX12_may_85 : decode cX12_may 85 = .ok (.iconst 1, 1) := by decide +kernel
theorem dX12_may_86 : decode cX12_may 86 = .ok (.goto 4, 3) := by decide +kernel
theorem dX12_may_89 : decode cX12_may 89 = .ok (.iconst 0, 1) := by decide +kernel
theorem dX12_may_90 : decode cX12_may 90 = .ok (.istore 7, 2) := by decide +kernel
theorem dX12_may_92 : decode cX12_may 92 = .ok (.iload 5, 2) := by decide +kernel
theorem dX12_may_94 : decode cX12_may 94 = .ok (.ifCond .eq 42, 3) := by decide +kernel
theorem dX12_may_97 : decode cX12_may 97 = .ok (.iload 7, 2) := by decide +kernel
theorem dX12_may_99 : decode cX12_may 99 = .ok (.ifCond .eq 33, 3) := by decide +kernel
theorem dX12_may_102 : decode cX12_may 102 = .ok (.aload_n 0, 1) := by decide +kernel
theorem dX12_may_103 : decode cX12_may 103 = .ok (.getfield 7, 3) := by decide +kernel
theorem dX12_may_106 : decode cX12_may 106 = .ok (.bipush 81, 2) := by decide +kernel
theorem dX12_may_108 : decode cX12_may 108 = .ok (.iconst 4, 1) := by decide +kernel
theorem dX12_may_109 : decode cX12_may 109 = .ok (.iload 6, 2) := by decide +kernel
theorem dX12_may_111 : decode cX12_may 111 = .ok (.imul, 1) := by decide +kernel
theorem dX12_may_112 : decode cX12_may 112 = .ok (.iadd, 1) := by decide +kernel
theorem dX12_may_113 : decode cX12_may 113 = .ok (.iconst 2, 1) := by decide +kernel
theorem dX12_may_114 : decode cX12_may 114 = .ok (.iadd, 1) := by decide +kernel
theorem dX12_may_115 : decode cX12_may 115 = .ok (.iaload, 1) := by decide +kernel
theorem dX12_may_116 : decode cX12_may 116 = .ok (.iload_n 2, 1) := by decide +kernel
theorem dX12_may_117 : decode cX12_may 117 = .ok (.if_icmp .ne 15, 3) := by decide +kernel
theorem dX12_may_120 : decode cX12_may 120 = .ok (.aload_n 0, 1) := by decide +kernel
theorem dX12_may_121 : decode cX12_may 121 = .ok (.iload 6, 2) := by decide +kernel
theorem dX12_may_123 : decode cX12_may 123 = .ok (.iload_n 1, 1) := by decide +kernel
theorem dX12_may_124 : decode cX12_may 124 = .ok (.iload 4, 2) := by decide +kernel
theorem dX12_may_126 : decode cX12_may 126 = .ok (.invokevirtual 172, 3) := by decide +kernel
theorem dX12_may_129 : decode cX12_may 129 = .ok (.ifCond .eq 7, 3) := by decide +kernel
theorem dX12_may_132 : decode cX12_may 132 = .ok (.iconst 1, 1) := by decide +kernel
theorem dX12_may_133 : decode cX12_may 133 = .ok (.goto 4, 3) := by decide +kernel
theorem dX12_may_136 : decode cX12_may 136 = .ok (.iconst 0, 1) := by decide +kernel
theorem dX12_may_137 : decode cX12_may 137 = .ok (.istore 5, 2) := by decide +kernel
theorem dX12_may_139 : decode cX12_may 139 = .ok (.iinc 6 1, 3) := by decide +kernel
theorem dX12_may_142 : decode cX12_may 142 = .ok (.goto (-102), 3) := by decide +kernel
theorem dX12_may_145 : decode cX12_may 145 = .ok (.iload_n 3, 1) := by decide +kernel
theorem dX12_may_146 : decode cX12_may 146 = .ok (.iload 5, 2) := by decide +kernel
theorem dX12_may_148 : decode cX12_may 148 = .ok (.ifCond .eq 10, 3) := by decide +kernel
theorem dX12_may_151 : decode cX12_may 151 = .ok (.iconst 1, 1) := by decide +kernel
theorem dX12_may_152 : decode cX12_may 152 = .ok (.iload 4, 2) := by decide +kernel
theorem dX12_may_154 : decode cX12_may 154 = .ok (.ishl, 1) := by decide +kernel
theorem dX12_may_155 : decode cX12_may 155 = .ok (.goto 4, 3) := by decide +kernel
theorem dX12_may_158 : decode cX12_may 158 = .ok (.iconst 0, 1) := by decide +kernel
theorem dX12_may_159 : decode cX12_may 159 = .ok (.ior, 1) := by decide +kernel
theorem dX12_may_160 : decode cX12_may 160 = .ok (.istore_n 3, 1) := by decide +kernel
theorem dX12_may_161 : decode cX12_may 161 = .ok (.iinc 4 1, 3) := by decide +kernel
theorem dX12_may_164 : decode cX12_may 164 = .ok (.goto (-137), 3) := by decide +kernel
theorem dX12_may_167 : decode cX12_may 167 = .ok (.iload_n 3, 1) := by decide +kernel
theorem dX12_may_168 : decode cX12_may 168 = .ok (.ireturn, 1) := by decide +kernel
theorem dX12_clash_0 : decode cX12_clash 0 = .ok (.iconst 0, 1) := by decide +kernel
theorem dX12_clash_1 : decode cX12_clash 1 = .ok (.istore_n 1, 1) := by decide +kernel
theorem dX12_clash_2 : decode cX12_clash 2 = .ok (.iconst 0, 1) := by decide +kernel
theorem dX12_clash_3 : decode cX12_clash 3 = .ok (.istore_n 2, 1) := by decide +kernel
theorem dX12_clash_4 : decode cX12_clash 4 = .ok (.iload_n 2, 1) := by decide +kernel
theorem dX12_clash_5 : decode cX12_clash 5 = .ok (.aload_n 0, 1) := by decide +kernel
theorem dX12_clash_6 : decode cX12_clash 6 = .ok (.getfield 7, 3) := by decide +kernel
theorem dX12_clash_9 : decode cX12_clash 9 = .ok (.iconst 2, 1) := by decide +kernel
theorem dX12_clash_10 : decode cX12_clash 10 = .ok (.iaload, 1) := by decide +kernel
theorem dX12_clash_11 : decode cX12_clash 11 = .ok (.if_icmp .ge 27, 3) := by decide +kernel
theorem dX12_clash_14 : decode cX12_clash 14 = .ok (.iload_n 1, 1) := by decide +kernel
theorem dX12_clash_15 : decode cX12_clash 15 = .ok (.aload_n 0, 1) := by decide +kernel
theorem dX12_clash_16 : decode cX12_clash 16 = .ok (.iload_n 2, 1) := by decide +kernel
theorem dX12_clash_17 : decode cX12_clash 17 = .ok (.iconst (-1), 1) := by decide +kernel
theorem dX12_clash_18 : decode cX12_clash 18 = .ok (.iconst 0, 1) := by decide +kernel
theorem dX12_clash_19 : decode cX12_clash 19 = .ok (.invokevirtual 172, 3) := by decide +kernel
theorem dX12_clash_22 : decode cX12_clash 22 = .ok (.ifCond .eq 7, 3) := by decide +kernel
theorem dX12_clash_25 : decode cX12_clash 25 = .ok (.iconst 0, 1) := by decide +kernel
theorem dX12_clash_26 : decode cX12_clash 26 = .ok (.goto 4, 3) := by decide +kernel
theorem dX12_clash_29 : decode cX12_clash 29 = .ok (.iconst 1, 1) := by decide +kernel
theorem dX12_clash_30 : decode cX12_clash 30 = .ok (.iadd, 1) := by decide +kernel
theorem dX12_clash_31 : decode cX12_clash 31 = .ok (.istore_n 1, 1) := by decide +kernel
theorem dX12_clash_32 : decode cX12_clash 32 = .ok (.iinc 2 1, 3) := by decide +kernel
theorem dX12_clash_35 : decode cX12_clash 35 = .ok (.goto (-31), 3) := by decide +kernel
theorem dX12_clash_38 : decode cX12_clash 38 = .ok (.iload_n 1, 1) := by decide +kernel
theorem dX12_clash_39 : decode cX12_clash 39 = .ok (.ireturn, 1) := by decide +kernel
theorem dX12_fraction_0 : decode cX12_fraction 0 = .ok (.lload_n 1, 1) := by decide +kernel
theorem dX12_fraction_1 : decode cX12_fraction 1 = .ok (.lstore 5, 2) := by decide +kernel
theorem dX12_fraction_3 : decode cX12_fraction 3 = .ok (.lload_n 3, 1) := by decide +kernel
theorem dX12_fraction_4 : decode cX12_fraction 4 = .ok (.lstore 7, 2) := by decide +kernel
theorem dX12_fraction_6 : decode cX12_fraction 6 = .ok (.lload 7, 2) := by decide +kernel
theorem dX12_fraction_8 : decode cX12_fraction 8 = .ok (.lconst 0, 1) := by decide +kernel
theorem dX12_fraction_9 : decode cX12_fraction 9 = .ok (.lcmp, 1) := by decide +kernel
theorem dX12_fraction_10 : decode cX12_fraction 10 = .ok (.ifCond .eq 21, 3) := by decide +kernel
theorem dX12_fraction_13 : decode cX12_fraction 13 = .ok (.lload 5, 2) := by decide +kernel
theorem dX12_fraction_15 : decode cX12_fraction 15 = .ok (.lload 7, 2) := by decide +kernel
theorem dX12_fraction_17 : decode cX12_fraction 17 = .ok (.lrem, 1) := by decide +kernel
theorem dX12_fraction_18 : decode cX12_fraction 18 = .ok (.lstore 9, 2) := by decide +kernel
theorem dX12_fraction_20 : decode cX12_fraction 20 = .ok (.lload 7, 2) := by decide +kernel
theorem dX12_fraction_22 : decode cX12_fraction 22 = .ok (.lstore 5, 2) := by decide +kernel
theorem dX12_fraction_24 : decode cX12_fraction 24 = .ok (.lload 9, 2) := by decide +kernel
theorem dX12_fraction_26 : decode cX12_fraction 26 = .ok (.lstore 7, 2) := by decide +kernel
theorem dX12_fraction_28 : decode cX12_fraction 28 = .ok (.goto (-22), 3) := by decide +kernel
theorem dX12_fraction_31 : decode cX12_fraction 31 = .ok (.aload_n 0, 1) := by decide +kernel
theorem dX12_fraction_32 : decode cX12_fraction 32 = .ok (.lload_n 1, 1) := by decide +kernel
theorem dX12_fraction_33 : decode cX12_fraction 33 = .ok (.lload 5, 2) := by decide +kernel
theorem dX12_fraction_35 : decode cX12_fraction 35 = .ok (.ldiv, 1) := by decide +kernel
theorem dX12_fraction_36 : decode cX12_fraction 36 = .ok (.putfield 175, 3) := by decide +kernel
theorem dX12_fraction_39 : decode cX12_fraction 39 = .ok (.aload_n 0, 1) := by decide +kernel
theorem dX12_fraction_40 : decode cX12_fraction 40 = .ok (.lload_n 3, 1) := by decide +kernel
theorem dX12_fraction_41 : decode cX12_fraction 41 = .ok (.lload 5, 2) := by decide +kernel
theorem dX12_fraction_43 : decode cX12_fraction 43 = .ok (.ldiv, 1) := by decide +kernel
theorem dX12_fraction_44 : decode cX12_fraction 44 = .ok (.putfield 23, 3) := by decide +kernel
theorem dX12_fraction_47 : decode cX12_fraction 47 = .ok (.return_, 1) := by decide +kernel
theorem dX12_odds_0 : decode cX12_odds 0 = .ok (.aload_n 0, 1) := by decide +kernel
theorem dX12_odds_1 : decode cX12_odds 1 = .ok (.iload_n 1, 1) := by decide +kernel
theorem dX12_odds_2 : decode cX12_odds 2 = .ok (.invokevirtual 143, 3) := by decide +kernel
theorem dX12_odds_5 : decode cX12_odds 5 = .ok (.ifCond .eq 11, 3) := by decide +kernel
theorem dX12_odds_8 : decode cX12_odds 8 = .ok (.aload_n 0, 1) := by decide +kernel
theorem dX12_odds_9 : decode cX12_odds 9 = .ok (.iload_n 2, 1) := by decide +kernel
theorem dX12_odds_10 : decode cX12_odds 10 = .ok (.invokevirtual 148, 3) := by decide +kernel
theorem dX12_odds_13 : decode cX12_odds 13 = .ok (.ifCond .ne 10, 3) := by decide +kernel
theorem dX12_odds_16 : decode cX12_odds 16 = .ok (.aload_n 0, 1) := by decide +kernel
theorem dX12_odds_17 : decode cX12_odds 17 = .ok (.bipush (-2), 2) := by decide +kernel
theorem dX12_odds_19 : decode cX12_odds 19 = .ok (.invokevirtual 82, 3) := by decide +kernel
theorem dX12_odds_22 : decode cX12_odds 22 = .ok (.ireturn, 1) := by decide +kernel
theorem dX12_odds_23 : decode cX12_odds 23 = .ok (.aload_n 0, 1) := by decide +kernel
theorem dX12_odds_24 : decode cX12_odds 24 = .ok (.invokevirtual 140, 3) := by decide +kernel
theorem dX12_odds_27 : decode cX12_odds 27 = .ok (.aload_n 0, 1) := by decide +kernel
theorem dX12_odds_28 : decode cX12_odds 28 = .ok (.iload_n 2, 1) := by decide +kernel
theorem dX12_odds_29 : decode cX12_odds 29 = .ok (.invokevirtual 151, 3) := by decide +kernel
theorem dX12_odds_32 : decode cX12_odds 32 = .ok (.iconst 0, 1) := by decide +kernel
theorem dX12_odds_33 : decode cX12_odds 33 = .ok (.istore_n 3, 1) := by decide +kernel
theorem dX12_odds_34 : decode cX12_odds 34 = .ok (.iconst 0, 1) := by decide +kernel
theorem dX12_odds_35 : decode cX12_odds 35 = .ok (.istore 4, 2) := by decide +kernel
theorem dX12_odds_37 : decode cX12_odds 37 = .ok (.iload 4, 2) := by decide +kernel
theorem dX12_odds_39 : decode cX12_odds 39 = .ok (.aload_n 0, 1) := by decide +kernel
theorem dX12_odds_40 : decode cX12_odds 40 = .ok (.invokevirtual 61, 3) := by decide +kernel
theorem dX12_odds_43 : decode cX12_odds 43 = .ok (.if_icmp .ge 39, 3) := by decide +kernel
theorem dX12_odds_46 : decode cX12_odds 46 = .ok (.iload_n 3, 1) := by decide +kernel
theorem dX12_odds_47 : decode cX12_odds 47 = .ok (.aload_n 0, 1) := by decide +kernel
theorem dX12_odds_48 : decode cX12_odds 48 = .ok (.iload 4, 2) := by decide +kernel
theorem dX12_odds_50 : decode cX12_odds 50 = .ok (.iload_n 2, 1) := by decide +kernel
theorem dX12_odds_51 : decode cX12_odds 51 = .ok (.invokevirtual 121, 3) := by decide +kernel
theorem dX12_odds_54 : decode cX12_odds 54 = .ok (.ifCond .eq 19, 3) := by decide +kernel
theorem dX12_odds_57 : decode cX12_odds 57 = .ok (.aload_n 0, 1) := by decide +kernel
theorem dX12_odds_58 : decode cX12_odds 58 = .ok (.iload 4, 2) := by decide +kernel
theorem dX12_odds_60 : decode cX12_odds 60 = .ok (.aload_n 0, 1) := by decide +kernel
theorem dX12_odds_61 : decode cX12_odds 61 = .ok (.getfield 33, 3) := by decide +kernel
theorem dX12_odds_64 : decode cX12_odds 64 = .ok (.iload_n 2, 1) := by decide +kernel
theorem dX12_odds_65 : decode cX12_odds 65 = .ok (.iaload, 1) := by decide +kernel
theorem dX12_odds_66 : decode cX12_odds 66 = .ok (.iload_n 2, 1) := by decide +kernel
theorem dX12_odds_67 : decode cX12_odds 67 = .ok (.invokevirtual 118, 3) := by decide +kernel
theorem dX12_odds_70 : decode cX12_odds 70 = .ok (.goto 4, 3) := by decide +kernel
theorem dX12_odds_73 : decode cX12_odds 73 = .ok (.iconst 0, 1) := by decide +kernel
theorem dX12_odds_74 : decode cX12_odds 74 = .ok (.iadd, 1) := by decide +kernel
theorem dX12_odds_75 : decode cX12_odds 75 = .ok (.istore_n 3, 1) := by decide +kernel
theorem dX12_odds_76 : decode cX12_odds 76 = .ok (.iinc 4 1, 3) := by decide +kernel
theorem dX12_odds_79 : decode cX12_odds 79 = .ok (.goto (-42), 3) := by decide +kernel
theorem dX12_odds_82 : decode cX12_odds 82 = .ok (.aload_n 0, 1) := by decide +kernel
theorem dX12_odds_83 : decode cX12_odds 83 = .ok (.iload_n 1, 1) := by decide +kernel
theorem dX12_odds_84 : decode cX12_odds 84 = .ok (.iload_n 2, 1) := by decide +kernel
theorem dX12_odds_85 : decode cX12_odds 85 = .ok (.invokevirtual 121, 3) := by decide +kernel
theorem dX12_odds_88 : decode cX12_odds 88 = .ok (.ifCond .eq 25, 3) := by decide +kernel
theorem dX12_odds_91 : decode cX12_odds 91 = .ok (.aload_n 0, 1) := by decide +kernel
theorem dX12_odds_92 : decode cX12_odds 92 = .ok (.aload_n 0, 1) := by decide +kernel
theorem dX12_odds_93 : decode cX12_odds 93 = .ok (.iload_n 1, 1) := by decide +kernel
theorem dX12_odds_94 : decode cX12_odds 94 = .ok (.aload_n 0, 1) := by decide +kernel
theorem dX12_odds_95 : decode cX12_odds 95 = .ok (.getfield 33, 3) := by decide +kernel
theorem dX12_odds_98 : decode cX12_odds 98 = .ok (.iload_n 2, 1) := by decide +kernel
theorem dX12_odds_99 : decode cX12_odds 99 = .ok (.iaload, 1) := by decide +kernel
theorem dX12_odds_100 : decode cX12_odds 100 = .ok (.iload_n 2, 1) := by decide +kernel
theorem dX12_odds_101 : decode cX12_odds 101 = .ok (.invokevirtual 118, 3) := by decide +kernel
theorem dX12_odds_104 : decode cX12_odds 104 = .ok (.i2l, 1) := by decide +kernel
theorem dX12_odds_105 : decode cX12_odds 105 = .ok (.iload_n 3, 1) := by decide +kernel
theorem dX12_odds_106 : decode cX12_odds 106 = .ok (.i2l, 1) := by decide +kernel
theorem dX12_odds_107 : decode cX12_odds 107 = .ok (.invokevirtual 178, 3) := by decide +kernel
theorem dX12_odds_110 : decode cX12_odds 110 = .ok (.goto 9, 3) := by decide +kernel
theorem dX12_odds_113 : decode cX12_odds 113 = .ok (.aload_n 0, 1) := by decide +kernel
theorem dX12_odds_114 : decode cX12_odds 114 = .ok (.lconst 0, 1) := by decide +kernel
theorem dX12_odds_115 : decode cX12_odds 115 = .ok (.lconst 1, 1) := by decide +kernel
theorem dX12_odds_116 : decode cX12_odds 116 = .ok (.invokevirtual 178, 3) := by decide +kernel
theorem dX12_odds_119 : decode cX12_odds 119 = .ok (.iconst 1, 1) := by decide +kernel
theorem dX12_odds_120 : decode cX12_odds 120 = .ok (.ireturn, 1) := by decide +kernel
theorem dX12_valleys_0 : decode cX12_valleys 0 = .ok (.iload_n 1, 1) := by decide +kernel
theorem dX12_valleys_1 : decode cX12_valleys 1 = .ok (.i2l, 1) := by decide +kernel
theorem dX12_valleys_2 : decode cX12_valleys 2 = .ok (.lconst 0, 1) := by decide +kernel
theorem dX12_valleys_3 : decode cX12_valleys 3 = .ok (.ldc2_w 182, 3) := by decide +kernel
theorem dX12_valleys_6 : decode cX12_valleys 6 = .ok (.invokestatic 65, 3) := by decide +kernel
theorem dX12_valleys_9 : decode cX12_valleys 9 = .ok (.ifCond .eq 15, 3) := by decide +kernel
theorem dX12_valleys_12 : decode cX12_valleys 12 = .ok (.iload_n 2, 1) := by decide +kernel
theorem dX12_valleys_13 : decode cX12_valleys 13 = .ok (.i2l, 1) := by decide +kernel
theorem dX12_valleys_14 : decode cX12_valleys 14 = .ok (.lconst 0, 1) := by decide +kernel
theorem dX12_valleys_15 : decode cX12_valleys 15 = .ok (.ldc2_w 184, 3) := by decide +kernel
theorem dX12_valleys_18 : decode cX12_valleys 18 = .ok (.invokestatic 65, 3) := by decide +kernel
theorem dX12_valleys_21 : decode cX12_valleys 21 = .ok (.ifCond .ne 10, 3) := by decide +kernel
theorem dX12_valleys_24 : decode cX12_valleys 24 = .ok (.aload_n 0, 1) := by decide +kernel
theorem dX12_valleys_25 : decode cX12_valleys 25 = .ok (.bipush (-2), 2) := by decide +kernel
theorem dX12_valleys_27 : decode cX12_valleys 27 = .ok (.invokevirtual 82, 3) := by decide +kernel
theorem dX12_valleys_30 : decode cX12_valleys 30 = .ok (.ireturn, 1) := by decide +kernel
theorem dX12_valleys_31 : decode cX12_valleys 31 = .ok (.iload_n 1, 1) := by decide +kernel
theorem dX12_valleys_32 : decode cX12_valleys 32 = .ok (.i2l, 1) := by decide +kernel
theorem dX12_valleys_33 : decode cX12_valleys 33 = .ok (.lstore_n 3, 1) := by decide +kernel
theorem dX12_valleys_34 : decode cX12_valleys 34 = .ok (.iconst 0, 1) := by decide +kernel
theorem dX12_valleys_35 : decode cX12_valleys 35 = .ok (.istore 5, 2) := by decide +kernel
theorem dX12_valleys_37 : decode cX12_valleys 37 = .ok (.iconst 0, 1) := by decide +kernel
theorem dX12_valleys_38 : decode cX12_valleys 38 = .ok (.istore 6, 2) := by decide +kernel
theorem dX12_valleys_40 : decode cX12_valleys 40 = .ok (.iload 6, 2) := by decide +kernel
theorem dX12_valleys_42 : decode cX12_valleys 42 = .ok (.iload_n 2, 1) := by decide +kernel
theorem dX12_valleys_43 : decode cX12_valleys 43 = .ok (.if_icmp .ge 131, 3) := by decide +kernel
theorem dX12_valleys_46 : decode cX12_valleys 46 = .ok (.aload_n 0, 1) := by decide +kernel
theorem dX12_valleys_47 : decode cX12_valleys 47 = .ok (.invokevirtual 140, 3) := by decide +kernel
theorem dX12_valleys_50 : decode cX12_valleys 50 = .ok (.aload_n 0, 1) := by decide +kernel
theorem dX12_valleys_51 : decode cX12_valleys 51 = .ok (.getfield 7, 3) := by decide +kernel
theorem dX12_valleys_54 : decode cX12_valleys 54 = .ok (.iconst 4, 1) := by decide +kernel
theorem dX12_valleys_55 : decode cX12_valleys 55 = .ok (.iaload, 1) := by decide +kernel
theorem dX12_valleys_56 : decode cX12_valleys 56 = .ok (.istore 7, 2) := by decide +kernel
theorem dX12_valleys_58 : decode cX12_valleys 58 = .ok (.iload 7, 2) := by decide +kernel
theorem dX12_valleys_60 : decode cX12_valleys 60 = .ok (.bipush 8, 2) := by decide +kernel
theorem dX12_valleys_62 : decode cX12_valleys 62 = .ok (.if_icmp .ge 59, 3) := by decide +kernel
theorem dX12_valleys_65 : decode cX12_valleys 65 = .ok (.lload_n 3, 1) := by decide +kernel
theorem dX12_valleys_66 : decode cX12_valleys 66 = .ok (.ldc2_w 186, 3) := by decide +kernel
theorem dX12_valleys_69 : decode cX12_valleys 69 = .ok (.lmul, 1) := by decide +kernel
theorem dX12_valleys_70 : decode cX12_valleys 70 = .ok (.ldc2_w 188, 3) := by decide +kernel
theorem dX12_valleys_73 : decode cX12_valleys 73 = .ok (.ladd, 1) := by decide +kernel
theorem dX12_valleys_74 : decode cX12_valleys 74 = .ok (.ldc2_w 190, 3) := by decide +kernel
theorem dX12_valleys_77 : decode cX12_valleys 77 = .ok (.lrem, 1) := by decide +kernel
theorem dX12_valleys_78 : decode cX12_valleys 78 = .ok (.lstore_n 3, 1) := by decide +kernel
theorem dX12_valleys_79 : decode cX12_valleys 79 = .ok (.aload_n 0, 1) := by decide +kernel
theorem dX12_valleys_80 : decode cX12_valleys 80 = .ok (.getfield 33, 3) := by decide +kernel
theorem dX12_valleys_83 : decode cX12_valleys 83 = .ok (.iload 7, 2) := by decide +kernel
theorem dX12_valleys_85 : decode cX12_valleys 85 = .ok (.lload_n 3, 1) := by decide +kernel
theorem dX12_valleys_86 : decode cX12_valleys 86 = .ok (.ldc2_w 192, 3) := by decide +kernel
theorem dX12_valleys_89 : decode cX12_valleys 89 = .ok (.ldiv, 1) := by decide +kernel
theorem dX12_valleys_90 : decode cX12_valleys 90 = .ok (.ldc2_w 194, 3) := by decide +kernel
theorem dX12_valleys_93 : decode cX12_valleys 93 = .ok (.lrem, 1) := by decide +kernel
theorem dX12_valleys_94 : decode cX12_valleys 94 = .ok (.l2i, 1) := by decide +kernel
theorem dX12_valleys_95 : decode cX12_valleys 95 = .ok (.iastore, 1) := by decide +kernel
theorem dX12_valleys_96 : decode cX12_valleys 96 = .ok (.aload_n 0, 1) := by decide +kernel
theorem dX12_valleys_97 : decode cX12_valleys 97 = .ok (.getfield 36, 3) := by decide +kernel
theorem dX12_valleys_100 : decode cX12_valleys 100 = .ok (.iload 7, 2) := by decide +kernel
theorem dX12_valleys_102 : decode cX12_valleys 102 = .ok (.lload_n 3, 1) := by decide +kernel
theorem dX12_valleys_103 : decode cX12_valleys 103 = .ok (.ldc2_w 196, 3) := by decide +kernel
theorem dX12_valleys_106 : decode cX12_valleys 106 = .ok (.ldiv, 1) := by decide +kernel
theorem dX12_valleys_107 : decode cX12_valleys 107 = .ok (.ldc2_w 80, 3) := by decide +kernel
theorem dX12_valleys_110 : decode cX12_valleys 110 = .ok (.lrem, 1) := by decide +kernel
theorem dX12_valleys_111 : decode cX12_valleys 111 = .ok (.l2i, 1) := by decide +kernel
theorem dX12_valleys_112 : decode cX12_valleys 112 = .ok (.iconst 1, 1) := by decide +kernel
theorem dX12_valleys_113 : decode cX12_valleys 113 = .ok (.iadd, 1) := by decide +kernel
theorem dX12_valleys_114 : decode cX12_valleys 114 = .ok (.iastore, 1) := by decide +kernel
theorem dX12_valleys_115 : decode cX12_valleys 115 = .ok (.iinc 7 1, 3) := by decide +kernel
end
section
theorem dX12_valleys_118 : decode cX12_valleys 118 = .ok (.goto (-60), 3) := by decide +kernel
theorem dX12_valleys_121 : decode cX12_valleys 121 = .ok (.aload_n 0, 1) := by decide +kernel
theorem dX12_valleys_122 : decode cX12_valleys 122 = .ok (.getfield 7, 3) := by decide +kernel
theorem dX12_valleys_125 : decode cX12_valleys 125 = .ok (.iconst 4, 1) := by decide +kernel
theorem dX12_valleys_126 : decode cX12_valleys 126 = .ok (.iaload, 1) := by decide +kernel
theorem dX12_valleys_127 : decode cX12_valleys 127 = .ok (.istore 7, 2) := by decide +kernel
theorem dX12_valleys_129 : decode cX12_valleys 129 = .ok (.iload 7, 2) := by decide +kernel
theorem dX12_valleys_131 : decode cX12_valleys 131 = .ok (.bipush 8, 2) := by decide +kernel
theorem dX12_valleys_133 : decode cX12_valleys 133 = .ok (.if_icmp .ge 35, 3) := by decide +kernel
theorem dX12_valleys_136 : decode cX12_valleys 136 = .ok (.iload 5, 2) := by decide +kernel
theorem dX12_valleys_138 : decode cX12_valleys 138 = .ok (.aload_n 0, 1) := by decide +kernel
theorem dX12_valleys_139 : decode cX12_valleys 139 = .ok (.iload 7, 2) := by decide +kernel
theorem dX12_valleys_141 : decode cX12_valleys 141 = .ok (.invokevirtual 128, 3) := by decide +kernel
theorem dX12_valleys_144 : decode cX12_valleys 144 = .ok (.iconst (-1), 1) := by decide +kernel
theorem dX12_valleys_145 : decode cX12_valleys 145 = .ok (.if_icmp .ne 7, 3) := by decide +kernel
theorem dX12_valleys_148 : decode cX12_valleys 148 = .ok (.iconst 0, 1) := by decide +kernel
theorem dX12_valleys_149 : decode cX12_valleys 149 = .ok (.goto 10, 3) := by decide +kernel
theorem dX12_valleys_152 : decode cX12_valleys 152 = .ok (.aload_n 0, 1) := by decide +kernel
theorem dX12_valleys_153 : decode cX12_valleys 153 = .ok (.getfield 36, 3) := by decide +kernel
theorem dX12_valleys_156 : decode cX12_valleys 156 = .ok (.iload 7, 2) := by decide +kernel
theorem dX12_valleys_158 : decode cX12_valleys 158 = .ok (.iaload, 1) := by decide +kernel
theorem dX12_valleys_159 : decode cX12_valleys 159 = .ok (.iadd, 1) := by decide +kernel
theorem dX12_valleys_160 : decode cX12_valleys 160 = .ok (.istore 5, 2) := by decide +kernel
theorem dX12_valleys_162 : decode cX12_valleys 162 = .ok (.iinc 7 1, 3) := by decide +kernel
theorem dX12_valleys_165 : decode cX12_valleys 165 = .ok (.goto (-36), 3) := by decide +kernel
theorem dX12_valleys_168 : decode cX12_valleys 168 = .ok (.iinc 6 1, 3) := by decide +kernel
theorem dX12_valleys_171 : decode cX12_valleys 171 = .ok (.goto (-131), 3) := by decide +kernel
theorem dX12_valleys_174 : decode cX12_valleys 174 = .ok (.iload 5, 2) := by decide +kernel
theorem dX12_valleys_176 : decode cX12_valleys 176 = .ok (.ireturn, 1) := by decide +kernel
theorem dX12_type_0 : decode cX12_type 0 = .ok (.iload_n 1, 1) := by decide +kernel
theorem dX12_type_1 : decode cX12_type 1 = .ok (.i2l, 1) := by decide +kernel
theorem dX12_type_2 : decode cX12_type 2 = .ok (.lconst 0, 1) := by decide +kernel
theorem dX12_type_3 : decode cX12_type 3 = .ok (.ldc2_w 198, 3) := by decide +kernel
theorem dX12_type_6 : decode cX12_type 6 = .ok (.invokestatic 65, 3) := by decide +kernel
theorem dX12_type_9 : decode cX12_type 9 = .ok (.ifCond .ne 10, 3) := by decide +kernel
theorem dX12_type_12 : decode cX12_type 12 = .ok (.aload_n 0, 1) := by decide +kernel
theorem dX12_type_13 : decode cX12_type 13 = .ok (.bipush (-2), 2) := by decide +kernel
theorem dX12_type_15 : decode cX12_type 15 = .ok (.invokevirtual 82, 3) := by decide +kernel
theorem dX12_type_18 : decode cX12_type 18 = .ok (.ireturn, 1) := by decide +kernel
theorem dX12_type_19 : decode cX12_type 19 = .ok (.aload_n 0, 1) := by decide +kernel
theorem dX12_type_20 : decode cX12_type 20 = .ok (.getfield 200, 3) := by decide +kernel
theorem dX12_type_23 : decode cX12_type 23 = .ok (.sipush 150, 3) := by decide +kernel
theorem dX12_type_26 : decode cX12_type 26 = .ok (.if_icmp .ne 8, 3) := by decide +kernel
theorem dX12_type_29 : decode cX12_type 29 = .ok (.aload_n 0, 1) := by decide +kernel
theorem dX12_type_30 : decode cX12_type 30 = .ok (.invokevirtual 90, 3) := by decide +kernel
theorem dX12_type_33 : decode cX12_type 33 = .ok (.ireturn, 1) := by decide +kernel
theorem dX12_type_34 : decode cX12_type 34 = .ok (.aload_n 0, 1) := by decide +kernel
theorem dX12_type_35 : decode cX12_type 35 = .ok (.getfield 48, 3) := by decide +kernel
theorem dX12_type_38 : decode cX12_type 38 = .ok (.aload_n 0, 1) := by decide +kernel
theorem dX12_type_39 : decode cX12_type 39 = .ok (.getfield 200, 3) := by decide +kernel
theorem dX12_type_42 : decode cX12_type 42 = .ok (.iload_n 1, 1) := by decide +kernel
theorem dX12_type_43 : decode cX12_type 43 = .ok (.iastore, 1) := by decide +kernel
theorem dX12_type_44 : decode cX12_type 44 = .ok (.aload_n 0, 1) := by decide +kernel
theorem dX12_type_45 : decode cX12_type 45 = .ok (.dup, 1) := by decide +kernel
theorem dX12_type_46 : decode cX12_type 46 = .ok (.getfield 200, 3) := by decide +kernel
theorem dX12_type_49 : decode cX12_type 49 = .ok (.iconst 1, 1) := by decide +kernel
theorem dX12_type_50 : decode cX12_type 50 = .ok (.iadd, 1) := by decide +kernel
theorem dX12_type_51 : decode cX12_type 51 = .ok (.putfield 200, 3) := by decide +kernel
theorem dX12_type_54 : decode cX12_type 54 = .ok (.aload_n 0, 1) := by decide +kernel
theorem dX12_type_55 : decode cX12_type 55 = .ok (.getfield 200, 3) := by decide +kernel
theorem dX12_type_58 : decode cX12_type 58 = .ok (.ireturn, 1) := by decide +kernel
theorem dX12_clear_0 : decode cX12_clear 0 = .ok (.aload_n 0, 1) := by decide +kernel
theorem dX12_clear_1 : decode cX12_clear 1 = .ok (.getfield 200, 3) := by decide +kernel
theorem dX12_clear_4 : decode cX12_clear 4 = .ok (.istore_n 1, 1) := by decide +kernel
theorem dX12_clear_5 : decode cX12_clear 5 = .ok (.aload_n 0, 1) := by decide +kernel
theorem dX12_clear_6 : decode cX12_clear 6 = .ok (.iconst 0, 1) := by decide +kernel
theorem dX12_clear_7 : decode cX12_clear 7 = .ok (.putfield 200, 3) := by decide +kernel
theorem dX12_clear_10 : decode cX12_clear 10 = .ok (.iload_n 1, 1) := by decide +kernel
theorem dX12_clear_11 : decode cX12_clear 11 = .ok (.ireturn, 1) := by decide +kernel
theorem dX12_isSmall_0 : decode cX12_isSmall 0 = .ok (.iload_n 0, 1) := by decide +kernel
theorem dX12_isSmall_1 : decode cX12_isSmall 1 = .ok (.i2l, 1) := by decide +kernel
theorem dX12_isSmall_2 : decode cX12_isSmall 2 = .ok (.ldc2_w 204, 3) := by decide +kernel
theorem dX12_isSmall_5 : decode cX12_isSmall 5 = .ok (.ldc2_w 206, 3) := by decide +kernel
theorem dX12_isSmall_8 : decode cX12_isSmall 8 = .ok (.invokestatic 65, 3) := by decide +kernel
theorem dX12_isSmall_11 : decode cX12_isSmall 11 = .ok (.ireturn, 1) := by decide +kernel
theorem dX12_isFigure_0 : decode cX12_isFigure 0 = .ok (.iload_n 0, 1) := by decide +kernel
theorem dX12_isFigure_1 : decode cX12_isFigure 1 = .ok (.i2l, 1) := by decide +kernel
theorem dX12_isFigure_2 : decode cX12_isFigure 2 = .ok (.ldc2_w 208, 3) := by decide +kernel
theorem dX12_isFigure_5 : decode cX12_isFigure 5 = .ok (.ldc2_w 210, 3) := by decide +kernel
theorem dX12_isFigure_8 : decode cX12_isFigure 8 = .ok (.invokestatic 65, 3) := by decide +kernel
theorem dX12_isFigure_11 : decode cX12_isFigure 11 = .ok (.ireturn, 1) := by decide +kernel
theorem dX12_lookAt_0 : decode cX12_lookAt 0 = .ok (.aload_n 0, 1) := by decide +kernel
theorem dX12_lookAt_1 : decode cX12_lookAt 1 = .ok (.iload_n 1, 1) := by decide +kernel
theorem dX12_lookAt_2 : decode cX12_lookAt 2 = .ok (.putfield 212, 3) := by decide +kernel
theorem dX12_lookAt_5 : decode cX12_lookAt 5 = .ok (.aload_n 0, 1) := by decide +kernel
theorem dX12_lookAt_6 : decode cX12_lookAt 6 = .ok (.getfield 212, 3) := by decide +kernel
theorem dX12_lookAt_9 : decode cX12_lookAt 9 = .ok (.aload_n 0, 1) := by decide +kernel
theorem dX12_lookAt_10 : decode cX12_lookAt 10 = .ok (.getfield 200, 3) := by decide +kernel
theorem dX12_lookAt_13 : decode cX12_lookAt 13 = .ok (.if_icmp .ge 30, 3) := by decide +kernel
theorem dX12_lookAt_16 : decode cX12_lookAt 16 = .ok (.aload_n 0, 1) := by decide +kernel
theorem dX12_lookAt_17 : decode cX12_lookAt 17 = .ok (.getfield 48, 3) := by decide +kernel
theorem dX12_lookAt_20 : decode cX12_lookAt 20 = .ok (.aload_n 0, 1) := by decide +kernel
theorem dX12_lookAt_21 : decode cX12_lookAt 21 = .ok (.getfield 212, 3) := by decide +kernel
theorem dX12_lookAt_24 : decode cX12_lookAt 24 = .ok (.iaload, 1) := by decide +kernel
theorem dX12_lookAt_25 : decode cX12_lookAt 25 = .ok (.bipush 32, 2) := by decide +kernel
theorem dX12_lookAt_27 : decode cX12_lookAt 27 = .ok (.if_icmp .ne 16, 3) := by decide +kernel
theorem dX12_lookAt_30 : decode cX12_lookAt 30 = .ok (.aload_n 0, 1) := by decide +kernel
theorem dX12_lookAt_31 : decode cX12_lookAt 31 = .ok (.dup, 1) := by decide +kernel
theorem dX12_lookAt_32 : decode cX12_lookAt 32 = .ok (.getfield 212, 3) := by decide +kernel
theorem dX12_lookAt_35 : decode cX12_lookAt 35 = .ok (.iconst 1, 1) := by decide +kernel
theorem dX12_lookAt_36 : decode cX12_lookAt 36 = .ok (.iadd, 1) := by decide +kernel
theorem dX12_lookAt_37 : decode cX12_lookAt 37 = .ok (.putfield 212, 3) := by decide +kernel
theorem dX12_lookAt_40 : decode cX12_lookAt 40 = .ok (.goto (-35), 3) := by decide +kernel
theorem dX12_lookAt_43 : decode cX12_lookAt 43 = .ok (.aload_n 0, 1) := by decide +kernel
theorem dX12_lookAt_44 : decode cX12_lookAt 44 = .ok (.iconst 0, 1) := by decide +kernel
theorem dX12_lookAt_45 : decode cX12_lookAt 45 = .ok (.putfield 215, 3) := by decide +kernel
theorem dX12_lookAt_48 : decode cX12_lookAt 48 = .ok (.aload_n 0, 1) := by decide +kernel
theorem dX12_lookAt_49 : decode cX12_lookAt 49 = .ok (.iconst 0, 1) := by decide +kernel
theorem dX12_lookAt_50 : decode cX12_lookAt 50 = .ok (.putfield 218, 3) := by decide +kernel
theorem dX12_lookAt_53 : decode cX12_lookAt 53 = .ok (.aload_n 0, 1) := by decide +kernel
theorem dX12_lookAt_54 : decode cX12_lookAt 54 = .ok (.iconst 0, 1) := by decide +kernel
theorem dX12_lookAt_55 : decode cX12_lookAt 55 = .ok (.putfield 221, 3) := by decide +kernel
theorem dX12_lookAt_58 : decode cX12_lookAt 58 = .ok (.aload_n 0, 1) := by decide +kernel
theorem dX12_lookAt_59 : decode cX12_lookAt 59 = .ok (.getfield 212, 3) := by decide +kernel
theorem dX12_lookAt_62 : decode cX12_lookAt 62 = .ok (.aload_n 0, 1) := by decide +kernel
theorem dX12_lookAt_63 : decode cX12_lookAt 63 = .ok (.getfield 200, 3) := by decide +kernel
theorem dX12_lookAt_66 : decode cX12_lookAt 66 = .ok (.if_icmp .ne 4, 3) := by decide +kernel
theorem dX12_lookAt_69 : decode cX12_lookAt 69 = .ok (.return_, 1) := by decide +kernel
theorem dX12_lookAt_70 : decode cX12_lookAt 70 = .ok (.aload_n 0, 1) := by decide +kernel
theorem dX12_lookAt_71 : decode cX12_lookAt 71 = .ok (.getfield 48, 3) := by decide +kernel
theorem dX12_lookAt_74 : decode cX12_lookAt 74 = .ok (.aload_n 0, 1) := by decide +kernel
theorem dX12_lookAt_75 : decode cX12_lookAt 75 = .ok (.getfield 212, 3) := by decide +kernel
theorem dX12_lookAt_78 : decode cX12_lookAt 78 = .ok (.iaload, 1) := by decide +kernel
theorem dX12_lookAt_79 : decode cX12_lookAt 79 = .ok (.istore_n 2, 1) := by decide +kernel
theorem dX12_lookAt_80 : decode cX12_lookAt 80 = .ok (.aload_n 0, 1) := by decide +kernel
theorem dX12_lookAt_81 : decode cX12_lookAt 81 = .ok (.iload_n 2, 1) := by decide +kernel
theorem dX12_lookAt_82 : decode cX12_lookAt 82 = .ok (.invokestatic 224, 3) := by decide +kernel
theorem dX12_lookAt_85 : decode cX12_lookAt 85 = .ok (.ifCond .eq 7, 3) := by decide +kernel
theorem dX12_lookAt_88 : decode cX12_lookAt 88 = .ok (.iconst 1, 1) := by decide +kernel
theorem dX12_lookAt_89 : decode cX12_lookAt 89 = .ok (.goto 25, 3) := by decide +kernel
theorem dX12_lookAt_92 : decode cX12_lookAt 92 = .ok (.iload_n 2, 1) := by decide +kernel
theorem dX12_lookAt_93 : decode cX12_lookAt 93 = .ok (.invokestatic 227, 3) := by decide +kernel
theorem dX12_lookAt_96 : decode cX12_lookAt 96 = .ok (.ifCond .eq 7, 3) := by decide +kernel
theorem dX12_lookAt_99 : decode cX12_lookAt 99 = .ok (.iconst 2, 1) := by decide +kernel
theorem dX12_lookAt_100 : decode cX12_lookAt 100 = .ok (.goto 14, 3) := by decide +kernel
theorem dX12_lookAt_103 : decode cX12_lookAt 103 = .ok (.iload_n 2, 1) := by decide +kernel
theorem dX12_lookAt_104 : decode cX12_lookAt 104 = .ok (.bipush 59, 2) := by decide +kernel
theorem dX12_lookAt_106 : decode cX12_lookAt 106 = .ok (.if_icmp .ne 7, 3) := by decide +kernel
theorem dX12_lookAt_109 : decode cX12_lookAt 109 = .ok (.iconst 3, 1) := by decide +kernel
theorem dX12_lookAt_110 : decode cX12_lookAt 110 = .ok (.goto 4, 3) := by decide +kernel
theorem dX12_lookAt_113 : decode cX12_lookAt 113 = .ok (.iconst 4, 1) := by decide +kernel
theorem dX12_lookAt_114 : decode cX12_lookAt 114 = .ok (.putfield 218, 3) := by decide +kernel
theorem dX12_lookAt_117 : decode cX12_lookAt 117 = .ok (.aload_n 0, 1) := by decide +kernel
theorem dX12_lookAt_118 : decode cX12_lookAt 118 = .ok (.iconst 1, 1) := by decide +kernel
theorem dX12_lookAt_119 : decode cX12_lookAt 119 = .ok (.putfield 215, 3) := by decide +kernel
theorem dX12_lookAt_122 : decode cX12_lookAt 122 = .ok (.aload_n 0, 1) := by decide +kernel
theorem dX12_lookAt_123 : decode cX12_lookAt 123 = .ok (.getfield 218, 3) := by decide +kernel
theorem dX12_lookAt_126 : decode cX12_lookAt 126 = .ok (.iconst 3, 1) := by decide +kernel
theorem dX12_lookAt_127 : decode cX12_lookAt 127 = .ok (.if_icmp .ge 7, 3) := by decide +kernel
theorem dX12_lookAt_130 : decode cX12_lookAt 130 = .ok (.iconst 1, 1) := by decide +kernel
theorem dX12_lookAt_131 : decode cX12_lookAt 131 = .ok (.goto 4, 3) := by decide +kernel
theorem dX12_lookAt_134 : decode cX12_lookAt 134 = .ok (.iconst 0, 1) := by decide +kernel
theorem dX12_lookAt_135 : decode cX12_lookAt 135 = .ok (.istore_n 3, 1) := by decide +kernel
theorem dX12_lookAt_136 : decode cX12_lookAt 136 = .ok (.iload_n 3, 1) := by decide +kernel
theorem dX12_lookAt_137 : decode cX12_lookAt 137 = .ok (.ifCond .eq 78, 3) := by decide +kernel
theorem dX12_lookAt_140 : decode cX12_lookAt 140 = .ok (.aload_n 0, 1) := by decide +kernel
theorem dX12_lookAt_141 : decode cX12_lookAt 141 = .ok (.getfield 212, 3) := by decide +kernel
theorem dX12_lookAt_144 : decode cX12_lookAt 144 = .ok (.aload_n 0, 1) := by decide +kernel
theorem dX12_lookAt_145 : decode cX12_lookAt 145 = .ok (.getfield 215, 3) := by decide +kernel
theorem dX12_lookAt_148 : decode cX12_lookAt 148 = .ok (.iadd, 1) := by decide +kernel
theorem dX12_lookAt_149 : decode cX12_lookAt 149 = .ok (.aload_n 0, 1) := by decide +kernel
theorem dX12_lookAt_150 : decode cX12_lookAt 150 = .ok (.getfield 200, 3) := by decide +kernel
theorem dX12_lookAt_153 : decode cX12_lookAt 153 = .ok (.if_icmp .ge 62, 3) := by decide +kernel
theorem dX12_lookAt_156 : decode cX12_lookAt 156 = .ok (.aload_n 0, 1) := by decide +kernel
theorem dX12_lookAt_157 : decode cX12_lookAt 157 = .ok (.getfield 48, 3) := by decide +kernel
theorem dX12_lookAt_160 : decode cX12_lookAt 160 = .ok (.aload_n 0, 1) := by decide +kernel
theorem dX12_lookAt_161 : decode cX12_lookAt 161 = .ok (.getfield 212, 3) := by decide +kernel
theorem dX12_lookAt_164 : decode cX12_lookAt 164 = .ok (.aload_n 0, 1) := by decide +kernel
theorem dX12_lookAt_165 : decode cX12_lookAt 165 = .ok (.getfield 215, 3) := by decide +kernel
theorem dX12_lookAt_168 : decode cX12_lookAt 168 = .ok (.iadd, 1) := by decide +kernel
theorem dX12_lookAt_169 : decode cX12_lookAt 169 = .ok (.iaload, 1) := by decide +kernel
theorem dX12_lookAt_170 : decode cX12_lookAt 170 = .ok (.istore 4, 2) := by decide +kernel
theorem dX12_lookAt_172 : decode cX12_lookAt 172 = .ok (.aload_n 0, 1) := by decide +kernel
theorem dX12_lookAt_173 : decode cX12_lookAt 173 = .ok (.getfield 218, 3) := by decide +kernel
theorem dX12_lookAt_176 : decode cX12_lookAt 176 = .ok (.iconst 1, 1) := by decide +kernel
theorem dX12_lookAt_177 : decode cX12_lookAt 177 = .ok (.if_icmp .ne 11, 3) := by decide +kernel
theorem dX12_lookAt_180 : decode cX12_lookAt 180 = .ok (.iload 4, 2) := by decide +kernel
theorem dX12_lookAt_182 : decode cX12_lookAt 182 = .ok (.invokestatic 224, 3) := by decide +kernel
theorem dX12_lookAt_185 : decode cX12_lookAt 185 = .ok (.goto 8, 3) := by decide +kernel
theorem dX12_lookAt_188 : decode cX12_lookAt 188 = .ok (.iload 4, 2) := by decide +kernel
theorem dX12_lookAt_190 : decode cX12_lookAt 190 = .ok (.invokestatic 227, 3) := by decide +kernel
theorem dX12_lookAt_193 : decode cX12_lookAt 193 = .ok (.istore_n 3, 1) := by decide +kernel
theorem dX12_lookAt_194 : decode cX12_lookAt 194 = .ok (.aload_n 0, 1) := by decide +kernel
theorem dX12_lookAt_195 : decode cX12_lookAt 195 = .ok (.dup, 1) := by decide +kernel
theorem dX12_lookAt_196 : decode cX12_lookAt 196 = .ok (.getfield 215, 3) := by decide +kernel
theorem dX12_lookAt_199 : decode cX12_lookAt 199 = .ok (.iload_n 3, 1) := by decide +kernel
theorem dX12_lookAt_200 : decode cX12_lookAt 200 = .ok (.ifCond .eq 7, 3) := by decide +kernel
theorem dX12_lookAt_203 : decode cX12_lookAt 203 = .ok (.iconst 1, 1) := by decide +kernel
theorem dX12_lookAt_204 : decode cX12_lookAt 204 = .ok (.goto 4, 3) := by decide +kernel
theorem dX12_lookAt_207 : decode cX12_lookAt 207 = .ok (.iconst 0, 1) := by decide +kernel
theorem dX12_lookAt_208 : decode cX12_lookAt 208 = .ok (.iadd, 1) := by decide +kernel
theorem dX12_lookAt_209 : decode cX12_lookAt 209 = .ok (.putfield 215, 3) := by decide +kernel
theorem dX12_lookAt_212 : decode cX12_lookAt 212 = .ok (.goto (-76), 3) := by decide +kernel
theorem dX12_lookAt_215 : decode cX12_lookAt 215 = .ok (.iconst 0, 1) := by decide +kernel
theorem dX12_lookAt_216 : decode cX12_lookAt 216 = .ok (.istore 4, 2) := by decide +kernel
theorem dX12_lookAt_218 : decode cX12_lookAt 218 = .ok (.iload 4, 2) := by decide +kernel
theorem dX12_lookAt_220 : decode cX12_lookAt 220 = .ok (.aload_n 0, 1) := by decide +kernel
theorem dX12_lookAt_221 : decode cX12_lookAt 221 = .ok (.getfield 215, 3) := by decide +kernel
theorem dX12_lookAt_224 : decode cX12_lookAt 224 = .ok (.if_icmp .ge 50, 3) := by decide +kernel
theorem dX12_lookAt_227 : decode cX12_lookAt 227 = .ok (.iload 4, 2) := by decide +kernel
theorem dX12_lookAt_229 : decode cX12_lookAt 229 = .ok (.iconst 2, 1) := by decide +kernel
theorem dX12_lookAt_230 : decode cX12_lookAt 230 = .ok (.if_icmp .ge 44, 3) := by decide +kernel
theorem dX12_lookAt_233 : decode cX12_lookAt 233 = .ok (.aload_n 0, 1) := by decide +kernel
theorem dX12_lookAt_234 : decode cX12_lookAt 234 = .ok (.getfield 218, 3) := by decide +kernel
theorem dX12_lookAt_237 : decode cX12_lookAt 237 = .ok (.iconst 2, 1) := by decide +kernel
theorem dX12_lookAt_238 : decode cX12_lookAt 238 = .ok (.if_icmp .ne 36, 3) := by decide +kernel
theorem dX12_lookAt_241 : decode cX12_lookAt 241 = .ok (.aload_n 0, 1) := by decide +kernel
theorem dX12_lookAt_242 : decode cX12_lookAt 242 = .ok (.bipush 10, 2) := by decide +kernel
theorem dX12_lookAt_244 : decode cX12_lookAt 244 = .ok (.aload_n 0, 1) := by decide +kernel
theorem dX12_lookAt_245 : decode cX12_lookAt 245 = .ok (.getfield 221, 3) := by decide +kernel
theorem dX12_lookAt_248 : decode cX12_lookAt 248 = .ok (.imul, 1) := by decide +kernel
theorem dX12_lookAt_249 : decode cX12_lookAt 249 = .ok (.aload_n 0, 1) := by decide +kernel
theorem dX12_lookAt_250 : decode cX12_lookAt 250 = .ok (.getfield 48, 3) := by decide +kernel
theorem dX12_lookAt_253 : decode cX12_lookAt 253 = .ok (.aload_n 0, 1) := by decide +kernel
theorem dX12_lookAt_254 : decode cX12_lookAt 254 = .ok (.getfield 212, 3) := by decide +kernel
theorem dX12_lookAt_257 : decode cX12_lookAt 257 = .ok (.iload 4, 2) := by decide +kernel
theorem dX12_lookAt_259 : decode cX12_lookAt 259 = .ok (.iadd, 1) := by decide +kernel
theorem dX12_lookAt_260 : decode cX12_lookAt 260 = .ok (.iaload, 1) := by decide +kernel
theorem dX12_lookAt_261 : decode cX12_lookAt 261 = .ok (.iadd, 1) := by decide +kernel
theorem dX12_lookAt_262 : decode cX12_lookAt 262 = .ok (.bipush 48, 2) := by decide +kernel
theorem dX12_lookAt_264 : decode cX12_lookAt 264 = .ok (.isub, 1) := by decide +kernel
theorem dX12_lookAt_265 : decode cX12_lookAt 265 = .ok (.putfield 221, 3) := by decide +kernel
theorem dX12_lookAt_268 : decode cX12_lookAt 268 = .ok (.iinc 4 1, 3) := by decide +kernel
theorem dX12_lookAt_271 : decode cX12_lookAt 271 = .ok (.goto (-53), 3) := by decide +kernel
theorem dX12_lookAt_274 : decode cX12_lookAt 274 = .ok (.aload_n 0, 1) := by decide +kernel
theorem dX12_lookAt_275 : decode cX12_lookAt 275 = .ok (.aload_n 0, 1) := by decide +kernel
theorem dX12_lookAt_276 : decode cX12_lookAt 276 = .ok (.getfield 218, 3) := by decide +kernel
theorem dX12_lookAt_279 : decode cX12_lookAt 279 = .ok (.iconst 2, 1) := by decide +kernel
theorem dX12_lookAt_280 : decode cX12_lookAt 280 = .ok (.if_icmp .ne 15, 3) := by decide +kernel
theorem dX12_lookAt_283 : decode cX12_lookAt 283 = .ok (.aload_n 0, 1) := by decide +kernel
theorem dX12_lookAt_284 : decode cX12_lookAt 284 = .ok (.getfield 215, 3) := by decide +kernel
theorem dX12_lookAt_287 : decode cX12_lookAt 287 = .ok (.iconst 2, 1) := by decide +kernel
theorem dX12_lookAt_288 : decode cX12_lookAt 288 = .ok (.if_icmp .le 7, 3) := by decide +kernel
theorem dX12_lookAt_291 : decode cX12_lookAt 291 = .ok (.iconst 4, 1) := by decide +kernel
theorem dX12_lookAt_292 : decode cX12_lookAt 292 = .ok (.goto 7, 3) := by decide +kernel
theorem dX12_lookAt_295 : decode cX12_lookAt 295 = .ok (.aload_n 0, 1) := by decide +kernel
theorem dX12_lookAt_296 : decode cX12_lookAt 296 = .ok (.getfield 218, 3) := by decide +kernel
theorem dX12_lookAt_299 : decode cX12_lookAt 299 = .ok (.putfield 218, 3) := by decide +kernel
theorem dX12_lookAt_302 : decode cX12_lookAt 302 = .ok (.return_, 1) := by decide +kernel
theorem dX12_goBehind_0 : decode cX12_goBehind 0 = .ok (.aload_n 0, 1) := by decide +kernel
theorem dX12_goBehind_1 : decode cX12_goBehind 1 = .ok (.aload_n 0, 1) := by decide +kernel
theorem dX12_goBehind_2 : decode cX12_goBehind 2 = .ok (.getfield 212, 3) := by decide +kernel
theorem dX12_goBehind_5 : decode cX12_goBehind 5 = .ok (.aload_n 0, 1) := by decide +kernel
theorem dX12_goBehind_6 : decode cX12_goBehind 6 = .ok (.getfield 215, 3) := by decide +kernel
theorem dX12_goBehind_9 : decode cX12_goBehind 9 = .ok (.iadd, 1) := by decide +kernel
theorem dX12_goBehind_10 : decode cX12_goBehind 10 = .ok (.invokevirtual 230, 3) := by decide +kernel
theorem dX12_goBehind_13 : decode cX12_goBehind 13 = .ok (.return_, 1) := by decide +kernel
theorem dX12_spells_0 : decode cX12_spells 0 = .ok (.aload_n 0, 1) := by decide +kernel
theorem dX12_spells_1 : decode cX12_spells 1 = .ok (.getfield 218, 3) := by decide +kernel
theorem dX12_spells_4 : decode cX12_spells 4 = .ok (.iconst 1, 1) := by decide +kernel
theorem dX12_spells_5 : decode cX12_spells 5 = .ok (.if_icmp .ne 15, 3) := by decide +kernel
theorem dX12_spells_8 : decode cX12_spells 8 = .ok (.aload_n 0, 1) := by decide +kernel
theorem dX12_spells_9 : decode cX12_spells 9 = .ok (.getfield 215, 3) := by decide +kernel
theorem dX12_spells_12 : decode cX12_spells 12 = .ok (.iload_n 1, 1) := by decide +kernel
theorem dX12_spells_13 : decode cX12_spells 13 = .ok (.if_icmp .ne 7, 3) := by decide +kernel
theorem dX12_spells_16 : decode cX12_spells 16 = .ok (.iconst 1, 1) := by decide +kernel
theorem dX12_spells_17 : decode cX12_spells 17 = .ok (.goto 4, 3) := by decide +kernel
theorem dX12_spells_20 : decode cX12_spells 20 = .ok (.iconst 0, 1) := by decide +kernel
theorem dX12_spells_21 : decode cX12_spells 21 = .ok (.istore 8, 2) := by decide +kernel
theorem dX12_spells_23 : decode cX12_spells 23 = .ok (.iconst 0, 1) := by decide +kernel
theorem dX12_spells_24 : decode cX12_spells 24 = .ok (.istore 9, 2) := by decide +kernel
theorem dX12_spells_26 : decode cX12_spells 26 = .ok (.iload 9, 2) := by decide +kernel
theorem dX12_spells_28 : decode cX12_spells 28 = .ok (.iload_n 1, 1) := by decide +kernel
theorem dX12_spells_29 : decode cX12_spells 29 = .ok (.if_icmp .ge 90, 3) := by decide +kernel
theorem dX12_spells_32 : decode cX12_spells 32 = .ok (.iload 8, 2) := by decide +kernel
theorem dX12_spells_34 : decode cX12_spells 34 = .ok (.ifCond .eq 85, 3) := by decide +kernel
theorem dX12_spells_37 : decode cX12_spells 37 = .ok (.aload_n 0, 1) := by decide +kernel
theorem dX12_spells_38 : decode cX12_spells 38 = .ok (.getfield 48, 3) := by decide +kernel
theorem dX12_spells_41 : decode cX12_spells 41 = .ok (.aload_n 0, 1) := by decide +kernel
theorem dX12_spells_42 : decode cX12_spells 42 = .ok (.getfield 212, 3) := by decide +kernel
theorem dX12_spells_45 : decode cX12_spells 45 = .ok (.iload 9, 2) := by decide +kernel
theorem dX12_spells_47 : decode cX12_spells 47 = .ok (.iadd, 1) := by decide +kernel
theorem dX12_spells_48 : decode cX12_spells 48 = .ok (.iaload, 1) := by decide +kernel
theorem dX12_spells_49 : decode cX12_spells 49 = .ok (.iload 9, 2) := by decide +kernel
theorem dX12_spells_51 : decode cX12_spells 51 = .ok (.ifCond .ne 7, 3) := by decide +kernel
theorem dX12_spells_54 : decode cX12_spells 54 = .ok (.iload_n 2, 1) := by decide +kernel
theorem dX12_spells_55 : decode cX12_spells 55 = .ok (.goto 48, 3) := by decide +kernel
theorem dX12_spells_58 : decode cX12_spells 58 = .ok (.iload 9, 2) := by decide +kernel
theorem dX12_spells_60 : decode cX12_spells 60 = .ok (.iconst 1, 1) := by decide +kernel
theorem dX12_spells_61 : decode cX12_spells 61 = .ok (.if_icmp .ne 7, 3) := by decide +kernel
theorem dX12_spells_64 : decode cX12_spells 64 = .ok (.iload_n 3, 1) := by decide +kernel
theorem dX12_spells_65 : decode cX12_spells 65 = .ok (.goto 38, 3) := by decide +kernel
theorem dX12_spells_68 : decode cX12_spells 68 = .ok (.iload 9, 2) := by decide +kernel
theorem dX12_spells_70 : decode cX12_spells 70 = .ok (.iconst 2, 1) := by decide +kernel
theorem dX12_spells_71 : decode cX12_spells 71 = .ok (.if_icmp .ne 8, 3) := by decide +kernel
theorem dX12_spells_74 : decode cX12_spells 74 = .ok (.iload 4, 2) := by decide +kernel
theorem dX12_spells_76 : decode cX12_spells 76 = .ok (.goto 27, 3) := by decide +kernel
theorem dX12_spells_79 : decode cX12_spells 79 = .ok (.iload 9, 2) := by decide +kernel
theorem dX12_spells_81 : decode cX12_spells 81 = .ok (.iconst 3, 1) := by decide +kernel
theorem dX12_spells_82 : decode cX12_spells 82 = .ok (.if_icmp .ne 8, 3) := by decide +kernel
theorem dX12_spells_85 : decode cX12_spells 85 = .ok (.iload 5, 2) := by decide +kernel
theorem dX12_spells_87 : decode cX12_spells 87 = .ok (.goto 16, 3) := by decide +kernel
theorem dX12_spells_90 : decode cX12_spells 90 = .ok (.iload 9, 2) := by decide +kernel
theorem dX12_spells_92 : decode cX12_spells 92 = .ok (.iconst 4, 1) := by decide +kernel
theorem dX12_spells_93 : decode cX12_spells 93 = .ok (.if_icmp .ne 8, 3) := by decide +kernel
theorem dX12_spells_96 : decode cX12_spells 96 = .ok (.iload 6, 2) := by decide +kernel
theorem dX12_spells_98 : decode cX12_spells 98 = .ok (.goto 5, 3) := by decide +kernel
theorem dX12_spells_101 : decode cX12_spells 101 = .ok (.iload 7, 2) := by decide +kernel
theorem dX12_spells_103 : decode cX12_spells 103 = .ok (.if_icmp .ne 7, 3) := by decide +kernel
theorem dX12_spells_106 : decode cX12_spells 106 = .ok (.iconst 1, 1) := by decide +kernel
theorem dX12_spells_107 : decode cX12_spells 107 = .ok (.goto 4, 3) := by decide +kernel
theorem dX12_spells_110 : decode cX12_spells 110 = .ok (.iconst 0, 1) := by decide +kernel
theorem dX12_spells_111 : decode cX12_spells 111 = .ok (.istore 8, 2) := by decide +kernel
theorem dX12_spells_113 : decode cX12_spells 113 = .ok (.iinc 9 1, 3) := by decide +kernel
theorem dX12_spells_116 : decode cX12_spells 116 = .ok (.goto (-90), 3) := by decide +kernel
theorem dX12_spells_119 : decode cX12_spells 119 = .ok (.iload 8, 2) := by decide +kernel
theorem dX12_spells_121 : decode cX12_spells 121 = .ok (.ireturn, 1) := by decide +kernel
theorem dX12_takes_0 : decode cX12_takes 0 = .ok (.aload_n 0, 1) := by decide +kernel
theorem dX12_takes_1 : decode cX12_takes 1 = .ok (.getfield 218, 3) := by decide +kernel
theorem dX12_takes_4 : decode cX12_takes 4 = .ok (.iconst 2, 1) := by decide +kernel
theorem dX12_takes_5 : decode cX12_takes 5 = .ok (.if_icmp .ne 18, 3) := by decide +kernel
theorem dX12_takes_8 : decode cX12_takes 8 = .ok (.aload_n 0, 1) := by decide +kernel
theorem dX12_takes_9 : decode cX12_takes 9 = .ok (.getfield 221, 3) := by decide +kernel
theorem dX12_takes_12 : decode cX12_takes 12 = .ok (.i2l, 1) := by decide +kernel
theorem dX12_takes_13 : decode cX12_takes 13 = .ok (.iload_n 2, 1) := by decide +kernel
theorem dX12_takes_14 : decode cX12_takes 14 = .ok (.i2l, 1) := by decide +kernel
theorem dX12_takes_15 : decode cX12_takes 15 = .ok (.iload_n 3, 1) := by decide +kernel
theorem dX12_takes_16 : decode cX12_takes 16 = .ok (.i2l, 1) := by decide +kernel
theorem dX12_takes_17 : decode cX12_takes 17 = .ok (.invokestatic 65, 3) := by decide +kernel
theorem dX12_takes_20 : decode cX12_takes 20 = .ok (.ifCond .ne 5, 3) := by decide +kernel
theorem dX12_takes_23 : decode cX12_takes 23 = .ok (.iconst 0, 1) := by decide +kernel
theorem dX12_takes_24 : decode cX12_takes 24 = .ok (.ireturn, 1) := by decide +kernel
theorem dX12_takes_25 : decode cX12_takes 25 = .ok (.aload_n 0, 1) := by decide +kernel
theorem dX12_takes_26 : decode cX12_takes 26 = .ok (.getfield 54, 3) := by decide +kernel
theorem dX12_takes_29 : decode cX12_takes 29 = .ok (.iload_n 1, 1) := by decide +kernel
theorem dX12_takes_30 : decode cX12_takes 30 = .ok (.aload_n 0, 1) := by decide +kernel
theorem dX12_takes_31 : decode cX12_takes 31 = .ok (.getfield 221, 3) := by decide +kernel
theorem dX12_takes_34 : decode cX12_takes 34 = .ok (.iastore, 1) := by decide +kernel
theorem dX12_takes_35 : decode cX12_takes 35 = .ok (.aload_n 0, 1) := by decide +kernel
theorem dX12_takes_36 : decode cX12_takes 36 = .ok (.invokevirtual 233, 3) := by decide +kernel
theorem dX12_takes_39 : decode cX12_takes 39 = .ok (.iconst 1, 1) := by decide +kernel
theorem dX12_takes_40 : decode cX12_takes 40 = .ok (.ireturn, 1) := by decide +kernel
theorem dX12_takesPrize_0 : decode cX12_takesPrize 0 = .ok (.aload_n 0, 1) := by decide +kernel
theorem dX12_takesPrize_1 : decode cX12_takesPrize 1 = .ok (.invokevirtual 233, 3) := by decide +kernel
theorem dX12_takesPrize_4 : decode cX12_takesPrize 4 = .ok (.aload_n 0, 1) := by decide +kernel
theorem dX12_takesPrize_5 : decode cX12_takesPrize 5 = .ok (.iconst 0, 1) := by decide +kernel
theorem dX12_takesPrize_6 : decode cX12_takesPrize 6 = .ok (.iconst 0, 1) := by decide +kernel
theorem dX12_takesPrize_7 : decode cX12_takesPrize 7 = .ok (.bipush 7, 2) := by decide +kernel
theorem dX12_takesPrize_9 : decode cX12_takesPrize 9 = .ok (.invokevirtual 236, 3) := by decide +kernel
theorem dX12_takesPrize_12 : decode cX12_takesPrize 12 = .ok (.ifCond .eq 24, 3) := by decide +kernel
theorem dX12_takesPrize_15 : decode cX12_takesPrize 15 = .ok (.aload_n 0, 1) := by decide +kernel
theorem dX12_takesPrize_16 : decode cX12_takesPrize 16 = .ok (.iconst 1, 1) := by decide +kernel
theorem dX12_takesPrize_17 : decode cX12_takesPrize 17 = .ok (.iconst 0, 1) := by decide +kernel
theorem dX12_takesPrize_18 : decode cX12_takesPrize 18 = .ok (.iconst 2, 1) := by decide +kernel
theorem dX12_takesPrize_19 : decode cX12_takesPrize 19 = .ok (.invokevirtual 236, 3) := by decide +kernel
theorem dX12_takesPrize_22 : decode cX12_takesPrize 22 = .ok (.ifCond .eq 14, 3) := by decide +kernel
theorem dX12_takesPrize_25 : decode cX12_takesPrize 25 = .ok (.aload_n 0, 1) := by decide +kernel
theorem dX12_takesPrize_26 : decode cX12_takesPrize 26 = .ok (.iconst 2, 1) := by decide +kernel
theorem dX12_takesPrize_27 : decode cX12_takesPrize 27 = .ok (.iconst 1, 1) := by decide +kernel
theorem dX12_takesPrize_28 : decode cX12_takesPrize 28 = .ok (.bipush 30, 2) := by decide +kernel
theorem dX12_takesPrize_30 : decode cX12_takesPrize 30 = .ok (.invokevirtual 236, 3) := by decide +kernel
theorem dX12_takesPrize_33 : decode cX12_takesPrize 33 = .ok (.ifCond .ne 5, 3) := by decide +kernel
theorem dX12_takesPrize_36 : decode cX12_takesPrize 36 = .ok (.iconst 0, 1) := by decide +kernel
theorem dX12_takesPrize_37 : decode cX12_takesPrize 37 = .ok (.ireturn, 1) := by decide +kernel
theorem dX12_takesPrize_38 : decode cX12_takesPrize 38 = .ok (.aload_n 0, 1) := by decide +kernel
theorem dX12_takesPrize_39 : decode cX12_takesPrize 39 = .ok (.getfield 51, 3) := by decide +kernel
theorem dX12_takesPrize_42 : decode cX12_takesPrize 42 = .ok (.bipush 41, 2) := by decide +kernel
theorem dX12_takesPrize_44 : decode cX12_takesPrize 44 = .ok (.aload_n 0, 1) := by decide +kernel
theorem dX12_takesPrize_45 : decode cX12_takesPrize 45 = .ok (.getfield 54, 3) := by decide +kernel
theorem dX12_takesPrize_48 : decode cX12_takesPrize 48 = .ok (.iconst 0, 1) := by decide +kernel
theorem dX12_takesPrize_49 : decode cX12_takesPrize 49 = .ok (.iaload, 1) := by decide +kernel
theorem dX12_takesPrize_50 : decode cX12_takesPrize 50 = .ok (.iadd, 1) := by decide +kernel
theorem dX12_takesPrize_51 : decode cX12_takesPrize 51 = .ok (.aload_n 0, 1) := by decide +kernel
theorem dX12_takesPrize_52 : decode cX12_takesPrize 52 = .ok (.getfield 54, 3) := by decide +kernel
theorem dX12_takesPrize_55 : decode cX12_takesPrize 55 = .ok (.iconst 1, 1) := by decide +kernel
theorem dX12_takesPrize_56 : decode cX12_takesPrize 56 = .ok (.iaload, 1) := by decide +kernel
theorem dX12_takesPrize_57 : decode cX12_takesPrize 57 = .ok (.iastore, 1) := by decide +kernel
theorem dX12_takesPrize_58 : decode cX12_takesPrize 58 = .ok (.aload_n 0, 1) := by decide +kernel
theorem dX12_takesPrize_59 : decode cX12_takesPrize 59 = .ok (.getfield 51, 3) := by decide +kernel
theorem dX12_takesPrize_62 : decode cX12_takesPrize 62 = .ok (.bipush 49, 2) := by decide +kernel
theorem dX12_takesPrize_64 : decode cX12_takesPrize 64 = .ok (.aload_n 0, 1) := by decide +kernel
theorem dX12_takesPrize_65 : decode cX12_takesPrize 65 = .ok (.getfield 54, 3) := by decide +kernel
theorem dX12_takesPrize_68 : decode cX12_takesPrize 68 = .ok (.iconst 0, 1) := by decide +kernel
theorem dX12_takesPrize_69 : decode cX12_takesPrize 69 = .ok (.iaload, 1) := by decide +kernel
theorem dX12_takesPrize_70 : decode cX12_takesPrize 70 = .ok (.iadd, 1) := by decide +kernel
theorem dX12_takesPrize_71 : decode cX12_takesPrize 71 = .ok (.aload_n 0, 1) := by decide +kernel
theorem dX12_takesPrize_72 : decode cX12_takesPrize 72 = .ok (.getfield 54, 3) := by decide +kernel
theorem dX12_takesPrize_75 : decode cX12_takesPrize 75 = .ok (.iconst 2, 1) := by decide +kernel
theorem dX12_takesPrize_76 : decode cX12_takesPrize 76 = .ok (.iaload, 1) := by decide +kernel
theorem dX12_takesPrize_77 : decode cX12_takesPrize 77 = .ok (.iastore, 1) := by decide +kernel
theorem dX12_takesPrize_78 : decode cX12_takesPrize 78 = .ok (.iconst 1, 1) := by decide +kernel
theorem dX12_takesPrize_79 : decode cX12_takesPrize 79 = .ok (.ireturn, 1) := by decide +kernel
theorem dX12_takesOne_0 : decode cX12_takesOne 0 = .ok (.aload_n 0, 1) := by decide +kernel
theorem dX12_takesOne_1 : decode cX12_takesOne 1 = .ok (.getfield 51, 3) := by decide +kernel
theorem dX12_takesOne_4 : decode cX12_takesOne 4 = .ok (.iconst 0, 1) := by decide +kernel
theorem dX12_takesOne_5 : decode cX12_takesOne 5 = .ok (.iaload, 1) := by decide +kernel
theorem dX12_takesOne_6 : decode cX12_takesOne 6 = .ok (.bipush 6, 2) := by decide +kernel
theorem dX12_takesOne_8 : decode cX12_takesOne 8 = .ok (.if_icmp .ne 5, 3) := by decide +kernel
theorem dX12_takesOne_11 : decode cX12_takesOne 11 = .ok (.iconst 0, 1) := by decide +kernel
theorem dX12_takesOne_12 : decode cX12_takesOne 12 = .ok (.ireturn, 1) := by decide +kernel
theorem dX12_takesOne_13 : decode cX12_takesOne 13 = .ok (.aload_n 0, 1) := by decide +kernel
theorem dX12_takesOne_14 : decode cX12_takesOne 14 = .ok (.invokevirtual 233, 3) := by decide +kernel
theorem dX12_takesOne_17 : decode cX12_takesOne 17 = .ok (.aload_n 0, 1) := by decide +kernel
theorem dX12_takesOne_18 : decode cX12_takesOne 18 = .ok (.iconst 0, 1) := by decide +kernel
theorem dX12_takesOne_19 : decode cX12_takesOne 19 = .ok (.iconst 0, 1) := by decide +kernel
theorem dX12_takesOne_20 : decode cX12_takesOne 20 = .ok (.iconst 5, 1) := by decide +kernel
theorem dX12_takesOne_21 : decode cX12_takesOne 21 = .ok (.invokevirtual 236, 3) := by decide +kernel
theorem dX12_takesOne_24 : decode cX12_takesOne 24 = .ok (.ifCond .eq 36, 3) := by decide +kernel
theorem dX12_takesOne_27 : decode cX12_takesOne 27 = .ok (.aload_n 0, 1) := by decide +kernel
theorem dX12_takesOne_28 : decode cX12_takesOne 28 = .ok (.iconst 1, 1) := by decide +kernel
theorem dX12_takesOne_29 : decode cX12_takesOne 29 = .ok (.iconst 0, 1) := by decide +kernel
theorem dX12_takesOne_30 : decode cX12_takesOne 30 = .ok (.bipush 9, 2) := by decide +kernel
theorem dX12_takesOne_32 : decode cX12_takesOne 32 = .ok (.invokevirtual 236, 3) := by decide +kernel
theorem dX12_takesOne_35 : decode cX12_takesOne 35 = .ok (.ifCond .eq 25, 3) := by decide +kernel
theorem dX12_takesOne_38 : decode cX12_takesOne 38 = .ok (.aload_n 0, 1) := by decide +kernel
theorem dX12_takesOne_39 : decode cX12_takesOne 39 = .ok (.iconst 2, 1) := by decide +kernel
theorem dX12_takesOne_40 : decode cX12_takesOne 40 = .ok (.iconst 0, 1) := by decide +kernel
theorem dX12_takesOne_41 : decode cX12_takesOne 41 = .ok (.bipush 9, 2) := by decide +kernel
theorem dX12_takesOne_43 : decode cX12_takesOne 43 = .ok (.invokevirtual 236, 3) := by decide +kernel
theorem dX12_takesOne_46 : decode cX12_takesOne 46 = .ok (.ifCond .eq 14, 3) := by decide +kernel
theorem dX12_takesOne_49 : decode cX12_takesOne 49 = .ok (.aload_n 0, 1) := by decide +kernel
theorem dX12_takesOne_50 : decode cX12_takesOne 50 = .ok (.iconst 3, 1) := by decide +kernel
theorem dX12_takesOne_51 : decode cX12_takesOne 51 = .ok (.iconst 0, 1) := by decide +kernel
theorem dX12_takesOne_52 : decode cX12_takesOne 52 = .ok (.bipush 9, 2) := by decide +kernel
theorem dX12_takesOne_54 : decode cX12_takesOne 54 = .ok (.invokevirtual 236, 3) := by decide +kernel
theorem dX12_takesOne_57 : decode cX12_takesOne 57 = .ok (.ifCond .ne 5, 3) := by decide +kernel
theorem dX12_takesOne_60 : decode cX12_takesOne 60 = .ok (.iconst 0, 1) := by decide +kernel
theorem dX12_takesOne_61 : decode cX12_takesOne 61 = .ok (.ireturn, 1) := by decide +kernel
theorem dX12_takesOne_62 : decode cX12_takesOne 62 = .ok (.aload_n 0, 1) := by decide +kernel
theorem dX12_takesOne_63 : decode cX12_takesOne 63 = .ok (.getfield 51, 3) := by decide +kernel
theorem dX12_takesOne_66 : decode cX12_takesOne 66 = .ok (.aload_n 0, 1) := by decide +kernel
theorem dX12_takesOne_67 : decode cX12_takesOne 67 = .ok (.getfield 54, 3) := by decide +kernel
theorem dX12_takesOne_70 : decode cX12_takesOne 70 = .ok (.iconst 0, 1) := by decide +kernel
theorem dX12_takesOne_71 : decode cX12_takesOne 71 = .ok (.iaload, 1) := by decide +kernel
theorem dX12_takesOne_72 : decode cX12_takesOne 72 = .ok (.aload_n 0, 1) := by decide +kernel
theorem dX12_takesOne_73 : decode cX12_takesOne 73 = .ok (.getfield 54, 3) := by decide +kernel
theorem dX12_takesOne_76 : decode cX12_takesOne 76 = .ok (.iconst 1, 1) := by decide +kernel
theorem dX12_takesOne_77 : decode cX12_takesOne 77 = .ok (.iaload, 1) := by decide +kernel
theorem dX12_takesOne_78 : decode cX12_takesOne 78 = .ok (.aload_n 0, 1) := by decide +kernel
theorem dX12_takesOne_79 : decode cX12_takesOne 79 = .ok (.getfield 54, 3) := by decide +kernel
theorem dX12_takesOne_82 : decode cX12_takesOne 82 = .ok (.iconst 2, 1) := by decide +kernel
theorem dX12_takesOne_83 : decode cX12_takesOne 83 = .ok (.iaload, 1) := by decide +kernel
theorem dX12_takesOne_84 : decode cX12_takesOne 84 = .ok (.aload_n 0, 1) := by decide +kernel
theorem dX12_takesOne_85 : decode cX12_takesOne 85 = .ok (.getfield 54, 3) := by decide +kernel
theorem dX12_takesOne_88 : decode cX12_takesOne 88 = .ok (.iconst 3, 1) := by decide +kernel
theorem dX12_takesOne_89 : decode cX12_takesOne 89 = .ok (.iaload, 1) := by decide +kernel
theorem dX12_takesOne_90 : decode cX12_takesOne 90 = .ok (.invokestatic 93, 3) := by decide +kernel
theorem dX12_takesOne_93 : decode cX12_takesOne 93 = .ok (.iconst 1, 1) := by decide +kernel
theorem dX12_takesOne_94 : decode cX12_takesOne 94 = .ok (.ireturn, 1) := by decide +kernel
theorem dX12_takesItem_0 : decode cX12_takesItem 0 = .ok (.aload_n 0, 1) := by decide +kernel
theorem dX12_takesItem_1 : decode cX12_takesItem 1 = .ok (.iconst 5, 1) := by decide +kernel
theorem dX12_takesItem_2 : decode cX12_takesItem 2 = .ok (.bipush 112, 2) := by decide +kernel
theorem dX12_takesItem_4 : decode cX12_takesItem 4 = .ok (.bipush 114, 2) := by decide +kernel
theorem dX12_takesItem_6 : decode cX12_takesItem 6 = .ok (.bipush 105, 2) := by decide +kernel
theorem dX12_takesItem_8 : decode cX12_takesItem 8 = .ok (.bipush 122, 2) := by decide +kernel
theorem dX12_takesItem_10 : decode cX12_takesItem 10 = .ok (.bipush 101, 2) := by decide +kernel
theorem dX12_takesItem_12 : decode cX12_takesItem 12 = .ok (.iconst 0, 1) := by decide +kernel
theorem dX12_takesItem_13 : decode cX12_takesItem 13 = .ok (.invokevirtual 239, 3) := by decide +kernel
theorem dX12_takesItem_16 : decode cX12_takesItem 16 = .ok (.ifCond .eq 8, 3) := by decide +kernel
theorem dX12_takesItem_19 : decode cX12_takesItem 19 = .ok (.aload_n 0, 1) := by decide +kernel
theorem dX12_takesItem_20 : decode cX12_takesItem 20 = .ok (.invokevirtual 243, 3) := by decide +kernel
theorem dX12_takesItem_23 : decode cX12_takesItem 23 = .ok (.ireturn, 1) := by decide +kernel
theorem dX12_takesItem_24 : decode cX12_takesItem 24 = .ok (.aload_n 0, 1) := by decide +kernel
theorem dX12_takesItem_25 : decode cX12_takesItem 25 = .ok (.iconst 3, 1) := by decide +kernel
theorem dX12_takesItem_26 : decode cX12_takesItem 26 = .ok (.bipush 111, 2) := by decide +kernel
theorem dX12_takesItem_28 : decode cX12_takesItem 28 = .ok (.bipush 110, 2) := by decide +kernel
theorem dX12_takesItem_30 : decode cX12_takesItem 30 = .ok (.bipush 101, 2) := by decide +kernel
theorem dX12_takesItem_32 : decode cX12_takesItem 32 = .ok (.iconst 0, 1) := by decide +kernel
theorem dX12_takesItem_33 : decode cX12_takesItem 33 = .ok (.iconst 0, 1) := by decide +kernel
theorem dX12_takesItem_34 : decode cX12_takesItem 34 = .ok (.iconst 0, 1) := by decide +kernel
theorem dX12_takesItem_35 : decode cX12_takesItem 35 = .ok (.invokevirtual 239, 3) := by decide +kernel
theorem dX12_takesItem_38 : decode cX12_takesItem 38 = .ok (.ifCond .eq 14, 3) := by decide +kernel
theorem dX12_takesItem_41 : decode cX12_takesItem 41 = .ok (.aload_n 0, 1) := by decide +kernel
theorem dX12_takesItem_42 : decode cX12_takesItem 42 = .ok (.invokevirtual 247, 3) := by decide +kernel
theorem dX12_takesItem_45 : decode cX12_takesItem 45 = .ok (.ifCond .eq 7, 3) := by decide +kernel
theorem dX12_takesItem_48 : decode cX12_takesItem 48 = .ok (.iconst 1, 1) := by decide +kernel
theorem dX12_takesItem_49 : decode cX12_takesItem 49 = .ok (.goto 4, 3) := by decide +kernel
theorem dX12_takesItem_52 : decode cX12_takesItem 52 = .ok (.iconst 0, 1) := by decide +kernel
theorem dX12_takesItem_53 : decode cX12_takesItem 53 = .ok (.ireturn, 1) := by decide +kernel
theorem dX12_read_0 : decode cX12_read 0 = .ok (.aload_n 0, 1) := by decide +kernel
theorem dX12_read_1 : decode cX12_read 1 = .ok (.iconst 0, 1) := by decide +kernel
theorem dX12_read_2 : decode cX12_read 2 = .ok (.invokevirtual 230, 3) := by decide +kernel
theorem dX12_read_5 : decode cX12_read 5 = .ok (.aload_n 0, 1) := by decide +kernel
theorem dX12_read_6 : decode cX12_read 6 = .ok (.bipush 6, 2) := by decide +kernel
theorem dX12_read_8 : decode cX12_read 8 = .ok (.bipush 118, 2) := by decide +kernel
theorem dX12_read_10 : decode cX12_read 10 = .ok (.bipush 97, 2) := by decide +kernel
theorem dX12_read_12 : decode cX12_read 12 = .ok (.bipush 108, 2) := by decide +kernel
theorem dX12_read_14 : decode cX12_read 14 = .ok (.bipush 108, 2) := by decide +kernel
theorem dX12_read_16 : decode cX12_read 16 = .ok (.bipush 101, 2) := by decide +kernel
theorem dX12_read_18 : decode cX12_read 18 = .ok (.bipush 121, 2) := by decide +kernel
theorem dX12_read_20 : decode cX12_read 20 = .ok (.invokevirtual 239, 3) := by decide +kernel
theorem dX12_read_23 : decode cX12_read 23 = .ok (.ifCond .ne 11, 3) := by decide +kernel
theorem dX12_read_26 : decode cX12_read 26 = .ok (.bipush (-10), 2) := by decide +kernel
theorem dX12_read_28 : decode cX12_read 28 = .ok (.aload_n 0, 1) := by decide +kernel
theorem dX12_read_29 : decode cX12_read 29 = .ok (.getfield 212, 3) := by decide +kernel
theorem dX12_read_32 : decode cX12_read 32 = .ok (.isub, 1) := by decide +kernel
theorem dX12_read_33 : decode cX12_read 33 = .ok (.ireturn, 1) := by decide +kernel
theorem dX12_read_34 : decode cX12_read 34 = .ok (.aload_n 0, 1) := by decide +kernel
theorem dX12_read_35 : decode cX12_read 35 = .ok (.invokevirtual 233, 3) := by decide +kernel
theorem dX12_read_38 : decode cX12_read 38 = .ok (.aload_n 0, 1) := by decide +kernel
theorem dX12_read_39 : decode cX12_read 39 = .ok (.getfield 218, 3) := by decide +kernel
theorem dX12_read_42 : decode cX12_read 42 = .ok (.iconst 3, 1) := by decide +kernel
theorem dX12_read_43 : decode cX12_read 43 = .ok (.if_icmp .eq 11, 3) := by decide +kernel
theorem dX12_read_46 : decode cX12_read 46 = .ok (.bipush (-10), 2) := by decide +kernel
theorem dX12_read_48 : decode cX12_read 48 = .ok (.aload_n 0, 1) := by decide +kernel
theorem dX12_read_49 : decode cX12_read 49 = .ok (.getfield 212, 3) := by decide +kernel
theorem dX12_read_52 : decode cX12_read 52 = .ok (.isub, 1) := by decide +kernel
theorem dX12_read_53 : decode cX12_read 53 = .ok (.ireturn, 1) := by decide +kernel
theorem dX12_read_54 : decode cX12_read 54 = .ok (.aload_n 0, 1) := by decide +kernel
theorem dX12_read_55 : decode cX12_read 55 = .ok (.invokevirtual 233, 3) := by decide +kernel
theorem dX12_read_58 : decode cX12_read 58 = .ok (.aload_n 0, 1) := by decide +kernel
theorem dX12_read_59 : decode cX12_read 59 = .ok (.getfield 51, 3) := by decide +kernel
theorem dX12_read_62 : decode cX12_read 62 = .ok (.invokestatic 57, 3) := by decide +kernel
theorem dX12_read_65 : decode cX12_read 65 = .ok (.iconst 1, 1) := by decide +kernel
theorem dX12_read_66 : decode cX12_read 66 = .ok (.istore_n 1, 1) := by decide +kernel
theorem dX12_read_67 : decode cX12_read 67 = .ok (.aload_n 0, 1) := by decide +kernel
theorem dX12_read_68 : decode cX12_read 68 = .ok (.getfield 218, 3) := by decide +kernel
theorem dX12_read_71 : decode cX12_read 71 = .ok (.ifCond .eq 36, 3) := by decide +kernel
theorem dX12_read_74 : decode cX12_read 74 = .ok (.aload_n 0, 1) := by decide +kernel
theorem dX12_read_75 : decode cX12_read 75 = .ok (.invokevirtual 250, 3) := by decide +kernel
theorem dX12_read_78 : decode cX12_read 78 = .ok (.ifCond .eq 11, 3) := by decide +kernel
theorem dX12_read_81 : decode cX12_read 81 = .ok (.aload_n 0, 1) := by decide +kernel
theorem dX12_read_82 : decode cX12_read 82 = .ok (.getfield 218, 3) := by decide +kernel
theorem dX12_read_85 : decode cX12_read 85 = .ok (.iconst 3, 1) := by decide +kernel
theorem dX12_read_86 : decode cX12_read 86 = .ok (.if_icmp .eq 11, 3) := by decide +kernel
theorem dX12_read_89 : decode cX12_read 89 = .ok (.bipush (-10), 2) := by decide +kernel
theorem dX12_read_91 : decode cX12_read 91 = .ok (.aload_n 0, 1) := by decide +kernel
theorem dX12_read_92 : decode cX12_read 92 = .ok (.getfield 212, 3) := by decide +kernel
theorem dX12_read_95 : decode cX12_read 95 = .ok (.isub, 1) := by decide +kernel
theorem dX12_read_96 : decode cX12_read 96 = .ok (.ireturn, 1) := by decide +kernel
theorem dX12_read_97 : decode cX12_read 97 = .ok (.aload_n 0, 1) := by decide +kernel
theorem dX12_read_98 : decode cX12_read 98 = .ok (.invokevirtual 233, 3) := by decide +kernel
theorem dX12_read_101 : decode cX12_read 101 = .ok (.iinc 1 1, 3) := by decide +kernel
theorem dX12_read_104 : decode cX12_read 104 = .ok (.goto (-37), 3) := by decide +kernel
theorem dX12_read_107 : decode cX12_read 107 = .ok (.iconst 0, 1) := by decide +kernel
theorem dX12_read_108 : decode cX12_read 108 = .ok (.istore_n 2, 1) := by decide +kernel
theorem dX12_read_109 : decode cX12_read 109 = .ok (.iload_n 2, 1) := by decide +kernel
theorem dX12_read_110 : decode cX12_read 110 = .ok (.bipush 105, 2) := by decide +kernel
theorem dX12_read_112 : decode cX12_read 112 = .ok (.if_icmp .ge 21, 3) := by decide +kernel
theorem dX12_read_115 : decode cX12_read 115 = .ok (.aload_n 0, 1) := by decide +kernel
theorem dX12_read_116 : decode cX12_read 116 = .ok (.getfield 7, 3) := by decide +kernel
theorem dX12_read_119 : decode cX12_read 119 = .ok (.iload_n 2, 1) := by decide +kernel
theorem dX12_read_120 : decode cX12_read 120 = .ok (.aload_n 0, 1) := by decide +kernel
theorem dX12_read_121 : decode cX12_read 121 = .ok (.getfield 51, 3) := by decide +kernel
theorem dX12_read_124 : decode cX12_read 124 = .ok (.iload_n 2, 1) := by decide +kernel
theorem dX12_read_125 : decode cX12_read 125 = .ok (.iaload, 1) := by decide +kernel
theorem dX12_read_126 : decode cX12_read 126 = .ok (.iastore, 1) := by decide +kernel
theorem dX12_read_127 : decode cX12_read 127 = .ok (.iinc 2 1, 3) := by decide +kernel
theorem dX12_read_130 : decode cX12_read 130 = .ok (.goto (-21), 3) := by decide +kernel
theorem dX12_read_133 : decode cX12_read 133 = .ok (.iload_n 1, 1) := by decide +kernel
theorem dX12_read_134 : decode cX12_read 134 = .ok (.ireturn, 1) := by decide +kernel
theorem dX12_part_0 : decode cX12_part 0 = .ok (.iload_n 1, 1) := by decide +kernel
theorem dX12_part_1 : decode cX12_part 1 = .ok (.ifCond .ne 10, 3) := by decide +kernel
theorem dX12_part_4 : decode cX12_part 4 = .ok (.aload_n 0, 1) := by decide +kernel
theorem dX12_part_5 : decode cX12_part 5 = .ok (.getfield 175, 3) := by decide +kernel
theorem dX12_part_8 : decode cX12_part 8 = .ok (.goto 22, 3) := by decide +kernel
theorem dX12_part_11 : decode cX12_part 11 = .ok (.iload_n 1, 1) := by decide +kernel
theorem dX12_part_12 : decode cX12_part 12 = .ok (.iconst 1, 1) := by decide +kernel
theorem dX12_part_13 : decode cX12_part 13 = .ok (.if_icmp .ne 10, 3) := by decide +kernel
theorem dX12_part_16 : decode cX12_part 16 = .ok (.aload_n 0, 1) := by decide +kernel
theorem dX12_part_17 : decode cX12_part 17 = .ok (.getfield 23, 3) := by decide +kernel
theorem dX12_part_20 : decode cX12_part 20 = .ok (.goto 10, 3) := by decide +kernel
theorem dX12_part_23 : decode cX12_part 23 = .ok (.aload_n 0, 1) := by decide +kernel
theorem dX12_part_24 : decode cX12_part 24 = .ok (.bipush (-2), 2) := by decide +kernel
theorem dX12_part_26 : decode cX12_part 26 = .ok (.invokevirtual 82, 3) := by decide +kernel
theorem dX12_part_29 : decode cX12_part 29 = .ok (.i2l, 1) := by decide +kernel
theorem dX12_part_30 : decode cX12_part 30 = .ok (.lreturn, 1) := by decide +kernel
theorem dX12_image_0 : decode cX12_image 0 = .ok (.iload_n 1, 1) := by decide +kernel
theorem dX12_image_1 : decode cX12_image 1 = .ok (.i2l, 1) := by decide +kernel
theorem dX12_image_2 : decode cX12_image 2 = .ok (.lconst 0, 1) := by decide +kernel
theorem dX12_image_3 : decode cX12_image 3 = .ok (.lconst 1, 1) := by decide +kernel
theorem dX12_image_4 : decode cX12_image 4 = .ok (.invokestatic 65, 3) := by decide +kernel
theorem dX12_image_7 : decode cX12_image 7 = .ok (.ifCond .ne 10, 3) := by decide +kernel
theorem dX12_image_10 : decode cX12_image 10 = .ok (.aload_n 0, 1) := by decide +kernel
theorem dX12_image_11 : decode cX12_image 11 = .ok (.bipush (-2), 2) := by decide +kernel
theorem dX12_image_13 : decode cX12_image 13 = .ok (.invokevirtual 82, 3) := by decide +kernel
theorem dX12_image_16 : decode cX12_image 16 = .ok (.ireturn, 1) := by decide +kernel
theorem dX12_image_17 : decode cX12_image 17 = .ok (.iconst 0, 1) := by decide +kernel
theorem dX12_image_18 : decode cX12_image 18 = .ok (.istore_n 2, 1) := by decide +kernel
theorem dX12_image_19 : decode cX12_image 19 = .ok (.iload_n 2, 1) := by decide +kernel
theorem dX12_image_20 : decode cX12_image 20 = .ok (.sipush 209, 3) := by decide +kernel
theorem dX12_image_23 : decode cX12_image 23 = .ok (.if_icmp .ge 27, 3) := by decide +kernel
theorem dX12_image_26 : decode cX12_image 26 = .ok (.aload_n 0, 1) := by decide +kernel
theorem dX12_image_27 : decode cX12_image 27 = .ok (.getfield 13, 3) := by decide +kernel
theorem dX12_image_30 : decode cX12_image 30 = .ok (.sipush 209, 3) := by decide +kernel
theorem dX12_image_33 : decode cX12_image 33 = .ok (.iload_n 1, 1) := by decide +kernel
theorem dX12_image_34 : decode cX12_image 34 = .ok (.imul, 1) := by decide +kernel
theorem dX12_image_35 : decode cX12_image 35 = .ok (.iload_n 2, 1) := by decide +kernel
theorem dX12_image_36 : decode cX12_image 36 = .ok (.iadd, 1) := by decide +kernel
theorem dX12_image_37 : decode cX12_image 37 = .ok (.aload_n 0, 1) := by decide +kernel
theorem dX12_image_38 : decode cX12_image 38 = .ok (.getfield 7, 3) := by decide +kernel
theorem dX12_image_41 : decode cX12_image 41 = .ok (.iload_n 2, 1) := by decide +kernel
theorem dX12_image_42 : decode cX12_image 42 = .ok (.iaload, 1) := by decide +kernel
theorem dX12_image_43 : decode cX12_image 43 = .ok (.iastore, 1) := by decide +kernel
theorem dX12_image_44 : decode cX12_image 44 = .ok (.iinc 2 1, 3) := by decide +kernel
theorem dX12_image_47 : decode cX12_image 47 = .ok (.goto (-28), 3) := by decide +kernel
theorem dX12_image_50 : decode cX12_image 50 = .ok (.aload_n 0, 1) := by decide +kernel
theorem dX12_image_51 : decode cX12_image 51 = .ok (.getfield 16, 3) := by decide +kernel
theorem dX12_image_54 : decode cX12_image 54 = .ok (.iload_n 1, 1) := by decide +kernel
theorem dX12_image_55 : decode cX12_image 55 = .ok (.iconst 1, 1) := by decide +kernel
theorem dX12_image_56 : decode cX12_image 56 = .ok (.bastore, 1) := by decide +kernel
theorem dX12_image_57 : decode cX12_image 57 = .ok (.iconst 1, 1) := by decide +kernel
theorem dX12_image_58 : decode cX12_image 58 = .ok (.ireturn, 1) := by decide +kernel
theorem dX12_from_0 : decode cX12_from 0 = .ok (.iload_n 1, 1) := by decide +kernel
theorem dX12_from_1 : decode cX12_from 1 = .ok (.i2l, 1) := by decide +kernel
theorem dX12_from_2 : decode cX12_from 2 = .ok (.lconst 0, 1) := by decide +kernel
theorem dX12_from_3 : decode cX12_from 3 = .ok (.lconst 1, 1) := by decide +kernel
theorem dX12_from_4 : decode cX12_from 4 = .ok (.invokestatic 65, 3) := by decide +kernel
theorem dX12_from_7 : decode cX12_from 7 = .ok (.ifCond .ne 10, 3) := by decide +kernel
theorem dX12_from_10 : decode cX12_from 10 = .ok (.aload_n 0, 1) := by decide +kernel
theorem dX12_from_11 : decode cX12_from 11 = .ok (.bipush (-2), 2) := by decide +kernel
theorem dX12_from_13 : decode cX12_from 13 = .ok (.invokevirtual 82, 3) := by decide +kernel
theorem dX12_from_16 : decode cX12_from 16 = .ok (.ireturn, 1) := by decide +kernel
theorem dX12_from_17 : decode cX12_from 17 = .ok (.aload_n 0, 1) := by decide +kernel
theorem dX12_from_18 : decode cX12_from 18 = .ok (.getfield 16, 3) := by decide +kernel
theorem dX12_from_21 : decode cX12_from 21 = .ok (.iload_n 1, 1) := by decide +kernel
theorem dX12_from_22 : decode cX12_from 22 = .ok (.baload, 1) := by decide +kernel
theorem dX12_from_23 : decode cX12_from 23 = .ok (.ifCond .ne 8, 3) := by decide +kernel
theorem dX12_from_26 : decode cX12_from 26 = .ok (.aload_n 0, 1) := by decide +kernel
theorem dX12_from_27 : decode cX12_from 27 = .ok (.invokevirtual 134, 3) := by decide +kernel
theorem dX12_from_30 : decode cX12_from 30 = .ok (.ireturn, 1) := by decide +kernel
theorem dX12_from_31 : decode cX12_from 31 = .ok (.iconst 0, 1) := by decide +kernel
theorem dX12_from_32 : decode cX12_from 32 = .ok (.istore_n 2, 1) := by decide +kernel
theorem dX12_from_33 : decode cX12_from 33 = .ok (.iload_n 2, 1) := by decide +kernel
theorem dX12_from_34 : decode cX12_from 34 = .ok (.sipush 209, 3) := by decide +kernel
theorem dX12_from_37 : decode cX12_from 37 = .ok (.if_icmp .ge 27, 3) := by decide +kernel
theorem dX12_from_40 : decode cX12_from 40 = .ok (.aload_n 0, 1) := by decide +kernel
theorem dX12_from_41 : decode cX12_from 41 = .ok (.getfield 7, 3) := by decide +kernel
theorem dX12_from_44 : decode cX12_from 44 = .ok (.iload_n 2, 1) := by decide +kernel
theorem dX12_from_45 : decode cX12_from 45 = .ok (.aload_n 0, 1) := by decide +kernel
theorem dX12_from_46 : decode cX12_from 46 = .ok (.getfield 13, 3) := by decide +kernel
theorem dX12_from_49 : decode cX12_from 49 = .ok (.sipush 209, 3) := by decide +kernel
theorem dX12_from_52 : decode cX12_from 52 = .ok (.iload_n 1, 1) := by decide +kernel
theorem dX12_from_53 : decode cX12_from 53 = .ok (.imul, 1) := by decide +kernel
theorem dX12_from_54 : decode cX12_from 54 = .ok (.iload_n 2, 1) := by decide +kernel
theorem dX12_from_55 : decode cX12_from 55 = .ok (.iadd, 1) := by decide +kernel
theorem dX12_from_56 : decode cX12_from 56 = .ok (.iaload, 1) := by decide +kernel
theorem dX12_from_57 : decode cX12_from 57 = .ok (.iastore, 1) := by decide +kernel
theorem dX12_from_58 : decode cX12_from 58 = .ok (.iinc 2 1, 3) := by decide +kernel
theorem dX12_from_61 : decode cX12_from 61 = .ok (.goto (-28), 3) := by decide +kernel
theorem dX12_from_64 : decode cX12_from 64 = .ok (.iconst 1, 1) := by decide +kernel
theorem dX12_from_65 : decode cX12_from 65 = .ok (.ireturn, 1) := by decide +kernel
theorem dX12_status_0 : decode cX12_status 0 = .ok (.iload_n 1, 1) := by decide +kernel
theorem dX12_status_1 : decode cX12_status 1 = .ok (.i2l, 1) := by decide +kernel
theorem dX12_status_2 : decode cX12_status 2 = .ok (.lconst 0, 1) := by decide +kernel
theorem dX12_status_3 : decode cX12_status 3 = .ok (.ldc2_w 71, 3) := by decide +kernel
theorem dX12_status_6 : decode cX12_status 6 = .ok (.invokestatic 65, 3) := by decide +kernel
theorem dX12_status_9 : decode cX12_status 9 = .ok (.ifCond .eq 12, 3) := by decide +kernel
theorem dX12_status_12 : decode cX12_status 12 = .ok (.aload_n 0, 1) := by decide +kernel
theorem dX12_status_13 : decode cX12_status 13 = .ok (.getfield 20, 3) := by decide +kernel
theorem dX12_status_16 : decode cX12_status 16 = .ok (.iload_n 1, 1) := by decide +kernel
theorem dX12_status_17 : decode cX12_status 17 = .ok (.iaload, 1) := by decide +kernel
theorem dX12_status_18 : decode cX12_status 18 = .ok (.goto 8, 3) := by decide +kernel
theorem dX12_status_21 : decode cX12_status 21 = .ok (.aload_n 0, 1) := by decide +kernel
theorem dX12_status_22 : decode cX12_status 22 = .ok (.iconst (-1), 1) := by decide +kernel
theorem dX12_status_23 : decode cX12_status 23 = .ok (.invokevirtual 82, 3) := by decide +kernel
theorem dX12_status_26 : decode cX12_status 26 = .ok (.ireturn, 1) := by decide +kernel
theorem dX12_manyPrizes_0 : decode cX12_manyPrizes 0 = .ok (.iconst 0, 1) := by decide +kernel
theorem dX12_manyPrizes_1 : decode cX12_manyPrizes 1 = .ok (.istore_n 1, 1) := by decide +kernel
theorem dX12_manyPrizes_2 : decode cX12_manyPrizes 2 = .ok (.iconst 0, 1) := by decide +kernel
theorem dX12_manyPrizes_3 : decode cX12_manyPrizes 3 = .ok (.istore_n 2, 1) := by decide +kernel
theorem dX12_manyPrizes_4 : decode cX12_manyPrizes 4 = .ok (.iload_n 2, 1) := by decide +kernel
theorem dX12_manyPrizes_5 : decode cX12_manyPrizes 5 = .ok (.bipush 8, 2) := by decide +kernel
theorem dX12_manyPrizes_7 : decode cX12_manyPrizes 7 = .ok (.if_icmp .ge 30, 3) := by decide +kernel
theorem dX12_manyPrizes_10 : decode cX12_manyPrizes 10 = .ok (.iload_n 1, 1) := by decide +kernel
theorem dX12_manyPrizes_11 : decode cX12_manyPrizes 11 = .ok (.aload_n 0, 1) := by decide +kernel
theorem dX12_manyPrizes_12 : decode cX12_manyPrizes 12 = .ok (.getfield 7, 3) := by decide +kernel
theorem dX12_manyPrizes_15 : decode cX12_manyPrizes 15 = .ok (.bipush 41, 2) := by decide +kernel
theorem dX12_manyPrizes_17 : decode cX12_manyPrizes 17 = .ok (.iload_n 2, 1) := by decide +kernel
theorem dX12_manyPrizes_18 : decode cX12_manyPrizes 18 = .ok (.iadd, 1) := by decide +kernel
theorem dX12_manyPrizes_19 : decode cX12_manyPrizes 19 = .ok (.iaload, 1) := by decide +kernel
theorem dX12_manyPrizes_20 : decode cX12_manyPrizes 20 = .ok (.iconst (-1), 1) := by decide +kernel
theorem dX12_manyPrizes_21 : decode cX12_manyPrizes 21 = .ok (.if_icmp .ne 7, 3) := by decide +kernel
theorem dX12_manyPrizes_24 : decode cX12_manyPrizes 24 = .ok (.iconst 0, 1) := by decide +kernel
theorem dX12_manyPrizes_25 : decode cX12_manyPrizes 25 = .ok (.goto 4, 3) := by decide +kernel
theorem dX12_manyPrizes_28 : decode cX12_manyPrizes 28 = .ok (.iconst 1, 1) := by decide +kernel
theorem dX12_manyPrizes_29 : decode cX12_manyPrizes 29 = .ok (.iadd, 1) := by decide +kernel
theorem dX12_manyPrizes_30 : decode cX12_manyPrizes 30 = .ok (.istore_n 1, 1) := by decide +kernel
theorem dX12_manyPrizes_31 : decode cX12_manyPrizes 31 = .ok (.iinc 2 1, 3) := by decide +kernel
theorem dX12_manyPrizes_34 : decode cX12_manyPrizes 34 = .ok (.goto (-30), 3) := by decide +kernel
theorem dX12_manyPrizes_37 : decode cX12_manyPrizes 37 = .ok (.iload_n 1, 1) := by decide +kernel
theorem dX12_manyPrizes_38 : decode cX12_manyPrizes 38 = .ok (.ireturn, 1) := by decide +kernel
theorem dX12_manyWins_0 : decode cX12_manyWins 0 = .ok (.iconst 0, 1) := by decide +kernel
theorem dX12_manyWins_1 : decode cX12_manyWins 1 = .ok (.istore_n 1, 1) := by decide +kernel
theorem dX12_manyWins_2 : decode cX12_manyWins 2 = .ok (.iconst 0, 1) := by decide +kernel
theorem dX12_manyWins_3 : decode cX12_manyWins 3 = .ok (.istore_n 2, 1) := by decide +kernel
theorem dX12_manyWins_4 : decode cX12_manyWins 4 = .ok (.iload_n 2, 1) := by decide +kernel
theorem dX12_manyWins_5 : decode cX12_manyWins 5 = .ok (.aload_n 0, 1) := by decide +kernel
theorem dX12_manyWins_6 : decode cX12_manyWins 6 = .ok (.invokevirtual 61, 3) := by decide +kernel
theorem dX12_manyWins_9 : decode cX12_manyWins 9 = .ok (.if_icmp .ge 23, 3) := by decide +kernel
theorem dX12_manyWins_12 : decode cX12_manyWins 12 = .ok (.iload_n 1, 1) := by decide +kernel
theorem dX12_manyWins_13 : decode cX12_manyWins 13 = .ok (.aload_n 0, 1) := by decide +kernel
theorem dX12_manyWins_14 : decode cX12_manyWins 14 = .ok (.getfield 7, 3) := by decide +kernel
theorem dX12_manyWins_17 : decode cX12_manyWins 17 = .ok (.iconst 5, 1) := by decide +kernel
theorem dX12_manyWins_18 : decode cX12_manyWins 18 = .ok (.iload_n 2, 1) := by decide +kernel
theorem dX12_manyWins_19 : decode cX12_manyWins 19 = .ok (.iadd, 1) := by decide +kernel
theorem dX12_manyWins_20 : decode cX12_manyWins 20 = .ok (.iaload, 1) := by decide +kernel
theorem dX12_manyWins_21 : decode cX12_manyWins 21 = .ok (.invokestatic 105, 3) := by decide +kernel
theorem dX12_manyWins_24 : decode cX12_manyWins 24 = .ok (.iadd, 1) := by decide +kernel
theorem dX12_manyWins_25 : decode cX12_manyWins 25 = .ok (.istore_n 1, 1) := by decide +kernel
theorem dX12_manyWins_26 : decode cX12_manyWins 26 = .ok (.iinc 2 1, 3) := by decide +kernel
theorem dX12_manyWins_29 : decode cX12_manyWins 29 = .ok (.goto (-25), 3) := by decide +kernel
theorem dX12_manyWins_32 : decode cX12_manyWins 32 = .ok (.iload_n 1, 1) := by decide +kernel
theorem dX12_manyWins_33 : decode cX12_manyWins 33 = .ok (.ireturn, 1) := by decide +kernel
theorem dX12_counted_0 : decode cX12_counted 0 = .ok (.iload_n 1, 1) := by decide +kernel
theorem dX12_counted_1 : decode cX12_counted 1 = .ok (.tableswitch 86 0 6 #[43, 48, 55, 60, 65, 72, 79], 43) := by decide +kernel
theorem dX12_counted_44 : decode cX12_counted 44 = .ok (.aload_n 0, 1) := by decide +kernel
theorem dX12_counted_45 : decode cX12_counted 45 = .ok (.invokevirtual 61, 3) := by decide +kernel
theorem dX12_counted_48 : decode cX12_counted 48 = .ok (.ireturn, 1) := by decide +kernel
theorem dX12_counted_49 : decode cX12_counted 49 = .ok (.aload_n 0, 1) := by decide +kernel
theorem dX12_counted_50 : decode cX12_counted 50 = .ok (.getfield 7, 3) := by decide +kernel
theorem dX12_counted_53 : decode cX12_counted 53 = .ok (.iconst 4, 1) := by decide +kernel
theorem dX12_counted_54 : decode cX12_counted 54 = .ok (.iaload, 1) := by decide +kernel
theorem dX12_counted_55 : decode cX12_counted 55 = .ok (.ireturn, 1) := by decide +kernel
theorem dX12_counted_56 : decode cX12_counted 56 = .ok (.aload_n 0, 1) := by decide +kernel
theorem dX12_counted_57 : decode cX12_counted 57 = .ok (.invokevirtual 253, 3) := by decide +kernel
theorem dX12_counted_60 : decode cX12_counted 60 = .ok (.ireturn, 1) := by decide +kernel
theorem dX12_counted_61 : decode cX12_counted 61 = .ok (.aload_n 0, 1) := by decide +kernel
theorem dX12_counted_62 : decode cX12_counted 62 = .ok (.invokevirtual 256, 3) := by decide +kernel
theorem dX12_counted_65 : decode cX12_counted 65 = .ok (.ireturn, 1) := by decide +kernel
theorem dX12_counted_66 : decode cX12_counted 66 = .ok (.aload_n 0, 1) := by decide +kernel
theorem dX12_counted_67 : decode cX12_counted 67 = .ok (.getfield 7, 3) := by decide +kernel
theorem dX12_counted_70 : decode cX12_counted 70 = .ok (.iconst 1, 1) := by decide +kernel
theorem dX12_counted_71 : decode cX12_counted 71 = .ok (.iaload, 1) := by decide +kernel
theorem dX12_counted_72 : decode cX12_counted 72 = .ok (.ireturn, 1) := by decide +kernel
theorem dX12_counted_73 : decode cX12_counted 73 = .ok (.aload_n 0, 1) := by decide +kernel
theorem dX12_counted_74 : decode cX12_counted 74 = .ok (.getfield 7, 3) := by decide +kernel
theorem dX12_counted_77 : decode cX12_counted 77 = .ok (.iconst 2, 1) := by decide +kernel
theorem dX12_counted_78 : decode cX12_counted 78 = .ok (.iaload, 1) := by decide +kernel
theorem dX12_counted_79 : decode cX12_counted 79 = .ok (.ireturn, 1) := by decide +kernel
theorem dX12_counted_80 : decode cX12_counted 80 = .ok (.aload_n 0, 1) := by decide +kernel
theorem dX12_counted_81 : decode cX12_counted 81 = .ok (.getfield 7, 3) := by decide +kernel
theorem dX12_counted_84 : decode cX12_counted 84 = .ok (.iconst 3, 1) := by decide +kernel
theorem dX12_counted_85 : decode cX12_counted 85 = .ok (.iaload, 1) := by decide +kernel
theorem dX12_counted_86 : decode cX12_counted 86 = .ok (.ireturn, 1) := by decide +kernel
theorem dX12_counted_87 : decode cX12_counted 87 = .ok (.aload_n 0, 1) := by decide +kernel
theorem dX12_counted_88 : decode cX12_counted 88 = .ok (.getfield 200, 3) := by decide +kernel
theorem dX12_counted_91 : decode cX12_counted 91 = .ok (.ireturn, 1) := by decide +kernel
theorem dX12_count_0 : decode cX12_count 0 = .ok (.iload_n 1, 1) := by decide +kernel
theorem dX12_count_1 : decode cX12_count 1 = .ok (.i2l, 1) := by decide +kernel
theorem dX12_count_2 : decode cX12_count 2 = .ok (.lconst 0, 1) := by decide +kernel
theorem dX12_count_3 : decode cX12_count 3 = .ok (.ldc2_w 69, 3) := by decide +kernel
theorem dX12_count_6 : decode cX12_count 6 = .ok (.invokestatic 65, 3) := by decide +kernel
theorem dX12_count_9 : decode cX12_count 9 = .ok (.ifCond .eq 11, 3) := by decide +kernel
theorem dX12_count_12 : decode cX12_count 12 = .ok (.aload_n 0, 1) := by decide +kernel
theorem dX12_count_13 : decode cX12_count 13 = .ok (.iload_n 1, 1) := by decide +kernel
theorem dX12_count_14 : decode cX12_count 14 = .ok (.invokevirtual 259, 3) := by decide +kernel
theorem dX12_count_17 : decode cX12_count 17 = .ok (.goto 9, 3) := by decide +kernel
theorem dX12_count_20 : decode cX12_count 20 = .ok (.aload_n 0, 1) := by decide +kernel
theorem dX12_count_21 : decode cX12_count 21 = .ok (.bipush (-2), 2) := by decide +kernel
theorem dX12_count_23 : decode cX12_count 23 = .ok (.invokevirtual 82, 3) := by decide +kernel
theorem dX12_count_26 : decode cX12_count 26 = .ok (.ireturn, 1) := by decide +kernel
theorem dX12_sums_0 : decode cX12_sums 0 = .ok (.lload_n 1, 1) := by decide +kernel
theorem dX12_sums_1 : decode cX12_sums 1 = .ok (.lstore 5, 2) := by decide +kernel
theorem dX12_sums_3 : decode cX12_sums 3 = .ok (.iconst 0, 1) := by decide +kernel
theorem dX12_sums_4 : decode cX12_sums 4 = .ok (.istore 7, 2) := by decide +kernel
theorem dX12_sums_6 : decode cX12_sums 6 = .ok (.iload 7, 2) := by decide +kernel
theorem dX12_sums_8 : decode cX12_sums 8 = .ok (.iload 4, 2) := by decide +kernel
theorem dX12_sums_10 : decode cX12_sums 10 = .ok (.if_icmp .ge 28, 3) := by decide +kernel
theorem dX12_sums_13 : decode cX12_sums 13 = .ok (.ldc2_w 262, 3) := by decide +kernel
theorem dX12_sums_16 : decode cX12_sums 16 = .ok (.lload 5, 2) := by decide +kernel
theorem dX12_sums_18 : decode cX12_sums 18 = .ok (.lmul, 1) := by decide +kernel
theorem dX12_sums_19 : decode cX12_sums 19 = .ok (.aload_n 0, 1) := by decide +kernel
theorem dX12_sums_20 : decode cX12_sums 20 = .ok (.getfield 7, 3) := by decide +kernel
theorem dX12_sums_23 : decode cX12_sums 23 = .ok (.iload_n 3, 1) := by decide +kernel
theorem dX12_sums_24 : decode cX12_sums 24 = .ok (.iload 7, 2) := by decide +kernel
theorem dX12_sums_26 : decode cX12_sums 26 = .ok (.iadd, 1) := by decide +kernel
theorem dX12_sums_27 : decode cX12_sums 27 = .ok (.iaload, 1) := by decide +kernel
theorem dX12_sums_28 : decode cX12_sums 28 = .ok (.i2l, 1) := by decide +kernel
theorem dX12_sums_29 : decode cX12_sums 29 = .ok (.ladd, 1) := by decide +kernel
theorem dX12_sums_30 : decode cX12_sums 30 = .ok (.lstore 5, 2) := by decide +kernel
theorem dX12_sums_32 : decode cX12_sums 32 = .ok (.iinc 7 1, 3) := by decide +kernel
theorem dX12_sums_35 : decode cX12_sums 35 = .ok (.goto (-29), 3) := by decide +kernel
theorem dX12_sums_38 : decode cX12_sums 38 = .ok (.lload 5, 2) := by decide +kernel
theorem dX12_sums_40 : decode cX12_sums 40 = .ok (.lreturn, 1) := by decide +kernel
theorem dX12_digest_0 : decode cX12_digest 0 = .ok (.ldc2_w 264, 3) := by decide +kernel
theorem dX12_digest_3 : decode cX12_digest 3 = .ok (.lstore_n 1, 1) := by decide +kernel
theorem dX12_digest_4 : decode cX12_digest 4 = .ok (.iconst 0, 1) := by decide +kernel
theorem dX12_digest_5 : decode cX12_digest 5 = .ok (.istore_n 3, 1) := by decide +kernel
theorem dX12_digest_6 : decode cX12_digest 6 = .ok (.iload_n 3, 1) := by decide +kernel
theorem dX12_digest_7 : decode cX12_digest 7 = .ok (.bipush 8, 2) := by decide +kernel
theorem dX12_digest_9 : decode cX12_digest 9 = .ok (.if_icmp .ge 22, 3) := by decide +kernel
theorem dX12_digest_12 : decode cX12_digest 12 = .ok (.ldc2_w 262, 3) := by decide +kernel
theorem dX12_digest_15 : decode cX12_digest 15 = .ok (.lload_n 1, 1) := by decide +kernel
theorem dX12_digest_16 : decode cX12_digest 16 = .ok (.lmul, 1) := by decide +kernel
theorem dX12_digest_17 : decode cX12_digest 17 = .ok (.aload_n 0, 1) := by decide +kernel
theorem dX12_digest_18 : decode cX12_digest 18 = .ok (.iload_n 3, 1) := by decide +kernel
theorem dX12_digest_19 : decode cX12_digest 19 = .ok (.invokevirtual 259, 3) := by decide +kernel
theorem dX12_digest_22 : decode cX12_digest 22 = .ok (.i2l, 1) := by decide +kernel
theorem dX12_digest_23 : decode cX12_digest 23 = .ok (.ladd, 1) := by decide +kernel
theorem dX12_digest_24 : decode cX12_digest 24 = .ok (.lstore_n 1, 1) := by decide +kernel
theorem dX12_digest_25 : decode cX12_digest 25 = .ok (.iinc 3 1, 3) := by decide +kernel
theorem dX12_digest_28 : decode cX12_digest 28 = .ok (.goto (-22), 3) := by decide +kernel
theorem dX12_digest_31 : decode cX12_digest 31 = .ok (.iconst 0, 1) := by decide +kernel
theorem dX12_digest_32 : decode cX12_digest 32 = .ok (.istore_n 3, 1) := by decide +kernel
theorem dX12_digest_33 : decode cX12_digest 33 = .ok (.iload_n 3, 1) := by decide +kernel
theorem dX12_digest_34 : decode cX12_digest 34 = .ok (.bipush 8, 2) := by decide +kernel
theorem dX12_digest_36 : decode cX12_digest 36 = .ok (.if_icmp .ge 41, 3) := by decide +kernel
theorem dX12_digest_39 : decode cX12_digest 39 = .ok (.ldc2_w 262, 3) := by decide +kernel
theorem dX12_digest_42 : decode cX12_digest 42 = .ok (.ldc2_w 262, 3) := by decide +kernel
theorem dX12_digest_45 : decode cX12_digest 45 = .ok (.lload_n 1, 1) := by decide +kernel
theorem dX12_digest_46 : decode cX12_digest 46 = .ok (.lmul, 1) := by decide +kernel
theorem dX12_digest_47 : decode cX12_digest 47 = .ok (.aload_n 0, 1) := by decide +kernel
theorem dX12_digest_48 : decode cX12_digest 48 = .ok (.getfield 7, 3) := by decide +kernel
theorem dX12_digest_51 : decode cX12_digest 51 = .ok (.bipush 41, 2) := by decide +kernel
theorem dX12_digest_53 : decode cX12_digest 53 = .ok (.iload_n 3, 1) := by decide +kernel
theorem dX12_digest_54 : decode cX12_digest 54 = .ok (.iadd, 1) := by decide +kernel
theorem dX12_digest_55 : decode cX12_digest 55 = .ok (.iaload, 1) := by decide +kernel
theorem dX12_digest_56 : decode cX12_digest 56 = .ok (.i2l, 1) := by decide +kernel
theorem dX12_digest_57 : decode cX12_digest 57 = .ok (.ladd, 1) := by decide +kernel
theorem dX12_digest_58 : decode cX12_digest 58 = .ok (.lmul, 1) := by decide +kernel
theorem dX12_digest_59 : decode cX12_digest 59 = .ok (.aload_n 0, 1) := by decide +kernel
theorem dX12_digest_60 : decode cX12_digest 60 = .ok (.getfield 7, 3) := by decide +kernel
theorem dX12_digest_63 : decode cX12_digest 63 = .ok (.bipush 49, 2) := by decide +kernel
theorem dX12_digest_65 : decode cX12_digest 65 = .ok (.iload_n 3, 1) := by decide +kernel
theorem dX12_digest_66 : decode cX12_digest 66 = .ok (.iadd, 1) := by decide +kernel
theorem dX12_digest_67 : decode cX12_digest 67 = .ok (.iaload, 1) := by decide +kernel
theorem dX12_digest_68 : decode cX12_digest 68 = .ok (.i2l, 1) := by decide +kernel
theorem dX12_digest_69 : decode cX12_digest 69 = .ok (.ladd, 1) := by decide +kernel
theorem dX12_digest_70 : decode cX12_digest 70 = .ok (.lstore_n 1, 1) := by decide +kernel
theorem dX12_digest_71 : decode cX12_digest 71 = .ok (.iinc 3 1, 3) := by decide +kernel
theorem dX12_digest_74 : decode cX12_digest 74 = .ok (.goto (-41), 3) := by decide +kernel
theorem dX12_digest_77 : decode cX12_digest 77 = .ok (.iconst 0, 1) := by decide +kernel
theorem dX12_digest_78 : decode cX12_digest 78 = .ok (.istore_n 3, 1) := by decide +kernel
theorem dX12_digest_79 : decode cX12_digest 79 = .ok (.iload_n 3, 1) := by decide +kernel
theorem dX12_digest_80 : decode cX12_digest 80 = .ok (.aload_n 0, 1) := by decide +kernel
theorem dX12_digest_81 : decode cX12_digest 81 = .ok (.invokevirtual 61, 3) := by decide +kernel
theorem dX12_digest_84 : decode cX12_digest 84 = .ok (.if_icmp .ge 68, 3) := by decide +kernel
theorem dX12_digest_87 : decode cX12_digest 87 = .ok (.aload_n 0, 1) := by decide +kernel
theorem dX12_digest_88 : decode cX12_digest 88 = .ok (.ldc2_w 262, 3) := by decide +kernel
theorem dX12_digest_91 : decode cX12_digest 91 = .ok (.lload_n 1, 1) := by decide +kernel
theorem dX12_digest_92 : decode cX12_digest 92 = .ok (.lmul, 1) := by decide +kernel
theorem dX12_digest_93 : decode cX12_digest 93 = .ok (.aload_n 0, 1) := by decide +kernel
theorem dX12_digest_94 : decode cX12_digest 94 = .ok (.getfield 7, 3) := by decide +kernel
theorem dX12_digest_97 : decode cX12_digest 97 = .ok (.bipush 17, 2) := by decide +kernel
theorem dX12_digest_99 : decode cX12_digest 99 = .ok (.iload_n 3, 1) := by decide +kernel
theorem dX12_digest_100 : decode cX12_digest 100 = .ok (.iadd, 1) := by decide +kernel
theorem dX12_digest_101 : decode cX12_digest 101 = .ok (.iaload, 1) := by decide +kernel
theorem dX12_digest_102 : decode cX12_digest 102 = .ok (.i2l, 1) := by decide +kernel
theorem dX12_digest_103 : decode cX12_digest 103 = .ok (.ladd, 1) := by decide +kernel
theorem dX12_digest_104 : decode cX12_digest 104 = .ok (.bipush 23, 2) := by decide +kernel
theorem dX12_digest_106 : decode cX12_digest 106 = .ok (.iconst 3, 1) := by decide +kernel
theorem dX12_digest_107 : decode cX12_digest 107 = .ok (.iload_n 3, 1) := by decide +kernel
theorem dX12_digest_108 : decode cX12_digest 108 = .ok (.imul, 1) := by decide +kernel
theorem dX12_digest_109 : decode cX12_digest 109 = .ok (.iadd, 1) := by decide +kernel
theorem dX12_digest_110 : decode cX12_digest 110 = .ok (.iconst 3, 1) := by decide +kernel
theorem dX12_digest_111 : decode cX12_digest 111 = .ok (.invokevirtual 266, 3) := by decide +kernel
theorem dX12_digest_114 : decode cX12_digest 114 = .ok (.lstore_n 1, 1) := by decide +kernel
theorem dX12_digest_115 : decode cX12_digest 115 = .ok (.ldc2_w 262, 3) := by decide +kernel
theorem dX12_digest_118 : decode cX12_digest 118 = .ok (.ldc2_w 262, 3) := by decide +kernel
theorem dX12_digest_121 : decode cX12_digest 121 = .ok (.lload_n 1, 1) := by decide +kernel
theorem dX12_digest_122 : decode cX12_digest 122 = .ok (.lmul, 1) := by decide +kernel
theorem dX12_digest_123 : decode cX12_digest 123 = .ok (.aload_n 0, 1) := by decide +kernel
theorem dX12_digest_124 : decode cX12_digest 124 = .ok (.getfield 7, 3) := by decide +kernel
theorem dX12_digest_127 : decode cX12_digest 127 = .ok (.iconst 5, 1) := by decide +kernel
theorem dX12_digest_128 : decode cX12_digest 128 = .ok (.iload_n 3, 1) := by decide +kernel
theorem dX12_digest_129 : decode cX12_digest 129 = .ok (.iadd, 1) := by decide +kernel
theorem dX12_digest_130 : decode cX12_digest 130 = .ok (.iaload, 1) := by decide +kernel
theorem dX12_digest_131 : decode cX12_digest 131 = .ok (.i2l, 1) := by decide +kernel
theorem dX12_digest_132 : decode cX12_digest 132 = .ok (.ladd, 1) := by decide +kernel
theorem dX12_digest_133 : decode cX12_digest 133 = .ok (.lmul, 1) := by decide +kernel
theorem dX12_digest_134 : decode cX12_digest 134 = .ok (.aload_n 0, 1) := by decide +kernel
theorem dX12_digest_135 : decode cX12_digest 135 = .ok (.getfield 7, 3) := by decide +kernel
theorem dX12_digest_138 : decode cX12_digest 138 = .ok (.bipush 11, 2) := by decide +kernel
theorem dX12_digest_140 : decode cX12_digest 140 = .ok (.iload_n 3, 1) := by decide +kernel
theorem dX12_digest_141 : decode cX12_digest 141 = .ok (.iadd, 1) := by decide +kernel
theorem dX12_digest_142 : decode cX12_digest 142 = .ok (.iaload, 1) := by decide +kernel
theorem dX12_digest_143 : decode cX12_digest 143 = .ok (.i2l, 1) := by decide +kernel
theorem dX12_digest_144 : decode cX12_digest 144 = .ok (.ladd, 1) := by decide +kernel
theorem dX12_digest_145 : decode cX12_digest 145 = .ok (.lstore_n 1, 1) := by decide +kernel
theorem dX12_digest_146 : decode cX12_digest 146 = .ok (.iinc 3 1, 3) := by decide +kernel
theorem dX12_digest_149 : decode cX12_digest 149 = .ok (.goto (-70), 3) := by decide +kernel
theorem dX12_digest_152 : decode cX12_digest 152 = .ok (.aload_n 0, 1) := by decide +kernel
theorem dX12_digest_153 : decode cX12_digest 153 = .ok (.lload_n 1, 1) := by decide +kernel
theorem dX12_digest_154 : decode cX12_digest 154 = .ok (.bipush 57, 2) := by decide +kernel
theorem dX12_digest_156 : decode cX12_digest 156 = .ok (.iconst 4, 1) := by decide +kernel
theorem dX12_digest_157 : decode cX12_digest 157 = .ok (.aload_n 0, 1) := by decide +kernel
theorem dX12_digest_158 : decode cX12_digest 158 = .ok (.getfield 7, 3) := by decide +kernel
theorem dX12_digest_161 : decode cX12_digest 161 = .ok (.iconst 1, 1) := by decide +kernel
theorem dX12_digest_162 : decode cX12_digest 162 = .ok (.iaload, 1) := by decide +kernel
theorem dX12_digest_163 : decode cX12_digest 163 = .ok (.imul, 1) := by decide +kernel
theorem dX12_digest_164 : decode cX12_digest 164 = .ok (.invokevirtual 266, 3) := by decide +kernel
theorem dX12_digest_167 : decode cX12_digest 167 = .ok (.lstore_n 1, 1) := by decide +kernel
theorem dX12_digest_168 : decode cX12_digest 168 = .ok (.aload_n 0, 1) := by decide +kernel
theorem dX12_digest_169 : decode cX12_digest 169 = .ok (.lload_n 1, 1) := by decide +kernel
theorem dX12_digest_170 : decode cX12_digest 170 = .ok (.bipush 81, 2) := by decide +kernel
theorem dX12_digest_172 : decode cX12_digest 172 = .ok (.iconst 4, 1) := by decide +kernel
theorem dX12_digest_173 : decode cX12_digest 173 = .ok (.aload_n 0, 1) := by decide +kernel
theorem dX12_digest_174 : decode cX12_digest 174 = .ok (.getfield 7, 3) := by decide +kernel
theorem dX12_digest_177 : decode cX12_digest 177 = .ok (.iconst 2, 1) := by decide +kernel
theorem dX12_digest_178 : decode cX12_digest 178 = .ok (.iaload, 1) := by decide +kernel
theorem dX12_digest_179 : decode cX12_digest 179 = .ok (.imul, 1) := by decide +kernel
theorem dX12_digest_180 : decode cX12_digest 180 = .ok (.invokevirtual 266, 3) := by decide +kernel
theorem dX12_digest_183 : decode cX12_digest 183 = .ok (.lstore_n 1, 1) := by decide +kernel
theorem dX12_digest_184 : decode cX12_digest 184 = .ok (.ldc2_w 262, 3) := by decide +kernel
theorem dX12_digest_187 : decode cX12_digest 187 = .ok (.ldc2_w 262, 3) := by decide +kernel
theorem dX12_digest_190 : decode cX12_digest 190 = .ok (.lload_n 1, 1) := by decide +kernel
theorem dX12_digest_191 : decode cX12_digest 191 = .ok (.lmul, 1) := by decide +kernel
theorem dX12_digest_192 : decode cX12_digest 192 = .ok (.aload_n 0, 1) := by decide +kernel
theorem dX12_digest_193 : decode cX12_digest 193 = .ok (.getfield 175, 3) := by decide +kernel
theorem dX12_digest_196 : decode cX12_digest 196 = .ok (.ladd, 1) := by decide +kernel
theorem dX12_digest_197 : decode cX12_digest 197 = .ok (.lmul, 1) := by decide +kernel
theorem dX12_digest_198 : decode cX12_digest 198 = .ok (.aload_n 0, 1) := by decide +kernel
theorem dX12_digest_199 : decode cX12_digest 199 = .ok (.getfield 23, 3) := by decide +kernel
theorem dX12_digest_202 : decode cX12_digest 202 = .ok (.ladd, 1) := by decide +kernel
theorem dX12_digest_203 : decode cX12_digest 203 = .ok (.lreturn, 1) := by decide +kernel
theorem dJ6_bitCount_0f7a4_0 : decode cJ6_bitCount_0f7a4 0 = .ok (.iload_n 0, 1) := by decide +kernel
theorem dJ6_bitCount_0f7a4_1 : decode cJ6_bitCount_0f7a4 1 = .ok (.iload_n 0, 1) := by decide +kernel
theorem dJ6_bitCount_0f7a4_2 : decode cJ6_bitCount_0f7a4 2 = .ok (.iconst 1, 1) := by decide +kernel
theorem dJ6_bitCount_0f7a4_3 : decode cJ6_bitCount_0f7a4 3 = .ok (.iushr, 1) := by decide +kernel
theorem dJ6_bitCount_0f7a4_4 : decode cJ6_bitCount_0f7a4 4 = .ok (.ldc_w 265, 3) := by decide +kernel
theorem dJ6_bitCount_0f7a4_7 : decode cJ6_bitCount_0f7a4 7 = .ok (.iand, 1) := by decide +kernel
theorem dJ6_bitCount_0f7a4_8 : decode cJ6_bitCount_0f7a4 8 = .ok (.isub, 1) := by decide +kernel
theorem dJ6_bitCount_0f7a4_9 : decode cJ6_bitCount_0f7a4 9 = .ok (.istore_n 0, 1) := by decide +kernel
theorem dJ6_bitCount_0f7a4_10 : decode cJ6_bitCount_0f7a4 10 = .ok (.iload_n 0, 1) := by decide +kernel
theorem dJ6_bitCount_0f7a4_11 : decode cJ6_bitCount_0f7a4 11 = .ok (.ldc_w 266, 3) := by decide +kernel
theorem dJ6_bitCount_0f7a4_14 : decode cJ6_bitCount_0f7a4 14 = .ok (.iand, 1) := by decide +kernel
theorem dJ6_bitCount_0f7a4_15 : decode cJ6_bitCount_0f7a4 15 = .ok (.iload_n 0, 1) := by decide +kernel
theorem dJ6_bitCount_0f7a4_16 : decode cJ6_bitCount_0f7a4 16 = .ok (.iconst 2, 1) := by decide +kernel
theorem dJ6_bitCount_0f7a4_17 : decode cJ6_bitCount_0f7a4 17 = .ok (.iushr, 1) := by decide +kernel
theorem dJ6_bitCount_0f7a4_18 : decode cJ6_bitCount_0f7a4 18 = .ok (.ldc_w 266, 3) := by decide +kernel
theorem dJ6_bitCount_0f7a4_21 : decode cJ6_bitCount_0f7a4 21 = .ok (.iand, 1) := by decide +kernel
theorem dJ6_bitCount_0f7a4_22 : decode cJ6_bitCount_0f7a4 22 = .ok (.iadd, 1) := by decide +kernel
theorem dJ6_bitCount_0f7a4_23 : decode cJ6_bitCount_0f7a4 23 = .ok (.istore_n 0, 1) := by decide +kernel
theorem dJ6_bitCount_0f7a4_24 : decode cJ6_bitCount_0f7a4 24 = .ok (.iload_n 0, 1) := by decide +kernel
theorem dJ6_bitCount_0f7a4_25 : decode cJ6_bitCount_0f7a4 25 = .ok (.iload_n 0, 1) := by decide +kernel
theorem dJ6_bitCount_0f7a4_26 : decode cJ6_bitCount_0f7a4 26 = .ok (.iconst 4, 1) := by decide +kernel
theorem dJ6_bitCount_0f7a4_27 : decode cJ6_bitCount_0f7a4 27 = .ok (.iushr, 1) := by decide +kernel
theorem dJ6_bitCount_0f7a4_28 : decode cJ6_bitCount_0f7a4 28 = .ok (.iadd, 1) := by decide +kernel
theorem dJ6_bitCount_0f7a4_29 : decode cJ6_bitCount_0f7a4 29 = .ok (.ldc_w 267, 3) := by decide +kernel
theorem dJ6_bitCount_0f7a4_32 : decode cJ6_bitCount_0f7a4 32 = .ok (.iand, 1) := by decide +kernel
theorem dJ6_bitCount_0f7a4_33 : decode cJ6_bitCount_0f7a4 33 = .ok (.istore_n 0, 1) := by decide +kernel
theorem dJ6_bitCount_0f7a4_34 : decode cJ6_bitCount_0f7a4 34 = .ok (.iload_n 0, 1) := by decide +kernel
theorem dJ6_bitCount_0f7a4_35 : decode cJ6_bitCount_0f7a4 35 = .ok (.iload_n 0, 1) := by decide +kernel
theorem dJ6_bitCount_0f7a4_36 : decode cJ6_bitCount_0f7a4 36 = .ok (.bipush 8, 2) := by decide +kernel
theorem dJ6_bitCount_0f7a4_38 : decode cJ6_bitCount_0f7a4 38 = .ok (.iushr, 1) := by decide +kernel
theorem dJ6_bitCount_0f7a4_39 : decode cJ6_bitCount_0f7a4 39 = .ok (.iadd, 1) := by decide +kernel
theorem dJ6_bitCount_0f7a4_40 : decode cJ6_bitCount_0f7a4 40 = .ok (.istore_n 0, 1) := by decide +kernel
theorem dJ6_bitCount_0f7a4_41 : decode cJ6_bitCount_0f7a4 41 = .ok (.iload_n 0, 1) := by decide +kernel
theorem dJ6_bitCount_0f7a4_42 : decode cJ6_bitCount_0f7a4 42 = .ok (.iload_n 0, 1) := by decide +kernel
theorem dJ6_bitCount_0f7a4_43 : decode cJ6_bitCount_0f7a4 43 = .ok (.bipush 16, 2) := by decide +kernel
theorem dJ6_bitCount_0f7a4_45 : decode cJ6_bitCount_0f7a4 45 = .ok (.iushr, 1) := by decide +kernel
theorem dJ6_bitCount_0f7a4_46 : decode cJ6_bitCount_0f7a4 46 = .ok (.iadd, 1) := by decide +kernel
theorem dJ6_bitCount_0f7a4_47 : decode cJ6_bitCount_0f7a4 47 = .ok (.istore_n 0, 1) := by decide +kernel
theorem dJ6_bitCount_0f7a4_48 : decode cJ6_bitCount_0f7a4 48 = .ok (.iload_n 0, 1) := by decide +kernel
theorem dJ6_bitCount_0f7a4_49 : decode cJ6_bitCount_0f7a4 49 = .ok (.bipush 63, 2) := by decide +kernel
theorem dJ6_bitCount_0f7a4_51 : decode cJ6_bitCount_0f7a4 51 = .ok (.iand, 1) := by decide +kernel
theorem dJ6_bitCount_0f7a4_52 : decode cJ6_bitCount_0f7a4 52 = .ok (.ireturn, 1) := by decide +kernel
theorem dJ9_max_7cf53_0 : decode cJ9_max_7cf53 0 = .ok (.iload_n 0, 1) := by decide +kernel
theorem dJ9_max_7cf53_1 : decode cJ9_max_7cf53 1 = .ok (.iload_n 1, 1) := by decide +kernel
theorem dJ9_max_7cf53_2 : decode cJ9_max_7cf53 2 = .ok (.if_icmp .lt 7, 3) := by decide +kernel
theorem dJ9_max_7cf53_5 : decode cJ9_max_7cf53 5 = .ok (.iload_n 0, 1) := by decide +kernel
theorem dJ9_max_7cf53_6 : decode cJ9_max_7cf53 6 = .ok (.goto 4, 3) := by decide +kernel
theorem dJ9_max_7cf53_9 : decode cJ9_max_7cf53 9 = .ok (.iload_n 1, 1) := by decide +kernel
theorem dJ9_max_7cf53_10 : decode cJ9_max_7cf53 10 = .ok (.ireturn, 1) := by decide +kernel
theorem dJ0_length_8abf5_0 : decode cJ0_length_8abf5 0 = .ok (.aload_n 0, 1) := by decide +kernel
theorem dJ0_length_8abf5_1 : decode cJ0_length_8abf5 1 = .ok (.getfield 9, 3) := by decide +kernel
theorem dJ0_length_8abf5_4 : decode cJ0_length_8abf5 4 = .ok (.arraylength, 1) := by decide +kernel
theorem dJ0_length_8abf5_5 : decode cJ0_length_8abf5 5 = .ok (.aload_n 0, 1) := by decide +kernel
theorem dJ0_length_8abf5_6 : decode cJ0_length_8abf5 6 = .ok (.invokevirtual 335, 3) := by decide +kernel
theorem dJ0_length_8abf5_9 : decode cJ0_length_8abf5 9 = .ok (.ishr, 1) := by decide +kernel
theorem dJ0_length_8abf5_10 : decode cJ0_length_8abf5 10 = .ok (.ireturn, 1) := by decide +kernel
theorem dJ0_charAt_5068e_0 : decode cJ0_charAt_5068e 0 = .ok (.aload_n 0, 1) := by decide +kernel
theorem dJ0_charAt_5068e_1 : decode cJ0_charAt_5068e 1 = .ok (.invokevirtual 492, 3) := by decide +kernel
theorem dJ0_charAt_5068e_4 : decode cJ0_charAt_5068e 4 = .ok (.ifCond .eq 12, 3) := by decide +kernel
theorem dJ0_charAt_5068e_7 : decode cJ0_charAt_5068e 7 = .ok (.aload_n 0, 1) := by decide +kernel
theorem dJ0_charAt_5068e_8 : decode cJ0_charAt_5068e 8 = .ok (.getfield 9, 3) := by decide +kernel
theorem dJ0_charAt_5068e_11 : decode cJ0_charAt_5068e 11 = .ok (.iload_n 1, 1) := by decide +kernel
theorem dJ0_charAt_5068e_12 : decode cJ0_charAt_5068e 12 = .ok (.invokestatic 495, 3) := by decide +kernel
theorem dJ0_charAt_5068e_15 : decode cJ0_charAt_5068e 15 = .ok (.ireturn, 1) := by decide +kernel
theorem dJ0_charAt_5068e_16 : decode cJ0_charAt_5068e 16 = .ok (.aload_n 0, 1) := by decide +kernel
theorem dJ0_charAt_5068e_17 : decode cJ0_charAt_5068e 17 = .ok (.getfield 9, 3) := by decide +kernel
theorem dJ0_charAt_5068e_20 : decode cJ0_charAt_5068e 20 = .ok (.iload_n 1, 1) := by decide +kernel
theorem dJ0_charAt_5068e_21 : decode cJ0_charAt_5068e 21 = .ok (.invokestatic 498, 3) := by decide +kernel
theorem dJ0_charAt_5068e_24 : decode cJ0_charAt_5068e 24 = .ok (.ireturn, 1) := by decide +kernel
theorem dJ0_coder_7d493_0 : decode cJ0_coder_7d493 0 = .ok (.getstatic 38, 3) := by decide +kernel
theorem dJ0_coder_7d493_3 : decode cJ0_coder_7d493 3 = .ok (.ifCond .eq 10, 3) := by decide +kernel
theorem dJ0_coder_7d493_6 : decode cJ0_coder_7d493 6 = .ok (.aload_n 0, 1) := by decide +kernel
theorem dJ0_coder_7d493_7 : decode cJ0_coder_7d493 7 = .ok (.getfield 15, 3) := by decide +kernel
theorem dJ0_coder_7d493_10 : decode cJ0_coder_7d493 10 = .ok (.goto 4, 3) := by decide +kernel
theorem dJ0_coder_7d493_13 : decode cJ0_coder_7d493 13 = .ok (.iconst 1, 1) := by decide +kernel
theorem dJ0_coder_7d493_14 : decode cJ0_coder_7d493 14 = .ok (.ireturn, 1) := by decide +kernel
theorem dJ0_isLatin1_aae02_0 : decode cJ0_isLatin1_aae02 0 = .ok (.getstatic 38, 3) := by decide +kernel
theorem dJ0_isLatin1_aae02_3 : decode cJ0_isLatin1_aae02 3 = .ok (.ifCond .eq 14, 3) := by decide +kernel
theorem dJ0_isLatin1_aae02_6 : decode cJ0_isLatin1_aae02 6 = .ok (.aload_n 0, 1) := by decide +kernel
theorem dJ0_isLatin1_aae02_7 : decode cJ0_isLatin1_aae02 7 = .ok (.getfield 15, 3) := by decide +kernel
theorem dJ0_isLatin1_aae02_10 : decode cJ0_isLatin1_aae02 10 = .ok (.ifCond .ne 7, 3) := by decide +kernel
theorem dJ0_isLatin1_aae02_13 : decode cJ0_isLatin1_aae02 13 = .ok (.iconst 1, 1) := by decide +kernel
theorem dJ0_isLatin1_aae02_14 : decode cJ0_isLatin1_aae02 14 = .ok (.goto 4, 3) := by decide +kernel
theorem dJ0_isLatin1_aae02_17 : decode cJ0_isLatin1_aae02 17 = .ok (.iconst 0, 1) := by decide +kernel
theorem dJ0_isLatin1_aae02_18 : decode cJ0_isLatin1_aae02 18 = .ok (.ireturn, 1) := by decide +kernel
theorem dJ0_checkIndex_df160_0 : decode cJ0_checkIndex_df160 0 = .ok (.iload_n 0, 1) := by decide +kernel
theorem dJ0_checkIndex_df160_1 : decode cJ0_checkIndex_df160 1 = .ok (.iload_n 1, 1) := by decide +kernel
theorem dJ0_checkIndex_df160_2 : decode cJ0_checkIndex_df160 2 = .ok (.getstatic 1053, 3) := by decide +kernel
theorem dJ0_checkIndex_df160_5 : decode cJ0_checkIndex_df160 5 = .ok (.invokestatic 1059, 3) := by decide +kernel
theorem dJ0_checkIndex_df160_8 : decode cJ0_checkIndex_df160 8 = .ok (.pop, 1) := by decide +kernel
theorem dJ0_checkIndex_df160_9 : decode cJ0_checkIndex_df160 9 = .ok (.return_, 1) := by decide +kernel
theorem dJ1_charAt_3b067_0 : decode cJ1_charAt_3b067 0 = .ok (.iload_n 1, 1) := by decide +kernel
theorem dJ1_charAt_3b067_1 : decode cJ1_charAt_3b067 1 = .ok (.aload_n 0, 1) := by decide +kernel
theorem dJ1_charAt_3b067_2 : decode cJ1_charAt_3b067 2 = .ok (.arraylength, 1) := by decide +kernel
theorem dJ1_charAt_3b067_3 : decode cJ1_charAt_3b067 3 = .ok (.invokestatic 9, 3) := by decide +kernel
theorem dJ1_charAt_3b067_6 : decode cJ1_charAt_3b067 6 = .ok (.aload_n 0, 1) := by decide +kernel
theorem dJ1_charAt_3b067_7 : decode cJ1_charAt_3b067 7 = .ok (.iload_n 1, 1) := by decide +kernel
theorem dJ1_charAt_3b067_8 : decode cJ1_charAt_3b067 8 = .ok (.baload, 1) := by decide +kernel
theorem dJ1_charAt_3b067_9 : decode cJ1_charAt_3b067 9 = .ok (.sipush 255, 3) := by decide +kernel
theorem dJ1_charAt_3b067_12 : decode cJ1_charAt_3b067 12 = .ok (.iand, 1) := by decide +kernel
theorem dJ1_charAt_3b067_13 : decode cJ1_charAt_3b067 13 = .ok (.i2c, 1) := by decide +kernel
theorem dJ1_charAt_3b067_14 : decode cJ1_charAt_3b067 14 = .ok (.ireturn, 1) := by decide +kernel
theorem dJ2_getChar_3b067_0 : decode cJ2_getChar_3b067 0 = .ok (.getstatic 44, 3) := by decide +kernel
theorem dJ2_getChar_3b067_3 : decode cJ2_getChar_3b067 3 = .ok (.ifCond .ne 25, 3) := by decide +kernel
theorem dJ2_getChar_3b067_6 : decode cJ2_getChar_3b067 6 = .ok (.iload_n 1, 1) := by decide +kernel
theorem dJ2_getChar_3b067_7 : decode cJ2_getChar_3b067 7 = .ok (.ifCond .lt 11, 3) := by decide +kernel
theorem dJ2_getChar_3b067_10 : decode cJ2_getChar_3b067 10 = .ok (.iload_n 1, 1) := by decide +kernel
theorem dJ2_getChar_3b067_11 : decode cJ2_getChar_3b067 11 = .ok (.aload_n 0, 1) := by decide +kernel
theorem dJ2_getChar_3b067_12 : decode cJ2_getChar_3b067 12 = .ok (.invokestatic 48, 3) := by decide +kernel
theorem dJ2_getChar_3b067_15 : decode cJ2_getChar_3b067 15 = .ok (.if_icmp .lt 13, 3) := by decide +kernel
theorem dJ2_getChar_3b067_18 : decode cJ2_getChar_3b067 18 = .ok (.new 52, 3) := by decide +kernel
theorem dJ2_getChar_3b067_21 : decode cJ2_getChar_3b067 21 = .ok (.dup, 1) := by decide +kernel
theorem dJ2_getChar_3b067_22 : decode cJ2_getChar_3b067 22 = .ok (.ldc 54, 2) := by decide +kernel
theorem dJ2_getChar_3b067_24 : decode cJ2_getChar_3b067 24 = .ok (.invokespecial 56, 3) := by decide +kernel
theorem dJ2_getChar_3b067_27 : decode cJ2_getChar_3b067 27 = .ok (.athrow, 1) := by decide +kernel
theorem dJ2_getChar_3b067_28 : decode cJ2_getChar_3b067 28 = .ok (.iload_n 1, 1) := by decide +kernel
theorem dJ2_getChar_3b067_29 : decode cJ2_getChar_3b067 29 = .ok (.iconst 1, 1) := by decide +kernel
theorem dJ2_getChar_3b067_30 : decode cJ2_getChar_3b067 30 = .ok (.ishl, 1) := by decide +kernel
theorem dJ2_getChar_3b067_31 : decode cJ2_getChar_3b067 31 = .ok (.istore_n 1, 1) := by decide +kernel
theorem dJ2_getChar_3b067_32 : decode cJ2_getChar_3b067 32 = .ok (.aload_n 0, 1) := by decide +kernel
theorem dJ2_getChar_3b067_33 : decode cJ2_getChar_3b067 33 = .ok (.iload_n 1, 1) := by decide +kernel
theorem dJ2_getChar_3b067_34 : decode cJ2_getChar_3b067 34 = .ok (.iinc 1 1, 3) := by decide +kernel
theorem dJ2_getChar_3b067_37 : decode cJ2_getChar_3b067 37 = .ok (.baload, 1) := by decide +kernel
theorem dJ2_getChar_3b067_38 : decode cJ2_getChar_3b067 38 = .ok (.sipush 255, 3) := by decide +kernel
theorem dJ2_getChar_3b067_41 : decode cJ2_getChar_3b067 41 = .ok (.iand, 1) := by decide +kernel
theorem dJ2_getChar_3b067_42 : decode cJ2_getChar_3b067 42 = .ok (.getstatic 59, 3) := by decide +kernel
theorem dJ2_getChar_3b067_45 : decode cJ2_getChar_3b067 45 = .ok (.ishl, 1) := by decide +kernel
theorem dJ2_getChar_3b067_46 : decode cJ2_getChar_3b067 46 = .ok (.aload_n 0, 1) := by decide +kernel
theorem dJ2_getChar_3b067_47 : decode cJ2_getChar_3b067 47 = .ok (.iload_n 1, 1) := by decide +kernel
theorem dJ2_getChar_3b067_48 : decode cJ2_getChar_3b067 48 = .ok (.baload, 1) := by decide +kernel
theorem dJ2_getChar_3b067_49 : decode cJ2_getChar_3b067 49 = .ok (.sipush 255, 3) := by decide +kernel
theorem dJ2_getChar_3b067_52 : decode cJ2_getChar_3b067 52 = .ok (.iand, 1) := by decide +kernel
theorem dJ2_getChar_3b067_53 : decode cJ2_getChar_3b067 53 = .ok (.getstatic 63, 3) := by decide +kernel
theorem dJ2_getChar_3b067_56 : decode cJ2_getChar_3b067 56 = .ok (.ishl, 1) := by decide +kernel
theorem dJ2_getChar_3b067_57 : decode cJ2_getChar_3b067 57 = .ok (.ior, 1) := by decide +kernel
theorem dJ2_getChar_3b067_58 : decode cJ2_getChar_3b067 58 = .ok (.i2c, 1) := by decide +kernel
theorem dJ2_getChar_3b067_59 : decode cJ2_getChar_3b067 59 = .ok (.ireturn, 1) := by decide +kernel
theorem dJ2_length_9d52b_0 : decode cJ2_length_9d52b 0 = .ok (.aload_n 0, 1) := by decide +kernel
theorem dJ2_length_9d52b_1 : decode cJ2_length_9d52b 1 = .ok (.arraylength, 1) := by decide +kernel
theorem dJ2_length_9d52b_2 : decode cJ2_length_9d52b 2 = .ok (.iconst 1, 1) := by decide +kernel
theorem dJ2_length_9d52b_3 : decode cJ2_length_9d52b 3 = .ok (.ishr, 1) := by decide +kernel
theorem dJ2_length_9d52b_4 : decode cJ2_length_9d52b 4 = .ok (.ireturn, 1) := by decide +kernel
theorem dJ2_charAt_3b067_0 : decode cJ2_charAt_3b067 0 = .ok (.iload_n 1, 1) := by decide +kernel
theorem dJ2_charAt_3b067_1 : decode cJ2_charAt_3b067 1 = .ok (.aload_n 0, 1) := by decide +kernel
theorem dJ2_charAt_3b067_2 : decode cJ2_charAt_3b067 2 = .ok (.invokestatic 67, 3) := by decide +kernel
theorem dJ2_charAt_3b067_5 : decode cJ2_charAt_3b067 5 = .ok (.aload_n 0, 1) := by decide +kernel
theorem dJ2_charAt_3b067_6 : decode cJ2_charAt_3b067 6 = .ok (.iload_n 1, 1) := by decide +kernel
theorem dJ2_charAt_3b067_7 : decode cJ2_charAt_3b067 7 = .ok (.invokestatic 71, 3) := by decide +kernel
theorem dJ2_charAt_3b067_10 : decode cJ2_charAt_3b067 10 = .ok (.ireturn, 1) := by decide +kernel
theorem dJ2_checkIndex_2214a_0 : decode cJ2_checkIndex_2214a 0 = .ok (.iload_n 0, 1) := by decide +kernel
theorem dJ2_checkIndex_2214a_1 : decode cJ2_checkIndex_2214a 1 = .ok (.aload_n 1, 1) := by decide +kernel
theorem dJ2_checkIndex_2214a_2 : decode cJ2_checkIndex_2214a 2 = .ok (.invokestatic 48, 3) := by decide +kernel
theorem dJ2_checkIndex_2214a_5 : decode cJ2_checkIndex_2214a 5 = .ok (.invokestatic 414, 3) := by decide +kernel
theorem dJ2_checkIndex_2214a_8 : decode cJ2_checkIndex_2214a 8 = .ok (.return_, 1) := by decide +kernel
theorem dJ7_fill_53178_0 : decode cJ7_fill_53178 0 = .ok (.iconst 0, 1) := by decide +kernel
theorem dJ7_fill_53178_1 : decode cJ7_fill_53178 1 = .ok (.istore_n 2, 1) := by decide +kernel
theorem dJ7_fill_53178_2 : decode cJ7_fill_53178 2 = .ok (.aload_n 0, 1) := by decide +kernel
theorem dJ7_fill_53178_3 : decode cJ7_fill_53178 3 = .ok (.arraylength, 1) := by decide +kernel
theorem dJ7_fill_53178_4 : decode cJ7_fill_53178 4 = .ok (.istore_n 3, 1) := by decide +kernel
theorem dJ7_fill_53178_5 : decode cJ7_fill_53178 5 = .ok (.iload_n 2, 1) := by decide +kernel
theorem dJ7_fill_53178_6 : decode cJ7_fill_53178 6 = .ok (.iload_n 3, 1) := by decide +kernel
theorem dJ7_fill_53178_7 : decode cJ7_fill_53178 7 = .ok (.if_icmp .ge 13, 3) := by decide +kernel
theorem dJ7_fill_53178_10 : decode cJ7_fill_53178 10 = .ok (.aload_n 0, 1) := by decide +kernel
theorem dJ7_fill_53178_11 : decode cJ7_fill_53178 11 = .ok (.iload_n 2, 1) := by decide +kernel
theorem dJ7_fill_53178_12 : decode cJ7_fill_53178 12 = .ok (.iload_n 1, 1) := by decide +kernel
theorem dJ7_fill_53178_13 : decode cJ7_fill_53178 13 = .ok (.iastore, 1) := by decide +kernel
theorem dJ7_fill_53178_14 : decode cJ7_fill_53178 14 = .ok (.iinc 2 1, 3) := by decide +kernel
theorem dJ7_fill_53178_17 : decode cJ7_fill_53178 17 = .ok (.goto (-12), 3) := by decide +kernel
theorem dJ7_fill_53178_20 : decode cJ7_fill_53178 20 = .ok (.return_, 1) := by decide +kernel
theorem dJ3_checkIndex_8e157_0 : decode cJ3_checkIndex_8e157 0 = .ok (.iload_n 0, 1) := by decide +kernel
theorem dJ3_checkIndex_8e157_1 : decode cJ3_checkIndex_8e157 1 = .ok (.ifCond .lt 8, 3) := by decide +kernel
theorem dJ3_checkIndex_8e157_4 : decode cJ3_checkIndex_8e157 4 = .ok (.iload_n 0, 1) := by decide +kernel
theorem dJ3_checkIndex_8e157_5 : decode cJ3_checkIndex_8e157 5 = .ok (.iload_n 1, 1) := by decide +kernel
theorem dJ3_checkIndex_8e157_6 : decode cJ3_checkIndex_8e157 6 = .ok (.if_icmp .lt 10, 3) := by decide +kernel
theorem dJ3_checkIndex_8e157_9 : decode cJ3_checkIndex_8e157 9 = .ok (.aload_n 2, 1) := by decide +kernel
theorem dJ3_checkIndex_8e157_10 : decode cJ3_checkIndex_8e157 10 = .ok (.iload_n 0, 1) := by decide +kernel
theorem dJ3_checkIndex_8e157_11 : decode cJ3_checkIndex_8e157 11 = .ok (.iload_n 1, 1) := by decide +kernel
theorem dJ3_checkIndex_8e157_12 : decode cJ3_checkIndex_8e157 12 = .ok (.invokestatic 95, 3) := by decide +kernel
theorem dJ3_checkIndex_8e157_15 : decode cJ3_checkIndex_8e157 15 = .ok (.athrow, 1) := by decide +kernel
theorem dJ3_checkIndex_8e157_16 : decode cJ3_checkIndex_8e157 16 = .ok (.iload_n 0, 1) := by decide +kernel
theorem dJ3_checkIndex_8e157_17 : decode cJ3_checkIndex_8e157 17 = .ok (.ireturn, 1) := by decide +kernel
theorem dL_law_0 : decode cL_law 0 = .ok (.new 7, 3) := by decide +kernel
theorem dL_law_3 : decode cL_law 3 = .ok (.dup, 1) := by decide +kernel
theorem dL_law_4 : decode cL_law 4 = .ok (.invokespecial 9, 3) := by decide +kernel
theorem dL_law_7 : decode cL_law 7 = .ok (.astore_n 1, 1) := by decide +kernel
theorem dL_law_8 : decode cL_law 8 = .ok (.new 10, 3) := by decide +kernel
theorem dL_law_11 : decode cL_law 11 = .ok (.dup, 1) := by decide +kernel
theorem dL_law_12 : decode cL_law 12 = .ok (.invokespecial 12, 3) := by decide +kernel
theorem dL_law_15 : decode cL_law 15 = .ok (.astore_n 2, 1) := by decide +kernel
theorem dL_law_16 : decode cL_law 16 = .ok (.iconst 0, 1) := by decide +kernel
theorem dL_law_17 : decode cL_law 17 = .ok (.istore_n 3, 1) := by decide +kernel
theorem dL_law_18 : decode cL_law 18 = .ok (.iload_n 3, 1) := by decide +kernel
theorem dL_law_19 : decode cL_law 19 = .ok (.aload_n 0, 1) := by decide +kernel
theorem dL_law_20 : decode cL_law 20 = .ok (.arraylength, 1) := by decide +kernel
theorem dL_law_21 : decode cL_law 21 = .ok (.iconst 5, 1) := by decide +kernel
theorem dL_law_22 : decode cL_law 22 = .ok (.isub, 1) := by decide +kernel
theorem dL_law_23 : decode cL_law 23 = .ok (.if_icmp .gt 1101, 3) := by decide +kernel
theorem dL_law_26 : decode cL_law 26 = .ok (.aload_n 0, 1) := by decide +kernel
theorem dL_law_27 : decode cL_law 27 = .ok (.iload_n 3, 1) := by decide +kernel
theorem dL_law_28 : decode cL_law 28 = .ok (.iaload, 1) := by decide +kernel
theorem dL_law_29 : decode cL_law 29 = .ok (.bipush 63, 2) := by decide +kernel
theorem dL_law_31 : decode cL_law 31 = .ok (.iand, 1) := by decide +kernel
theorem dL_law_32 : decode cL_law 32 = .ok (.tableswitch 1086 0 33 #[152, 165, 208, 261, 284, 297, 310, 323, 336, 369, 402, 445, 468, 501, 534, 547, 580, 623, 646, 669, 722, 775, 798, 821, 844, 877, 890, 923, 956, 980, 1003, 1026, 1049, 1072], 152) := by decide +kernel
theorem dL_law_184 : decode cL_law 184 = .ok (.aload_n 1, 1) := by decide +kernel
theorem dL_law_185 : decode cL_law 185 = .ok (.invokevirtual 13, 3) := by decide +kernel
theorem dL_law_188 : decode cL_law 188 = .ok (.aload_n 2, 1) := by decide +kernel
theorem dL_law_189 : decode cL_law 189 = .ok (.invokevirtual 17, 3) := by decide +kernel
theorem dL_law_192 : decode cL_law 192 = .ok (.if_icmp .eq 926, 3) := by decide +kernel
theorem dL_law_195 : decode cL_law 195 = .ok (.iconst 0, 1) := by decide +kernel
theorem dL_law_196 : decode cL_law 196 = .ok (.ireturn, 1) := by decide +kernel
theorem dL_law_197 : decode cL_law 197 = .ok (.aload_n 1, 1) := by decide +kernel
theorem dL_law_198 : decode cL_law 198 = .ok (.aload_n 0, 1) := by decide +kernel
theorem dL_law_199 : decode cL_law 199 = .ok (.iload_n 3, 1) := by decide +kernel
theorem dL_law_200 : decode cL_law 200 = .ok (.iconst 1, 1) := by decide +kernel
theorem dL_law_201 : decode cL_law 201 = .ok (.iadd, 1) := by decide +kernel
theorem dL_law_202 : decode cL_law 202 = .ok (.iaload, 1) := by decide +kernel
theorem dL_law_203 : decode cL_law 203 = .ok (.aload_n 0, 1) := by decide +kernel
theorem dL_law_204 : decode cL_law 204 = .ok (.iload_n 3, 1) := by decide +kernel
theorem dL_law_205 : decode cL_law 205 = .ok (.iconst 2, 1) := by decide +kernel
theorem dL_law_206 : decode cL_law 206 = .ok (.iadd, 1) := by decide +kernel
theorem dL_law_207 : decode cL_law 207 = .ok (.iaload, 1) := by decide +kernel
theorem dL_law_208 : decode cL_law 208 = .ok (.aload_n 0, 1) := by decide +kernel
theorem dL_law_209 : decode cL_law 209 = .ok (.iload_n 3, 1) := by decide +kernel
theorem dL_law_210 : decode cL_law 210 = .ok (.iconst 3, 1) := by decide +kernel
theorem dL_law_211 : decode cL_law 211 = .ok (.iadd, 1) := by decide +kernel
theorem dL_law_212 : decode cL_law 212 = .ok (.iaload, 1) := by decide +kernel
theorem dL_law_213 : decode cL_law 213 = .ok (.invokevirtual 18, 3) := by decide +kernel
theorem dL_law_216 : decode cL_law 216 = .ok (.aload_n 2, 1) := by decide +kernel
theorem dL_law_217 : decode cL_law 217 = .ok (.aload_n 0, 1) := by decide +kernel
theorem dL_law_218 : decode cL_law 218 = .ok (.iload_n 3, 1) := by decide +kernel
theorem dL_law_219 : decode cL_law 219 = .ok (.iconst 1, 1) := by decide +kernel
theorem dL_law_220 : decode cL_law 220 = .ok (.iadd, 1) := by decide +kernel
theorem dL_law_221 : decode cL_law 221 = .ok (.iaload, 1) := by decide +kernel
theorem dL_law_222 : decode cL_law 222 = .ok (.aload_n 0, 1) := by decide +kernel
theorem dL_law_223 : decode cL_law 223 = .ok (.iload_n 3, 1) := by decide +kernel
theorem dL_law_224 : decode cL_law 224 = .ok (.iconst 2, 1) := by decide +kernel
theorem dL_law_225 : decode cL_law 225 = .ok (.iadd, 1) := by decide +kernel
theorem dL_law_226 : decode cL_law 226 = .ok (.iaload, 1) := by decide +kernel
theorem dL_law_227 : decode cL_law 227 = .ok (.aload_n 0, 1) := by decide +kernel
theorem dL_law_228 : decode cL_law 228 = .ok (.iload_n 3, 1) := by decide +kernel
theorem dL_law_229 : decode cL_law 229 = .ok (.iconst 3, 1) := by decide +kernel
theorem dL_law_230 : decode cL_law 230 = .ok (.iadd, 1) := by decide +kernel
theorem dL_law_231 : decode cL_law 231 = .ok (.iaload, 1) := by decide +kernel
theorem dL_law_232 : decode cL_law 232 = .ok (.invokevirtual 22, 3) := by decide +kernel
theorem dL_law_235 : decode cL_law 235 = .ok (.if_icmp .eq 883, 3) := by decide +kernel
theorem dL_law_238 : decode cL_law 238 = .ok (.iconst 0, 1) := by decide +kernel
theorem dL_law_239 : decode cL_law 239 = .ok (.ireturn, 1) := by decide +kernel
theorem dL_law_240 : decode cL_law 240 = .ok (.aload_n 1, 1) := by decide +kernel
theorem dL_law_241 : decode cL_law 241 = .ok (.aload_n 0, 1) := by decide +kernel
theorem dL_law_242 : decode cL_law 242 = .ok (.iload_n 3, 1) := by decide +kernel
theorem dL_law_243 : decode cL_law 243 = .ok (.iconst 1, 1) := by decide +kernel
theorem dL_law_244 : decode cL_law 244 = .ok (.iadd, 1) := by decide +kernel
theorem dL_law_245 : decode cL_law 245 = .ok (.iaload, 1) := by decide +kernel
theorem dL_law_246 : decode cL_law 246 = .ok (.aload_n 0, 1) := by decide +kernel
theorem dL_law_247 : decode cL_law 247 = .ok (.iload_n 3, 1) := by decide +kernel
theorem dL_law_248 : decode cL_law 248 = .ok (.iconst 2, 1) := by decide +kernel
theorem dL_law_249 : decode cL_law 249 = .ok (.iadd, 1) := by decide +kernel
theorem dL_law_250 : decode cL_law 250 = .ok (.iaload, 1) := by decide +kernel
theorem dL_law_251 : decode cL_law 251 = .ok (.aload_n 0, 1) := by decide +kernel
theorem dL_law_252 : decode cL_law 252 = .ok (.iload_n 3, 1) := by decide +kernel
theorem dL_law_253 : decode cL_law 253 = .ok (.iconst 3, 1) := by decide +kernel
theorem dL_law_254 : decode cL_law 254 = .ok (.iadd, 1) := by decide +kernel
theorem dL_law_255 : decode cL_law 255 = .ok (.iaload, 1) := by decide +kernel
theorem dL_law_256 : decode cL_law 256 = .ok (.aload_n 0, 1) := by decide +kernel
theorem dL_law_257 : decode cL_law 257 = .ok (.iload_n 3, 1) := by decide +kernel
theorem dL_law_258 : decode cL_law 258 = .ok (.iconst 4, 1) := by decide +kernel
theorem dL_law_259 : decode cL_law 259 = .ok (.iadd, 1) := by decide +kernel
theorem dL_law_260 : decode cL_law 260 = .ok (.iaload, 1) := by decide +kernel
theorem dL_law_261 : decode cL_law 261 = .ok (.invokevirtual 23, 3) := by decide +kernel
theorem dL_law_264 : decode cL_law 264 = .ok (.aload_n 2, 1) := by decide +kernel
theorem dL_law_265 : decode cL_law 265 = .ok (.aload_n 0, 1) := by decide +kernel
theorem dL_law_266 : decode cL_law 266 = .ok (.iload_n 3, 1) := by decide +kernel
theorem dL_law_267 : decode cL_law 267 = .ok (.iconst 1, 1) := by decide +kernel
theorem dL_law_268 : decode cL_law 268 = .ok (.iadd, 1) := by decide +kernel
theorem dL_law_269 : decode cL_law 269 = .ok (.iaload, 1) := by decide +kernel
theorem dL_law_270 : decode cL_law 270 = .ok (.aload_n 0, 1) := by decide +kernel
theorem dL_law_271 : decode cL_law 271 = .ok (.iload_n 3, 1) := by decide +kernel
theorem dL_law_272 : decode cL_law 272 = .ok (.iconst 2, 1) := by decide +kernel
theorem dL_law_273 : decode cL_law 273 = .ok (.iadd, 1) := by decide +kernel
theorem dL_law_274 : decode cL_law 274 = .ok (.iaload, 1) := by decide +kernel
theorem dL_law_275 : decode cL_law 275 = .ok (.aload_n 0, 1) := by decide +kernel
theorem dL_law_276 : decode cL_law 276 = .ok (.iload_n 3, 1) := by decide +kernel
theorem dL_law_277 : decode cL_law 277 = .ok (.iconst 3, 1) := by decide +kernel
theorem dL_law_278 : decode cL_law 278 = .ok (.iadd, 1) := by decide +kernel
theorem dL_law_279 : decode cL_law 279 = .ok (.iaload, 1) := by decide +kernel
theorem dL_law_280 : decode cL_law 280 = .ok (.aload_n 0, 1) := by decide +kernel
theorem dL_law_281 : decode cL_law 281 = .ok (.iload_n 3, 1) := by decide +kernel
theorem dL_law_282 : decode cL_law 282 = .ok (.iconst 4, 1) := by decide +kernel
theorem dL_law_283 : decode cL_law 283 = .ok (.iadd, 1) := by decide +kernel
theorem dL_law_284 : decode cL_law 284 = .ok (.iaload, 1) := by decide +kernel
theorem dL_law_285 : decode cL_law 285 = .ok (.invokevirtual 27, 3) := by decide +kernel
theorem dL_law_288 : decode cL_law 288 = .ok (.if_icmp .eq 830, 3) := by decide +kernel
theorem dL_law_291 : decode cL_law 291 = .ok (.iconst 0, 1) := by decide +kernel
theorem dL_law_292 : decode cL_law 292 = .ok (.ireturn, 1) := by decide +kernel
theorem dL_law_293 : decode cL_law 293 = .ok (.aload_n 1, 1) := by decide +kernel
theorem dL_law_294 : decode cL_law 294 = .ok (.aload_n 0, 1) := by decide +kernel
theorem dL_law_295 : decode cL_law 295 = .ok (.iload_n 3, 1) := by decide +kernel
theorem dL_law_296 : decode cL_law 296 = .ok (.iconst 1, 1) := by decide +kernel
theorem dL_law_297 : decode cL_law 297 = .ok (.iadd, 1) := by decide +kernel
theorem dL_law_298 : decode cL_law 298 = .ok (.iaload, 1) := by decide +kernel
theorem dL_law_299 : decode cL_law 299 = .ok (.invokevirtual 28, 3) := by decide +kernel
theorem dL_law_302 : decode cL_law 302 = .ok (.aload_n 2, 1) := by decide +kernel
theorem dL_law_303 : decode cL_law 303 = .ok (.aload_n 0, 1) := by decide +kernel
theorem dL_law_304 : decode cL_law 304 = .ok (.iload_n 3, 1) := by decide +kernel
theorem dL_law_305 : decode cL_law 305 = .ok (.iconst 1, 1) := by decide +kernel
theorem dL_law_306 : decode cL_law 306 = .ok (.iadd, 1) := by decide +kernel
theorem dL_law_307 : decode cL_law 307 = .ok (.iaload, 1) := by decide +kernel
theorem dL_law_308 : decode cL_law 308 = .ok (.invokevirtual 32, 3) := by decide +kernel
theorem dL_law_311 : decode cL_law 311 = .ok (.if_icmp .eq 807, 3) := by decide +kernel
theorem dL_law_314 : decode cL_law 314 = .ok (.iconst 0, 1) := by decide +kernel
theorem dL_law_315 : decode cL_law 315 = .ok (.ireturn, 1) := by decide +kernel
theorem dL_law_316 : decode cL_law 316 = .ok (.aload_n 1, 1) := by decide +kernel
theorem dL_law_317 : decode cL_law 317 = .ok (.invokevirtual 33, 3) := by decide +kernel
theorem dL_law_320 : decode cL_law 320 = .ok (.aload_n 2, 1) := by decide +kernel
theorem dL_law_321 : decode cL_law 321 = .ok (.invokevirtual 36, 3) := by decide +kernel
theorem dL_law_324 : decode cL_law 324 = .ok (.if_icmp .eq 794, 3) := by decide +kernel
theorem dL_law_327 : decode cL_law 327 = .ok (.iconst 0, 1) := by decide +kernel
theorem dL_law_328 : decode cL_law 328 = .ok (.ireturn, 1) := by decide +kernel
theorem dL_law_329 : decode cL_law 329 = .ok (.aload_n 1, 1) := by decide +kernel
theorem dL_law_330 : decode cL_law 330 = .ok (.invokevirtual 37, 3) := by decide +kernel
theorem dL_law_333 : decode cL_law 333 = .ok (.aload_n 2, 1) := by decide +kernel
theorem dL_law_334 : decode cL_law 334 = .ok (.invokevirtual 40, 3) := by decide +kernel
theorem dL_law_337 : decode cL_law 337 = .ok (.if_icmp .eq 781, 3) := by decide +kernel
theorem dL_law_340 : decode cL_law 340 = .ok (.iconst 0, 1) := by decide +kernel
theorem dL_law_341 : decode cL_law 341 = .ok (.ireturn, 1) := by decide +kernel
theorem dL_law_342 : decode cL_law 342 = .ok (.aload_n 1, 1) := by decide +kernel
theorem dL_law_343 : decode cL_law 343 = .ok (.invokevirtual 41, 3) := by decide +kernel
theorem dL_law_346 : decode cL_law 346 = .ok (.aload_n 2, 1) := by decide +kernel
theorem dL_law_347 : decode cL_law 347 = .ok (.invokevirtual 44, 3) := by decide +kernel
theorem dL_law_350 : decode cL_law 350 = .ok (.if_icmp .eq 768, 3) := by decide +kernel
theorem dL_law_353 : decode cL_law 353 = .ok (.iconst 0, 1) := by decide +kernel
theorem dL_law_354 : decode cL_law 354 = .ok (.ireturn, 1) := by decide +kernel
theorem dL_law_355 : decode cL_law 355 = .ok (.aload_n 1, 1) := by decide +kernel
theorem dL_law_356 : decode cL_law 356 = .ok (.invokevirtual 45, 3) := by decide +kernel
theorem dL_law_359 : decode cL_law 359 = .ok (.aload_n 2, 1) := by decide +kernel
theorem dL_law_360 : decode cL_law 360 = .ok (.invokevirtual 48, 3) := by decide +kernel
theorem dL_law_363 : decode cL_law 363 = .ok (.if_icmp .eq 755, 3) := by decide +kernel
theorem dL_law_366 : decode cL_law 366 = .ok (.iconst 0, 1) := by decide +kernel
theorem dL_law_367 : decode cL_law 367 = .ok (.ireturn, 1) := by decide +kernel
theorem dL_law_368 : decode cL_law 368 = .ok (.aload_n 1, 1) := by decide +kernel
theorem dL_law_369 : decode cL_law 369 = .ok (.aload_n 0, 1) := by decide +kernel
theorem dL_law_370 : decode cL_law 370 = .ok (.iload_n 3, 1) := by decide +kernel
theorem dL_law_371 : decode cL_law 371 = .ok (.iconst 1, 1) := by decide +kernel
theorem dL_law_372 : decode cL_law 372 = .ok (.iadd, 1) := by decide +kernel
theorem dL_law_373 : decode cL_law 373 = .ok (.iaload, 1) := by decide +kernel
theorem dL_law_374 : decode cL_law 374 = .ok (.aload_n 0, 1) := by decide +kernel
theorem dL_law_375 : decode cL_law 375 = .ok (.iload_n 3, 1) := by decide +kernel
theorem dL_law_376 : decode cL_law 376 = .ok (.iconst 2, 1) := by decide +kernel
theorem dL_law_377 : decode cL_law 377 = .ok (.iadd, 1) := by decide +kernel
theorem dL_law_378 : decode cL_law 378 = .ok (.iaload, 1) := by decide +kernel
theorem dL_law_379 : decode cL_law 379 = .ok (.invokevirtual 49, 3) := by decide +kernel
theorem dL_law_382 : decode cL_law 382 = .ok (.aload_n 2, 1) := by decide +kernel
theorem dL_law_383 : decode cL_law 383 = .ok (.aload_n 0, 1) := by decide +kernel
theorem dL_law_384 : decode cL_law 384 = .ok (.iload_n 3, 1) := by decide +kernel
theorem dL_law_385 : decode cL_law 385 = .ok (.iconst 1, 1) := by decide +kernel
theorem dL_law_386 : decode cL_law 386 = .ok (.iadd, 1) := by decide +kernel
theorem dL_law_387 : decode cL_law 387 = .ok (.iaload, 1) := by decide +kernel
theorem dL_law_388 : decode cL_law 388 = .ok (.aload_n 0, 1) := by decide +kernel
theorem dL_law_389 : decode cL_law 389 = .ok (.iload_n 3, 1) := by decide +kernel
theorem dL_law_390 : decode cL_law 390 = .ok (.iconst 2, 1) := by decide +kernel
theorem dL_law_391 : decode cL_law 391 = .ok (.iadd, 1) := by decide +kernel
theorem dL_law_392 : decode cL_law 392 = .ok (.iaload, 1) := by decide +kernel
theorem dL_law_393 : decode cL_law 393 = .ok (.invokevirtual 53, 3) := by decide +kernel
theorem dL_law_396 : decode cL_law 396 = .ok (.if_icmp .eq 722, 3) := by decide +kernel
theorem dL_law_399 : decode cL_law 399 = .ok (.iconst 0, 1) := by decide +kernel
theorem dL_law_400 : decode cL_law 400 = .ok (.ireturn, 1) := by decide +kernel
theorem dL_law_401 : decode cL_law 401 = .ok (.aload_n 1, 1) := by decide +kernel
theorem dL_law_402 : decode cL_law 402 = .ok (.aload_n 0, 1) := by decide +kernel
theorem dL_law_403 : decode cL_law 403 = .ok (.iload_n 3, 1) := by decide +kernel
theorem dL_law_404 : decode cL_law 404 = .ok (.iconst 1, 1) := by decide +kernel
theorem dL_law_405 : decode cL_law 405 = .ok (.iadd, 1) := by decide +kernel
theorem dL_law_406 : decode cL_law 406 = .ok (.iaload, 1) := by decide +kernel
theorem dL_law_407 : decode cL_law 407 = .ok (.aload_n 0, 1) := by decide +kernel
theorem dL_law_408 : decode cL_law 408 = .ok (.iload_n 3, 1) := by decide +kernel
theorem dL_law_409 : decode cL_law 409 = .ok (.iconst 2, 1) := by decide +kernel
theorem dL_law_410 : decode cL_law 410 = .ok (.iadd, 1) := by decide +kernel
theorem dL_law_411 : decode cL_law 411 = .ok (.iaload, 1) := by decide +kernel
theorem dL_law_412 : decode cL_law 412 = .ok (.invokevirtual 54, 3) := by decide +kernel
theorem dL_law_415 : decode cL_law 415 = .ok (.aload_n 2, 1) := by decide +kernel
theorem dL_law_416 : decode cL_law 416 = .ok (.aload_n 0, 1) := by decide +kernel
theorem dL_law_417 : decode cL_law 417 = .ok (.iload_n 3, 1) := by decide +kernel
theorem dL_law_418 : decode cL_law 418 = .ok (.iconst 1, 1) := by decide +kernel
theorem dL_law_419 : decode cL_law 419 = .ok (.iadd, 1) := by decide +kernel
theorem dL_law_420 : decode cL_law 420 = .ok (.iaload, 1) := by decide +kernel
theorem dL_law_421 : decode cL_law 421 = .ok (.aload_n 0, 1) := by decide +kernel
theorem dL_law_422 : decode cL_law 422 = .ok (.iload_n 3, 1) := by decide +kernel
theorem dL_law_423 : decode cL_law 423 = .ok (.iconst 2, 1) := by decide +kernel
theorem dL_law_424 : decode cL_law 424 = .ok (.iadd, 1) := by decide +kernel
theorem dL_law_425 : decode cL_law 425 = .ok (.iaload, 1) := by decide +kernel
theorem dL_law_426 : decode cL_law 426 = .ok (.invokevirtual 57, 3) := by decide +kernel
theorem dL_law_429 : decode cL_law 429 = .ok (.if_icmp .eq 689, 3) := by decide +kernel
theorem dL_law_432 : decode cL_law 432 = .ok (.iconst 0, 1) := by decide +kernel
theorem dL_law_433 : decode cL_law 433 = .ok (.ireturn, 1) := by decide +kernel
theorem dL_law_434 : decode cL_law 434 = .ok (.aload_n 1, 1) := by decide +kernel
theorem dL_law_435 : decode cL_law 435 = .ok (.aload_n 0, 1) := by decide +kernel
theorem dL_law_436 : decode cL_law 436 = .ok (.iload_n 3, 1) := by decide +kernel
theorem dL_law_437 : decode cL_law 437 = .ok (.iconst 1, 1) := by decide +kernel
theorem dL_law_438 : decode cL_law 438 = .ok (.iadd, 1) := by decide +kernel
theorem dL_law_439 : decode cL_law 439 = .ok (.iaload, 1) := by decide +kernel
theorem dL_law_440 : decode cL_law 440 = .ok (.aload_n 0, 1) := by decide +kernel
theorem dL_law_441 : decode cL_law 441 = .ok (.iload_n 3, 1) := by decide +kernel
theorem dL_law_442 : decode cL_law 442 = .ok (.iconst 2, 1) := by decide +kernel
theorem dL_law_443 : decode cL_law 443 = .ok (.iadd, 1) := by decide +kernel
theorem dL_law_444 : decode cL_law 444 = .ok (.iaload, 1) := by decide +kernel
theorem dL_law_445 : decode cL_law 445 = .ok (.aload_n 0, 1) := by decide +kernel
theorem dL_law_446 : decode cL_law 446 = .ok (.iload_n 3, 1) := by decide +kernel
theorem dL_law_447 : decode cL_law 447 = .ok (.iconst 3, 1) := by decide +kernel
theorem dL_law_448 : decode cL_law 448 = .ok (.iadd, 1) := by decide +kernel
theorem dL_law_449 : decode cL_law 449 = .ok (.iaload, 1) := by decide +kernel
theorem dL_law_450 : decode cL_law 450 = .ok (.invokevirtual 58, 3) := by decide +kernel
theorem dL_law_453 : decode cL_law 453 = .ok (.aload_n 2, 1) := by decide +kernel
theorem dL_law_454 : decode cL_law 454 = .ok (.aload_n 0, 1) := by decide +kernel
theorem dL_law_455 : decode cL_law 455 = .ok (.iload_n 3, 1) := by decide +kernel
theorem dL_law_456 : decode cL_law 456 = .ok (.iconst 1, 1) := by decide +kernel
theorem dL_law_457 : decode cL_law 457 = .ok (.iadd, 1) := by decide +kernel
theorem dL_law_458 : decode cL_law 458 = .ok (.iaload, 1) := by decide +kernel
theorem dL_law_459 : decode cL_law 459 = .ok (.aload_n 0, 1) := by decide +kernel
theorem dL_law_460 : decode cL_law 460 = .ok (.iload_n 3, 1) := by decide +kernel
theorem dL_law_461 : decode cL_law 461 = .ok (.iconst 2, 1) := by decide +kernel
theorem dL_law_462 : decode cL_law 462 = .ok (.iadd, 1) := by decide +kernel
theorem dL_law_463 : decode cL_law 463 = .ok (.iaload, 1) := by decide +kernel
theorem dL_law_464 : decode cL_law 464 = .ok (.aload_n 0, 1) := by decide +kernel
theorem dL_law_465 : decode cL_law 465 = .ok (.iload_n 3, 1) := by decide +kernel
theorem dL_law_466 : decode cL_law 466 = .ok (.iconst 3, 1) := by decide +kernel
theorem dL_law_467 : decode cL_law 467 = .ok (.iadd, 1) := by decide +kernel
theorem dL_law_468 : decode cL_law 468 = .ok (.iaload, 1) := by decide +kernel
theorem dL_law_469 : decode cL_law 469 = .ok (.invokevirtual 61, 3) := by decide +kernel
theorem dL_law_472 : decode cL_law 472 = .ok (.if_icmp .eq 646, 3) := by decide +kernel
theorem dL_law_475 : decode cL_law 475 = .ok (.iconst 0, 1) := by decide +kernel
theorem dL_law_476 : decode cL_law 476 = .ok (.ireturn, 1) := by decide +kernel
theorem dL_law_477 : decode cL_law 477 = .ok (.aload_n 1, 1) := by decide +kernel
theorem dL_law_478 : decode cL_law 478 = .ok (.aload_n 0, 1) := by decide +kernel
theorem dL_law_479 : decode cL_law 479 = .ok (.iload_n 3, 1) := by decide +kernel
theorem dL_law_480 : decode cL_law 480 = .ok (.iconst 1, 1) := by decide +kernel
theorem dL_law_481 : decode cL_law 481 = .ok (.iadd, 1) := by decide +kernel
theorem dL_law_482 : decode cL_law 482 = .ok (.iaload, 1) := by decide +kernel
theorem dL_law_483 : decode cL_law 483 = .ok (.invokevirtual 62, 3) := by decide +kernel
theorem dL_law_486 : decode cL_law 486 = .ok (.aload_n 2, 1) := by decide +kernel
theorem dL_law_487 : decode cL_law 487 = .ok (.aload_n 0, 1) := by decide +kernel
theorem dL_law_488 : decode cL_law 488 = .ok (.iload_n 3, 1) := by decide +kernel
theorem dL_law_489 : decode cL_law 489 = .ok (.iconst 1, 1) := by decide +kernel
theorem dL_law_490 : decode cL_law 490 = .ok (.iadd, 1) := by decide +kernel
theorem dL_law_491 : decode cL_law 491 = .ok (.iaload, 1) := by decide +kernel
theorem dL_law_492 : decode cL_law 492 = .ok (.invokevirtual 65, 3) := by decide +kernel
theorem dL_law_495 : decode cL_law 495 = .ok (.if_icmp .eq 623, 3) := by decide +kernel
theorem dL_law_498 : decode cL_law 498 = .ok (.iconst 0, 1) := by decide +kernel
theorem dL_law_499 : decode cL_law 499 = .ok (.ireturn, 1) := by decide +kernel
theorem dL_law_500 : decode cL_law 500 = .ok (.aload_n 1, 1) := by decide +kernel
theorem dL_law_501 : decode cL_law 501 = .ok (.aload_n 0, 1) := by decide +kernel
theorem dL_law_502 : decode cL_law 502 = .ok (.iload_n 3, 1) := by decide +kernel
theorem dL_law_503 : decode cL_law 503 = .ok (.iconst 1, 1) := by decide +kernel
theorem dL_law_504 : decode cL_law 504 = .ok (.iadd, 1) := by decide +kernel
theorem dL_law_505 : decode cL_law 505 = .ok (.iaload, 1) := by decide +kernel
theorem dL_law_506 : decode cL_law 506 = .ok (.aload_n 0, 1) := by decide +kernel
theorem dL_law_507 : decode cL_law 507 = .ok (.iload_n 3, 1) := by decide +kernel
theorem dL_law_508 : decode cL_law 508 = .ok (.iconst 2, 1) := by decide +kernel
theorem dL_law_509 : decode cL_law 509 = .ok (.iadd, 1) := by decide +kernel
theorem dL_law_510 : decode cL_law 510 = .ok (.iaload, 1) := by decide +kernel
theorem dL_law_511 : decode cL_law 511 = .ok (.invokevirtual 66, 3) := by decide +kernel
theorem dL_law_514 : decode cL_law 514 = .ok (.aload_n 2, 1) := by decide +kernel
theorem dL_law_515 : decode cL_law 515 = .ok (.aload_n 0, 1) := by decide +kernel
theorem dL_law_516 : decode cL_law 516 = .ok (.iload_n 3, 1) := by decide +kernel
theorem dL_law_517 : decode cL_law 517 = .ok (.iconst 1, 1) := by decide +kernel
theorem dL_law_518 : decode cL_law 518 = .ok (.iadd, 1) := by decide +kernel
theorem dL_law_519 : decode cL_law 519 = .ok (.iaload, 1) := by decide +kernel
theorem dL_law_520 : decode cL_law 520 = .ok (.aload_n 0, 1) := by decide +kernel
theorem dL_law_521 : decode cL_law 521 = .ok (.iload_n 3, 1) := by decide +kernel
theorem dL_law_522 : decode cL_law 522 = .ok (.iconst 2, 1) := by decide +kernel
theorem dL_law_523 : decode cL_law 523 = .ok (.iadd, 1) := by decide +kernel
theorem dL_law_524 : decode cL_law 524 = .ok (.iaload, 1) := by decide +kernel
theorem dL_law_525 : decode cL_law 525 = .ok (.invokevirtual 69, 3) := by decide +kernel
theorem dL_law_528 : decode cL_law 528 = .ok (.if_icmp .eq 590, 3) := by decide +kernel
theorem dL_law_531 : decode cL_law 531 = .ok (.iconst 0, 1) := by decide +kernel
theorem dL_law_532 : decode cL_law 532 = .ok (.ireturn, 1) := by decide +kernel
theorem dL_law_533 : decode cL_law 533 = .ok (.aload_n 1, 1) := by decide +kernel
theorem dL_law_534 : decode cL_law 534 = .ok (.aload_n 0, 1) := by decide +kernel
theorem dL_law_535 : decode cL_law 535 = .ok (.iload_n 3, 1) := by decide +kernel
theorem dL_law_536 : decode cL_law 536 = .ok (.iconst 1, 1) := by decide +kernel
theorem dL_law_537 : decode cL_law 537 = .ok (.iadd, 1) := by decide +kernel
theorem dL_law_538 : decode cL_law 538 = .ok (.iaload, 1) := by decide +kernel
theorem dL_law_539 : decode cL_law 539 = .ok (.aload_n 0, 1) := by decide +kernel
theorem dL_law_540 : decode cL_law 540 = .ok (.iload_n 3, 1) := by decide +kernel
theorem dL_law_541 : decode cL_law 541 = .ok (.iconst 2, 1) := by decide +kernel
theorem dL_law_542 : decode cL_law 542 = .ok (.iadd, 1) := by decide +kernel
theorem dL_law_543 : decode cL_law 543 = .ok (.iaload, 1) := by decide +kernel
theorem dL_law_544 : decode cL_law 544 = .ok (.invokevirtual 70, 3) := by decide +kernel
theorem dL_law_547 : decode cL_law 547 = .ok (.aload_n 2, 1) := by decide +kernel
theorem dL_law_548 : decode cL_law 548 = .ok (.aload_n 0, 1) := by decide +kernel
theorem dL_law_549 : decode cL_law 549 = .ok (.iload_n 3, 1) := by decide +kernel
theorem dL_law_550 : decode cL_law 550 = .ok (.iconst 1, 1) := by decide +kernel
theorem dL_law_551 : decode cL_law 551 = .ok (.iadd, 1) := by decide +kernel
theorem dL_law_552 : decode cL_law 552 = .ok (.iaload, 1) := by decide +kernel
theorem dL_law_553 : decode cL_law 553 = .ok (.aload_n 0, 1) := by decide +kernel
theorem dL_law_554 : decode cL_law 554 = .ok (.iload_n 3, 1) := by decide +kernel
theorem dL_law_555 : decode cL_law 555 = .ok (.iconst 2, 1) := by decide +kernel
theorem dL_law_556 : decode cL_law 556 = .ok (.iadd, 1) := by decide +kernel
theorem dL_law_557 : decode cL_law 557 = .ok (.iaload, 1) := by decide +kernel
theorem dL_law_558 : decode cL_law 558 = .ok (.invokevirtual 73, 3) := by decide +kernel
theorem dL_law_561 : decode cL_law 561 = .ok (.if_icmp .eq 557, 3) := by decide +kernel
theorem dL_law_564 : decode cL_law 564 = .ok (.iconst 0, 1) := by decide +kernel
theorem dL_law_565 : decode cL_law 565 = .ok (.ireturn, 1) := by decide +kernel
theorem dL_law_566 : decode cL_law 566 = .ok (.aload_n 1, 1) := by decide +kernel
theorem dL_law_567 : decode cL_law 567 = .ok (.invokevirtual 74, 3) := by decide +kernel
theorem dL_law_570 : decode cL_law 570 = .ok (.aload_n 2, 1) := by decide +kernel
theorem dL_law_571 : decode cL_law 571 = .ok (.invokevirtual 77, 3) := by decide +kernel
theorem dL_law_574 : decode cL_law 574 = .ok (.if_icmp .eq 544, 3) := by decide +kernel
theorem dL_law_577 : decode cL_law 577 = .ok (.iconst 0, 1) := by decide +kernel
theorem dL_law_578 : decode cL_law 578 = .ok (.ireturn, 1) := by decide +kernel
theorem dL_law_579 : decode cL_law 579 = .ok (.aload_n 1, 1) := by decide +kernel
theorem dL_law_580 : decode cL_law 580 = .ok (.aload_n 0, 1) := by decide +kernel
theorem dL_law_581 : decode cL_law 581 = .ok (.iload_n 3, 1) := by decide +kernel
theorem dL_law_582 : decode cL_law 582 = .ok (.iconst 1, 1) := by decide +kernel
theorem dL_law_583 : decode cL_law 583 = .ok (.iadd, 1) := by decide +kernel
theorem dL_law_584 : decode cL_law 584 = .ok (.iaload, 1) := by decide +kernel
theorem dL_law_585 : decode cL_law 585 = .ok (.aload_n 0, 1) := by decide +kernel
theorem dL_law_586 : decode cL_law 586 = .ok (.iload_n 3, 1) := by decide +kernel
theorem dL_law_587 : decode cL_law 587 = .ok (.iconst 2, 1) := by decide +kernel
theorem dL_law_588 : decode cL_law 588 = .ok (.iadd, 1) := by decide +kernel
theorem dL_law_589 : decode cL_law 589 = .ok (.iaload, 1) := by decide +kernel
theorem dL_law_590 : decode cL_law 590 = .ok (.invokevirtual 78, 3) := by decide +kernel
theorem dL_law_593 : decode cL_law 593 = .ok (.aload_n 2, 1) := by decide +kernel
theorem dL_law_594 : decode cL_law 594 = .ok (.aload_n 0, 1) := by decide +kernel
theorem dL_law_595 : decode cL_law 595 = .ok (.iload_n 3, 1) := by decide +kernel
theorem dL_law_596 : decode cL_law 596 = .ok (.iconst 1, 1) := by decide +kernel
theorem dL_law_597 : decode cL_law 597 = .ok (.iadd, 1) := by decide +kernel
theorem dL_law_598 : decode cL_law 598 = .ok (.iaload, 1) := by decide +kernel
theorem dL_law_599 : decode cL_law 599 = .ok (.aload_n 0, 1) := by decide +kernel
theorem dL_law_600 : decode cL_law 600 = .ok (.iload_n 3, 1) := by decide +kernel
theorem dL_law_601 : decode cL_law 601 = .ok (.iconst 2, 1) := by decide +kernel
theorem dL_law_602 : decode cL_law 602 = .ok (.iadd, 1) := by decide +kernel
theorem dL_law_603 : decode cL_law 603 = .ok (.iaload, 1) := by decide +kernel
theorem dL_law_604 : decode cL_law 604 = .ok (.invokevirtual 81, 3) := by decide +kernel
theorem dL_law_607 : decode cL_law 607 = .ok (.if_icmp .eq 511, 3) := by decide +kernel
theorem dL_law_610 : decode cL_law 610 = .ok (.iconst 0, 1) := by decide +kernel
theorem dL_law_611 : decode cL_law 611 = .ok (.ireturn, 1) := by decide +kernel
theorem dL_law_612 : decode cL_law 612 = .ok (.aload_n 1, 1) := by decide +kernel
theorem dL_law_613 : decode cL_law 613 = .ok (.aload_n 0, 1) := by decide +kernel
theorem dL_law_614 : decode cL_law 614 = .ok (.iload_n 3, 1) := by decide +kernel
theorem dL_law_615 : decode cL_law 615 = .ok (.iconst 1, 1) := by decide +kernel
theorem dL_law_616 : decode cL_law 616 = .ok (.iadd, 1) := by decide +kernel
theorem dL_law_617 : decode cL_law 617 = .ok (.iaload, 1) := by decide +kernel
theorem dL_law_618 : decode cL_law 618 = .ok (.aload_n 0, 1) := by decide +kernel
theorem dL_law_619 : decode cL_law 619 = .ok (.iload_n 3, 1) := by decide +kernel
theorem dL_law_620 : decode cL_law 620 = .ok (.iconst 2, 1) := by decide +kernel
theorem dL_law_621 : decode cL_law 621 = .ok (.iadd, 1) := by decide +kernel
theorem dL_law_622 : decode cL_law 622 = .ok (.iaload, 1) := by decide +kernel
theorem dL_law_623 : decode cL_law 623 = .ok (.aload_n 0, 1) := by decide +kernel
theorem dL_law_624 : decode cL_law 624 = .ok (.iload_n 3, 1) := by decide +kernel
theorem dL_law_625 : decode cL_law 625 = .ok (.iconst 3, 1) := by decide +kernel
theorem dL_law_626 : decode cL_law 626 = .ok (.iadd, 1) := by decide +kernel
theorem dL_law_627 : decode cL_law 627 = .ok (.iaload, 1) := by decide +kernel
theorem dL_law_628 : decode cL_law 628 = .ok (.invokevirtual 82, 3) := by decide +kernel
theorem dL_law_631 : decode cL_law 631 = .ok (.aload_n 2, 1) := by decide +kernel
theorem dL_law_632 : decode cL_law 632 = .ok (.aload_n 0, 1) := by decide +kernel
theorem dL_law_633 : decode cL_law 633 = .ok (.iload_n 3, 1) := by decide +kernel
theorem dL_law_634 : decode cL_law 634 = .ok (.iconst 1, 1) := by decide +kernel
theorem dL_law_635 : decode cL_law 635 = .ok (.iadd, 1) := by decide +kernel
theorem dL_law_636 : decode cL_law 636 = .ok (.iaload, 1) := by decide +kernel
theorem dL_law_637 : decode cL_law 637 = .ok (.aload_n 0, 1) := by decide +kernel
theorem dL_law_638 : decode cL_law 638 = .ok (.iload_n 3, 1) := by decide +kernel
theorem dL_law_639 : decode cL_law 639 = .ok (.iconst 2, 1) := by decide +kernel
theorem dL_law_640 : decode cL_law 640 = .ok (.iadd, 1) := by decide +kernel
theorem dL_law_641 : decode cL_law 641 = .ok (.iaload, 1) := by decide +kernel
theorem dL_law_642 : decode cL_law 642 = .ok (.aload_n 0, 1) := by decide +kernel
theorem dL_law_643 : decode cL_law 643 = .ok (.iload_n 3, 1) := by decide +kernel
theorem dL_law_644 : decode cL_law 644 = .ok (.iconst 3, 1) := by decide +kernel
theorem dL_law_645 : decode cL_law 645 = .ok (.iadd, 1) := by decide +kernel
theorem dL_law_646 : decode cL_law 646 = .ok (.iaload, 1) := by decide +kernel
theorem dL_law_647 : decode cL_law 647 = .ok (.invokevirtual 85, 3) := by decide +kernel
theorem dL_law_650 : decode cL_law 650 = .ok (.if_icmp .eq 468, 3) := by decide +kernel
theorem dL_law_653 : decode cL_law 653 = .ok (.iconst 0, 1) := by decide +kernel
theorem dL_law_654 : decode cL_law 654 = .ok (.ireturn, 1) := by decide +kernel
theorem dL_law_655 : decode cL_law 655 = .ok (.aload_n 1, 1) := by decide +kernel
theorem dL_law_656 : decode cL_law 656 = .ok (.aload_n 0, 1) := by decide +kernel
theorem dL_law_657 : decode cL_law 657 = .ok (.iload_n 3, 1) := by decide +kernel
theorem dL_law_658 : decode cL_law 658 = .ok (.iconst 1, 1) := by decide +kernel
theorem dL_law_659 : decode cL_law 659 = .ok (.iadd, 1) := by decide +kernel
theorem dL_law_660 : decode cL_law 660 = .ok (.iaload, 1) := by decide +kernel
theorem dL_law_661 : decode cL_law 661 = .ok (.invokevirtual 86, 3) := by decide +kernel
theorem dL_law_664 : decode cL_law 664 = .ok (.aload_n 2, 1) := by decide +kernel
theorem dL_law_665 : decode cL_law 665 = .ok (.aload_n 0, 1) := by decide +kernel
theorem dL_law_666 : decode cL_law 666 = .ok (.iload_n 3, 1) := by decide +kernel
theorem dL_law_667 : decode cL_law 667 = .ok (.iconst 1, 1) := by decide +kernel
theorem dL_law_668 : decode cL_law 668 = .ok (.iadd, 1) := by decide +kernel
theorem dL_law_669 : decode cL_law 669 = .ok (.iaload, 1) := by decide +kernel
theorem dL_law_670 : decode cL_law 670 = .ok (.invokevirtual 89, 3) := by decide +kernel
theorem dL_law_673 : decode cL_law 673 = .ok (.if_icmp .eq 445, 3) := by decide +kernel
theorem dL_law_676 : decode cL_law 676 = .ok (.iconst 0, 1) := by decide +kernel
theorem dL_law_677 : decode cL_law 677 = .ok (.ireturn, 1) := by decide +kernel
theorem dL_law_678 : decode cL_law 678 = .ok (.aload_n 1, 1) := by decide +kernel
theorem dL_law_679 : decode cL_law 679 = .ok (.aload_n 0, 1) := by decide +kernel
theorem dL_law_680 : decode cL_law 680 = .ok (.iload_n 3, 1) := by decide +kernel
theorem dL_law_681 : decode cL_law 681 = .ok (.iconst 1, 1) := by decide +kernel
theorem dL_law_682 : decode cL_law 682 = .ok (.iadd, 1) := by decide +kernel
theorem dL_law_683 : decode cL_law 683 = .ok (.iaload, 1) := by decide +kernel
theorem dL_law_684 : decode cL_law 684 = .ok (.invokevirtual 90, 3) := by decide +kernel
theorem dL_law_687 : decode cL_law 687 = .ok (.aload_n 2, 1) := by decide +kernel
theorem dL_law_688 : decode cL_law 688 = .ok (.aload_n 0, 1) := by decide +kernel
theorem dL_law_689 : decode cL_law 689 = .ok (.iload_n 3, 1) := by decide +kernel
theorem dL_law_690 : decode cL_law 690 = .ok (.iconst 1, 1) := by decide +kernel
theorem dL_law_691 : decode cL_law 691 = .ok (.iadd, 1) := by decide +kernel
theorem dL_law_692 : decode cL_law 692 = .ok (.iaload, 1) := by decide +kernel
theorem dL_law_693 : decode cL_law 693 = .ok (.invokevirtual 93, 3) := by decide +kernel
theorem dL_law_696 : decode cL_law 696 = .ok (.if_icmp .eq 422, 3) := by decide +kernel
theorem dL_law_699 : decode cL_law 699 = .ok (.iconst 0, 1) := by decide +kernel
theorem dL_law_700 : decode cL_law 700 = .ok (.ireturn, 1) := by decide +kernel
theorem dL_law_701 : decode cL_law 701 = .ok (.aload_n 1, 1) := by decide +kernel
theorem dL_law_702 : decode cL_law 702 = .ok (.aload_n 0, 1) := by decide +kernel
theorem dL_law_703 : decode cL_law 703 = .ok (.iload_n 3, 1) := by decide +kernel
theorem dL_law_704 : decode cL_law 704 = .ok (.iconst 1, 1) := by decide +kernel
theorem dL_law_705 : decode cL_law 705 = .ok (.iadd, 1) := by decide +kernel
theorem dL_law_706 : decode cL_law 706 = .ok (.iaload, 1) := by decide +kernel
theorem dL_law_707 : decode cL_law 707 = .ok (.aload_n 0, 1) := by decide +kernel
theorem dL_law_708 : decode cL_law 708 = .ok (.iload_n 3, 1) := by decide +kernel
theorem dL_law_709 : decode cL_law 709 = .ok (.iconst 2, 1) := by decide +kernel
theorem dL_law_710 : decode cL_law 710 = .ok (.iadd, 1) := by decide +kernel
theorem dL_law_711 : decode cL_law 711 = .ok (.iaload, 1) := by decide +kernel
theorem dL_law_712 : decode cL_law 712 = .ok (.aload_n 0, 1) := by decide +kernel
theorem dL_law_713 : decode cL_law 713 = .ok (.iload_n 3, 1) := by decide +kernel
theorem dL_law_714 : decode cL_law 714 = .ok (.iconst 3, 1) := by decide +kernel
theorem dL_law_715 : decode cL_law 715 = .ok (.iadd, 1) := by decide +kernel
theorem dL_law_716 : decode cL_law 716 = .ok (.iaload, 1) := by decide +kernel
theorem dL_law_717 : decode cL_law 717 = .ok (.aload_n 0, 1) := by decide +kernel
theorem dL_law_718 : decode cL_law 718 = .ok (.iload_n 3, 1) := by decide +kernel
theorem dL_law_719 : decode cL_law 719 = .ok (.iconst 4, 1) := by decide +kernel
theorem dL_law_720 : decode cL_law 720 = .ok (.iadd, 1) := by decide +kernel
theorem dL_law_721 : decode cL_law 721 = .ok (.iaload, 1) := by decide +kernel
theorem dL_law_722 : decode cL_law 722 = .ok (.invokevirtual 94, 3) := by decide +kernel
theorem dL_law_725 : decode cL_law 725 = .ok (.aload_n 2, 1) := by decide +kernel
theorem dL_law_726 : decode cL_law 726 = .ok (.aload_n 0, 1) := by decide +kernel
theorem dL_law_727 : decode cL_law 727 = .ok (.iload_n 3, 1) := by decide +kernel
theorem dL_law_728 : decode cL_law 728 = .ok (.iconst 1, 1) := by decide +kernel
theorem dL_law_729 : decode cL_law 729 = .ok (.iadd, 1) := by decide +kernel
theorem dL_law_730 : decode cL_law 730 = .ok (.iaload, 1) := by decide +kernel
theorem dL_law_731 : decode cL_law 731 = .ok (.aload_n 0, 1) := by decide +kernel
theorem dL_law_732 : decode cL_law 732 = .ok (.iload_n 3, 1) := by decide +kernel
theorem dL_law_733 : decode cL_law 733 = .ok (.iconst 2, 1) := by decide +kernel
theorem dL_law_734 : decode cL_law 734 = .ok (.iadd, 1) := by decide +kernel
theorem dL_law_735 : decode cL_law 735 = .ok (.iaload, 1) := by decide +kernel
theorem dL_law_736 : decode cL_law 736 = .ok (.aload_n 0, 1) := by decide +kernel
theorem dL_law_737 : decode cL_law 737 = .ok (.iload_n 3, 1) := by decide +kernel
theorem dL_law_738 : decode cL_law 738 = .ok (.iconst 3, 1) := by decide +kernel
theorem dL_law_739 : decode cL_law 739 = .ok (.iadd, 1) := by decide +kernel
theorem dL_law_740 : decode cL_law 740 = .ok (.iaload, 1) := by decide +kernel
theorem dL_law_741 : decode cL_law 741 = .ok (.aload_n 0, 1) := by decide +kernel
theorem dL_law_742 : decode cL_law 742 = .ok (.iload_n 3, 1) := by decide +kernel
theorem dL_law_743 : decode cL_law 743 = .ok (.iconst 4, 1) := by decide +kernel
theorem dL_law_744 : decode cL_law 744 = .ok (.iadd, 1) := by decide +kernel
theorem dL_law_745 : decode cL_law 745 = .ok (.iaload, 1) := by decide +kernel
theorem dL_law_746 : decode cL_law 746 = .ok (.invokevirtual 97, 3) := by decide +kernel
theorem dL_law_749 : decode cL_law 749 = .ok (.if_icmp .eq 369, 3) := by decide +kernel
theorem dL_law_752 : decode cL_law 752 = .ok (.iconst 0, 1) := by decide +kernel
theorem dL_law_753 : decode cL_law 753 = .ok (.ireturn, 1) := by decide +kernel
theorem dL_law_754 : decode cL_law 754 = .ok (.aload_n 1, 1) := by decide +kernel
theorem dL_law_755 : decode cL_law 755 = .ok (.aload_n 0, 1) := by decide +kernel
theorem dL_law_756 : decode cL_law 756 = .ok (.iload_n 3, 1) := by decide +kernel
theorem dL_law_757 : decode cL_law 757 = .ok (.iconst 1, 1) := by decide +kernel
theorem dL_law_758 : decode cL_law 758 = .ok (.iadd, 1) := by decide +kernel
theorem dL_law_759 : decode cL_law 759 = .ok (.iaload, 1) := by decide +kernel
theorem dL_law_760 : decode cL_law 760 = .ok (.aload_n 0, 1) := by decide +kernel
theorem dL_law_761 : decode cL_law 761 = .ok (.iload_n 3, 1) := by decide +kernel
theorem dL_law_762 : decode cL_law 762 = .ok (.iconst 2, 1) := by decide +kernel
theorem dL_law_763 : decode cL_law 763 = .ok (.iadd, 1) := by decide +kernel
theorem dL_law_764 : decode cL_law 764 = .ok (.iaload, 1) := by decide +kernel
theorem dL_law_765 : decode cL_law 765 = .ok (.aload_n 0, 1) := by decide +kernel
theorem dL_law_766 : decode cL_law 766 = .ok (.iload_n 3, 1) := by decide +kernel
theorem dL_law_767 : decode cL_law 767 = .ok (.iconst 3, 1) := by decide +kernel
theorem dL_law_768 : decode cL_law 768 = .ok (.iadd, 1) := by decide +kernel
theorem dL_law_769 : decode cL_law 769 = .ok (.iaload, 1) := by decide +kernel
theorem dL_law_770 : decode cL_law 770 = .ok (.aload_n 0, 1) := by decide +kernel
theorem dL_law_771 : decode cL_law 771 = .ok (.iload_n 3, 1) := by decide +kernel
theorem dL_law_772 : decode cL_law 772 = .ok (.iconst 4, 1) := by decide +kernel
theorem dL_law_773 : decode cL_law 773 = .ok (.iadd, 1) := by decide +kernel
theorem dL_law_774 : decode cL_law 774 = .ok (.iaload, 1) := by decide +kernel
theorem dL_law_775 : decode cL_law 775 = .ok (.invokevirtual 98, 3) := by decide +kernel
theorem dL_law_778 : decode cL_law 778 = .ok (.aload_n 2, 1) := by decide +kernel
theorem dL_law_779 : decode cL_law 779 = .ok (.aload_n 0, 1) := by decide +kernel
theorem dL_law_780 : decode cL_law 780 = .ok (.iload_n 3, 1) := by decide +kernel
theorem dL_law_781 : decode cL_law 781 = .ok (.iconst 1, 1) := by decide +kernel
theorem dL_law_782 : decode cL_law 782 = .ok (.iadd, 1) := by decide +kernel
theorem dL_law_783 : decode cL_law 783 = .ok (.iaload, 1) := by decide +kernel
theorem dL_law_784 : decode cL_law 784 = .ok (.aload_n 0, 1) := by decide +kernel
theorem dL_law_785 : decode cL_law 785 = .ok (.iload_n 3, 1) := by decide +kernel
theorem dL_law_786 : decode cL_law 786 = .ok (.iconst 2, 1) := by decide +kernel
theorem dL_law_787 : decode cL_law 787 = .ok (.iadd, 1) := by decide +kernel
theorem dL_law_788 : decode cL_law 788 = .ok (.iaload, 1) := by decide +kernel
theorem dL_law_789 : decode cL_law 789 = .ok (.aload_n 0, 1) := by decide +kernel
theorem dL_law_790 : decode cL_law 790 = .ok (.iload_n 3, 1) := by decide +kernel
theorem dL_law_791 : decode cL_law 791 = .ok (.iconst 3, 1) := by decide +kernel
theorem dL_law_792 : decode cL_law 792 = .ok (.iadd, 1) := by decide +kernel
theorem dL_law_793 : decode cL_law 793 = .ok (.iaload, 1) := by decide +kernel
theorem dL_law_794 : decode cL_law 794 = .ok (.aload_n 0, 1) := by decide +kernel
theorem dL_law_795 : decode cL_law 795 = .ok (.iload_n 3, 1) := by decide +kernel
theorem dL_law_796 : decode cL_law 796 = .ok (.iconst 4, 1) := by decide +kernel
theorem dL_law_797 : decode cL_law 797 = .ok (.iadd, 1) := by decide +kernel
theorem dL_law_798 : decode cL_law 798 = .ok (.iaload, 1) := by decide +kernel
theorem dL_law_799 : decode cL_law 799 = .ok (.invokevirtual 101, 3) := by decide +kernel
theorem dL_law_802 : decode cL_law 802 = .ok (.if_icmp .eq 316, 3) := by decide +kernel
theorem dL_law_805 : decode cL_law 805 = .ok (.iconst 0, 1) := by decide +kernel
theorem dL_law_806 : decode cL_law 806 = .ok (.ireturn, 1) := by decide +kernel
theorem dL_law_807 : decode cL_law 807 = .ok (.aload_n 1, 1) := by decide +kernel
theorem dL_law_808 : decode cL_law 808 = .ok (.aload_n 0, 1) := by decide +kernel
theorem dL_law_809 : decode cL_law 809 = .ok (.iload_n 3, 1) := by decide +kernel
theorem dL_law_810 : decode cL_law 810 = .ok (.iconst 1, 1) := by decide +kernel
theorem dL_law_811 : decode cL_law 811 = .ok (.iadd, 1) := by decide +kernel
theorem dL_law_812 : decode cL_law 812 = .ok (.iaload, 1) := by decide +kernel
theorem dL_law_813 : decode cL_law 813 = .ok (.invokevirtual 102, 3) := by decide +kernel
theorem dL_law_816 : decode cL_law 816 = .ok (.aload_n 2, 1) := by decide +kernel
theorem dL_law_817 : decode cL_law 817 = .ok (.aload_n 0, 1) := by decide +kernel
theorem dL_law_818 : decode cL_law 818 = .ok (.iload_n 3, 1) := by decide +kernel
theorem dL_law_819 : decode cL_law 819 = .ok (.iconst 1, 1) := by decide +kernel
theorem dL_law_820 : decode cL_law 820 = .ok (.iadd, 1) := by decide +kernel
theorem dL_law_821 : decode cL_law 821 = .ok (.iaload, 1) := by decide +kernel
theorem dL_law_822 : decode cL_law 822 = .ok (.invokevirtual 105, 3) := by decide +kernel
theorem dL_law_825 : decode cL_law 825 = .ok (.if_icmp .eq 293, 3) := by decide +kernel
theorem dL_law_828 : decode cL_law 828 = .ok (.iconst 0, 1) := by decide +kernel
theorem dL_law_829 : decode cL_law 829 = .ok (.ireturn, 1) := by decide +kernel
theorem dL_law_830 : decode cL_law 830 = .ok (.aload_n 1, 1) := by decide +kernel
theorem dL_law_831 : decode cL_law 831 = .ok (.aload_n 0, 1) := by decide +kernel
theorem dL_law_832 : decode cL_law 832 = .ok (.iload_n 3, 1) := by decide +kernel
theorem dL_law_833 : decode cL_law 833 = .ok (.iconst 1, 1) := by decide +kernel
theorem dL_law_834 : decode cL_law 834 = .ok (.iadd, 1) := by decide +kernel
theorem dL_law_835 : decode cL_law 835 = .ok (.iaload, 1) := by decide +kernel
theorem dL_law_836 : decode cL_law 836 = .ok (.invokevirtual 106, 3) := by decide +kernel
theorem dL_law_839 : decode cL_law 839 = .ok (.aload_n 2, 1) := by decide +kernel
theorem dL_law_840 : decode cL_law 840 = .ok (.aload_n 0, 1) := by decide +kernel
theorem dL_law_841 : decode cL_law 841 = .ok (.iload_n 3, 1) := by decide +kernel
theorem dL_law_842 : decode cL_law 842 = .ok (.iconst 1, 1) := by decide +kernel
theorem dL_law_843 : decode cL_law 843 = .ok (.iadd, 1) := by decide +kernel
theorem dL_law_844 : decode cL_law 844 = .ok (.iaload, 1) := by decide +kernel
theorem dL_law_845 : decode cL_law 845 = .ok (.invokevirtual 109, 3) := by decide +kernel
theorem dL_law_848 : decode cL_law 848 = .ok (.if_icmp .eq 270, 3) := by decide +kernel
theorem dL_law_851 : decode cL_law 851 = .ok (.iconst 0, 1) := by decide +kernel
theorem dL_law_852 : decode cL_law 852 = .ok (.ireturn, 1) := by decide +kernel
theorem dL_law_853 : decode cL_law 853 = .ok (.aload_n 1, 1) := by decide +kernel
theorem dL_law_854 : decode cL_law 854 = .ok (.aload_n 0, 1) := by decide +kernel
theorem dL_law_855 : decode cL_law 855 = .ok (.iload_n 3, 1) := by decide +kernel
theorem dL_law_856 : decode cL_law 856 = .ok (.iconst 1, 1) := by decide +kernel
theorem dL_law_857 : decode cL_law 857 = .ok (.iadd, 1) := by decide +kernel
theorem dL_law_858 : decode cL_law 858 = .ok (.iaload, 1) := by decide +kernel
theorem dL_law_859 : decode cL_law 859 = .ok (.invokevirtual 110, 3) := by decide +kernel
theorem dL_law_862 : decode cL_law 862 = .ok (.aload_n 2, 1) := by decide +kernel
theorem dL_law_863 : decode cL_law 863 = .ok (.aload_n 0, 1) := by decide +kernel
theorem dL_law_864 : decode cL_law 864 = .ok (.iload_n 3, 1) := by decide +kernel
theorem dL_law_865 : decode cL_law 865 = .ok (.iconst 1, 1) := by decide +kernel
theorem dL_law_866 : decode cL_law 866 = .ok (.iadd, 1) := by decide +kernel
theorem dL_law_867 : decode cL_law 867 = .ok (.iaload, 1) := by decide +kernel
theorem dL_law_868 : decode cL_law 868 = .ok (.invokevirtual 113, 3) := by decide +kernel
theorem dL_law_871 : decode cL_law 871 = .ok (.if_icmp .eq 247, 3) := by decide +kernel
theorem dL_law_874 : decode cL_law 874 = .ok (.iconst 0, 1) := by decide +kernel
theorem dL_law_875 : decode cL_law 875 = .ok (.ireturn, 1) := by decide +kernel
theorem dL_law_876 : decode cL_law 876 = .ok (.aload_n 1, 1) := by decide +kernel
theorem dL_law_877 : decode cL_law 877 = .ok (.aload_n 0, 1) := by decide +kernel
theorem dL_law_878 : decode cL_law 878 = .ok (.iload_n 3, 1) := by decide +kernel
theorem dL_law_879 : decode cL_law 879 = .ok (.iconst 1, 1) := by decide +kernel
theorem dL_law_880 : decode cL_law 880 = .ok (.iadd, 1) := by decide +kernel
theorem dL_law_881 : decode cL_law 881 = .ok (.iaload, 1) := by decide +kernel
theorem dL_law_882 : decode cL_law 882 = .ok (.aload_n 0, 1) := by decide +kernel
theorem dL_law_883 : decode cL_law 883 = .ok (.iload_n 3, 1) := by decide +kernel
theorem dL_law_884 : decode cL_law 884 = .ok (.iconst 2, 1) := by decide +kernel
theorem dL_law_885 : decode cL_law 885 = .ok (.iadd, 1) := by decide +kernel
theorem dL_law_886 : decode cL_law 886 = .ok (.iaload, 1) := by decide +kernel
theorem dL_law_887 : decode cL_law 887 = .ok (.invokevirtual 114, 3) := by decide +kernel
theorem dL_law_890 : decode cL_law 890 = .ok (.aload_n 2, 1) := by decide +kernel
theorem dL_law_891 : decode cL_law 891 = .ok (.aload_n 0, 1) := by decide +kernel
theorem dL_law_892 : decode cL_law 892 = .ok (.iload_n 3, 1) := by decide +kernel
theorem dL_law_893 : decode cL_law 893 = .ok (.iconst 1, 1) := by decide +kernel
theorem dL_law_894 : decode cL_law 894 = .ok (.iadd, 1) := by decide +kernel
theorem dL_law_895 : decode cL_law 895 = .ok (.iaload, 1) := by decide +kernel
theorem dL_law_896 : decode cL_law 896 = .ok (.aload_n 0, 1) := by decide +kernel
theorem dL_law_897 : decode cL_law 897 = .ok (.iload_n 3, 1) := by decide +kernel
theorem dL_law_898 : decode cL_law 898 = .ok (.iconst 2, 1) := by decide +kernel
theorem dL_law_899 : decode cL_law 899 = .ok (.iadd, 1) := by decide +kernel
theorem dL_law_900 : decode cL_law 900 = .ok (.iaload, 1) := by decide +kernel
theorem dL_law_901 : decode cL_law 901 = .ok (.invokevirtual 117, 3) := by decide +kernel
theorem dL_law_904 : decode cL_law 904 = .ok (.if_icmp .eq 214, 3) := by decide +kernel
theorem dL_law_907 : decode cL_law 907 = .ok (.iconst 0, 1) := by decide +kernel
theorem dL_law_908 : decode cL_law 908 = .ok (.ireturn, 1) := by decide +kernel
theorem dL_law_909 : decode cL_law 909 = .ok (.aload_n 1, 1) := by decide +kernel
theorem dL_law_910 : decode cL_law 910 = .ok (.invokevirtual 118, 3) := by decide +kernel
theorem dL_law_913 : decode cL_law 913 = .ok (.aload_n 2, 1) := by decide +kernel
theorem dL_law_914 : decode cL_law 914 = .ok (.invokevirtual 121, 3) := by decide +kernel
theorem dL_law_917 : decode cL_law 917 = .ok (.if_icmp .eq 201, 3) := by decide +kernel
theorem dL_law_920 : decode cL_law 920 = .ok (.iconst 0, 1) := by decide +kernel
theorem dL_law_921 : decode cL_law 921 = .ok (.ireturn, 1) := by decide +kernel
theorem dL_law_922 : decode cL_law 922 = .ok (.aload_n 1, 1) := by decide +kernel
theorem dL_law_923 : decode cL_law 923 = .ok (.aload_n 0, 1) := by decide +kernel
theorem dL_law_924 : decode cL_law 924 = .ok (.iload_n 3, 1) := by decide +kernel
theorem dL_law_925 : decode cL_law 925 = .ok (.iconst 1, 1) := by decide +kernel
theorem dL_law_926 : decode cL_law 926 = .ok (.iadd, 1) := by decide +kernel
theorem dL_law_927 : decode cL_law 927 = .ok (.iaload, 1) := by decide +kernel
theorem dL_law_928 : decode cL_law 928 = .ok (.aload_n 0, 1) := by decide +kernel
theorem dL_law_929 : decode cL_law 929 = .ok (.iload_n 3, 1) := by decide +kernel
theorem dL_law_930 : decode cL_law 930 = .ok (.iconst 2, 1) := by decide +kernel
theorem dL_law_931 : decode cL_law 931 = .ok (.iadd, 1) := by decide +kernel
theorem dL_law_932 : decode cL_law 932 = .ok (.iaload, 1) := by decide +kernel
theorem dL_law_933 : decode cL_law 933 = .ok (.invokevirtual 122, 3) := by decide +kernel
theorem dL_law_936 : decode cL_law 936 = .ok (.aload_n 2, 1) := by decide +kernel
theorem dL_law_937 : decode cL_law 937 = .ok (.aload_n 0, 1) := by decide +kernel
theorem dL_law_938 : decode cL_law 938 = .ok (.iload_n 3, 1) := by decide +kernel
theorem dL_law_939 : decode cL_law 939 = .ok (.iconst 1, 1) := by decide +kernel
theorem dL_law_940 : decode cL_law 940 = .ok (.iadd, 1) := by decide +kernel
theorem dL_law_941 : decode cL_law 941 = .ok (.iaload, 1) := by decide +kernel
theorem dL_law_942 : decode cL_law 942 = .ok (.aload_n 0, 1) := by decide +kernel
theorem dL_law_943 : decode cL_law 943 = .ok (.iload_n 3, 1) := by decide +kernel
theorem dL_law_944 : decode cL_law 944 = .ok (.iconst 2, 1) := by decide +kernel
theorem dL_law_945 : decode cL_law 945 = .ok (.iadd, 1) := by decide +kernel
theorem dL_law_946 : decode cL_law 946 = .ok (.iaload, 1) := by decide +kernel
theorem dL_law_947 : decode cL_law 947 = .ok (.invokevirtual 125, 3) := by decide +kernel
theorem dL_law_950 : decode cL_law 950 = .ok (.if_icmp .eq 168, 3) := by decide +kernel
theorem dL_law_953 : decode cL_law 953 = .ok (.iconst 0, 1) := by decide +kernel
theorem dL_law_954 : decode cL_law 954 = .ok (.ireturn, 1) := by decide +kernel
theorem dL_law_955 : decode cL_law 955 = .ok (.aload_n 1, 1) := by decide +kernel
theorem dL_law_956 : decode cL_law 956 = .ok (.aload_n 0, 1) := by decide +kernel
theorem dL_law_957 : decode cL_law 957 = .ok (.iload_n 3, 1) := by decide +kernel
theorem dL_law_958 : decode cL_law 958 = .ok (.iconst 1, 1) := by decide +kernel
theorem dL_law_959 : decode cL_law 959 = .ok (.iadd, 1) := by decide +kernel
theorem dL_law_960 : decode cL_law 960 = .ok (.iaload, 1) := by decide +kernel
theorem dL_law_961 : decode cL_law 961 = .ok (.aload_n 0, 1) := by decide +kernel
theorem dL_law_962 : decode cL_law 962 = .ok (.iload_n 3, 1) := by decide +kernel
theorem dL_law_963 : decode cL_law 963 = .ok (.iconst 2, 1) := by decide +kernel
theorem dL_law_964 : decode cL_law 964 = .ok (.iadd, 1) := by decide +kernel
theorem dL_law_965 : decode cL_law 965 = .ok (.iaload, 1) := by decide +kernel
theorem dL_law_966 : decode cL_law 966 = .ok (.invokevirtual 126, 3) := by decide +kernel
theorem dL_law_969 : decode cL_law 969 = .ok (.aload_n 2, 1) := by decide +kernel
theorem dL_law_970 : decode cL_law 970 = .ok (.aload_n 0, 1) := by decide +kernel
theorem dL_law_971 : decode cL_law 971 = .ok (.iload_n 3, 1) := by decide +kernel
theorem dL_law_972 : decode cL_law 972 = .ok (.iconst 1, 1) := by decide +kernel
theorem dL_law_973 : decode cL_law 973 = .ok (.iadd, 1) := by decide +kernel
theorem dL_law_974 : decode cL_law 974 = .ok (.iaload, 1) := by decide +kernel
theorem dL_law_975 : decode cL_law 975 = .ok (.aload_n 0, 1) := by decide +kernel
theorem dL_law_976 : decode cL_law 976 = .ok (.iload_n 3, 1) := by decide +kernel
theorem dL_law_977 : decode cL_law 977 = .ok (.iconst 2, 1) := by decide +kernel
theorem dL_law_978 : decode cL_law 978 = .ok (.iadd, 1) := by decide +kernel
theorem dL_law_979 : decode cL_law 979 = .ok (.iaload, 1) := by decide +kernel
theorem dL_law_980 : decode cL_law 980 = .ok (.invokevirtual 129, 3) := by decide +kernel
theorem dL_law_983 : decode cL_law 983 = .ok (.if_icmp .eq 135, 3) := by decide +kernel
theorem dL_law_986 : decode cL_law 986 = .ok (.iconst 0, 1) := by decide +kernel
theorem dL_law_987 : decode cL_law 987 = .ok (.ireturn, 1) := by decide +kernel
theorem dL_law_988 : decode cL_law 988 = .ok (.aload_n 1, 1) := by decide +kernel
theorem dL_law_989 : decode cL_law 989 = .ok (.aload_n 0, 1) := by decide +kernel
theorem dL_law_990 : decode cL_law 990 = .ok (.iload_n 3, 1) := by decide +kernel
theorem dL_law_991 : decode cL_law 991 = .ok (.iconst 1, 1) := by decide +kernel
theorem dL_law_992 : decode cL_law 992 = .ok (.iadd, 1) := by decide +kernel
theorem dL_law_993 : decode cL_law 993 = .ok (.iaload, 1) := by decide +kernel
theorem dL_law_994 : decode cL_law 994 = .ok (.invokevirtual 130, 3) := by decide +kernel
theorem dL_law_997 : decode cL_law 997 = .ok (.aload_n 2, 1) := by decide +kernel
theorem dL_law_998 : decode cL_law 998 = .ok (.aload_n 0, 1) := by decide +kernel
theorem dL_law_999 : decode cL_law 999 = .ok (.iload_n 3, 1) := by decide +kernel
theorem dL_law_1000 : decode cL_law 1000 = .ok (.iconst 1, 1) := by decide +kernel
theorem dL_law_1001 : decode cL_law 1001 = .ok (.iadd, 1) := by decide +kernel
theorem dL_law_1002 : decode cL_law 1002 = .ok (.iaload, 1) := by decide +kernel
theorem dL_law_1003 : decode cL_law 1003 = .ok (.invokevirtual 134, 3) := by decide +kernel
theorem dL_law_1006 : decode cL_law 1006 = .ok (.lcmp, 1) := by decide +kernel
theorem dL_law_1007 : decode cL_law 1007 = .ok (.ifCond .eq 111, 3) := by decide +kernel
theorem dL_law_1010 : decode cL_law 1010 = .ok (.iconst 0, 1) := by decide +kernel
theorem dL_law_1011 : decode cL_law 1011 = .ok (.ireturn, 1) := by decide +kernel
theorem dL_law_1012 : decode cL_law 1012 = .ok (.aload_n 1, 1) := by decide +kernel
theorem dL_law_1013 : decode cL_law 1013 = .ok (.aload_n 0, 1) := by decide +kernel
theorem dL_law_1014 : decode cL_law 1014 = .ok (.iload_n 3, 1) := by decide +kernel
theorem dL_law_1015 : decode cL_law 1015 = .ok (.iconst 1, 1) := by decide +kernel
theorem dL_law_1016 : decode cL_law 1016 = .ok (.iadd, 1) := by decide +kernel
theorem dL_law_1017 : decode cL_law 1017 = .ok (.iaload, 1) := by decide +kernel
theorem dL_law_1018 : decode cL_law 1018 = .ok (.invokevirtual 135, 3) := by decide +kernel
theorem dL_law_1021 : decode cL_law 1021 = .ok (.aload_n 2, 1) := by decide +kernel
theorem dL_law_1022 : decode cL_law 1022 = .ok (.aload_n 0, 1) := by decide +kernel
theorem dL_law_1023 : decode cL_law 1023 = .ok (.iload_n 3, 1) := by decide +kernel
theorem dL_law_1024 : decode cL_law 1024 = .ok (.iconst 1, 1) := by decide +kernel
theorem dL_law_1025 : decode cL_law 1025 = .ok (.iadd, 1) := by decide +kernel
theorem dL_law_1026 : decode cL_law 1026 = .ok (.iaload, 1) := by decide +kernel
theorem dL_law_1027 : decode cL_law 1027 = .ok (.invokevirtual 138, 3) := by decide +kernel
theorem dL_law_1030 : decode cL_law 1030 = .ok (.if_icmp .eq 88, 3) := by decide +kernel
theorem dL_law_1033 : decode cL_law 1033 = .ok (.iconst 0, 1) := by decide +kernel
theorem dL_law_1034 : decode cL_law 1034 = .ok (.ireturn, 1) := by decide +kernel
theorem dL_law_1035 : decode cL_law 1035 = .ok (.aload_n 1, 1) := by decide +kernel
theorem dL_law_1036 : decode cL_law 1036 = .ok (.aload_n 0, 1) := by decide +kernel
theorem dL_law_1037 : decode cL_law 1037 = .ok (.iload_n 3, 1) := by decide +kernel
theorem dL_law_1038 : decode cL_law 1038 = .ok (.iconst 1, 1) := by decide +kernel
theorem dL_law_1039 : decode cL_law 1039 = .ok (.iadd, 1) := by decide +kernel
theorem dL_law_1040 : decode cL_law 1040 = .ok (.iaload, 1) := by decide +kernel
theorem dL_law_1041 : decode cL_law 1041 = .ok (.invokevirtual 139, 3) := by decide +kernel
theorem dL_law_1044 : decode cL_law 1044 = .ok (.aload_n 2, 1) := by decide +kernel
theorem dL_law_1045 : decode cL_law 1045 = .ok (.aload_n 0, 1) := by decide +kernel
theorem dL_law_1046 : decode cL_law 1046 = .ok (.iload_n 3, 1) := by decide +kernel
theorem dL_law_1047 : decode cL_law 1047 = .ok (.iconst 1, 1) := by decide +kernel
theorem dL_law_1048 : decode cL_law 1048 = .ok (.iadd, 1) := by decide +kernel
theorem dL_law_1049 : decode cL_law 1049 = .ok (.iaload, 1) := by decide +kernel
theorem dL_law_1050 : decode cL_law 1050 = .ok (.invokevirtual 142, 3) := by decide +kernel
theorem dL_law_1053 : decode cL_law 1053 = .ok (.if_icmp .eq 65, 3) := by decide +kernel
theorem dL_law_1056 : decode cL_law 1056 = .ok (.iconst 0, 1) := by decide +kernel
theorem dL_law_1057 : decode cL_law 1057 = .ok (.ireturn, 1) := by decide +kernel
theorem dL_law_1058 : decode cL_law 1058 = .ok (.aload_n 1, 1) := by decide +kernel
theorem dL_law_1059 : decode cL_law 1059 = .ok (.aload_n 0, 1) := by decide +kernel
theorem dL_law_1060 : decode cL_law 1060 = .ok (.iload_n 3, 1) := by decide +kernel
theorem dL_law_1061 : decode cL_law 1061 = .ok (.iconst 1, 1) := by decide +kernel
theorem dL_law_1062 : decode cL_law 1062 = .ok (.iadd, 1) := by decide +kernel
theorem dL_law_1063 : decode cL_law 1063 = .ok (.iaload, 1) := by decide +kernel
theorem dL_law_1064 : decode cL_law 1064 = .ok (.invokevirtual 143, 3) := by decide +kernel
theorem dL_law_1067 : decode cL_law 1067 = .ok (.aload_n 2, 1) := by decide +kernel
theorem dL_law_1068 : decode cL_law 1068 = .ok (.aload_n 0, 1) := by decide +kernel
theorem dL_law_1069 : decode cL_law 1069 = .ok (.iload_n 3, 1) := by decide +kernel
theorem dL_law_1070 : decode cL_law 1070 = .ok (.iconst 1, 1) := by decide +kernel
theorem dL_law_1071 : decode cL_law 1071 = .ok (.iadd, 1) := by decide +kernel
theorem dL_law_1072 : decode cL_law 1072 = .ok (.iaload, 1) := by decide +kernel
theorem dL_law_1073 : decode cL_law 1073 = .ok (.invokevirtual 146, 3) := by decide +kernel
theorem dL_law_1076 : decode cL_law 1076 = .ok (.if_icmp .eq 42, 3) := by decide +kernel
theorem dL_law_1079 : decode cL_law 1079 = .ok (.iconst 0, 1) := by decide +kernel
theorem dL_law_1080 : decode cL_law 1080 = .ok (.ireturn, 1) := by decide +kernel
theorem dL_law_1081 : decode cL_law 1081 = .ok (.aload_n 1, 1) := by decide +kernel
theorem dL_law_1082 : decode cL_law 1082 = .ok (.aload_n 0, 1) := by decide +kernel
theorem dL_law_1083 : decode cL_law 1083 = .ok (.iload_n 3, 1) := by decide +kernel
theorem dL_law_1084 : decode cL_law 1084 = .ok (.iconst 1, 1) := by decide +kernel
theorem dL_law_1085 : decode cL_law 1085 = .ok (.iadd, 1) := by decide +kernel
theorem dL_law_1086 : decode cL_law 1086 = .ok (.iaload, 1) := by decide +kernel
theorem dL_law_1087 : decode cL_law 1087 = .ok (.invokevirtual 147, 3) := by decide +kernel
theorem dL_law_1090 : decode cL_law 1090 = .ok (.aload_n 2, 1) := by decide +kernel
theorem dL_law_1091 : decode cL_law 1091 = .ok (.aload_n 0, 1) := by decide +kernel
theorem dL_law_1092 : decode cL_law 1092 = .ok (.iload_n 3, 1) := by decide +kernel
theorem dL_law_1093 : decode cL_law 1093 = .ok (.iconst 1, 1) := by decide +kernel
theorem dL_law_1094 : decode cL_law 1094 = .ok (.iadd, 1) := by decide +kernel
theorem dL_law_1095 : decode cL_law 1095 = .ok (.iaload, 1) := by decide +kernel
theorem dL_law_1096 : decode cL_law 1096 = .ok (.invokevirtual 150, 3) := by decide +kernel
theorem dL_law_1099 : decode cL_law 1099 = .ok (.if_icmp .eq 19, 3) := by decide +kernel
theorem dL_law_1102 : decode cL_law 1102 = .ok (.iconst 0, 1) := by decide +kernel
theorem dL_law_1103 : decode cL_law 1103 = .ok (.ireturn, 1) := by decide +kernel
theorem dL_law_1104 : decode cL_law 1104 = .ok (.aload_n 1, 1) := by decide +kernel
theorem dL_law_1105 : decode cL_law 1105 = .ok (.invokevirtual 151, 3) := by decide +kernel
theorem dL_law_1108 : decode cL_law 1108 = .ok (.aload_n 2, 1) := by decide +kernel
theorem dL_law_1109 : decode cL_law 1109 = .ok (.invokevirtual 155, 3) := by decide +kernel
theorem dL_law_1112 : decode cL_law 1112 = .ok (.lcmp, 1) := by decide +kernel
theorem dL_law_1113 : decode cL_law 1113 = .ok (.ifCond .eq 5, 3) := by decide +kernel
theorem dL_law_1116 : decode cL_law 1116 = .ok (.iconst 0, 1) := by decide +kernel
theorem dL_law_1117 : decode cL_law 1117 = .ok (.ireturn, 1) := by decide +kernel
theorem dL_law_1118 : decode cL_law 1118 = .ok (.iinc 3 5, 3) := by decide +kernel
theorem dL_law_1121 : decode cL_law 1121 = .ok (.goto (-1103), 3) := by decide +kernel
theorem dL_law_1124 : decode cL_law 1124 = .ok (.iconst 1, 1) := by decide +kernel
theorem dL_law_1125 : decode cL_law 1125 = .ok (.ireturn, 1) := by decide +kernel
end
section
/-- the tables' words that every method may lean on -/
def GT : List Cond := lw_tbl.filter goodWord
theorem gm {w : Cond} (i : Nat) (h : lw_tbl[i]? = some w) (hg : goodWord w = true) : w ∈ GT := List.mem_filter.mpr ⟨List.mem_of_getElem? h, hg⟩
theorem gmL {ws : List Cond} (ps : List Nat) (h : ws = ps.filterMap (fun i => lw_tbl[i]?)) (hg : ws.all goodWord = true) : ∀ w ∈ ws, w ∈ GT := by
  intro w hw
  refine List.mem_filter.mpr ⟨?_, List.all_eq_true.mp hg w hw⟩
  rw [h] at hw
  obtain ⟨i, -, hi⟩ := List.mem_filterMap.mp hw
  exact List.mem_of_getElem? hi
theorem gtG {c0 : Cond} : GoodIn (c0 :: GT) GT := fun w hw => ⟨List.mem_cons_of_mem _ hw, good_of_word (List.mem_filter.mp hw).2⟩
theorem gtM {c0 w : Cond} (h : w ∈ GT) : w ∈ c0 :: GT := List.mem_cons_of_mem _ h
theorem gtOne {c0 w : Cond} (h : w ∈ GT) : w ∈ c0 :: GT ∧ ((w.onTables && w.keeps) = true ∨ ∃ ty, w = .arrayClass ty) := ⟨List.mem_cons_of_mem _ h, good_of_word (List.mem_filter.mp h).2⟩
theorem kw_0 : Cond.selects "NobodyTwice" ⟨"NobodyTwice", "bad", "()I"⟩ ⟨"NobodyTwice", "bad", "()I"⟩ ∈ GT := gm 0 (by decide +kernel) (by decide +kernel)
theorem kw_1 : Cond.selects "NobodyTwice" ⟨"NobodyTwice", "full", "()I"⟩ ⟨"NobodyTwice", "full", "()I"⟩ ∈ GT := gm 1 (by decide +kernel) (by decide +kernel)
theorem kw_2 : Cond.selects "NobodyTwice$Script" ⟨"NobodyTwice$Script", "advance", "()V"⟩ ⟨"NobodyTwice$Script", "advance", "()V"⟩ ∈ GT := gm 2 (by decide +kernel) (by decide +kernel)
theorem kw_3 : Cond.selects "NobodyTwice$Script" ⟨"NobodyTwice$Script", "takeFigures", "()V"⟩ ⟨"NobodyTwice$Script", "takeFigures", "()V"⟩ ∈ GT := gm 3 (by decide +kernel) (by decide +kernel)
theorem kw_4 : Cond.selects "NobodyTwice$Script" ⟨"NobodyTwice$Script", "isWord", "(Ljava/lang/String;)Z"⟩ ⟨"NobodyTwice$Script", "isWord", "(Ljava/lang/String;)Z"⟩ ∈ GT := gm 4 (by decide +kernel) (by decide +kernel)
theorem kw_5 : Cond.selects "NobodyTwice$Script" ⟨"NobodyTwice$Script", "endsItem", "()Z"⟩ ⟨"NobodyTwice$Script", "endsItem", "()Z"⟩ ∈ GT := gm 5 (by decide +kernel) (by decide +kernel)
theorem kw_6 : Cond.selects "NobodyTwice$Script" ⟨"NobodyTwice$Script", "tellPrize", "(LNobodyTwice$Valley;)Z"⟩ ⟨"NobodyTwice$Script", "tellPrize", "(LNobodyTwice$Valley;)Z"⟩ ∈ GT := gm 6 (by decide +kernel) (by decide +kernel)
theorem kw_7 : Cond.selects "NobodyTwice$Script" ⟨"NobodyTwice$Script", "hasNumber", "(II)Z"⟩ ⟨"NobodyTwice$Script", "hasNumber", "(II)Z"⟩ ∈ GT := gm 7 (by decide +kernel) (by decide +kernel)
theorem kw_8 : Cond.selects "NobodyTwice$Script" ⟨"NobodyTwice$Script", "tellOne", "(LNobodyTwice$Valley;)Z"⟩ ⟨"NobodyTwice$Script", "tellOne", "(LNobodyTwice$Valley;)Z"⟩ ∈ GT := gm 8 (by decide +kernel) (by decide +kernel)
theorem kw_9 : Cond.selects "NobodyTwice" ⟨"NobodyTwice", "no", "()I"⟩ ⟨"NobodyTwice", "no", "()I"⟩ ∈ GT := gm 9 (by decide +kernel) (by decide +kernel)
theorem kw_10 : Cond.selects "NobodyTwice" ⟨"NobodyTwice", "isOne", "(I)Z"⟩ ⟨"NobodyTwice", "isOne", "(I)Z"⟩ ∈ GT := gm 10 (by decide +kernel) (by decide +kernel)
theorem kw_11 : Cond.selects "NobodyTwice" ⟨"NobodyTwice", "isToCome", "(I)Z"⟩ ⟨"NobodyTwice", "isToCome", "(I)Z"⟩ ∈ GT := gm 11 (by decide +kernel) (by decide +kernel)
theorem kw_12 : Cond.selects "NobodyTwice$Foresight" ⟨"NobodyTwice$Foresight", "rests", "(III)Z"⟩ ⟨"NobodyTwice$Foresight", "rests", "(III)Z"⟩ ∈ GT := gm 12 (by decide +kernel) (by decide +kernel)
theorem kw_13 : Cond.selects "NobodyTwice$Contest" ⟨"NobodyTwice$Contest", "kindFits", "(LNobodyTwice$Table;II)Z"⟩ ⟨"NobodyTwice$Contest", "kindFits", "(LNobodyTwice$Table;II)Z"⟩ ∈ GT := gm 13 (by decide +kernel) (by decide +kernel)
theorem kw_14 : Cond.selects "NobodyTwice$Contest" ⟨"NobodyTwice$Contest", "isSoWith", "(LNobodyTwice$Valley;III)Z"⟩ ⟨"NobodyTwice$Contest", "isSoWith", "(LNobodyTwice$Valley;III)Z"⟩ ∈ GT := gm 14 (by decide +kernel) (by decide +kernel)
theorem kw_15 : Cond.selects "NobodyTwice" ⟨"NobodyTwice", "setFraction", "(II)V"⟩ ⟨"NobodyTwice", "setFraction", "(II)V"⟩ ∈ GT := gm 15 (by decide +kernel) (by decide +kernel)
theorem kw_16 : Cond.selects "NobodyTwice" ⟨"NobodyTwice", "amount", "(I)I"⟩ ⟨"NobodyTwice", "amount", "(I)I"⟩ ∈ GT := gm 16 (by decide +kernel) (by decide +kernel)
theorem kw_17 : Cond.selects "NobodyTwiceModel" ⟨"NobodyTwiceModel", "many", "()I"⟩ ⟨"NobodyTwiceModel", "many", "()I"⟩ ∈ GT := gm 17 (by decide +kernel) (by decide +kernel)
theorem kw_18 : Cond.selects "NobodyTwiceModel" ⟨"NobodyTwiceModel", "bad", "(I)I"⟩ ⟨"NobodyTwiceModel", "bad", "(I)I"⟩ ∈ GT := gm 18 (by decide +kernel) (by decide +kernel)
theorem kw_19 : Cond.selects "NobodyTwiceModel" ⟨"NobodyTwiceModel", "full", "()I"⟩ ⟨"NobodyTwiceModel", "full", "()I"⟩ ∈ GT := gm 19 (by decide +kernel) (by decide +kernel)
theorem kw_20 : Cond.selects "NobodyTwiceModel" ⟨"NobodyTwiceModel", "no", "()I"⟩ ⟨"NobodyTwiceModel", "no", "()I"⟩ ∈ GT := gm 20 (by decide +kernel) (by decide +kernel)
theorem kw_21 : Cond.selects "NobodyTwiceModel" ⟨"NobodyTwiceModel", "keep", "()V"⟩ ⟨"NobodyTwiceModel", "keep", "()V"⟩ ∈ GT := gm 21 (by decide +kernel) (by decide +kernel)
theorem kw_22 : Cond.selects "NobodyTwiceModel" ⟨"NobodyTwiceModel", "layHand", "()V"⟩ ⟨"NobodyTwiceModel", "layHand", "()V"⟩ ∈ GT := gm 22 (by decide +kernel) (by decide +kernel)
theorem kw_23 : Cond.selects "NobodyTwiceModel" ⟨"NobodyTwiceModel", "goYear", "(I)I"⟩ ⟨"NobodyTwiceModel", "goYear", "(I)I"⟩ ∈ GT := gm 23 (by decide +kernel) (by decide +kernel)
theorem kw_24 : Cond.selects "NobodyTwiceModel" ⟨"NobodyTwiceModel", "bestIn", "(II)I"⟩ ⟨"NobodyTwiceModel", "bestIn", "(II)I"⟩ ∈ GT := gm 24 (by decide +kernel) (by decide +kernel)
theorem kw_25 : Cond.selects "NobodyTwiceModel" ⟨"NobodyTwiceModel", "enters", "(II)Z"⟩ ⟨"NobodyTwiceModel", "enters", "(II)Z"⟩ ∈ GT := gm 25 (by decide +kernel) (by decide +kernel)
theorem kw_26 : Cond.selects "NobodyTwiceModel" ⟨"NobodyTwiceModel", "isBarred", "(I)Z"⟩ ⟨"NobodyTwiceModel", "isBarred", "(I)Z"⟩ ∈ GT := gm 26 (by decide +kernel) (by decide +kernel)
theorem kw_27 : Cond.selects "NobodyTwiceModel" ⟨"NobodyTwiceModel", "tries", "(II)Z"⟩ ⟨"NobodyTwiceModel", "tries", "(II)Z"⟩ ∈ GT := gm 27 (by decide +kernel) (by decide +kernel)
theorem kw_28 : Cond.selects "NobodyTwiceModel" ⟨"NobodyTwiceModel", "goodOf", "(III)I"⟩ ⟨"NobodyTwiceModel", "goodOf", "(III)I"⟩ ∈ GT := gm 28 (by decide +kernel) (by decide +kernel)
theorem kw_29 : Cond.selects "NobodyTwiceModel" ⟨"NobodyTwiceModel", "isOne", "(I)Z"⟩ ⟨"NobodyTwiceModel", "isOne", "(I)Z"⟩ ∈ GT := gm 29 (by decide +kernel) (by decide +kernel)
theorem kw_30 : Cond.selects "NobodyTwiceModel" ⟨"NobodyTwiceModel", "isToCome", "(I)Z"⟩ ⟨"NobodyTwiceModel", "isToCome", "(I)Z"⟩ ∈ GT := gm 30 (by decide +kernel) (by decide +kernel)
theorem kw_31 : Cond.selects "NobodyTwiceModel" ⟨"NobodyTwiceModel", "goTill", "(I)V"⟩ ⟨"NobodyTwiceModel", "goTill", "(I)V"⟩ ∈ GT := gm 31 (by decide +kernel) (by decide +kernel)
theorem kw_32 : Cond.selects "NobodyTwiceModel" ⟨"NobodyTwiceModel", "worthOf", "(I)I"⟩ ⟨"NobodyTwiceModel", "worthOf", "(I)I"⟩ ∈ GT := gm 32 (by decide +kernel) (by decide +kernel)
theorem kw_33 : Cond.selects "NobodyTwiceModel" ⟨"NobodyTwiceModel", "winsBy", "(II)I"⟩ ⟨"NobodyTwiceModel", "winsBy", "(II)I"⟩ ∈ GT := gm 33 (by decide +kernel) (by decide +kernel)
theorem kw_34 : Cond.selects "NobodyTwiceModel" ⟨"NobodyTwiceModel", "rests", "(II)Z"⟩ ⟨"NobodyTwiceModel", "rests", "(II)Z"⟩ ∈ GT := gm 34 (by decide +kernel) (by decide +kernel)
theorem kw_35 : Cond.selects "NobodyTwiceModel" ⟨"NobodyTwiceModel", "kindsOf", "(I)I"⟩ ⟨"NobodyTwiceModel", "kindsOf", "(I)I"⟩ ∈ GT := gm 35 (by decide +kernel) (by decide +kernel)
theorem kw_36 : Cond.selects "NobodyTwiceModel" ⟨"NobodyTwiceModel", "isBeaten", "(III)Z"⟩ ⟨"NobodyTwiceModel", "isBeaten", "(III)Z"⟩ ∈ GT := gm 36 (by decide +kernel) (by decide +kernel)
theorem kw_37 : Cond.selects "NobodyTwiceModel" ⟨"NobodyTwiceModel", "goodThen", "(IIII)I"⟩ ⟨"NobodyTwiceModel", "goodThen", "(IIII)I"⟩ ∈ GT := gm 37 (by decide +kernel) (by decide +kernel)
theorem kw_38 : Cond.selects "NobodyTwiceModel" ⟨"NobodyTwiceModel", "fraction", "(JJ)V"⟩ ⟨"NobodyTwiceModel", "fraction", "(JJ)V"⟩ ∈ GT := gm 38 (by decide +kernel) (by decide +kernel)
theorem kw_39 : Cond.selects "NobodyTwiceModel" ⟨"NobodyTwiceModel", "lookAt", "(I)V"⟩ ⟨"NobodyTwiceModel", "lookAt", "(I)V"⟩ ∈ GT := gm 39 (by decide +kernel) (by decide +kernel)
theorem kw_40 : Cond.selects "NobodyTwiceModel" ⟨"NobodyTwiceModel", "spells", "(IIIIIII)Z"⟩ ⟨"NobodyTwiceModel", "spells", "(IIIIIII)Z"⟩ ∈ GT := gm 40 (by decide +kernel) (by decide +kernel)
theorem kw_41 : Cond.selects "NobodyTwiceModel" ⟨"NobodyTwiceModel", "goBehind", "()V"⟩ ⟨"NobodyTwiceModel", "goBehind", "()V"⟩ ∈ GT := gm 41 (by decide +kernel) (by decide +kernel)
theorem kw_42 : Cond.selects "NobodyTwiceModel" ⟨"NobodyTwiceModel", "takesItem", "()Z"⟩ ⟨"NobodyTwiceModel", "takesItem", "()Z"⟩ ∈ GT := gm 42 (by decide +kernel) (by decide +kernel)
theorem kw_43 : Cond.selects "NobodyTwiceModel" ⟨"NobodyTwiceModel", "takesPrize", "()Z"⟩ ⟨"NobodyTwiceModel", "takesPrize", "()Z"⟩ ∈ GT := gm 43 (by decide +kernel) (by decide +kernel)
theorem kw_44 : Cond.selects "NobodyTwiceModel" ⟨"NobodyTwiceModel", "takes", "(III)Z"⟩ ⟨"NobodyTwiceModel", "takes", "(III)Z"⟩ ∈ GT := gm 44 (by decide +kernel) (by decide +kernel)
theorem kw_45 : Cond.selects "NobodyTwiceModel" ⟨"NobodyTwiceModel", "takesOne", "()Z"⟩ ⟨"NobodyTwiceModel", "takesOne", "()Z"⟩ ∈ GT := gm 45 (by decide +kernel) (by decide +kernel)
theorem kw_46 : Cond.selects "NobodyTwiceModel" ⟨"NobodyTwiceModel", "counted", "(I)I"⟩ ⟨"NobodyTwiceModel", "counted", "(I)I"⟩ ∈ GT := gm 46 (by decide +kernel) (by decide +kernel)
theorem kw_47 : Cond.selects "NobodyTwiceModel" ⟨"NobodyTwiceModel", "manyPrizes", "()I"⟩ ⟨"NobodyTwiceModel", "manyPrizes", "()I"⟩ ∈ GT := gm 47 (by decide +kernel) (by decide +kernel)
theorem kw_48 : Cond.selects "NobodyTwiceModel" ⟨"NobodyTwiceModel", "manyWins", "()I"⟩ ⟨"NobodyTwiceModel", "manyWins", "()I"⟩ ∈ GT := gm 48 (by decide +kernel) (by decide +kernel)
theorem kw_49 : Cond.selects "NobodyTwiceModel" ⟨"NobodyTwiceModel", "sums", "(JII)J"⟩ ⟨"NobodyTwiceModel", "sums", "(JII)J"⟩ ∈ GT := gm 49 (by decide +kernel) (by decide +kernel)
theorem kw_50 : Cond.initialized "NobodyTwiceLaw" ∈ GT := gm 50 (by decide +kernel) (by decide +kernel)
theorem kw_51 : Cond.initialized "NobodyTwice" ∈ GT := gm 51 (by decide +kernel) (by decide +kernel)
theorem kw_52 : Cond.initialized "NobodyTwice$Valley" ∈ GT := gm 52 (by decide +kernel) (by decide +kernel)
theorem kw_53 : Cond.initialized "NobodyTwice$Table" ∈ GT := gm 53 (by decide +kernel) (by decide +kernel)
theorem kw_54 : Cond.initialized "java/util/Arrays" ∈ GT := gm 54 (by decide +kernel) (by decide +kernel)
theorem kw_55 : Cond.initialized "NobodyTwice$Contest" ∈ GT := gm 55 (by decide +kernel) (by decide +kernel)
theorem kw_56 : Cond.initialized "NobodyTwice$Plain" ∈ GT := gm 56 (by decide +kernel) (by decide +kernel)
theorem kw_57 : Cond.initialized "NobodyTwice$Saver" ∈ GT := gm 57 (by decide +kernel) (by decide +kernel)
theorem kw_58 : Cond.initialized "NobodyTwice$Hider" ∈ GT := gm 58 (by decide +kernel) (by decide +kernel)
theorem kw_59 : Cond.initialized "NobodyTwice$Proud" ∈ GT := gm 59 (by decide +kernel) (by decide +kernel)
theorem kw_60 : Cond.initialized "NobodyTwice$Dog" ∈ GT := gm 60 (by decide +kernel) (by decide +kernel)
theorem kw_61 : Cond.initialized "NobodyTwice$Old" ∈ GT := gm 61 (by decide +kernel) (by decide +kernel)
theorem kw_62 : Cond.initialized "NobodyTwice$Foresight" ∈ GT := gm 62 (by decide +kernel) (by decide +kernel)
theorem kw_63 : Cond.initialized "NobodyTwice$Script" ∈ GT := gm 63 (by decide +kernel) (by decide +kernel)
theorem kw_64 : Cond.initialized "NobodyTwiceModel" ∈ GT := gm 64 (by decide +kernel) (by decide +kernel)
theorem kw_65 : Cond.initialized "java/lang/String" ∈ GT := gm 65 (by decide +kernel) (by decide +kernel)
theorem kw_66 : Cond.initialized "java/lang/StringLatin1" ∈ GT := gm 66 (by decide +kernel) (by decide +kernel)
theorem kw_67 : Cond.initialized "jdk/internal/util/Preconditions" ∈ GT := gm 67 (by decide +kernel) (by decide +kernel)
theorem kw_68 : Cond.initialized "java/lang/StringUTF16" ∈ GT := gm 68 (by decide +kernel) (by decide +kernel)
theorem kw_69 : Cond.initialized "java/lang/System" ∈ GT := gm 69 (by decide +kernel) (by decide +kernel)
theorem kw_70 : Cond.initialized "java/lang/Integer" ∈ GT := gm 70 (by decide +kernel) (by decide +kernel)
theorem kw_71 : Cond.initialized "java/lang/Math" ∈ GT := gm 71 (by decide +kernel) (by decide +kernel)
theorem kw_72 : Cond.classLink "NobodyTwiceLaw" 7 "NobodyTwice" ∈ GT := gm 72 (by decide +kernel) (by decide +kernel)
theorem kw_73 : Cond.instantiable "NobodyTwice" 12 ∈ GT := gm 73 (by decide +kernel) (by decide +kernel)
theorem kw_74 : Cond.methodLink "NobodyTwiceLaw" 9 ⟨"NobodyTwice", "<init>", "()V"⟩ ∈ GT := gm 74 (by decide +kernel) (by decide +kernel)
theorem kw_75 : Cond.instanceMethod ⟨"NobodyTwice", "<init>", "()V"⟩ ∈ GT := gm 75 (by decide +kernel) (by decide +kernel)
theorem kw_76 : Cond.code ⟨"NobodyTwice", "<init>", "()V"⟩ prog_1_method_1_code 2 (Option.none : Option Jvm.ClassFile.FieldType) ∈ GT := gm 76 (by decide +kernel) (by decide +kernel)
theorem kw_77 : Cond.methodLink "NobodyTwice" 1 ⟨"java/lang/Object", "<init>", "()V"⟩ ∈ GT := gm 77 (by decide +kernel) (by decide +kernel)
theorem kw_78 : Cond.instanceMethod ⟨"java/lang/Object", "<init>", "()V"⟩ ∈ GT := gm 78 (by decide +kernel) (by decide +kernel)
theorem kw_79 : Cond.code ⟨"java/lang/Object", "<init>", "()V"⟩ object_method_1_code 1 (Option.none : Option Jvm.ClassFile.FieldType) ∈ GT := gm 79 (by decide +kernel) (by decide +kernel)
theorem kw_80 : Cond.classLink "NobodyTwice" 7 "NobodyTwice$Valley" ∈ GT := gm 80 (by decide +kernel) (by decide +kernel)
theorem kw_81 : Cond.instantiable "NobodyTwice$Valley" 13 ∈ GT := gm 81 (by decide +kernel) (by decide +kernel)
theorem kw_82 : Cond.methodLink "NobodyTwice" 9 ⟨"NobodyTwice$Valley", "<init>", "()V"⟩ ∈ GT := gm 82 (by decide +kernel) (by decide +kernel)
theorem kw_83 : Cond.instanceMethod ⟨"NobodyTwice$Valley", "<init>", "()V"⟩ ∈ GT := gm 83 (by decide +kernel) (by decide +kernel)
theorem kw_84 : Cond.code ⟨"NobodyTwice$Valley", "<init>", "()V"⟩ prog_12_method_1_code 1 (Option.none : Option Jvm.ClassFile.FieldType) ∈ GT := gm 84 (by decide +kernel) (by decide +kernel)
theorem kw_85 : Cond.methodLink "NobodyTwice$Valley" 3 ⟨"java/lang/Object", "<init>", "()V"⟩ ∈ GT := gm 85 (by decide +kernel) (by decide +kernel)
theorem kw_86 : Cond.classLink "NobodyTwice$Valley" 36 "NobodyTwice$Table" ∈ GT := gm 86 (by decide +kernel) (by decide +kernel)
theorem kw_87 : Cond.instantiable "NobodyTwice$Table" 2 ∈ GT := gm 87 (by decide +kernel) (by decide +kernel)
theorem kw_89 : Cond.instanceMethod ⟨"NobodyTwice$Table", "<init>", "()V"⟩ ∈ GT := gm 89 (by decide +kernel) (by decide +kernel)
theorem kw_90 : Cond.code ⟨"NobodyTwice$Table", "<init>", "()V"⟩ prog_11_method_1_code 1 (Option.none : Option Jvm.ClassFile.FieldType) ∈ GT := gm 90 (by decide +kernel) (by decide +kernel)
theorem kw_91 : Cond.methodLink "NobodyTwice$Table" 3 ⟨"java/lang/Object", "<init>", "()V"⟩ ∈ GT := gm 91 (by decide +kernel) (by decide +kernel)
theorem kw_92 : Cond.fieldLink "NobodyTwice$Table" 9 "NobodyTwice$Table" "cells" "[I" ∈ GT := gm 92 (by decide +kernel) (by decide +kernel)
theorem kw_93 : Cond.fieldLink "NobodyTwice$Table" 15 "NobodyTwice$Table" "rows" "I" ∈ GT := gm 93 (by decide +kernel) (by decide +kernel)
theorem kw_101 : Cond.superclass "NobodyTwice$Table" "java/lang/Object" ∈ GT := gm 101 (by decide +kernel) (by decide +kernel)
theorem kw_102 : Cond.arrayClass Jvm.ClassFile.FieldType.int ∈ GT := gm 102 (by decide +kernel) (by decide +kernel)
theorem kw_103 : Cond.methodLink "NobodyTwice$Valley" 46 ⟨"NobodyTwice$Valley", "empty", "()V"⟩ ∈ GT := gm 103 (by decide +kernel) (by decide +kernel)
theorem kw_104 : Cond.instanceMethod ⟨"NobodyTwice$Valley", "empty", "()V"⟩ ∈ GT := gm 104 (by decide +kernel) (by decide +kernel)
theorem kw_105 : Cond.selects "NobodyTwice$Valley" ⟨"NobodyTwice$Valley", "empty", "()V"⟩ ⟨"NobodyTwice$Valley", "empty", "()V"⟩ ∈ GT := gm 105 (by decide +kernel) (by decide +kernel)
theorem kw_106 : Cond.code ⟨"NobodyTwice$Valley", "empty", "()V"⟩ prog_12_method_2_code 1 (Option.none : Option Jvm.ClassFile.FieldType) ∈ GT := gm 106 (by decide +kernel) (by decide +kernel)
theorem kw_107 : Cond.methodLink "NobodyTwice$Valley" 49 ⟨"java/util/Arrays", "fill", "([II)V"⟩ ∈ GT := gm 107 (by decide +kernel) (by decide +kernel)
theorem kw_108 : Cond.static ⟨"java/util/Arrays", "fill", "([II)V"⟩ ∈ GT := gm 108 (by decide +kernel) (by decide +kernel)
theorem kw_109 : Cond.code ⟨"java/util/Arrays", "fill", "([II)V"⟩ prog_21_method_103_code 4 (Option.none : Option Jvm.ClassFile.FieldType) ∈ GT := gm 109 (by decide +kernel) (by decide +kernel)
theorem kw_110 : Cond.fieldLink "NobodyTwice$Valley" 9 "NobodyTwice$Valley" "sorts" "[I" ∈ GT := gm 110 (by decide +kernel) (by decide +kernel)
theorem kw_114 : Cond.fieldLink "NobodyTwice$Valley" 15 "NobodyTwice$Valley" "worths" "[I" ∈ GT := gm 114 (by decide +kernel) (by decide +kernel)
theorem kw_118 : Cond.fieldLink "NobodyTwice$Valley" 18 "NobodyTwice$Valley" "kinds" "[I" ∈ GT := gm 118 (by decide +kernel) (by decide +kernel)
theorem kw_121 : Cond.fieldLink "NobodyTwice$Valley" 21 "NobodyTwice$Valley" "arts" "[I" ∈ GT := gm 121 (by decide +kernel) (by decide +kernel)
theorem kw_124 : Cond.fieldLink "NobodyTwice$Valley" 24 "NobodyTwice$Valley" "wins" "[I" ∈ GT := gm 124 (by decide +kernel) (by decide +kernel)
theorem kw_128 : Cond.fieldLink "NobodyTwice$Valley" 27 "NobodyTwice$Valley" "seconds" "[I" ∈ GT := gm 128 (by decide +kernel) (by decide +kernel)
theorem kw_130 : Cond.fieldLink "NobodyTwice$Valley" 30 "NobodyTwice$Valley" "firstOf" "[I" ∈ GT := gm 130 (by decide +kernel) (by decide +kernel)
theorem kw_131 : Cond.fieldLink "NobodyTwice$Valley" 33 "NobodyTwice$Valley" "secondOf" "[I" ∈ GT := gm 131 (by decide +kernel) (by decide +kernel)
theorem kw_132 : Cond.fieldLink "NobodyTwice$Valley" 39 "NobodyTwice$Valley" "notes" "LNobodyTwice$Table;" ∈ GT := gm 132 (by decide +kernel) (by decide +kernel)
theorem kw_134 : Cond.fieldLink "NobodyTwice$Valley" 43 "NobodyTwice$Valley" "beatings" "LNobodyTwice$Table;" ∈ GT := gm 134 (by decide +kernel) (by decide +kernel)
theorem kw_138 : Cond.fieldLink "NobodyTwice$Valley" 55 "NobodyTwice$Valley" "people" "I" ∈ GT := gm 138 (by decide +kernel) (by decide +kernel)
theorem kw_142 : Cond.fieldLink "NobodyTwice$Valley" 59 "NobodyTwice$Valley" "year" "I" ∈ GT := gm 142 (by decide +kernel) (by decide +kernel)
theorem kw_146 : Cond.fieldLink "NobodyTwice$Valley" 62 "NobodyTwice$Valley" "undoable" "I" ∈ GT := gm 146 (by decide +kernel) (by decide +kernel)
theorem kw_174 : Cond.superclass "NobodyTwice$Valley" "java/lang/Object" ∈ GT := gm 174 (by decide +kernel) (by decide +kernel)
theorem kw_176 : Cond.classLink "NobodyTwice" 27 "NobodyTwice$Contest" ∈ GT := gm 176 (by decide +kernel) (by decide +kernel)
theorem kw_177 : Cond.instantiable "NobodyTwice$Contest" 5 ∈ GT := gm 177 (by decide +kernel) (by decide +kernel)
theorem kw_178 : Cond.methodLink "NobodyTwice" 29 ⟨"NobodyTwice$Contest", "<init>", "()V"⟩ ∈ GT := gm 178 (by decide +kernel) (by decide +kernel)
theorem kw_179 : Cond.instanceMethod ⟨"NobodyTwice$Contest", "<init>", "()V"⟩ ∈ GT := gm 179 (by decide +kernel) (by decide +kernel)
theorem kw_180 : Cond.code ⟨"NobodyTwice$Contest", "<init>", "()V"⟩ prog_2_method_1_code 1 (Option.none : Option Jvm.ClassFile.FieldType) ∈ GT := gm 180 (by decide +kernel) (by decide +kernel)
theorem kw_181 : Cond.methodLink "NobodyTwice$Contest" 3 ⟨"java/lang/Object", "<init>", "()V"⟩ ∈ GT := gm 181 (by decide +kernel) (by decide +kernel)
theorem kw_182 : Cond.classLink "NobodyTwice$Contest" 9 "NobodyTwice$Plain" ∈ GT := gm 182 (by decide +kernel) (by decide +kernel)
theorem kw_184 : Cond.instantiable "NobodyTwice$Plain" 0 ∈ GT := gm 184 (by decide +kernel) (by decide +kernel)
theorem kw_186 : Cond.instanceMethod ⟨"NobodyTwice$Plain", "<init>", "()V"⟩ ∈ GT := gm 186 (by decide +kernel) (by decide +kernel)
theorem kw_187 : Cond.code ⟨"NobodyTwice$Plain", "<init>", "()V"⟩ prog_7_method_1_code 1 (Option.none : Option Jvm.ClassFile.FieldType) ∈ GT := gm 187 (by decide +kernel) (by decide +kernel)
theorem kw_188 : Cond.methodLink "NobodyTwice$Plain" 1 ⟨"java/lang/Object", "<init>", "()V"⟩ ∈ GT := gm 188 (by decide +kernel) (by decide +kernel)
theorem kw_189 : Cond.superclass "NobodyTwice$Plain" "java/lang/Object" ∈ GT := gm 189 (by decide +kernel) (by decide +kernel)
theorem kw_190 : Cond.arrayClass Jvm.ClassFile.FieldType.boolean ∈ GT := gm 190 (by decide +kernel) (by decide +kernel)
theorem kw_191 : Cond.classLink "NobodyTwice$Contest" 22 "NobodyTwice$Saver" ∈ GT := gm 191 (by decide +kernel) (by decide +kernel)
theorem kw_192 : Cond.instantiable "NobodyTwice$Saver" 0 ∈ GT := gm 192 (by decide +kernel) (by decide +kernel)
theorem kw_194 : Cond.instanceMethod ⟨"NobodyTwice$Saver", "<init>", "()V"⟩ ∈ GT := gm 194 (by decide +kernel) (by decide +kernel)
theorem kw_195 : Cond.code ⟨"NobodyTwice$Saver", "<init>", "()V"⟩ prog_9_method_1_code 1 (Option.none : Option Jvm.ClassFile.FieldType) ∈ GT := gm 195 (by decide +kernel) (by decide +kernel)
theorem kw_197 : Cond.superclass "NobodyTwice$Saver" "NobodyTwice$Plain" ∈ GT := gm 197 (by decide +kernel) (by decide +kernel)
theorem kw_198 : Cond.classLink "NobodyTwice$Contest" 25 "NobodyTwice$Hider" ∈ GT := gm 198 (by decide +kernel) (by decide +kernel)
theorem kw_199 : Cond.instantiable "NobodyTwice$Hider" 0 ∈ GT := gm 199 (by decide +kernel) (by decide +kernel)
theorem kw_201 : Cond.instanceMethod ⟨"NobodyTwice$Hider", "<init>", "()V"⟩ ∈ GT := gm 201 (by decide +kernel) (by decide +kernel)
theorem kw_202 : Cond.code ⟨"NobodyTwice$Hider", "<init>", "()V"⟩ prog_5_method_1_code 1 (Option.none : Option Jvm.ClassFile.FieldType) ∈ GT := gm 202 (by decide +kernel) (by decide +kernel)
theorem kw_204 : Cond.superclass "NobodyTwice$Hider" "NobodyTwice$Plain" ∈ GT := gm 204 (by decide +kernel) (by decide +kernel)
theorem kw_205 : Cond.classLink "NobodyTwice$Contest" 28 "NobodyTwice$Proud" ∈ GT := gm 205 (by decide +kernel) (by decide +kernel)
theorem kw_206 : Cond.instantiable "NobodyTwice$Proud" 0 ∈ GT := gm 206 (by decide +kernel) (by decide +kernel)
theorem kw_208 : Cond.instanceMethod ⟨"NobodyTwice$Proud", "<init>", "()V"⟩ ∈ GT := gm 208 (by decide +kernel) (by decide +kernel)
theorem kw_209 : Cond.code ⟨"NobodyTwice$Proud", "<init>", "()V"⟩ prog_8_method_1_code 1 (Option.none : Option Jvm.ClassFile.FieldType) ∈ GT := gm 209 (by decide +kernel) (by decide +kernel)
theorem kw_211 : Cond.superclass "NobodyTwice$Proud" "NobodyTwice$Saver" ∈ GT := gm 211 (by decide +kernel) (by decide +kernel)
theorem kw_212 : Cond.classLink "NobodyTwice$Contest" 31 "NobodyTwice$Dog" ∈ GT := gm 212 (by decide +kernel) (by decide +kernel)
theorem kw_213 : Cond.instantiable "NobodyTwice$Dog" 0 ∈ GT := gm 213 (by decide +kernel) (by decide +kernel)
theorem kw_215 : Cond.instanceMethod ⟨"NobodyTwice$Dog", "<init>", "()V"⟩ ∈ GT := gm 215 (by decide +kernel) (by decide +kernel)
theorem kw_216 : Cond.code ⟨"NobodyTwice$Dog", "<init>", "()V"⟩ prog_3_method_1_code 1 (Option.none : Option Jvm.ClassFile.FieldType) ∈ GT := gm 216 (by decide +kernel) (by decide +kernel)
theorem kw_218 : Cond.superclass "NobodyTwice$Dog" "NobodyTwice$Plain" ∈ GT := gm 218 (by decide +kernel) (by decide +kernel)
theorem kw_219 : Cond.classLink "NobodyTwice$Contest" 34 "NobodyTwice$Old" ∈ GT := gm 219 (by decide +kernel) (by decide +kernel)
theorem kw_220 : Cond.instantiable "NobodyTwice$Old" 0 ∈ GT := gm 220 (by decide +kernel) (by decide +kernel)
theorem kw_222 : Cond.instanceMethod ⟨"NobodyTwice$Old", "<init>", "()V"⟩ ∈ GT := gm 222 (by decide +kernel) (by decide +kernel)
theorem kw_223 : Cond.code ⟨"NobodyTwice$Old", "<init>", "()V"⟩ prog_6_method_1_code 1 (Option.none : Option Jvm.ClassFile.FieldType) ∈ GT := gm 223 (by decide +kernel) (by decide +kernel)
theorem kw_225 : Cond.superclass "NobodyTwice$Old" "NobodyTwice$Saver" ∈ GT := gm 225 (by decide +kernel) (by decide +kernel)
theorem kw_226 : Cond.methodLink "NobodyTwice$Contest" 37 ⟨"NobodyTwice$Contest", "allByKind", "()V"⟩ ∈ GT := gm 226 (by decide +kernel) (by decide +kernel)
theorem kw_227 : Cond.instanceMethod ⟨"NobodyTwice$Contest", "allByKind", "()V"⟩ ∈ GT := gm 227 (by decide +kernel) (by decide +kernel)
theorem kw_228 : Cond.selects "NobodyTwice$Contest" ⟨"NobodyTwice$Contest", "allByKind", "()V"⟩ ⟨"NobodyTwice$Contest", "allByKind", "()V"⟩ ∈ GT := gm 228 (by decide +kernel) (by decide +kernel)
theorem kw_229 : Cond.code ⟨"NobodyTwice$Contest", "allByKind", "()V"⟩ prog_2_method_2_code 1 (Option.none : Option Jvm.ClassFile.FieldType) ∈ GT := gm 229 (by decide +kernel) (by decide +kernel)
theorem kw_230 : Cond.methodLink "NobodyTwice$Contest" 40 ⟨"java/util/Arrays", "fill", "([II)V"⟩ ∈ GT := gm 230 (by decide +kernel) (by decide +kernel)
theorem kw_231 : Cond.fieldLink "NobodyTwice$Contest" 11 "NobodyTwice$Contest" "ways" "[LNobodyTwice$Plain;" ∈ GT := gm 231 (by decide +kernel) (by decide +kernel)
theorem kw_232 : Cond.fieldLink "NobodyTwice$Contest" 17 "NobodyTwice$Contest" "chosen" "[I" ∈ GT := gm 232 (by decide +kernel) (by decide +kernel)
theorem kw_233 : Cond.fieldLink "NobodyTwice$Contest" 97 "NobodyTwice$Contest" "entrants" "I" ∈ GT := gm 233 (by decide +kernel) (by decide +kernel)
theorem kw_236 : Cond.fieldLink "NobodyTwice$Contest" 100 "NobodyTwice$Contest" "first" "I" ∈ GT := gm 236 (by decide +kernel) (by decide +kernel)
theorem kw_239 : Cond.fieldLink "NobodyTwice$Contest" 103 "NobodyTwice$Contest" "second" "I" ∈ GT := gm 239 (by decide +kernel) (by decide +kernel)
theorem kw_251 : Cond.superclass "NobodyTwice$Contest" "java/lang/Object" ∈ GT := gm 251 (by decide +kernel) (by decide +kernel)
theorem kw_252 : Cond.classLink "NobodyTwice" 34 "NobodyTwice$Foresight" ∈ GT := gm 252 (by decide +kernel) (by decide +kernel)
theorem kw_253 : Cond.instantiable "NobodyTwice$Foresight" 4 ∈ GT := gm 253 (by decide +kernel) (by decide +kernel)
theorem kw_254 : Cond.methodLink "NobodyTwice" 36 ⟨"NobodyTwice$Foresight", "<init>", "(LNobodyTwice$Contest;)V"⟩ ∈ GT := gm 254 (by decide +kernel) (by decide +kernel)
theorem kw_255 : Cond.instanceMethod ⟨"NobodyTwice$Foresight", "<init>", "(LNobodyTwice$Contest;)V"⟩ ∈ GT := gm 255 (by decide +kernel) (by decide +kernel)
theorem kw_256 : Cond.code ⟨"NobodyTwice$Foresight", "<init>", "(LNobodyTwice$Contest;)V"⟩ prog_4_method_1_code 2 (Option.none : Option Jvm.ClassFile.FieldType) ∈ GT := gm 256 (by decide +kernel) (by decide +kernel)
theorem kw_257 : Cond.methodLink "NobodyTwice$Foresight" 3 ⟨"java/lang/Object", "<init>", "()V"⟩ ∈ GT := gm 257 (by decide +kernel) (by decide +kernel)
theorem kw_258 : Cond.classLink "NobodyTwice$Foresight" 9 "NobodyTwice$Valley" ∈ GT := gm 258 (by decide +kernel) (by decide +kernel)
theorem kw_259 : Cond.methodLink "NobodyTwice$Foresight" 11 ⟨"NobodyTwice$Valley", "<init>", "()V"⟩ ∈ GT := gm 259 (by decide +kernel) (by decide +kernel)
theorem kw_260 : Cond.fieldLink "NobodyTwice$Foresight" 25 "NobodyTwice$Foresight" "contest" "LNobodyTwice$Contest;" ∈ GT := gm 260 (by decide +kernel) (by decide +kernel)
theorem kw_261 : Cond.fieldLink "NobodyTwice$Foresight" 12 "NobodyTwice$Foresight" "trial" "LNobodyTwice$Valley;" ∈ GT := gm 261 (by decide +kernel) (by decide +kernel)
theorem kw_263 : Cond.fieldLink "NobodyTwice$Foresight" 18 "NobodyTwice$Foresight" "worthsOfA" "[I" ∈ GT := gm 263 (by decide +kernel) (by decide +kernel)
theorem kw_264 : Cond.fieldLink "NobodyTwice$Foresight" 22 "NobodyTwice$Foresight" "worthsOfB" "[I" ∈ GT := gm 264 (by decide +kernel) (by decide +kernel)
theorem kw_273 : Cond.superclass "NobodyTwice$Foresight" "java/lang/Object" ∈ GT := gm 273 (by decide +kernel) (by decide +kernel)
theorem kw_274 : Cond.classLink "NobodyTwice" 43 "NobodyTwice$Script" ∈ GT := gm 274 (by decide +kernel) (by decide +kernel)
theorem kw_275 : Cond.instantiable "NobodyTwice$Script" 6 ∈ GT := gm 275 (by decide +kernel) (by decide +kernel)
theorem kw_277 : Cond.instanceMethod ⟨"NobodyTwice$Script", "<init>", "()V"⟩ ∈ GT := gm 277 (by decide +kernel) (by decide +kernel)
theorem kw_278 : Cond.code ⟨"NobodyTwice$Script", "<init>", "()V"⟩ prog_10_method_1_code 1 (Option.none : Option Jvm.ClassFile.FieldType) ∈ GT := gm 278 (by decide +kernel) (by decide +kernel)
theorem kw_279 : Cond.methodLink "NobodyTwice$Script" 3 ⟨"java/lang/Object", "<init>", "()V"⟩ ∈ GT := gm 279 (by decide +kernel) (by decide +kernel)
theorem kw_280 : Cond.fieldLink "NobodyTwice$Script" 9 "NobodyTwice$Script" "bytes" "[I" ∈ GT := gm 280 (by decide +kernel) (by decide +kernel)
theorem kw_281 : Cond.fieldLink "NobodyTwice$Script" 15 "NobodyTwice$Script" "length" "I" ∈ GT := gm 281 (by decide +kernel) (by decide +kernel)
theorem kw_283 : Cond.fieldLink "NobodyTwice$Script" 40 "NobodyTwice$Script" "start" "I" ∈ GT := gm 283 (by decide +kernel) (by decide +kernel)
theorem kw_284 : Cond.fieldLink "NobodyTwice$Script" 24 "NobodyTwice$Script" "end" "I" ∈ GT := gm 284 (by decide +kernel) (by decide +kernel)
theorem kw_285 : Cond.fieldLink "NobodyTwice$Script" 43 "NobodyTwice$Script" "token" "I" ∈ GT := gm 285 (by decide +kernel) (by decide +kernel)
theorem kw_286 : Cond.fieldLink "NobodyTwice$Script" 61 "NobodyTwice$Script" "number" "I" ∈ GT := gm 286 (by decide +kernel) (by decide +kernel)
theorem kw_299 : Cond.superclass "NobodyTwice$Script" "java/lang/Object" ∈ GT := gm 299 (by decide +kernel) (by decide +kernel)
theorem kw_300 : Cond.fieldLink "NobodyTwice" 10 "NobodyTwice" "now" "LNobodyTwice$Valley;" ∈ GT := gm 300 (by decide +kernel) (by decide +kernel)
theorem kw_301 : Cond.fieldLink "NobodyTwice" 16 "NobodyTwice" "draft" "LNobodyTwice$Valley;" ∈ GT := gm 301 (by decide +kernel) (by decide +kernel)
theorem kw_302 : Cond.fieldLink "NobodyTwice" 19 "NobodyTwice" "images" "[LNobodyTwice$Valley;" ∈ GT := gm 302 (by decide +kernel) (by decide +kernel)
theorem kw_303 : Cond.fieldLink "NobodyTwice" 23 "NobodyTwice" "kept" "[Z" ∈ GT := gm 303 (by decide +kernel) (by decide +kernel)
theorem kw_304 : Cond.fieldLink "NobodyTwice" 30 "NobodyTwice" "contest" "LNobodyTwice$Contest;" ∈ GT := gm 304 (by decide +kernel) (by decide +kernel)
theorem kw_305 : Cond.fieldLink "NobodyTwice" 39 "NobodyTwice" "foresight" "LNobodyTwice$Foresight;" ∈ GT := gm 305 (by decide +kernel) (by decide +kernel)
theorem kw_306 : Cond.fieldLink "NobodyTwice" 46 "NobodyTwice" "script" "LNobodyTwice$Script;" ∈ GT := gm 306 (by decide +kernel) (by decide +kernel)
theorem kw_307 : Cond.fieldLink "NobodyTwice" 50 "NobodyTwice" "above" "J" ∈ GT := gm 307 (by decide +kernel) (by decide +kernel)
theorem kw_308 : Cond.fieldLink "NobodyTwice" 54 "NobodyTwice" "below" "J" ∈ GT := gm 308 (by decide +kernel) (by decide +kernel)
theorem kw_309 : Cond.fieldLink "NobodyTwice" 252 "NobodyTwice" "refusedBad" "I" ∈ GT := gm 309 (by decide +kernel) (by decide +kernel)
theorem kw_310 : Cond.fieldLink "NobodyTwice" 255 "NobodyTwice" "refusedNo" "I" ∈ GT := gm 310 (by decide +kernel) (by decide +kernel)
theorem kw_311 : Cond.fieldLink "NobodyTwice" 258 "NobodyTwice" "refusedFull" "I" ∈ GT := gm 311 (by decide +kernel) (by decide +kernel)
theorem kw_336 : Cond.superclass "NobodyTwice" "java/lang/Object" ∈ GT := gm 336 (by decide +kernel) (by decide +kernel)
theorem kw_337 : Cond.methodLink "NobodyTwiceLaw" 13 ⟨"NobodyTwice", "valley", "()I"⟩ ∈ GT := gm 337 (by decide +kernel) (by decide +kernel)
theorem kw_338 : Cond.instanceMethod ⟨"NobodyTwice", "valley", "()I"⟩ ∈ GT := gm 338 (by decide +kernel) (by decide +kernel)
theorem kw_339 : Cond.selects "NobodyTwice" ⟨"NobodyTwice", "valley", "()I"⟩ ⟨"NobodyTwice", "valley", "()I"⟩ ∈ GT := gm 339 (by decide +kernel) (by decide +kernel)
theorem kw_340 : Cond.code ⟨"NobodyTwice", "valley", "()I"⟩ prog_1_method_2_code 2 (Option.some Jvm.ClassFile.FieldType.int) ∈ GT := gm 340 (by decide +kernel) (by decide +kernel)
theorem kw_341 : Cond.methodLink "NobodyTwice" 61 ⟨"NobodyTwice$Valley", "empty", "()V"⟩ ∈ GT := gm 341 (by decide +kernel) (by decide +kernel)
theorem kw_342 : Cond.methodLink "NobodyTwiceLaw" 18 ⟨"NobodyTwice", "prize", "(III)I"⟩ ∈ GT := gm 342 (by decide +kernel) (by decide +kernel)
theorem kw_343 : Cond.instanceMethod ⟨"NobodyTwice", "prize", "(III)I"⟩ ∈ GT := gm 343 (by decide +kernel) (by decide +kernel)
theorem kw_344 : Cond.selects "NobodyTwice" ⟨"NobodyTwice", "prize", "(III)I"⟩ ⟨"NobodyTwice", "prize", "(III)I"⟩ ∈ GT := gm 344 (by decide +kernel) (by decide +kernel)
theorem kw_345 : Cond.code ⟨"NobodyTwice", "prize", "(III)I"⟩ prog_1_method_3_code 5 (Option.some Jvm.ClassFile.FieldType.int) ∈ GT := gm 345 (by decide +kernel) (by decide +kernel)
theorem kw_346 : Cond.methodLink "NobodyTwice" 64 ⟨"NobodyTwice", "within", "(III)Z"⟩ ∈ GT := gm 346 (by decide +kernel) (by decide +kernel)
theorem kw_347 : Cond.static ⟨"NobodyTwice", "within", "(III)Z"⟩ ∈ GT := gm 347 (by decide +kernel) (by decide +kernel)
theorem kw_348 : Cond.code ⟨"NobodyTwice", "within", "(III)Z"⟩ prog_1_method_36_code 3 (Option.some Jvm.ClassFile.FieldType.boolean) ∈ GT := gm 348 (by decide +kernel) (by decide +kernel)
theorem kw_349 : Cond.methodLink "NobodyTwice" 68 ⟨"NobodyTwice", "bad", "()I"⟩ ∈ GT := gm 349 (by decide +kernel) (by decide +kernel)
theorem kw_351 : Cond.instanceMethod ⟨"NobodyTwice", "bad", "()I"⟩ ∈ GT := gm 351 (by decide +kernel) (by decide +kernel)
theorem kw_352 : Cond.code ⟨"NobodyTwice", "bad", "()I"⟩ prog_1_method_40_code 1 (Option.some Jvm.ClassFile.FieldType.int) ∈ GT := gm 352 (by decide +kernel) (by decide +kernel)
theorem kw_353 : Cond.methodLink "NobodyTwice" 76 ⟨"NobodyTwice$Valley", "setPrize", "(III)V"⟩ ∈ GT := gm 353 (by decide +kernel) (by decide +kernel)
theorem kw_354 : Cond.instanceMethod ⟨"NobodyTwice$Valley", "setPrize", "(III)V"⟩ ∈ GT := gm 354 (by decide +kernel) (by decide +kernel)
theorem kw_355 : Cond.selects "NobodyTwice$Valley" ⟨"NobodyTwice$Valley", "setPrize", "(III)V"⟩ ⟨"NobodyTwice$Valley", "setPrize", "(III)V"⟩ ∈ GT := gm 355 (by decide +kernel) (by decide +kernel)
theorem kw_356 : Cond.code ⟨"NobodyTwice$Valley", "setPrize", "(III)V"⟩ prog_12_method_3_code 4 (Option.none : Option Jvm.ClassFile.FieldType) ∈ GT := gm 356 (by decide +kernel) (by decide +kernel)
theorem kw_357 : Cond.methodLink "NobodyTwiceLaw" 23 ⟨"NobodyTwice", "one", "(IIII)I"⟩ ∈ GT := gm 357 (by decide +kernel) (by decide +kernel)
theorem kw_358 : Cond.instanceMethod ⟨"NobodyTwice", "one", "(IIII)I"⟩ ∈ GT := gm 358 (by decide +kernel) (by decide +kernel)
theorem kw_359 : Cond.selects "NobodyTwice" ⟨"NobodyTwice", "one", "(IIII)I"⟩ ⟨"NobodyTwice", "one", "(IIII)I"⟩ ∈ GT := gm 359 (by decide +kernel) (by decide +kernel)
theorem kw_360 : Cond.code ⟨"NobodyTwice", "one", "(IIII)I"⟩ prog_1_method_4_code 5 (Option.some Jvm.ClassFile.FieldType.int) ∈ GT := gm 360 (by decide +kernel) (by decide +kernel)
theorem kw_361 : Cond.methodLink "NobodyTwice" 83 ⟨"NobodyTwice", "isArt", "(I)Z"⟩ ∈ GT := gm 361 (by decide +kernel) (by decide +kernel)
theorem kw_362 : Cond.static ⟨"NobodyTwice", "isArt", "(I)Z"⟩ ∈ GT := gm 362 (by decide +kernel) (by decide +kernel)
theorem kw_363 : Cond.code ⟨"NobodyTwice", "isArt", "(I)Z"⟩ prog_1_method_37_code 1 (Option.some Jvm.ClassFile.FieldType.boolean) ∈ GT := gm 363 (by decide +kernel) (by decide +kernel)
theorem kw_364 : Cond.methodLink "NobodyTwice" 87 ⟨"NobodyTwice", "full", "()I"⟩ ∈ GT := gm 364 (by decide +kernel) (by decide +kernel)
theorem kw_366 : Cond.instanceMethod ⟨"NobodyTwice", "full", "()I"⟩ ∈ GT := gm 366 (by decide +kernel) (by decide +kernel)
theorem kw_367 : Cond.code ⟨"NobodyTwice", "full", "()I"⟩ prog_1_method_42_code 1 (Option.some Jvm.ClassFile.FieldType.int) ∈ GT := gm 367 (by decide +kernel) (by decide +kernel)
theorem kw_368 : Cond.methodLink "NobodyTwice" 90 ⟨"NobodyTwice$Valley", "addOne", "(IIII)V"⟩ ∈ GT := gm 368 (by decide +kernel) (by decide +kernel)
theorem kw_369 : Cond.instanceMethod ⟨"NobodyTwice$Valley", "addOne", "(IIII)V"⟩ ∈ GT := gm 369 (by decide +kernel) (by decide +kernel)
theorem kw_370 : Cond.selects "NobodyTwice$Valley" ⟨"NobodyTwice$Valley", "addOne", "(IIII)V"⟩ ⟨"NobodyTwice$Valley", "addOne", "(IIII)V"⟩ ∈ GT := gm 370 (by decide +kernel) (by decide +kernel)
theorem kw_371 : Cond.code ⟨"NobodyTwice$Valley", "addOne", "(IIII)V"⟩ prog_12_method_4_code 5 (Option.none : Option Jvm.ClassFile.FieldType) ∈ GT := gm 371 (by decide +kernel) (by decide +kernel)
theorem kw_372 : Cond.methodLink "NobodyTwiceLaw" 28 ⟨"NobodyTwice", "type", "(I)I"⟩ ∈ GT := gm 372 (by decide +kernel) (by decide +kernel)
theorem kw_373 : Cond.instanceMethod ⟨"NobodyTwice", "type", "(I)I"⟩ ∈ GT := gm 373 (by decide +kernel) (by decide +kernel)
theorem kw_374 : Cond.selects "NobodyTwice" ⟨"NobodyTwice", "type", "(I)I"⟩ ⟨"NobodyTwice", "type", "(I)I"⟩ ∈ GT := gm 374 (by decide +kernel) (by decide +kernel)
theorem kw_375 : Cond.code ⟨"NobodyTwice", "type", "(I)I"⟩ prog_1_method_5_code 2 (Option.some Jvm.ClassFile.FieldType.int) ∈ GT := gm 375 (by decide +kernel) (by decide +kernel)
theorem kw_376 : Cond.methodLink "NobodyTwice" 97 ⟨"NobodyTwice$Script", "append", "(I)V"⟩ ∈ GT := gm 376 (by decide +kernel) (by decide +kernel)
theorem kw_377 : Cond.instanceMethod ⟨"NobodyTwice$Script", "append", "(I)V"⟩ ∈ GT := gm 377 (by decide +kernel) (by decide +kernel)
theorem kw_378 : Cond.selects "NobodyTwice$Script" ⟨"NobodyTwice$Script", "append", "(I)V"⟩ ⟨"NobodyTwice$Script", "append", "(I)V"⟩ ∈ GT := gm 378 (by decide +kernel) (by decide +kernel)
theorem kw_379 : Cond.code ⟨"NobodyTwice$Script", "append", "(I)V"⟩ prog_10_method_2_code 2 (Option.none : Option Jvm.ClassFile.FieldType) ∈ GT := gm 379 (by decide +kernel) (by decide +kernel)
theorem kw_380 : Cond.methodLink "NobodyTwiceLaw" 33 ⟨"NobodyTwice", "clear", "()I"⟩ ∈ GT := gm 380 (by decide +kernel) (by decide +kernel)
theorem kw_381 : Cond.instanceMethod ⟨"NobodyTwice", "clear", "()I"⟩ ∈ GT := gm 381 (by decide +kernel) (by decide +kernel)
theorem kw_382 : Cond.selects "NobodyTwice" ⟨"NobodyTwice", "clear", "()I"⟩ ⟨"NobodyTwice", "clear", "()I"⟩ ∈ GT := gm 382 (by decide +kernel) (by decide +kernel)
theorem kw_383 : Cond.code ⟨"NobodyTwice", "clear", "()I"⟩ prog_1_method_6_code 2 (Option.some Jvm.ClassFile.FieldType.int) ∈ GT := gm 383 (by decide +kernel) (by decide +kernel)
theorem kw_384 : Cond.methodLink "NobodyTwiceLaw" 37 ⟨"NobodyTwice", "read", "()I"⟩ ∈ GT := gm 384 (by decide +kernel) (by decide +kernel)
theorem kw_385 : Cond.instanceMethod ⟨"NobodyTwice", "read", "()I"⟩ ∈ GT := gm 385 (by decide +kernel) (by decide +kernel)
theorem kw_386 : Cond.selects "NobodyTwice" ⟨"NobodyTwice", "read", "()I"⟩ ⟨"NobodyTwice", "read", "()I"⟩ ∈ GT := gm 386 (by decide +kernel) (by decide +kernel)
theorem kw_387 : Cond.code ⟨"NobodyTwice", "read", "()I"⟩ prog_1_method_7_code 2 (Option.some Jvm.ClassFile.FieldType.int) ∈ GT := gm 387 (by decide +kernel) (by decide +kernel)
theorem kw_388 : Cond.methodLink "NobodyTwice" 101 ⟨"NobodyTwice$Script", "tellInto", "(LNobodyTwice$Valley;)I"⟩ ∈ GT := gm 388 (by decide +kernel) (by decide +kernel)
theorem kw_389 : Cond.instanceMethod ⟨"NobodyTwice$Script", "tellInto", "(LNobodyTwice$Valley;)I"⟩ ∈ GT := gm 389 (by decide +kernel) (by decide +kernel)
theorem kw_390 : Cond.selects "NobodyTwice$Script" ⟨"NobodyTwice$Script", "tellInto", "(LNobodyTwice$Valley;)I"⟩ ⟨"NobodyTwice$Script", "tellInto", "(LNobodyTwice$Valley;)I"⟩ ∈ GT := gm 390 (by decide +kernel) (by decide +kernel)
theorem kw_391 : Cond.code ⟨"NobodyTwice$Script", "tellInto", "(LNobodyTwice$Valley;)I"⟩ prog_10_method_3_code 5 (Option.some Jvm.ClassFile.FieldType.int) ∈ GT := gm 391 (by decide +kernel) (by decide +kernel)
theorem kw_392 : Cond.methodLink "NobodyTwice$Script" 19 ⟨"NobodyTwice$Valley", "empty", "()V"⟩ ∈ GT := gm 392 (by decide +kernel) (by decide +kernel)
theorem kw_393 : Cond.methodLink "NobodyTwice$Script" 27 ⟨"NobodyTwice$Script", "advance", "()V"⟩ ∈ GT := gm 393 (by decide +kernel) (by decide +kernel)
theorem kw_395 : Cond.instanceMethod ⟨"NobodyTwice$Script", "advance", "()V"⟩ ∈ GT := gm 395 (by decide +kernel) (by decide +kernel)
theorem kw_396 : Cond.code ⟨"NobodyTwice$Script", "advance", "()V"⟩ prog_10_method_9_code 1 (Option.none : Option Jvm.ClassFile.FieldType) ∈ GT := gm 396 (by decide +kernel) (by decide +kernel)
theorem kw_397 : Cond.methodLink "NobodyTwice$Script" 88 ⟨"NobodyTwice$Script", "isLetter", "(I)Z"⟩ ∈ GT := gm 397 (by decide +kernel) (by decide +kernel)
theorem kw_398 : Cond.static ⟨"NobodyTwice$Script", "isLetter", "(I)Z"⟩ ∈ GT := gm 398 (by decide +kernel) (by decide +kernel)
theorem kw_399 : Cond.code ⟨"NobodyTwice$Script", "isLetter", "(I)Z"⟩ prog_10_method_11_code 1 (Option.some Jvm.ClassFile.FieldType.boolean) ∈ GT := gm 399 (by decide +kernel) (by decide +kernel)
theorem kw_400 : Cond.methodLink "NobodyTwice$Script" 92 ⟨"NobodyTwice$Script", "isFigure", "(I)Z"⟩ ∈ GT := gm 400 (by decide +kernel) (by decide +kernel)
theorem kw_401 : Cond.static ⟨"NobodyTwice$Script", "isFigure", "(I)Z"⟩ ∈ GT := gm 401 (by decide +kernel) (by decide +kernel)
theorem kw_402 : Cond.code ⟨"NobodyTwice$Script", "isFigure", "(I)Z"⟩ prog_10_method_12_code 1 (Option.some Jvm.ClassFile.FieldType.boolean) ∈ GT := gm 402 (by decide +kernel) (by decide +kernel)
theorem kw_403 : Cond.methodLink "NobodyTwice$Script" 95 ⟨"NobodyTwice$Script", "takeFigures", "()V"⟩ ∈ GT := gm 403 (by decide +kernel) (by decide +kernel)
theorem kw_405 : Cond.instanceMethod ⟨"NobodyTwice$Script", "takeFigures", "()V"⟩ ∈ GT := gm 405 (by decide +kernel) (by decide +kernel)
theorem kw_406 : Cond.code ⟨"NobodyTwice$Script", "takeFigures", "()V"⟩ prog_10_method_10_code 1 (Option.none : Option Jvm.ClassFile.FieldType) ∈ GT := gm 406 (by decide +kernel) (by decide +kernel)
theorem kw_408 : Cond.methodLink "NobodyTwice$Script" 32 ⟨"NobodyTwice$Script", "isWord", "(Ljava/lang/String;)Z"⟩ ∈ GT := gm 408 (by decide +kernel) (by decide +kernel)
theorem kw_410 : Cond.instanceMethod ⟨"NobodyTwice$Script", "isWord", "(Ljava/lang/String;)Z"⟩ ∈ GT := gm 410 (by decide +kernel) (by decide +kernel)
theorem kw_411 : Cond.code ⟨"NobodyTwice$Script", "isWord", "(Ljava/lang/String;)Z"⟩ prog_10_method_8_code 3 (Option.some Jvm.ClassFile.FieldType.boolean) ∈ GT := gm 411 (by decide +kernel) (by decide +kernel)
theorem kw_412 : Cond.methodLink "NobodyTwice$Script" 79 ⟨"java/lang/String", "length", "()I"⟩ ∈ GT := gm 412 (by decide +kernel) (by decide +kernel)
theorem kw_413 : Cond.instanceMethod ⟨"java/lang/String", "length", "()I"⟩ ∈ GT := gm 413 (by decide +kernel) (by decide +kernel)
theorem kw_414 : Cond.selects "java/lang/String" ⟨"java/lang/String", "length", "()I"⟩ ⟨"java/lang/String", "length", "()I"⟩ ∈ GT := gm 414 (by decide +kernel) (by decide +kernel)
theorem kw_415 : Cond.code ⟨"java/lang/String", "length", "()I"⟩ prog_17_method_54_code 1 (Option.some Jvm.ClassFile.FieldType.int) ∈ GT := gm 415 (by decide +kernel) (by decide +kernel)
theorem kw_416 : Cond.methodLink "java/lang/String" 335 ⟨"java/lang/String", "coder", "()B"⟩ ∈ GT := gm 416 (by decide +kernel) (by decide +kernel)
theorem kw_417 : Cond.instanceMethod ⟨"java/lang/String", "coder", "()B"⟩ ∈ GT := gm 417 (by decide +kernel) (by decide +kernel)
theorem kw_418 : Cond.selects "java/lang/String" ⟨"java/lang/String", "coder", "()B"⟩ ⟨"java/lang/String", "coder", "()B"⟩ ∈ GT := gm 418 (by decide +kernel) (by decide +kernel)
theorem kw_419 : Cond.code ⟨"java/lang/String", "coder", "()B"⟩ prog_17_method_152_code 1 (Option.some Jvm.ClassFile.FieldType.byte) ∈ GT := gm 419 (by decide +kernel) (by decide +kernel)
theorem kw_420 : Cond.fieldLink "java/lang/String" 38 "java/lang/String" "COMPACT_STRINGS" "Z" ∈ GT := gm 420 (by decide +kernel) (by decide +kernel)
theorem kw_422 : Cond.methodLink "NobodyTwice$Script" 84 ⟨"java/lang/String", "charAt", "(I)C"⟩ ∈ GT := gm 422 (by decide +kernel) (by decide +kernel)
theorem kw_423 : Cond.instanceMethod ⟨"java/lang/String", "charAt", "(I)C"⟩ ∈ GT := gm 423 (by decide +kernel) (by decide +kernel)
theorem kw_424 : Cond.selects "java/lang/String" ⟨"java/lang/String", "charAt", "(I)C"⟩ ⟨"java/lang/String", "charAt", "(I)C"⟩ ∈ GT := gm 424 (by decide +kernel) (by decide +kernel)
theorem kw_425 : Cond.code ⟨"java/lang/String", "charAt", "(I)C"⟩ prog_17_method_56_code 2 (Option.some Jvm.ClassFile.FieldType.char) ∈ GT := gm 425 (by decide +kernel) (by decide +kernel)
theorem kw_426 : Cond.methodLink "java/lang/String" 492 ⟨"java/lang/String", "isLatin1", "()Z"⟩ ∈ GT := gm 426 (by decide +kernel) (by decide +kernel)
theorem kw_427 : Cond.instanceMethod ⟨"java/lang/String", "isLatin1", "()Z"⟩ ∈ GT := gm 427 (by decide +kernel) (by decide +kernel)
theorem kw_428 : Cond.selects "java/lang/String" ⟨"java/lang/String", "isLatin1", "()Z"⟩ ⟨"java/lang/String", "isLatin1", "()Z"⟩ ∈ GT := gm 428 (by decide +kernel) (by decide +kernel)
theorem kw_429 : Cond.code ⟨"java/lang/String", "isLatin1", "()Z"⟩ prog_17_method_154_code 1 (Option.some Jvm.ClassFile.FieldType.boolean) ∈ GT := gm 429 (by decide +kernel) (by decide +kernel)
theorem kw_430 : Cond.methodLink "java/lang/String" 495 ⟨"java/lang/StringLatin1", "charAt", "([BI)C"⟩ ∈ GT := gm 430 (by decide +kernel) (by decide +kernel)
theorem kw_431 : Cond.static ⟨"java/lang/StringLatin1", "charAt", "([BI)C"⟩ ∈ GT := gm 431 (by decide +kernel) (by decide +kernel)
theorem kw_432 : Cond.code ⟨"java/lang/StringLatin1", "charAt", "([BI)C"⟩ prog_18_method_2_code 2 (Option.some Jvm.ClassFile.FieldType.char) ∈ GT := gm 432 (by decide +kernel) (by decide +kernel)
theorem kw_433 : Cond.methodLink "java/lang/StringLatin1" 9 ⟨"java/lang/String", "checkIndex", "(II)V"⟩ ∈ GT := gm 433 (by decide +kernel) (by decide +kernel)
theorem kw_434 : Cond.static ⟨"java/lang/String", "checkIndex", "(II)V"⟩ ∈ GT := gm 434 (by decide +kernel) (by decide +kernel)
theorem kw_435 : Cond.code ⟨"java/lang/String", "checkIndex", "(II)V"⟩ prog_17_method_155_code 2 (Option.none : Option Jvm.ClassFile.FieldType) ∈ GT := gm 435 (by decide +kernel) (by decide +kernel)
theorem kw_436 : Cond.fieldLink "java/lang/String" 1053 "jdk/internal/util/Preconditions" "SIOOBE_FORMATTER" "Ljava/util/function/BiFunction;" ∈ GT := gm 436 (by decide +kernel) (by decide +kernel)
theorem kw_438 : Cond.methodLink "java/lang/String" 1059 ⟨"jdk/internal/util/Preconditions", "checkIndex", "(IILjava/util/function/BiFunction;)I"⟩ ∈ GT := gm 438 (by decide +kernel) (by decide +kernel)
theorem kw_439 : Cond.static ⟨"jdk/internal/util/Preconditions", "checkIndex", "(IILjava/util/function/BiFunction;)I"⟩ ∈ GT := gm 439 (by decide +kernel) (by decide +kernel)
theorem kw_440 : Cond.code ⟨"jdk/internal/util/Preconditions", "checkIndex", "(IILjava/util/function/BiFunction;)I"⟩ prog_22_method_11_code 3 (Option.some Jvm.ClassFile.FieldType.int) ∈ GT := gm 440 (by decide +kernel) (by decide +kernel)
theorem kw_441 : Cond.methodLink "java/lang/String" 498 ⟨"java/lang/StringUTF16", "charAt", "([BI)C"⟩ ∈ GT := gm 441 (by decide +kernel) (by decide +kernel)
theorem kw_442 : Cond.static ⟨"java/lang/StringUTF16", "charAt", "([BI)C"⟩ ∈ GT := gm 442 (by decide +kernel) (by decide +kernel)
theorem kw_443 : Cond.code ⟨"java/lang/StringUTF16", "charAt", "([BI)C"⟩ prog_19_method_83_code 2 (Option.some Jvm.ClassFile.FieldType.char) ∈ GT := gm 443 (by decide +kernel) (by decide +kernel)
theorem kw_444 : Cond.methodLink "java/lang/StringUTF16" 67 ⟨"java/lang/StringUTF16", "checkIndex", "(I[B)V"⟩ ∈ GT := gm 444 (by decide +kernel) (by decide +kernel)
theorem kw_445 : Cond.static ⟨"java/lang/StringUTF16", "checkIndex", "(I[B)V"⟩ ∈ GT := gm 445 (by decide +kernel) (by decide +kernel)
theorem kw_446 : Cond.code ⟨"java/lang/StringUTF16", "checkIndex", "(I[B)V"⟩ prog_19_method_91_code 2 (Option.none : Option Jvm.ClassFile.FieldType) ∈ GT := gm 446 (by decide +kernel) (by decide +kernel)
theorem kw_447 : Cond.methodLink "java/lang/StringUTF16" 48 ⟨"java/lang/StringUTF16", "length", "([B)I"⟩ ∈ GT := gm 447 (by decide +kernel) (by decide +kernel)
theorem kw_448 : Cond.static ⟨"java/lang/StringUTF16", "length", "([B)I"⟩ ∈ GT := gm 448 (by decide +kernel) (by decide +kernel)
theorem kw_449 : Cond.code ⟨"java/lang/StringUTF16", "length", "([B)I"⟩ prog_19_method_6_code 1 (Option.some Jvm.ClassFile.FieldType.int) ∈ GT := gm 449 (by decide +kernel) (by decide +kernel)
theorem kw_450 : Cond.methodLink "java/lang/StringUTF16" 414 ⟨"java/lang/String", "checkIndex", "(II)V"⟩ ∈ GT := gm 450 (by decide +kernel) (by decide +kernel)
theorem kw_451 : Cond.methodLink "java/lang/StringUTF16" 71 ⟨"java/lang/StringUTF16", "getChar", "([BI)C"⟩ ∈ GT := gm 451 (by decide +kernel) (by decide +kernel)
theorem kw_452 : Cond.static ⟨"java/lang/StringUTF16", "getChar", "([BI)C"⟩ ∈ GT := gm 452 (by decide +kernel) (by decide +kernel)
theorem kw_453 : Cond.code ⟨"java/lang/StringUTF16", "getChar", "([BI)C"⟩ prog_19_method_5_code 2 (Option.some Jvm.ClassFile.FieldType.char) ∈ GT := gm 453 (by decide +kernel) (by decide +kernel)
theorem kw_454 : Cond.fieldLink "java/lang/StringUTF16" 44 "java/lang/StringUTF16" "$assertionsDisabled" "Z" ∈ GT := gm 454 (by decide +kernel) (by decide +kernel)
theorem kw_456 : Cond.fieldLink "java/lang/StringUTF16" 59 "java/lang/StringUTF16" "HI_BYTE_SHIFT" "I" ∈ GT := gm 456 (by decide +kernel) (by decide +kernel)
theorem kw_458 : Cond.fieldLink "java/lang/StringUTF16" 63 "java/lang/StringUTF16" "LO_BYTE_SHIFT" "I" ∈ GT := gm 458 (by decide +kernel) (by decide +kernel)
theorem kw_460 : Cond.methodLink "NobodyTwice$Script" 36 ⟨"NobodyTwice$Script", "endsItem", "()Z"⟩ ∈ GT := gm 460 (by decide +kernel) (by decide +kernel)
theorem kw_462 : Cond.instanceMethod ⟨"NobodyTwice$Script", "endsItem", "()Z"⟩ ∈ GT := gm 462 (by decide +kernel) (by decide +kernel)
theorem kw_463 : Cond.code ⟨"NobodyTwice$Script", "endsItem", "()Z"⟩ prog_10_method_7_code 1 (Option.some Jvm.ClassFile.FieldType.boolean) ∈ GT := gm 463 (by decide +kernel) (by decide +kernel)
theorem kw_465 : Cond.methodLink "NobodyTwice$Script" 48 ⟨"NobodyTwice$Script", "tellPrize", "(LNobodyTwice$Valley;)Z"⟩ ∈ GT := gm 465 (by decide +kernel) (by decide +kernel)
theorem kw_467 : Cond.instanceMethod ⟨"NobodyTwice$Script", "tellPrize", "(LNobodyTwice$Valley;)Z"⟩ ∈ GT := gm 467 (by decide +kernel) (by decide +kernel)
theorem kw_468 : Cond.code ⟨"NobodyTwice$Script", "tellPrize", "(LNobodyTwice$Valley;)Z"⟩ prog_10_method_4_code 4 (Option.some Jvm.ClassFile.FieldType.boolean) ∈ GT := gm 468 (by decide +kernel) (by decide +kernel)
theorem kw_469 : Cond.methodLink "NobodyTwice$Script" 57 ⟨"NobodyTwice$Script", "hasNumber", "(II)Z"⟩ ∈ GT := gm 469 (by decide +kernel) (by decide +kernel)
theorem kw_471 : Cond.instanceMethod ⟨"NobodyTwice$Script", "hasNumber", "(II)Z"⟩ ∈ GT := gm 471 (by decide +kernel) (by decide +kernel)
theorem kw_472 : Cond.code ⟨"NobodyTwice$Script", "hasNumber", "(II)Z"⟩ prog_10_method_6_code 3 (Option.some Jvm.ClassFile.FieldType.boolean) ∈ GT := gm 472 (by decide +kernel) (by decide +kernel)
theorem kw_474 : Cond.methodLink "NobodyTwice$Script" 64 ⟨"NobodyTwice$Valley", "setPrize", "(III)V"⟩ ∈ GT := gm 474 (by decide +kernel) (by decide +kernel)
theorem kw_476 : Cond.methodLink "NobodyTwice$Script" 54 ⟨"NobodyTwice$Script", "tellOne", "(LNobodyTwice$Valley;)Z"⟩ ∈ GT := gm 476 (by decide +kernel) (by decide +kernel)
theorem kw_478 : Cond.instanceMethod ⟨"NobodyTwice$Script", "tellOne", "(LNobodyTwice$Valley;)Z"⟩ ∈ GT := gm 478 (by decide +kernel) (by decide +kernel)
theorem kw_479 : Cond.code ⟨"NobodyTwice$Script", "tellOne", "(LNobodyTwice$Valley;)Z"⟩ prog_10_method_5_code 5 (Option.some Jvm.ClassFile.FieldType.boolean) ∈ GT := gm 479 (by decide +kernel) (by decide +kernel)
theorem kw_480 : Cond.methodLink "NobodyTwice$Script" 71 ⟨"NobodyTwice$Valley", "addOne", "(IIII)V"⟩ ∈ GT := gm 480 (by decide +kernel) (by decide +kernel)
theorem kw_481 : Cond.methodLink "NobodyTwice" 105 ⟨"NobodyTwice$Valley", "take", "(LNobodyTwice$Valley;)V"⟩ ∈ GT := gm 481 (by decide +kernel) (by decide +kernel)
theorem kw_482 : Cond.instanceMethod ⟨"NobodyTwice$Valley", "take", "(LNobodyTwice$Valley;)V"⟩ ∈ GT := gm 482 (by decide +kernel) (by decide +kernel)
theorem kw_483 : Cond.selects "NobodyTwice$Valley" ⟨"NobodyTwice$Valley", "take", "(LNobodyTwice$Valley;)V"⟩ ⟨"NobodyTwice$Valley", "take", "(LNobodyTwice$Valley;)V"⟩ ∈ GT := gm 483 (by decide +kernel) (by decide +kernel)
theorem kw_484 : Cond.code ⟨"NobodyTwice$Valley", "take", "(LNobodyTwice$Valley;)V"⟩ prog_12_method_6_code 2 (Option.none : Option Jvm.ClassFile.FieldType) ∈ GT := gm 484 (by decide +kernel) (by decide +kernel)
theorem kw_485 : Cond.methodLink "NobodyTwice$Valley" 74 ⟨"NobodyTwice$Valley", "takeCourse", "(LNobodyTwice$Valley;)V"⟩ ∈ GT := gm 485 (by decide +kernel) (by decide +kernel)
theorem kw_486 : Cond.instanceMethod ⟨"NobodyTwice$Valley", "takeCourse", "(LNobodyTwice$Valley;)V"⟩ ∈ GT := gm 486 (by decide +kernel) (by decide +kernel)
theorem kw_487 : Cond.selects "NobodyTwice$Valley" ⟨"NobodyTwice$Valley", "takeCourse", "(LNobodyTwice$Valley;)V"⟩ ⟨"NobodyTwice$Valley", "takeCourse", "(LNobodyTwice$Valley;)V"⟩ ∈ GT := gm 487 (by decide +kernel) (by decide +kernel)
theorem kw_488 : Cond.code ⟨"NobodyTwice$Valley", "takeCourse", "(LNobodyTwice$Valley;)V"⟩ prog_12_method_5_code 2 (Option.none : Option Jvm.ClassFile.FieldType) ∈ GT := gm 488 (by decide +kernel) (by decide +kernel)
theorem kw_489 : Cond.methodLink "NobodyTwice$Valley" 68 ⟨"java/lang/System", "arraycopy", "(Ljava/lang/Object;ILjava/lang/Object;II)V"⟩ ∈ GT := gm 489 (by decide +kernel) (by decide +kernel)
theorem kw_490 : Cond.static ⟨"java/lang/System", "arraycopy", "(Ljava/lang/Object;ILjava/lang/Object;II)V"⟩ ∈ GT := gm 490 (by decide +kernel) (by decide +kernel)
theorem kw_491 : Cond.native ⟨"java/lang/System", "arraycopy", "(Ljava/lang/Object;ILjava/lang/Object;II)V"⟩ ∈ GT := gm 491 (by decide +kernel) (by decide +kernel)
theorem kw_492 : Cond.methodLink "NobodyTwice$Valley" 78 ⟨"NobodyTwice$Table", "takeRows", "(LNobodyTwice$Table;)V"⟩ ∈ GT := gm 492 (by decide +kernel) (by decide +kernel)
theorem kw_493 : Cond.instanceMethod ⟨"NobodyTwice$Table", "takeRows", "(LNobodyTwice$Table;)V"⟩ ∈ GT := gm 493 (by decide +kernel) (by decide +kernel)
theorem kw_494 : Cond.selects "NobodyTwice$Table" ⟨"NobodyTwice$Table", "takeRows", "(LNobodyTwice$Table;)V"⟩ ⟨"NobodyTwice$Table", "takeRows", "(LNobodyTwice$Table;)V"⟩ ∈ GT := gm 494 (by decide +kernel) (by decide +kernel)
theorem kw_495 : Cond.code ⟨"NobodyTwice$Table", "takeRows", "(LNobodyTwice$Table;)V"⟩ prog_11_method_4_code 2 (Option.none : Option Jvm.ClassFile.FieldType) ∈ GT := gm 495 (by decide +kernel) (by decide +kernel)
theorem kw_496 : Cond.methodLink "NobodyTwice$Table" 19 ⟨"java/lang/System", "arraycopy", "(Ljava/lang/Object;ILjava/lang/Object;II)V"⟩ ∈ GT := gm 496 (by decide +kernel) (by decide +kernel)
theorem kw_497 : Cond.arrayClass Jvm.ClassFile.FieldType.byte ∈ GT := gm 497 (by decide +kernel) (by decide +kernel)
theorem kw_498 : Cond.methodLink "NobodyTwiceLaw" 41 ⟨"NobodyTwice", "year", "()I"⟩ ∈ GT := gm 498 (by decide +kernel) (by decide +kernel)
theorem kw_499 : Cond.instanceMethod ⟨"NobodyTwice", "year", "()I"⟩ ∈ GT := gm 499 (by decide +kernel) (by decide +kernel)
theorem kw_500 : Cond.selects "NobodyTwice" ⟨"NobodyTwice", "year", "()I"⟩ ⟨"NobodyTwice", "year", "()I"⟩ ∈ GT := gm 500 (by decide +kernel) (by decide +kernel)
theorem kw_501 : Cond.code ⟨"NobodyTwice", "year", "()I"⟩ prog_1_method_8_code 1 (Option.some Jvm.ClassFile.FieldType.int) ∈ GT := gm 501 (by decide +kernel) (by decide +kernel)
theorem kw_502 : Cond.methodLink "NobodyTwice" 112 ⟨"NobodyTwice", "no", "()I"⟩ ∈ GT := gm 502 (by decide +kernel) (by decide +kernel)
theorem kw_504 : Cond.instanceMethod ⟨"NobodyTwice", "no", "()I"⟩ ∈ GT := gm 504 (by decide +kernel) (by decide +kernel)
theorem kw_505 : Cond.code ⟨"NobodyTwice", "no", "()I"⟩ prog_1_method_41_code 1 (Option.some Jvm.ClassFile.FieldType.int) ∈ GT := gm 505 (by decide +kernel) (by decide +kernel)
theorem kw_506 : Cond.methodLink "NobodyTwice" 115 ⟨"NobodyTwice$Contest", "allByKind", "()V"⟩ ∈ GT := gm 506 (by decide +kernel) (by decide +kernel)
theorem kw_507 : Cond.methodLink "NobodyTwice" 118 ⟨"NobodyTwice$Contest", "hold", "(LNobodyTwice$Valley;I)V"⟩ ∈ GT := gm 507 (by decide +kernel) (by decide +kernel)
theorem kw_508 : Cond.instanceMethod ⟨"NobodyTwice$Contest", "hold", "(LNobodyTwice$Valley;I)V"⟩ ∈ GT := gm 508 (by decide +kernel) (by decide +kernel)
theorem kw_509 : Cond.selects "NobodyTwice$Contest" ⟨"NobodyTwice$Contest", "hold", "(LNobodyTwice$Valley;I)V"⟩ ⟨"NobodyTwice$Contest", "hold", "(LNobodyTwice$Valley;I)V"⟩ ∈ GT := gm 509 (by decide +kernel) (by decide +kernel)
theorem kw_510 : Cond.code ⟨"NobodyTwice$Contest", "hold", "(LNobodyTwice$Valley;I)V"⟩ prog_2_method_8_code 7 (Option.none : Option Jvm.ClassFile.FieldType) ∈ GT := gm 510 (by decide +kernel) (by decide +kernel)
theorem kw_511 : Cond.methodLink "NobodyTwice$Contest" 93 ⟨"NobodyTwice$Contest", "strength", "(LNobodyTwice$Valley;II)I"⟩ ∈ GT := gm 511 (by decide +kernel) (by decide +kernel)
theorem kw_512 : Cond.instanceMethod ⟨"NobodyTwice$Contest", "strength", "(LNobodyTwice$Valley;II)I"⟩ ∈ GT := gm 512 (by decide +kernel) (by decide +kernel)
theorem kw_513 : Cond.selects "NobodyTwice$Contest" ⟨"NobodyTwice$Contest", "strength", "(LNobodyTwice$Valley;II)I"⟩ ⟨"NobodyTwice$Contest", "strength", "(LNobodyTwice$Valley;II)I"⟩ ∈ GT := gm 513 (by decide +kernel) (by decide +kernel)
theorem kw_514 : Cond.code ⟨"NobodyTwice$Contest", "strength", "(LNobodyTwice$Valley;II)I"⟩ prog_2_method_6_code 7 (Option.some Jvm.ClassFile.FieldType.int) ∈ GT := gm 514 (by decide +kernel) (by decide +kernel)
theorem kw_516 : Cond.methodLink "NobodyTwice$Contest" 79 ⟨"NobodyTwice$Contest", "isBarred", "(LNobodyTwice$Valley;I)Z"⟩ ∈ GT := gm 516 (by decide +kernel) (by decide +kernel)
theorem kw_517 : Cond.instanceMethod ⟨"NobodyTwice$Contest", "isBarred", "(LNobodyTwice$Valley;I)Z"⟩ ∈ GT := gm 517 (by decide +kernel) (by decide +kernel)
theorem kw_518 : Cond.selects "NobodyTwice$Contest" ⟨"NobodyTwice$Contest", "isBarred", "(LNobodyTwice$Valley;I)Z"⟩ ⟨"NobodyTwice$Contest", "isBarred", "(LNobodyTwice$Valley;I)Z"⟩ ∈ GT := gm 518 (by decide +kernel) (by decide +kernel)
theorem kw_519 : Cond.code ⟨"NobodyTwice$Contest", "isBarred", "(LNobodyTwice$Valley;I)Z"⟩ prog_2_method_5_code 4 (Option.some Jvm.ClassFile.FieldType.boolean) ∈ GT := gm 519 (by decide +kernel) (by decide +kernel)
theorem kw_520 : Cond.methodLink "NobodyTwice$Contest" 62 ⟨"java/lang/Integer", "bitCount", "(I)I"⟩ ∈ GT := gm 520 (by decide +kernel) (by decide +kernel)
theorem kw_521 : Cond.static ⟨"java/lang/Integer", "bitCount", "(I)I"⟩ ∈ GT := gm 521 (by decide +kernel) (by decide +kernel)
theorem kw_522 : Cond.code ⟨"java/lang/Integer", "bitCount", "(I)I"⟩ prog_15_method_49_code 1 (Option.some Jvm.ClassFile.FieldType.int) ∈ GT := gm 522 (by decide +kernel) (by decide +kernel)
theorem kw_523 : Cond.constant "java/lang/Integer" 265 1431655765 ∈ GT := gm 523 (by decide +kernel) (by decide +kernel)
theorem kw_524 : Cond.constant "java/lang/Integer" 266 858993459 ∈ GT := gm 524 (by decide +kernel) (by decide +kernel)
theorem kw_525 : Cond.constant "java/lang/Integer" 267 252645135 ∈ GT := gm 525 (by decide +kernel) (by decide +kernel)
theorem kw_526 : Cond.methodLink "NobodyTwice$Contest" 68 ⟨"NobodyTwice$Plain", "barredBy", "(I)Z"⟩ ∈ GT := gm 526 (by decide +kernel) (by decide +kernel)
theorem kw_527 : Cond.instanceMethod ⟨"NobodyTwice$Plain", "barredBy", "(I)Z"⟩ ∈ GT := gm 527 (by decide +kernel) (by decide +kernel)
theorem kw_528 : Cond.selects "NobodyTwice$Plain" ⟨"NobodyTwice$Plain", "barredBy", "(I)Z"⟩ ⟨"NobodyTwice$Plain", "barredBy", "(I)Z"⟩ ∈ GT := gm 528 (by decide +kernel) (by decide +kernel)
theorem kw_529 : Cond.sameMethod "NobodyTwice$Plain" "NobodyTwice$Plain" "barredBy" "(I)Z" ∈ GT := gm 529 (by decide +kernel) (by decide +kernel)
theorem kw_530 : Cond.selects "NobodyTwice$Dog" ⟨"NobodyTwice$Plain", "barredBy", "(I)Z"⟩ ⟨"NobodyTwice$Plain", "barredBy", "(I)Z"⟩ ∈ GT := gm 530 (by decide +kernel) (by decide +kernel)
theorem kw_531 : Cond.selects "NobodyTwice$Hider" ⟨"NobodyTwice$Plain", "barredBy", "(I)Z"⟩ ⟨"NobodyTwice$Hider", "barredBy", "(I)Z"⟩ ∈ GT := gm 531 (by decide +kernel) (by decide +kernel)
theorem kw_532 : Cond.instanceMethod ⟨"NobodyTwice$Hider", "barredBy", "(I)Z"⟩ ∈ GT := gm 532 (by decide +kernel) (by decide +kernel)
theorem kw_533 : Cond.code ⟨"NobodyTwice$Hider", "barredBy", "(I)Z"⟩ prog_5_method_2_code 2 (Option.some Jvm.ClassFile.FieldType.boolean) ∈ GT := gm 533 (by decide +kernel) (by decide +kernel)
theorem kw_534 : Cond.selects "NobodyTwice$Old" ⟨"NobodyTwice$Plain", "barredBy", "(I)Z"⟩ ⟨"NobodyTwice$Plain", "barredBy", "(I)Z"⟩ ∈ GT := gm 534 (by decide +kernel) (by decide +kernel)
theorem kw_535 : Cond.selects "NobodyTwice$Proud" ⟨"NobodyTwice$Plain", "barredBy", "(I)Z"⟩ ⟨"NobodyTwice$Plain", "barredBy", "(I)Z"⟩ ∈ GT := gm 535 (by decide +kernel) (by decide +kernel)
theorem kw_536 : Cond.selects "NobodyTwice$Saver" ⟨"NobodyTwice$Plain", "barredBy", "(I)Z"⟩ ⟨"NobodyTwice$Plain", "barredBy", "(I)Z"⟩ ∈ GT := gm 536 (by decide +kernel) (by decide +kernel)
theorem kw_537 : Cond.code ⟨"NobodyTwice$Plain", "barredBy", "(I)Z"⟩ prog_7_method_4_code 2 (Option.some Jvm.ClassFile.FieldType.boolean) ∈ GT := gm 537 (by decide +kernel) (by decide +kernel)
theorem kw_538 : Cond.methodLink "NobodyTwice$Contest" 86 ⟨"NobodyTwice$Plain", "wants", "(II)Z"⟩ ∈ GT := gm 538 (by decide +kernel) (by decide +kernel)
theorem kw_539 : Cond.instanceMethod ⟨"NobodyTwice$Plain", "wants", "(II)Z"⟩ ∈ GT := gm 539 (by decide +kernel) (by decide +kernel)
theorem kw_540 : Cond.selects "NobodyTwice$Plain" ⟨"NobodyTwice$Plain", "wants", "(II)Z"⟩ ⟨"NobodyTwice$Plain", "wants", "(II)Z"⟩ ∈ GT := gm 540 (by decide +kernel) (by decide +kernel)
theorem kw_541 : Cond.sameMethod "NobodyTwice$Plain" "NobodyTwice$Plain" "wants" "(II)Z" ∈ GT := gm 541 (by decide +kernel) (by decide +kernel)
theorem kw_542 : Cond.selects "NobodyTwice$Dog" ⟨"NobodyTwice$Plain", "wants", "(II)Z"⟩ ⟨"NobodyTwice$Plain", "wants", "(II)Z"⟩ ∈ GT := gm 542 (by decide +kernel) (by decide +kernel)
theorem kw_543 : Cond.selects "NobodyTwice$Hider" ⟨"NobodyTwice$Plain", "wants", "(II)Z"⟩ ⟨"NobodyTwice$Plain", "wants", "(II)Z"⟩ ∈ GT := gm 543 (by decide +kernel) (by decide +kernel)
theorem kw_544 : Cond.selects "NobodyTwice$Old" ⟨"NobodyTwice$Plain", "wants", "(II)Z"⟩ ⟨"NobodyTwice$Saver", "wants", "(II)Z"⟩ ∈ GT := gm 544 (by decide +kernel) (by decide +kernel)
theorem kw_545 : Cond.instanceMethod ⟨"NobodyTwice$Saver", "wants", "(II)Z"⟩ ∈ GT := gm 545 (by decide +kernel) (by decide +kernel)
theorem kw_546 : Cond.code ⟨"NobodyTwice$Saver", "wants", "(II)Z"⟩ prog_9_method_2_code 3 (Option.some Jvm.ClassFile.FieldType.boolean) ∈ GT := gm 546 (by decide +kernel) (by decide +kernel)
theorem kw_547 : Cond.selects "NobodyTwice$Proud" ⟨"NobodyTwice$Plain", "wants", "(II)Z"⟩ ⟨"NobodyTwice$Proud", "wants", "(II)Z"⟩ ∈ GT := gm 547 (by decide +kernel) (by decide +kernel)
theorem kw_548 : Cond.instanceMethod ⟨"NobodyTwice$Proud", "wants", "(II)Z"⟩ ∈ GT := gm 548 (by decide +kernel) (by decide +kernel)
theorem kw_549 : Cond.code ⟨"NobodyTwice$Proud", "wants", "(II)Z"⟩ prog_8_method_2_code 3 (Option.some Jvm.ClassFile.FieldType.boolean) ∈ GT := gm 549 (by decide +kernel) (by decide +kernel)
theorem kw_550 : Cond.methodLink "NobodyTwice$Proud" 7 ⟨"NobodyTwice$Saver", "wants", "(II)Z"⟩ ∈ GT := gm 550 (by decide +kernel) (by decide +kernel)
theorem kw_551 : Cond.selects "NobodyTwice$Saver" ⟨"NobodyTwice$Plain", "wants", "(II)Z"⟩ ⟨"NobodyTwice$Saver", "wants", "(II)Z"⟩ ∈ GT := gm 551 (by decide +kernel) (by decide +kernel)
theorem kw_552 : Cond.code ⟨"NobodyTwice$Plain", "wants", "(II)Z"⟩ prog_7_method_2_code 3 (Option.some Jvm.ClassFile.FieldType.boolean) ∈ GT := gm 552 (by decide +kernel) (by decide +kernel)
theorem kw_553 : Cond.methodLink "NobodyTwice$Contest" 50 ⟨"NobodyTwice$Plain", "skill", "(II)I"⟩ ∈ GT := gm 553 (by decide +kernel) (by decide +kernel)
theorem kw_554 : Cond.instanceMethod ⟨"NobodyTwice$Plain", "skill", "(II)I"⟩ ∈ GT := gm 554 (by decide +kernel) (by decide +kernel)
theorem kw_555 : Cond.selects "NobodyTwice$Plain" ⟨"NobodyTwice$Plain", "skill", "(II)I"⟩ ⟨"NobodyTwice$Plain", "skill", "(II)I"⟩ ∈ GT := gm 555 (by decide +kernel) (by decide +kernel)
theorem kw_556 : Cond.sameMethod "NobodyTwice$Plain" "NobodyTwice$Plain" "skill" "(II)I" ∈ GT := gm 556 (by decide +kernel) (by decide +kernel)
theorem kw_557 : Cond.selects "NobodyTwice$Dog" ⟨"NobodyTwice$Plain", "skill", "(II)I"⟩ ⟨"NobodyTwice$Dog", "skill", "(II)I"⟩ ∈ GT := gm 557 (by decide +kernel) (by decide +kernel)
theorem kw_558 : Cond.instanceMethod ⟨"NobodyTwice$Dog", "skill", "(II)I"⟩ ∈ GT := gm 558 (by decide +kernel) (by decide +kernel)
theorem kw_559 : Cond.code ⟨"NobodyTwice$Dog", "skill", "(II)I"⟩ prog_3_method_2_code 3 (Option.some Jvm.ClassFile.FieldType.int) ∈ GT := gm 559 (by decide +kernel) (by decide +kernel)
theorem kw_560 : Cond.methodLink "NobodyTwice$Dog" 7 ⟨"NobodyTwice$Plain", "skill", "(II)I"⟩ ∈ GT := gm 560 (by decide +kernel) (by decide +kernel)
theorem kw_561 : Cond.selects "NobodyTwice$Hider" ⟨"NobodyTwice$Plain", "skill", "(II)I"⟩ ⟨"NobodyTwice$Plain", "skill", "(II)I"⟩ ∈ GT := gm 561 (by decide +kernel) (by decide +kernel)
theorem kw_562 : Cond.selects "NobodyTwice$Old" ⟨"NobodyTwice$Plain", "skill", "(II)I"⟩ ⟨"NobodyTwice$Old", "skill", "(II)I"⟩ ∈ GT := gm 562 (by decide +kernel) (by decide +kernel)
theorem kw_563 : Cond.instanceMethod ⟨"NobodyTwice$Old", "skill", "(II)I"⟩ ∈ GT := gm 563 (by decide +kernel) (by decide +kernel)
theorem kw_564 : Cond.code ⟨"NobodyTwice$Old", "skill", "(II)I"⟩ prog_6_method_2_code 3 (Option.some Jvm.ClassFile.FieldType.int) ∈ GT := gm 564 (by decide +kernel) (by decide +kernel)
theorem kw_565 : Cond.methodLink "NobodyTwice$Old" 7 ⟨"NobodyTwice$Saver", "skill", "(II)I"⟩ ∈ GT := gm 565 (by decide +kernel) (by decide +kernel)
theorem kw_566 : Cond.sameMethod "NobodyTwice$Saver" "NobodyTwice$Plain" "skill" "(II)I" ∈ GT := gm 566 (by decide +kernel) (by decide +kernel)
theorem kw_568 : Cond.methodLink "NobodyTwice$Old" 11 ⟨"java/lang/Math", "max", "(II)I"⟩ ∈ GT := gm 568 (by decide +kernel) (by decide +kernel)
theorem kw_569 : Cond.static ⟨"java/lang/Math", "max", "(II)I"⟩ ∈ GT := gm 569 (by decide +kernel) (by decide +kernel)
theorem kw_570 : Cond.code ⟨"java/lang/Math", "max", "(II)I"⟩ prog_16_method_65_code 2 (Option.some Jvm.ClassFile.FieldType.int) ∈ GT := gm 570 (by decide +kernel) (by decide +kernel)
theorem kw_571 : Cond.selects "NobodyTwice$Proud" ⟨"NobodyTwice$Plain", "skill", "(II)I"⟩ ⟨"NobodyTwice$Proud", "skill", "(II)I"⟩ ∈ GT := gm 571 (by decide +kernel) (by decide +kernel)
theorem kw_572 : Cond.instanceMethod ⟨"NobodyTwice$Proud", "skill", "(II)I"⟩ ∈ GT := gm 572 (by decide +kernel) (by decide +kernel)
theorem kw_573 : Cond.code ⟨"NobodyTwice$Proud", "skill", "(II)I"⟩ prog_8_method_3_code 3 (Option.some Jvm.ClassFile.FieldType.int) ∈ GT := gm 573 (by decide +kernel) (by decide +kernel)
theorem kw_574 : Cond.methodLink "NobodyTwice$Proud" 11 ⟨"NobodyTwice$Saver", "skill", "(II)I"⟩ ∈ GT := gm 574 (by decide +kernel) (by decide +kernel)
theorem kw_575 : Cond.selects "NobodyTwice$Saver" ⟨"NobodyTwice$Plain", "skill", "(II)I"⟩ ⟨"NobodyTwice$Plain", "skill", "(II)I"⟩ ∈ GT := gm 575 (by decide +kernel) (by decide +kernel)
theorem kw_576 : Cond.code ⟨"NobodyTwice$Plain", "skill", "(II)I"⟩ prog_7_method_3_code 3 (Option.some Jvm.ClassFile.FieldType.int) ∈ GT := gm 576 (by decide +kernel) (by decide +kernel)
theorem kw_577 : Cond.methodLink "NobodyTwice" 128 ⟨"NobodyTwice$Valley", "pass", "(II)V"⟩ ∈ GT := gm 577 (by decide +kernel) (by decide +kernel)
theorem kw_578 : Cond.instanceMethod ⟨"NobodyTwice$Valley", "pass", "(II)V"⟩ ∈ GT := gm 578 (by decide +kernel) (by decide +kernel)
theorem kw_579 : Cond.selects "NobodyTwice$Valley" ⟨"NobodyTwice$Valley", "pass", "(II)V"⟩ ⟨"NobodyTwice$Valley", "pass", "(II)V"⟩ ∈ GT := gm 579 (by decide +kernel) (by decide +kernel)
theorem kw_580 : Cond.code ⟨"NobodyTwice$Valley", "pass", "(II)V"⟩ prog_12_method_7_code 3 (Option.none : Option Jvm.ClassFile.FieldType) ∈ GT := gm 580 (by decide +kernel) (by decide +kernel)
theorem kw_582 : Cond.methodLink "NobodyTwiceLaw" 45 ⟨"NobodyTwice", "undo", "()I"⟩ ∈ GT := gm 582 (by decide +kernel) (by decide +kernel)
theorem kw_583 : Cond.instanceMethod ⟨"NobodyTwice", "undo", "()I"⟩ ∈ GT := gm 583 (by decide +kernel) (by decide +kernel)
theorem kw_584 : Cond.selects "NobodyTwice" ⟨"NobodyTwice", "undo", "()I"⟩ ⟨"NobodyTwice", "undo", "()I"⟩ ∈ GT := gm 584 (by decide +kernel) (by decide +kernel)
theorem kw_585 : Cond.code ⟨"NobodyTwice", "undo", "()I"⟩ prog_1_method_9_code 1 (Option.some Jvm.ClassFile.FieldType.int) ∈ GT := gm 585 (by decide +kernel) (by decide +kernel)
theorem kw_586 : Cond.methodLink "NobodyTwice" 132 ⟨"NobodyTwice$Valley", "takeBack", "()V"⟩ ∈ GT := gm 586 (by decide +kernel) (by decide +kernel)
theorem kw_587 : Cond.instanceMethod ⟨"NobodyTwice$Valley", "takeBack", "()V"⟩ ∈ GT := gm 587 (by decide +kernel) (by decide +kernel)
theorem kw_588 : Cond.selects "NobodyTwice$Valley" ⟨"NobodyTwice$Valley", "takeBack", "()V"⟩ ⟨"NobodyTwice$Valley", "takeBack", "()V"⟩ ∈ GT := gm 588 (by decide +kernel) (by decide +kernel)
theorem kw_589 : Cond.code ⟨"NobodyTwice$Valley", "takeBack", "()V"⟩ prog_12_method_8_code 3 (Option.none : Option Jvm.ClassFile.FieldType) ∈ GT := gm 589 (by decide +kernel) (by decide +kernel)
theorem kw_590 : Cond.methodLink "NobodyTwiceLaw" 49 ⟨"NobodyTwice", "of", "(II)I"⟩ ∈ GT := gm 590 (by decide +kernel) (by decide +kernel)
theorem kw_591 : Cond.instanceMethod ⟨"NobodyTwice", "of", "(II)I"⟩ ∈ GT := gm 591 (by decide +kernel) (by decide +kernel)
theorem kw_592 : Cond.selects "NobodyTwice" ⟨"NobodyTwice", "of", "(II)I"⟩ ⟨"NobodyTwice", "of", "(II)I"⟩ ∈ GT := gm 592 (by decide +kernel) (by decide +kernel)
theorem kw_593 : Cond.code ⟨"NobodyTwice", "of", "(II)I"⟩ prog_1_method_10_code 3 (Option.some Jvm.ClassFile.FieldType.int) ∈ GT := gm 593 (by decide +kernel) (by decide +kernel)
theorem kw_594 : Cond.methodLink "NobodyTwice" 135 ⟨"NobodyTwice", "isOne", "(I)Z"⟩ ∈ GT := gm 594 (by decide +kernel) (by decide +kernel)
theorem kw_596 : Cond.instanceMethod ⟨"NobodyTwice", "isOne", "(I)Z"⟩ ∈ GT := gm 596 (by decide +kernel) (by decide +kernel)
theorem kw_597 : Cond.code ⟨"NobodyTwice", "isOne", "(I)Z"⟩ prog_1_method_38_code 2 (Option.some Jvm.ClassFile.FieldType.boolean) ∈ GT := gm 597 (by decide +kernel) (by decide +kernel)
theorem kw_598 : Cond.methodLink "NobodyTwice" 147 ⟨"NobodyTwice$Contest", "isBarred", "(LNobodyTwice$Valley;I)Z"⟩ ∈ GT := gm 598 (by decide +kernel) (by decide +kernel)
theorem kw_599 : Cond.methodLink "NobodyTwiceLaw" 54 ⟨"NobodyTwice", "about", "(II)I"⟩ ∈ GT := gm 599 (by decide +kernel) (by decide +kernel)
theorem kw_600 : Cond.instanceMethod ⟨"NobodyTwice", "about", "(II)I"⟩ ∈ GT := gm 600 (by decide +kernel) (by decide +kernel)
theorem kw_601 : Cond.selects "NobodyTwice" ⟨"NobodyTwice", "about", "(II)I"⟩ ⟨"NobodyTwice", "about", "(II)I"⟩ ∈ GT := gm 601 (by decide +kernel) (by decide +kernel)
theorem kw_602 : Cond.code ⟨"NobodyTwice", "about", "(II)I"⟩ prog_1_method_11_code 3 (Option.some Jvm.ClassFile.FieldType.int) ∈ GT := gm 602 (by decide +kernel) (by decide +kernel)
theorem kw_603 : Cond.methodLink "NobodyTwiceLaw" 58 ⟨"NobodyTwice", "good", "(III)I"⟩ ∈ GT := gm 603 (by decide +kernel) (by decide +kernel)
theorem kw_604 : Cond.instanceMethod ⟨"NobodyTwice", "good", "(III)I"⟩ ∈ GT := gm 604 (by decide +kernel) (by decide +kernel)
theorem kw_605 : Cond.selects "NobodyTwice" ⟨"NobodyTwice", "good", "(III)I"⟩ ⟨"NobodyTwice", "good", "(III)I"⟩ ∈ GT := gm 605 (by decide +kernel) (by decide +kernel)
theorem kw_606 : Cond.code ⟨"NobodyTwice", "good", "(III)I"⟩ prog_1_method_12_code 4 (Option.some Jvm.ClassFile.FieldType.int) ∈ GT := gm 606 (by decide +kernel) (by decide +kernel)
theorem kw_607 : Cond.methodLink "NobodyTwice" 157 ⟨"NobodyTwice$Contest", "skillBy", "(III)I"⟩ ∈ GT := gm 607 (by decide +kernel) (by decide +kernel)
theorem kw_608 : Cond.instanceMethod ⟨"NobodyTwice$Contest", "skillBy", "(III)I"⟩ ∈ GT := gm 608 (by decide +kernel) (by decide +kernel)
theorem kw_609 : Cond.selects "NobodyTwice$Contest" ⟨"NobodyTwice$Contest", "skillBy", "(III)I"⟩ ⟨"NobodyTwice$Contest", "skillBy", "(III)I"⟩ ∈ GT := gm 609 (by decide +kernel) (by decide +kernel)
theorem kw_610 : Cond.code ⟨"NobodyTwice$Contest", "skillBy", "(III)I"⟩ prog_2_method_4_code 4 (Option.some Jvm.ClassFile.FieldType.int) ∈ GT := gm 610 (by decide +kernel) (by decide +kernel)
theorem kw_611 : Cond.methodLink "NobodyTwiceLaw" 62 ⟨"NobodyTwice", "enter", "(I)I"⟩ ∈ GT := gm 611 (by decide +kernel) (by decide +kernel)
theorem kw_612 : Cond.instanceMethod ⟨"NobodyTwice", "enter", "(I)I"⟩ ∈ GT := gm 612 (by decide +kernel) (by decide +kernel)
theorem kw_613 : Cond.selects "NobodyTwice" ⟨"NobodyTwice", "enter", "(I)I"⟩ ⟨"NobodyTwice", "enter", "(I)I"⟩ ∈ GT := gm 613 (by decide +kernel) (by decide +kernel)
theorem kw_614 : Cond.code ⟨"NobodyTwice", "enter", "(I)I"⟩ prog_1_method_13_code 2 (Option.some Jvm.ClassFile.FieldType.int) ∈ GT := gm 614 (by decide +kernel) (by decide +kernel)
theorem kw_615 : Cond.methodLink "NobodyTwice" 161 ⟨"NobodyTwice", "isToCome", "(I)Z"⟩ ∈ GT := gm 615 (by decide +kernel) (by decide +kernel)
theorem kw_617 : Cond.instanceMethod ⟨"NobodyTwice", "isToCome", "(I)Z"⟩ ∈ GT := gm 617 (by decide +kernel) (by decide +kernel)
theorem kw_618 : Cond.code ⟨"NobodyTwice", "isToCome", "(I)Z"⟩ prog_1_method_39_code 2 (Option.some Jvm.ClassFile.FieldType.boolean) ∈ GT := gm 618 (by decide +kernel) (by decide +kernel)
theorem kw_619 : Cond.methodLink "NobodyTwice" 164 ⟨"NobodyTwice$Foresight", "contestOf", "(LNobodyTwice$Valley;I)V"⟩ ∈ GT := gm 619 (by decide +kernel) (by decide +kernel)
theorem kw_620 : Cond.instanceMethod ⟨"NobodyTwice$Foresight", "contestOf", "(LNobodyTwice$Valley;I)V"⟩ ∈ GT := gm 620 (by decide +kernel) (by decide +kernel)
theorem kw_621 : Cond.selects "NobodyTwice$Foresight" ⟨"NobodyTwice$Foresight", "contestOf", "(LNobodyTwice$Valley;I)V"⟩ ⟨"NobodyTwice$Foresight", "contestOf", "(LNobodyTwice$Valley;I)V"⟩ ∈ GT := gm 621 (by decide +kernel) (by decide +kernel)
theorem kw_622 : Cond.code ⟨"NobodyTwice$Foresight", "contestOf", "(LNobodyTwice$Valley;I)V"⟩ prog_4_method_4_code 3 (Option.none : Option Jvm.ClassFile.FieldType) ∈ GT := gm 622 (by decide +kernel) (by decide +kernel)
theorem kw_623 : Cond.methodLink "NobodyTwice$Foresight" 56 ⟨"NobodyTwice$Foresight", "begin", "(LNobodyTwice$Valley;)V"⟩ ∈ GT := gm 623 (by decide +kernel) (by decide +kernel)
theorem kw_624 : Cond.instanceMethod ⟨"NobodyTwice$Foresight", "begin", "(LNobodyTwice$Valley;)V"⟩ ∈ GT := gm 624 (by decide +kernel) (by decide +kernel)
theorem kw_625 : Cond.selects "NobodyTwice$Foresight" ⟨"NobodyTwice$Foresight", "begin", "(LNobodyTwice$Valley;)V"⟩ ⟨"NobodyTwice$Foresight", "begin", "(LNobodyTwice$Valley;)V"⟩ ∈ GT := gm 625 (by decide +kernel) (by decide +kernel)
theorem kw_626 : Cond.code ⟨"NobodyTwice$Foresight", "begin", "(LNobodyTwice$Valley;)V"⟩ prog_4_method_2_code 2 (Option.none : Option Jvm.ClassFile.FieldType) ∈ GT := gm 626 (by decide +kernel) (by decide +kernel)
theorem kw_627 : Cond.methodLink "NobodyTwice$Foresight" 29 ⟨"NobodyTwice$Valley", "takeCourse", "(LNobodyTwice$Valley;)V"⟩ ∈ GT := gm 627 (by decide +kernel) (by decide +kernel)
theorem kw_628 : Cond.methodLink "NobodyTwice$Foresight" 33 ⟨"NobodyTwice$Contest", "allByKind", "()V"⟩ ∈ GT := gm 628 (by decide +kernel) (by decide +kernel)
theorem kw_629 : Cond.methodLink "NobodyTwice$Foresight" 59 ⟨"NobodyTwice$Foresight", "runTo", "(I)V"⟩ ∈ GT := gm 629 (by decide +kernel) (by decide +kernel)
theorem kw_630 : Cond.instanceMethod ⟨"NobodyTwice$Foresight", "runTo", "(I)V"⟩ ∈ GT := gm 630 (by decide +kernel) (by decide +kernel)
theorem kw_631 : Cond.selects "NobodyTwice$Foresight" ⟨"NobodyTwice$Foresight", "runTo", "(I)V"⟩ ⟨"NobodyTwice$Foresight", "runTo", "(I)V"⟩ ∈ GT := gm 631 (by decide +kernel) (by decide +kernel)
theorem kw_632 : Cond.code ⟨"NobodyTwice$Foresight", "runTo", "(I)V"⟩ prog_4_method_3_code 3 (Option.none : Option Jvm.ClassFile.FieldType) ∈ GT := gm 632 (by decide +kernel) (by decide +kernel)
theorem kw_633 : Cond.methodLink "NobodyTwice$Foresight" 42 ⟨"NobodyTwice$Contest", "hold", "(LNobodyTwice$Valley;I)V"⟩ ∈ GT := gm 633 (by decide +kernel) (by decide +kernel)
theorem kw_634 : Cond.methodLink "NobodyTwice$Foresight" 52 ⟨"NobodyTwice$Valley", "pass", "(II)V"⟩ ∈ GT := gm 634 (by decide +kernel) (by decide +kernel)
theorem kw_635 : Cond.methodLink "NobodyTwiceLaw" 66 ⟨"NobodyTwice", "winner", "(II)I"⟩ ∈ GT := gm 635 (by decide +kernel) (by decide +kernel)
theorem kw_636 : Cond.instanceMethod ⟨"NobodyTwice", "winner", "(II)I"⟩ ∈ GT := gm 636 (by decide +kernel) (by decide +kernel)
theorem kw_637 : Cond.selects "NobodyTwice" ⟨"NobodyTwice", "winner", "(II)I"⟩ ⟨"NobodyTwice", "winner", "(II)I"⟩ ∈ GT := gm 637 (by decide +kernel) (by decide +kernel)
theorem kw_638 : Cond.code ⟨"NobodyTwice", "winner", "(II)I"⟩ prog_1_method_14_code 3 (Option.some Jvm.ClassFile.FieldType.int) ∈ GT := gm 638 (by decide +kernel) (by decide +kernel)
theorem kw_639 : Cond.methodLink "NobodyTwiceLaw" 70 ⟨"NobodyTwice", "end", "(II)I"⟩ ∈ GT := gm 639 (by decide +kernel) (by decide +kernel)
theorem kw_640 : Cond.instanceMethod ⟨"NobodyTwice", "end", "(II)I"⟩ ∈ GT := gm 640 (by decide +kernel) (by decide +kernel)
theorem kw_641 : Cond.selects "NobodyTwice" ⟨"NobodyTwice", "end", "(II)I"⟩ ⟨"NobodyTwice", "end", "(II)I"⟩ ∈ GT := gm 641 (by decide +kernel) (by decide +kernel)
theorem kw_642 : Cond.code ⟨"NobodyTwice", "end", "(II)I"⟩ prog_1_method_15_code 3 (Option.some Jvm.ClassFile.FieldType.int) ∈ GT := gm 642 (by decide +kernel) (by decide +kernel)
theorem kw_643 : Cond.methodLink "NobodyTwice" 170 ⟨"NobodyTwice$Foresight", "begin", "(LNobodyTwice$Valley;)V"⟩ ∈ GT := gm 643 (by decide +kernel) (by decide +kernel)
theorem kw_644 : Cond.methodLink "NobodyTwice" 173 ⟨"NobodyTwice$Foresight", "runTo", "(I)V"⟩ ∈ GT := gm 644 (by decide +kernel) (by decide +kernel)
theorem kw_645 : Cond.methodLink "NobodyTwice" 179 ⟨"NobodyTwice$Valley", "worthWonBy", "(I)I"⟩ ∈ GT := gm 645 (by decide +kernel) (by decide +kernel)
theorem kw_646 : Cond.instanceMethod ⟨"NobodyTwice$Valley", "worthWonBy", "(I)I"⟩ ∈ GT := gm 646 (by decide +kernel) (by decide +kernel)
theorem kw_647 : Cond.selects "NobodyTwice$Valley" ⟨"NobodyTwice$Valley", "worthWonBy", "(I)I"⟩ ⟨"NobodyTwice$Valley", "worthWonBy", "(I)I"⟩ ∈ GT := gm 647 (by decide +kernel) (by decide +kernel)
theorem kw_648 : Cond.code ⟨"NobodyTwice$Valley", "worthWonBy", "(I)I"⟩ prog_12_method_10_code 4 (Option.some Jvm.ClassFile.FieldType.int) ∈ GT := gm 648 (by decide +kernel) (by decide +kernel)
theorem kw_649 : Cond.methodLink "NobodyTwice$Valley" 90 ⟨"NobodyTwice$Valley", "worthWonIn", "(II)I"⟩ ∈ GT := gm 649 (by decide +kernel) (by decide +kernel)
theorem kw_650 : Cond.instanceMethod ⟨"NobodyTwice$Valley", "worthWonIn", "(II)I"⟩ ∈ GT := gm 650 (by decide +kernel) (by decide +kernel)
theorem kw_651 : Cond.selects "NobodyTwice$Valley" ⟨"NobodyTwice$Valley", "worthWonIn", "(II)I"⟩ ⟨"NobodyTwice$Valley", "worthWonIn", "(II)I"⟩ ∈ GT := gm 651 (by decide +kernel) (by decide +kernel)
theorem kw_652 : Cond.code ⟨"NobodyTwice$Valley", "worthWonIn", "(II)I"⟩ prog_12_method_11_code 3 (Option.some Jvm.ClassFile.FieldType.int) ∈ GT := gm 652 (by decide +kernel) (by decide +kernel)
theorem kw_653 : Cond.methodLink "NobodyTwiceLaw" 74 ⟨"NobodyTwice", "left", "()I"⟩ ∈ GT := gm 653 (by decide +kernel) (by decide +kernel)
theorem kw_654 : Cond.instanceMethod ⟨"NobodyTwice", "left", "()I"⟩ ∈ GT := gm 654 (by decide +kernel) (by decide +kernel)
theorem kw_655 : Cond.selects "NobodyTwice" ⟨"NobodyTwice", "left", "()I"⟩ ⟨"NobodyTwice", "left", "()I"⟩ ∈ GT := gm 655 (by decide +kernel) (by decide +kernel)
theorem kw_656 : Cond.code ⟨"NobodyTwice", "left", "()I"⟩ prog_1_method_16_code 1 (Option.some Jvm.ClassFile.FieldType.int) ∈ GT := gm 656 (by decide +kernel) (by decide +kernel)
theorem kw_657 : Cond.methodLink "NobodyTwice" 183 ⟨"NobodyTwice$Foresight", "untaken", "(LNobodyTwice$Valley;)I"⟩ ∈ GT := gm 657 (by decide +kernel) (by decide +kernel)
theorem kw_658 : Cond.instanceMethod ⟨"NobodyTwice$Foresight", "untaken", "(LNobodyTwice$Valley;)I"⟩ ∈ GT := gm 658 (by decide +kernel) (by decide +kernel)
theorem kw_659 : Cond.selects "NobodyTwice$Foresight" ⟨"NobodyTwice$Foresight", "untaken", "(LNobodyTwice$Valley;)I"⟩ ⟨"NobodyTwice$Foresight", "untaken", "(LNobodyTwice$Valley;)I"⟩ ∈ GT := gm 659 (by decide +kernel) (by decide +kernel)
theorem kw_660 : Cond.code ⟨"NobodyTwice$Foresight", "untaken", "(LNobodyTwice$Valley;)I"⟩ prog_4_method_5_code 5 (Option.some Jvm.ClassFile.FieldType.int) ∈ GT := gm 660 (by decide +kernel) (by decide +kernel)
theorem kw_661 : Cond.methodLink "NobodyTwiceLaw" 78 ⟨"NobodyTwice", "best", "(II)I"⟩ ∈ GT := gm 661 (by decide +kernel) (by decide +kernel)
theorem kw_662 : Cond.instanceMethod ⟨"NobodyTwice", "best", "(II)I"⟩ ∈ GT := gm 662 (by decide +kernel) (by decide +kernel)
theorem kw_663 : Cond.selects "NobodyTwice" ⟨"NobodyTwice", "best", "(II)I"⟩ ⟨"NobodyTwice", "best", "(II)I"⟩ ∈ GT := gm 663 (by decide +kernel) (by decide +kernel)
theorem kw_664 : Cond.code ⟨"NobodyTwice", "best", "(II)I"⟩ prog_1_method_17_code 4 (Option.some Jvm.ClassFile.FieldType.int) ∈ GT := gm 664 (by decide +kernel) (by decide +kernel)
theorem kw_665 : Cond.methodLink "NobodyTwice" 186 ⟨"NobodyTwice$Foresight", "bestYear", "(LNobodyTwice$Valley;I)I"⟩ ∈ GT := gm 665 (by decide +kernel) (by decide +kernel)
theorem kw_666 : Cond.instanceMethod ⟨"NobodyTwice$Foresight", "bestYear", "(LNobodyTwice$Valley;I)I"⟩ ∈ GT := gm 666 (by decide +kernel) (by decide +kernel)
theorem kw_667 : Cond.selects "NobodyTwice$Foresight" ⟨"NobodyTwice$Foresight", "bestYear", "(LNobodyTwice$Valley;I)I"⟩ ⟨"NobodyTwice$Foresight", "bestYear", "(LNobodyTwice$Valley;I)I"⟩ ∈ GT := gm 667 (by decide +kernel) (by decide +kernel)
theorem kw_668 : Cond.code ⟨"NobodyTwice$Foresight", "bestYear", "(LNobodyTwice$Valley;I)I"⟩ prog_4_method_6_code 6 (Option.some Jvm.ClassFile.FieldType.int) ∈ GT := gm 668 (by decide +kernel) (by decide +kernel)
theorem kw_669 : Cond.methodLink "NobodyTwice$Foresight" 72 ⟨"NobodyTwice$Contest", "choose", "(II)V"⟩ ∈ GT := gm 669 (by decide +kernel) (by decide +kernel)
theorem kw_670 : Cond.instanceMethod ⟨"NobodyTwice$Contest", "choose", "(II)V"⟩ ∈ GT := gm 670 (by decide +kernel) (by decide +kernel)
theorem kw_671 : Cond.selects "NobodyTwice$Contest" ⟨"NobodyTwice$Contest", "choose", "(II)V"⟩ ⟨"NobodyTwice$Contest", "choose", "(II)V"⟩ ∈ GT := gm 671 (by decide +kernel) (by decide +kernel)
theorem kw_672 : Cond.code ⟨"NobodyTwice$Contest", "choose", "(II)V"⟩ prog_2_method_3_code 3 (Option.none : Option Jvm.ClassFile.FieldType) ∈ GT := gm 672 (by decide +kernel) (by decide +kernel)
theorem kw_673 : Cond.methodLink "NobodyTwice$Foresight" 75 ⟨"NobodyTwice$Valley", "worthWonIn", "(II)I"⟩ ∈ GT := gm 673 (by decide +kernel) (by decide +kernel)
theorem kw_674 : Cond.methodLink "NobodyTwiceLaw" 82 ⟨"NobodyTwice", "rivals", "(III)I"⟩ ∈ GT := gm 674 (by decide +kernel) (by decide +kernel)
theorem kw_675 : Cond.instanceMethod ⟨"NobodyTwice", "rivals", "(III)I"⟩ ∈ GT := gm 675 (by decide +kernel) (by decide +kernel)
theorem kw_676 : Cond.selects "NobodyTwice" ⟨"NobodyTwice", "rivals", "(III)I"⟩ ⟨"NobodyTwice", "rivals", "(III)I"⟩ ∈ GT := gm 676 (by decide +kernel) (by decide +kernel)
theorem kw_677 : Cond.code ⟨"NobodyTwice", "rivals", "(III)I"⟩ prog_1_method_18_code 4 (Option.some Jvm.ClassFile.FieldType.int) ∈ GT := gm 677 (by decide +kernel) (by decide +kernel)
theorem kw_678 : Cond.methodLink "NobodyTwice" 190 ⟨"NobodyTwice$Foresight", "weighRivals", "(LNobodyTwice$Valley;II)V"⟩ ∈ GT := gm 678 (by decide +kernel) (by decide +kernel)
theorem kw_679 : Cond.instanceMethod ⟨"NobodyTwice$Foresight", "weighRivals", "(LNobodyTwice$Valley;II)V"⟩ ∈ GT := gm 679 (by decide +kernel) (by decide +kernel)
theorem kw_680 : Cond.selects "NobodyTwice$Foresight" ⟨"NobodyTwice$Foresight", "weighRivals", "(LNobodyTwice$Valley;II)V"⟩ ⟨"NobodyTwice$Foresight", "weighRivals", "(LNobodyTwice$Valley;II)V"⟩ ∈ GT := gm 680 (by decide +kernel) (by decide +kernel)
theorem kw_681 : Cond.code ⟨"NobodyTwice$Foresight", "weighRivals", "(LNobodyTwice$Valley;II)V"⟩ prog_4_method_7_code 6 (Option.none : Option Jvm.ClassFile.FieldType) ∈ GT := gm 681 (by decide +kernel) (by decide +kernel)
theorem kw_682 : Cond.methodLink "NobodyTwice$Foresight" 79 ⟨"java/lang/Math", "max", "(II)I"⟩ ∈ GT := gm 682 (by decide +kernel) (by decide +kernel)
theorem kw_683 : Cond.methodLink "NobodyTwice" 194 ⟨"NobodyTwice$Foresight", "resting", "(II)I"⟩ ∈ GT := gm 683 (by decide +kernel) (by decide +kernel)
theorem kw_684 : Cond.instanceMethod ⟨"NobodyTwice$Foresight", "resting", "(II)I"⟩ ∈ GT := gm 684 (by decide +kernel) (by decide +kernel)
theorem kw_685 : Cond.selects "NobodyTwice$Foresight" ⟨"NobodyTwice$Foresight", "resting", "(II)I"⟩ ⟨"NobodyTwice$Foresight", "resting", "(II)I"⟩ ∈ GT := gm 685 (by decide +kernel) (by decide +kernel)
theorem kw_686 : Cond.code ⟨"NobodyTwice$Foresight", "resting", "(II)I"⟩ prog_4_method_8_code 6 (Option.some Jvm.ClassFile.FieldType.int) ∈ GT := gm 686 (by decide +kernel) (by decide +kernel)
theorem kw_687 : Cond.methodLink "NobodyTwice$Foresight" 84 ⟨"NobodyTwice$Foresight", "rests", "(III)Z"⟩ ∈ GT := gm 687 (by decide +kernel) (by decide +kernel)
theorem kw_689 : Cond.instanceMethod ⟨"NobodyTwice$Foresight", "rests", "(III)Z"⟩ ∈ GT := gm 689 (by decide +kernel) (by decide +kernel)
theorem kw_690 : Cond.code ⟨"NobodyTwice$Foresight", "rests", "(III)Z"⟩ prog_4_method_9_code 6 (Option.some Jvm.ClassFile.FieldType.boolean) ∈ GT := gm 690 (by decide +kernel) (by decide +kernel)
theorem kw_691 : Cond.methodLink "NobodyTwiceLaw" 86 ⟨"NobodyTwice", "handicap", "(I)I"⟩ ∈ GT := gm 691 (by decide +kernel) (by decide +kernel)
theorem kw_692 : Cond.instanceMethod ⟨"NobodyTwice", "handicap", "(I)I"⟩ ∈ GT := gm 692 (by decide +kernel) (by decide +kernel)
theorem kw_693 : Cond.selects "NobodyTwice" ⟨"NobodyTwice", "handicap", "(I)I"⟩ ⟨"NobodyTwice", "handicap", "(I)I"⟩ ∈ GT := gm 693 (by decide +kernel) (by decide +kernel)
theorem kw_694 : Cond.code ⟨"NobodyTwice", "handicap", "(I)I"⟩ prog_1_method_19_code 2 (Option.some Jvm.ClassFile.FieldType.int) ∈ GT := gm 694 (by decide +kernel) (by decide +kernel)
theorem kw_695 : Cond.methodLink "NobodyTwice" 198 ⟨"NobodyTwice$Contest", "handicapOf", "(LNobodyTwice$Valley;I)I"⟩ ∈ GT := gm 695 (by decide +kernel) (by decide +kernel)
theorem kw_696 : Cond.instanceMethod ⟨"NobodyTwice$Contest", "handicapOf", "(LNobodyTwice$Valley;I)I"⟩ ∈ GT := gm 696 (by decide +kernel) (by decide +kernel)
theorem kw_697 : Cond.selects "NobodyTwice$Contest" ⟨"NobodyTwice$Contest", "handicapOf", "(LNobodyTwice$Valley;I)I"⟩ ⟨"NobodyTwice$Contest", "handicapOf", "(LNobodyTwice$Valley;I)I"⟩ ∈ GT := gm 697 (by decide +kernel) (by decide +kernel)
theorem kw_698 : Cond.code ⟨"NobodyTwice$Contest", "handicapOf", "(LNobodyTwice$Valley;I)I"⟩ prog_2_method_9_code 8 (Option.some Jvm.ClassFile.FieldType.int) ∈ GT := gm 698 (by decide +kernel) (by decide +kernel)
theorem kw_699 : Cond.methodLink "NobodyTwice$Contest" 109 ⟨"NobodyTwice$Contest", "skillBy", "(III)I"⟩ ∈ GT := gm 699 (by decide +kernel) (by decide +kernel)
theorem kw_700 : Cond.methodLink "NobodyTwice$Contest" 113 ⟨"java/lang/Math", "max", "(II)I"⟩ ∈ GT := gm 700 (by decide +kernel) (by decide +kernel)
theorem kw_701 : Cond.methodLink "NobodyTwiceLaw" 90 ⟨"NobodyTwice", "order", "(I)I"⟩ ∈ GT := gm 701 (by decide +kernel) (by decide +kernel)
theorem kw_702 : Cond.instanceMethod ⟨"NobodyTwice", "order", "(I)I"⟩ ∈ GT := gm 702 (by decide +kernel) (by decide +kernel)
theorem kw_703 : Cond.selects "NobodyTwice" ⟨"NobodyTwice", "order", "(I)I"⟩ ⟨"NobodyTwice", "order", "(I)I"⟩ ∈ GT := gm 703 (by decide +kernel) (by decide +kernel)
theorem kw_704 : Cond.code ⟨"NobodyTwice", "order", "(I)I"⟩ prog_1_method_20_code 2 (Option.some Jvm.ClassFile.FieldType.int) ∈ GT := gm 704 (by decide +kernel) (by decide +kernel)
theorem kw_705 : Cond.methodLink "NobodyTwice" 201 ⟨"NobodyTwice$Foresight", "bestSwap", "(LNobodyTwice$Valley;I)I"⟩ ∈ GT := gm 705 (by decide +kernel) (by decide +kernel)
theorem kw_706 : Cond.instanceMethod ⟨"NobodyTwice$Foresight", "bestSwap", "(LNobodyTwice$Valley;I)I"⟩ ∈ GT := gm 706 (by decide +kernel) (by decide +kernel)
theorem kw_707 : Cond.selects "NobodyTwice$Foresight" ⟨"NobodyTwice$Foresight", "bestSwap", "(LNobodyTwice$Valley;I)I"⟩ ⟨"NobodyTwice$Foresight", "bestSwap", "(LNobodyTwice$Valley;I)I"⟩ ∈ GT := gm 707 (by decide +kernel) (by decide +kernel)
theorem kw_708 : Cond.code ⟨"NobodyTwice$Foresight", "bestSwap", "(LNobodyTwice$Valley;I)I"⟩ prog_4_method_10_code 7 (Option.some Jvm.ClassFile.FieldType.int) ∈ GT := gm 708 (by decide +kernel) (by decide +kernel)
theorem kw_709 : Cond.methodLink "NobodyTwice$Foresight" 88 ⟨"NobodyTwice$Valley", "worthWonBy", "(I)I"⟩ ∈ GT := gm 709 (by decide +kernel) (by decide +kernel)
theorem kw_710 : Cond.methodLink "NobodyTwice$Foresight" 92 ⟨"NobodyTwice$Valley", "swapPrizes", "(II)V"⟩ ∈ GT := gm 710 (by decide +kernel) (by decide +kernel)
theorem kw_711 : Cond.instanceMethod ⟨"NobodyTwice$Valley", "swapPrizes", "(II)V"⟩ ∈ GT := gm 711 (by decide +kernel) (by decide +kernel)
theorem kw_712 : Cond.selects "NobodyTwice$Valley" ⟨"NobodyTwice$Valley", "swapPrizes", "(II)V"⟩ ⟨"NobodyTwice$Valley", "swapPrizes", "(II)V"⟩ ∈ GT := gm 712 (by decide +kernel) (by decide +kernel)
theorem kw_713 : Cond.code ⟨"NobodyTwice$Valley", "swapPrizes", "(II)V"⟩ prog_12_method_9_code 5 (Option.none : Option Jvm.ClassFile.FieldType) ∈ GT := gm 713 (by decide +kernel) (by decide +kernel)
theorem kw_714 : Cond.methodLink "NobodyTwice$Valley" 86 ⟨"NobodyTwice$Valley", "setPrize", "(III)V"⟩ ∈ GT := gm 714 (by decide +kernel) (by decide +kernel)
theorem kw_715 : Cond.methodLink "NobodyTwiceLaw" 94 ⟨"NobodyTwice", "note", "(IIII)I"⟩ ∈ GT := gm 715 (by decide +kernel) (by decide +kernel)
theorem kw_716 : Cond.instanceMethod ⟨"NobodyTwice", "note", "(IIII)I"⟩ ∈ GT := gm 716 (by decide +kernel) (by decide +kernel)
theorem kw_717 : Cond.selects "NobodyTwice" ⟨"NobodyTwice", "note", "(IIII)I"⟩ ⟨"NobodyTwice", "note", "(IIII)I"⟩ ∈ GT := gm 717 (by decide +kernel) (by decide +kernel)
theorem kw_718 : Cond.code ⟨"NobodyTwice", "note", "(IIII)I"⟩ prog_1_method_21_code 5 (Option.some Jvm.ClassFile.FieldType.int) ∈ GT := gm 718 (by decide +kernel) (by decide +kernel)
theorem kw_719 : Cond.methodLink "NobodyTwice" 213 ⟨"NobodyTwice$Table", "add", "(IIII)V"⟩ ∈ GT := gm 719 (by decide +kernel) (by decide +kernel)
theorem kw_720 : Cond.instanceMethod ⟨"NobodyTwice$Table", "add", "(IIII)V"⟩ ∈ GT := gm 720 (by decide +kernel) (by decide +kernel)
theorem kw_721 : Cond.selects "NobodyTwice$Table" ⟨"NobodyTwice$Table", "add", "(IIII)V"⟩ ⟨"NobodyTwice$Table", "add", "(IIII)V"⟩ ∈ GT := gm 721 (by decide +kernel) (by decide +kernel)
theorem kw_722 : Cond.code ⟨"NobodyTwice$Table", "add", "(IIII)V"⟩ prog_11_method_2_code 6 (Option.none : Option Jvm.ClassFile.FieldType) ∈ GT := gm 722 (by decide +kernel) (by decide +kernel)
theorem kw_723 : Cond.methodLink "NobodyTwiceLaw" 98 ⟨"NobodyTwice", "beaten", "(IIII)I"⟩ ∈ GT := gm 723 (by decide +kernel) (by decide +kernel)
theorem kw_724 : Cond.instanceMethod ⟨"NobodyTwice", "beaten", "(IIII)I"⟩ ∈ GT := gm 724 (by decide +kernel) (by decide +kernel)
theorem kw_725 : Cond.selects "NobodyTwice" ⟨"NobodyTwice", "beaten", "(IIII)I"⟩ ⟨"NobodyTwice", "beaten", "(IIII)I"⟩ ∈ GT := gm 725 (by decide +kernel) (by decide +kernel)
theorem kw_726 : Cond.code ⟨"NobodyTwice", "beaten", "(IIII)I"⟩ prog_1_method_22_code 5 (Option.some Jvm.ClassFile.FieldType.int) ∈ GT := gm 726 (by decide +kernel) (by decide +kernel)
theorem kw_727 : Cond.methodLink "NobodyTwiceLaw" 102 ⟨"NobodyTwice", "forget", "(I)I"⟩ ∈ GT := gm 727 (by decide +kernel) (by decide +kernel)
theorem kw_728 : Cond.instanceMethod ⟨"NobodyTwice", "forget", "(I)I"⟩ ∈ GT := gm 728 (by decide +kernel) (by decide +kernel)
theorem kw_729 : Cond.selects "NobodyTwice" ⟨"NobodyTwice", "forget", "(I)I"⟩ ⟨"NobodyTwice", "forget", "(I)I"⟩ ∈ GT := gm 729 (by decide +kernel) (by decide +kernel)
theorem kw_730 : Cond.code ⟨"NobodyTwice", "forget", "(I)I"⟩ prog_1_method_23_code 4 (Option.some Jvm.ClassFile.FieldType.int) ∈ GT := gm 730 (by decide +kernel) (by decide +kernel)
theorem kw_731 : Cond.methodLink "NobodyTwiceLaw" 106 ⟨"NobodyTwice", "is", "(I)I"⟩ ∈ GT := gm 731 (by decide +kernel) (by decide +kernel)
theorem kw_732 : Cond.instanceMethod ⟨"NobodyTwice", "is", "(I)I"⟩ ∈ GT := gm 732 (by decide +kernel) (by decide +kernel)
theorem kw_733 : Cond.selects "NobodyTwice" ⟨"NobodyTwice", "is", "(I)I"⟩ ⟨"NobodyTwice", "is", "(I)I"⟩ ∈ GT := gm 733 (by decide +kernel) (by decide +kernel)
theorem kw_734 : Cond.code ⟨"NobodyTwice", "is", "(I)I"⟩ prog_1_method_24_code 2 (Option.some Jvm.ClassFile.FieldType.int) ∈ GT := gm 734 (by decide +kernel) (by decide +kernel)
theorem kw_735 : Cond.methodLink "NobodyTwice" 219 ⟨"NobodyTwice$Contest", "kindsThatFit", "(LNobodyTwice$Table;I)I"⟩ ∈ GT := gm 735 (by decide +kernel) (by decide +kernel)
theorem kw_736 : Cond.instanceMethod ⟨"NobodyTwice$Contest", "kindsThatFit", "(LNobodyTwice$Table;I)I"⟩ ∈ GT := gm 736 (by decide +kernel) (by decide +kernel)
theorem kw_737 : Cond.selects "NobodyTwice$Contest" ⟨"NobodyTwice$Contest", "kindsThatFit", "(LNobodyTwice$Table;I)I"⟩ ⟨"NobodyTwice$Contest", "kindsThatFit", "(LNobodyTwice$Table;I)I"⟩ ∈ GT := gm 737 (by decide +kernel) (by decide +kernel)
theorem kw_738 : Cond.code ⟨"NobodyTwice$Contest", "kindsThatFit", "(LNobodyTwice$Table;I)I"⟩ prog_2_method_10_code 5 (Option.some Jvm.ClassFile.FieldType.int) ∈ GT := gm 738 (by decide +kernel) (by decide +kernel)
theorem kw_739 : Cond.methodLink "NobodyTwice$Contest" 118 ⟨"NobodyTwice$Contest", "kindFits", "(LNobodyTwice$Table;II)Z"⟩ ∈ GT := gm 739 (by decide +kernel) (by decide +kernel)
theorem kw_741 : Cond.instanceMethod ⟨"NobodyTwice$Contest", "kindFits", "(LNobodyTwice$Table;II)Z"⟩ ∈ GT := gm 741 (by decide +kernel) (by decide +kernel)
theorem kw_742 : Cond.code ⟨"NobodyTwice$Contest", "kindFits", "(LNobodyTwice$Table;II)Z"⟩ prog_2_method_11_code 6 (Option.some Jvm.ClassFile.FieldType.boolean) ∈ GT := gm 742 (by decide +kernel) (by decide +kernel)
theorem kw_743 : Cond.methodLink "NobodyTwice$Contest" 127 ⟨"NobodyTwice$Table", "cell", "(II)I"⟩ ∈ GT := gm 743 (by decide +kernel) (by decide +kernel)
theorem kw_744 : Cond.instanceMethod ⟨"NobodyTwice$Table", "cell", "(II)I"⟩ ∈ GT := gm 744 (by decide +kernel) (by decide +kernel)
theorem kw_745 : Cond.selects "NobodyTwice$Table" ⟨"NobodyTwice$Table", "cell", "(II)I"⟩ ⟨"NobodyTwice$Table", "cell", "(II)I"⟩ ∈ GT := gm 745 (by decide +kernel) (by decide +kernel)
theorem kw_746 : Cond.code ⟨"NobodyTwice$Table", "cell", "(II)I"⟩ prog_11_method_3_code 3 (Option.some Jvm.ClassFile.FieldType.int) ∈ GT := gm 746 (by decide +kernel) (by decide +kernel)
theorem kw_747 : Cond.methodLink "NobodyTwiceLaw" 110 ⟨"NobodyTwice", "offer", "(I)I"⟩ ∈ GT := gm 747 (by decide +kernel) (by decide +kernel)
theorem kw_748 : Cond.instanceMethod ⟨"NobodyTwice", "offer", "(I)I"⟩ ∈ GT := gm 748 (by decide +kernel) (by decide +kernel)
theorem kw_749 : Cond.selects "NobodyTwice" ⟨"NobodyTwice", "offer", "(I)I"⟩ ⟨"NobodyTwice", "offer", "(I)I"⟩ ∈ GT := gm 749 (by decide +kernel) (by decide +kernel)
theorem kw_750 : Cond.code ⟨"NobodyTwice", "offer", "(I)I"⟩ prog_1_method_25_code 3 (Option.some Jvm.ClassFile.FieldType.int) ∈ GT := gm 750 (by decide +kernel) (by decide +kernel)
theorem kw_751 : Cond.methodLink "NobodyTwice" 223 ⟨"java/lang/Math", "max", "(II)I"⟩ ∈ GT := gm 751 (by decide +kernel) (by decide +kernel)
theorem kw_752 : Cond.methodLink "NobodyTwice" 228 ⟨"NobodyTwice$Contest", "tellingWorth", "(II)I"⟩ ∈ GT := gm 752 (by decide +kernel) (by decide +kernel)
theorem kw_753 : Cond.instanceMethod ⟨"NobodyTwice$Contest", "tellingWorth", "(II)I"⟩ ∈ GT := gm 753 (by decide +kernel) (by decide +kernel)
theorem kw_754 : Cond.selects "NobodyTwice$Contest" ⟨"NobodyTwice$Contest", "tellingWorth", "(II)I"⟩ ⟨"NobodyTwice$Contest", "tellingWorth", "(II)I"⟩ ∈ GT := gm 754 (by decide +kernel) (by decide +kernel)
theorem kw_755 : Cond.code ⟨"NobodyTwice$Contest", "tellingWorth", "(II)I"⟩ prog_2_method_12_code 9 (Option.some Jvm.ClassFile.FieldType.int) ∈ GT := gm 755 (by decide +kernel) (by decide +kernel)
theorem kw_756 : Cond.methodLink "NobodyTwiceLaw" 114 ⟨"NobodyTwice", "may", "(II)I"⟩ ∈ GT := gm 756 (by decide +kernel) (by decide +kernel)
theorem kw_757 : Cond.instanceMethod ⟨"NobodyTwice", "may", "(II)I"⟩ ∈ GT := gm 757 (by decide +kernel) (by decide +kernel)
theorem kw_758 : Cond.selects "NobodyTwice" ⟨"NobodyTwice", "may", "(II)I"⟩ ⟨"NobodyTwice", "may", "(II)I"⟩ ∈ GT := gm 758 (by decide +kernel) (by decide +kernel)
theorem kw_759 : Cond.code ⟨"NobodyTwice", "may", "(II)I"⟩ prog_1_method_26_code 5 (Option.some Jvm.ClassFile.FieldType.int) ∈ GT := gm 759 (by decide +kernel) (by decide +kernel)
theorem kw_760 : Cond.methodLink "NobodyTwice" 231 ⟨"NobodyTwice$Contest", "artFits", "(LNobodyTwice$Valley;III)Z"⟩ ∈ GT := gm 760 (by decide +kernel) (by decide +kernel)
theorem kw_761 : Cond.instanceMethod ⟨"NobodyTwice$Contest", "artFits", "(LNobodyTwice$Valley;III)Z"⟩ ∈ GT := gm 761 (by decide +kernel) (by decide +kernel)
theorem kw_762 : Cond.selects "NobodyTwice$Contest" ⟨"NobodyTwice$Contest", "artFits", "(LNobodyTwice$Valley;III)Z"⟩ ⟨"NobodyTwice$Contest", "artFits", "(LNobodyTwice$Valley;III)Z"⟩ ∈ GT := gm 762 (by decide +kernel) (by decide +kernel)
theorem kw_763 : Cond.code ⟨"NobodyTwice$Contest", "artFits", "(LNobodyTwice$Valley;III)Z"⟩ prog_2_method_15_code 8 (Option.some Jvm.ClassFile.FieldType.boolean) ∈ GT := gm 763 (by decide +kernel) (by decide +kernel)
theorem kw_764 : Cond.methodLink "NobodyTwice$Contest" 130 ⟨"NobodyTwice$Contest", "isSoWith", "(LNobodyTwice$Valley;III)Z"⟩ ∈ GT := gm 764 (by decide +kernel) (by decide +kernel)
theorem kw_766 : Cond.instanceMethod ⟨"NobodyTwice$Contest", "isSoWith", "(LNobodyTwice$Valley;III)Z"⟩ ∈ GT := gm 766 (by decide +kernel) (by decide +kernel)
theorem kw_767 : Cond.code ⟨"NobodyTwice$Contest", "isSoWith", "(LNobodyTwice$Valley;III)Z"⟩ prog_2_method_14_code 11 (Option.some Jvm.ClassFile.FieldType.boolean) ∈ GT := gm 767 (by decide +kernel) (by decide +kernel)
theorem kw_768 : Cond.methodLink "NobodyTwiceLaw" 118 ⟨"NobodyTwice", "clash", "()I"⟩ ∈ GT := gm 768 (by decide +kernel) (by decide +kernel)
theorem kw_769 : Cond.instanceMethod ⟨"NobodyTwice", "clash", "()I"⟩ ∈ GT := gm 769 (by decide +kernel) (by decide +kernel)
theorem kw_770 : Cond.selects "NobodyTwice" ⟨"NobodyTwice", "clash", "()I"⟩ ⟨"NobodyTwice", "clash", "()I"⟩ ∈ GT := gm 770 (by decide +kernel) (by decide +kernel)
theorem kw_771 : Cond.code ⟨"NobodyTwice", "clash", "()I"⟩ prog_1_method_27_code 3 (Option.some Jvm.ClassFile.FieldType.int) ∈ GT := gm 771 (by decide +kernel) (by decide +kernel)
theorem kw_772 : Cond.methodLink "NobodyTwice" 235 ⟨"NobodyTwice$Contest", "isSo", "(LNobodyTwice$Valley;I)Z"⟩ ∈ GT := gm 772 (by decide +kernel) (by decide +kernel)
theorem kw_773 : Cond.instanceMethod ⟨"NobodyTwice$Contest", "isSo", "(LNobodyTwice$Valley;I)Z"⟩ ∈ GT := gm 773 (by decide +kernel) (by decide +kernel)
theorem kw_774 : Cond.selects "NobodyTwice$Contest" ⟨"NobodyTwice$Contest", "isSo", "(LNobodyTwice$Valley;I)Z"⟩ ⟨"NobodyTwice$Contest", "isSo", "(LNobodyTwice$Valley;I)Z"⟩ ∈ GT := gm 774 (by decide +kernel) (by decide +kernel)
theorem kw_775 : Cond.code ⟨"NobodyTwice$Contest", "isSo", "(LNobodyTwice$Valley;I)Z"⟩ prog_2_method_13_code 3 (Option.some Jvm.ClassFile.FieldType.boolean) ∈ GT := gm 775 (by decide +kernel) (by decide +kernel)
theorem kw_776 : Cond.methodLink "NobodyTwiceLaw" 122 ⟨"NobodyTwice", "odds", "(II)I"⟩ ∈ GT := gm 776 (by decide +kernel) (by decide +kernel)
theorem kw_777 : Cond.instanceMethod ⟨"NobodyTwice", "odds", "(II)I"⟩ ∈ GT := gm 777 (by decide +kernel) (by decide +kernel)
theorem kw_778 : Cond.selects "NobodyTwice" ⟨"NobodyTwice", "odds", "(II)I"⟩ ⟨"NobodyTwice", "odds", "(II)I"⟩ ∈ GT := gm 778 (by decide +kernel) (by decide +kernel)
theorem kw_779 : Cond.code ⟨"NobodyTwice", "odds", "(II)I"⟩ prog_1_method_28_code 3 (Option.some Jvm.ClassFile.FieldType.int) ∈ GT := gm 779 (by decide +kernel) (by decide +kernel)
theorem kw_780 : Cond.methodLink "NobodyTwice" 238 ⟨"NobodyTwice$Contest", "strength", "(LNobodyTwice$Valley;II)I"⟩ ∈ GT := gm 780 (by decide +kernel) (by decide +kernel)
theorem kw_781 : Cond.methodLink "NobodyTwice" 242 ⟨"NobodyTwice$Contest", "strengthOfAll", "(LNobodyTwice$Valley;I)I"⟩ ∈ GT := gm 781 (by decide +kernel) (by decide +kernel)
theorem kw_782 : Cond.instanceMethod ⟨"NobodyTwice$Contest", "strengthOfAll", "(LNobodyTwice$Valley;I)I"⟩ ∈ GT := gm 782 (by decide +kernel) (by decide +kernel)
theorem kw_783 : Cond.selects "NobodyTwice$Contest" ⟨"NobodyTwice$Contest", "strengthOfAll", "(LNobodyTwice$Valley;I)I"⟩ ⟨"NobodyTwice$Contest", "strengthOfAll", "(LNobodyTwice$Valley;I)I"⟩ ∈ GT := gm 783 (by decide +kernel) (by decide +kernel)
theorem kw_784 : Cond.code ⟨"NobodyTwice$Contest", "strengthOfAll", "(LNobodyTwice$Valley;I)I"⟩ prog_2_method_7_code 5 (Option.some Jvm.ClassFile.FieldType.int) ∈ GT := gm 784 (by decide +kernel) (by decide +kernel)
theorem kw_785 : Cond.methodLink "NobodyTwice" 245 ⟨"NobodyTwice", "setFraction", "(II)V"⟩ ∈ GT := gm 785 (by decide +kernel) (by decide +kernel)
theorem kw_787 : Cond.instanceMethod ⟨"NobodyTwice", "setFraction", "(II)V"⟩ ∈ GT := gm 787 (by decide +kernel) (by decide +kernel)
theorem kw_788 : Cond.code ⟨"NobodyTwice", "setFraction", "(II)V"⟩ prog_1_method_44_code 5 (Option.none : Option Jvm.ClassFile.FieldType) ∈ GT := gm 788 (by decide +kernel) (by decide +kernel)
theorem kw_789 : Cond.methodLink "NobodyTwiceLaw" 126 ⟨"NobodyTwice", "valleys", "(II)I"⟩ ∈ GT := gm 789 (by decide +kernel) (by decide +kernel)
theorem kw_790 : Cond.instanceMethod ⟨"NobodyTwice", "valleys", "(II)I"⟩ ∈ GT := gm 790 (by decide +kernel) (by decide +kernel)
theorem kw_791 : Cond.selects "NobodyTwice" ⟨"NobodyTwice", "valleys", "(II)I"⟩ ⟨"NobodyTwice", "valleys", "(II)I"⟩ ∈ GT := gm 791 (by decide +kernel) (by decide +kernel)
theorem kw_792 : Cond.code ⟨"NobodyTwice", "valleys", "(II)I"⟩ prog_1_method_29_code 3 (Option.some Jvm.ClassFile.FieldType.int) ∈ GT := gm 792 (by decide +kernel) (by decide +kernel)
theorem kw_793 : Cond.constant "NobodyTwice" 248 999999 ∈ GT := gm 793 (by decide +kernel) (by decide +kernel)
theorem kw_794 : Cond.methodLink "NobodyTwice" 249 ⟨"NobodyTwice$Foresight", "worthInValleys", "(LNobodyTwice$Valley;II)I"⟩ ∈ GT := gm 794 (by decide +kernel) (by decide +kernel)
theorem kw_795 : Cond.instanceMethod ⟨"NobodyTwice$Foresight", "worthInValleys", "(LNobodyTwice$Valley;II)I"⟩ ∈ GT := gm 795 (by decide +kernel) (by decide +kernel)
theorem kw_796 : Cond.selects "NobodyTwice$Foresight" ⟨"NobodyTwice$Foresight", "worthInValleys", "(LNobodyTwice$Valley;II)I"⟩ ⟨"NobodyTwice$Foresight", "worthInValleys", "(LNobodyTwice$Valley;II)I"⟩ ∈ GT := gm 796 (by decide +kernel) (by decide +kernel)
theorem kw_797 : Cond.code ⟨"NobodyTwice$Foresight", "worthInValleys", "(LNobodyTwice$Valley;II)I"⟩ prog_4_method_11_code 9 (Option.some Jvm.ClassFile.FieldType.int) ∈ GT := gm 797 (by decide +kernel) (by decide +kernel)
theorem kw_798 : Cond.constantLong "NobodyTwice$Foresight" 95 1103515245 ∈ GT := gm 798 (by decide +kernel) (by decide +kernel)
theorem kw_799 : Cond.constantLong "NobodyTwice$Foresight" 97 12345 ∈ GT := gm 799 (by decide +kernel) (by decide +kernel)
theorem kw_800 : Cond.constantLong "NobodyTwice$Foresight" 99 2147483648 ∈ GT := gm 800 (by decide +kernel) (by decide +kernel)
theorem kw_801 : Cond.constantLong "NobodyTwice$Foresight" 101 65536 ∈ GT := gm 801 (by decide +kernel) (by decide +kernel)
theorem kw_802 : Cond.constantLong "NobodyTwice$Foresight" 103 3 ∈ GT := gm 802 (by decide +kernel) (by decide +kernel)
theorem kw_803 : Cond.constantLong "NobodyTwice$Foresight" 105 1048576 ∈ GT := gm 803 (by decide +kernel) (by decide +kernel)
theorem kw_804 : Cond.constantLong "NobodyTwice$Foresight" 107 30 ∈ GT := gm 804 (by decide +kernel) (by decide +kernel)
theorem kw_805 : Cond.methodLink "NobodyTwice$Foresight" 109 ⟨"NobodyTwice$Valley", "setPrize", "(III)V"⟩ ∈ GT := gm 805 (by decide +kernel) (by decide +kernel)
theorem kw_806 : Cond.methodLink "NobodyTwiceLaw" 130 ⟨"NobodyTwice", "part", "(I)J"⟩ ∈ GT := gm 806 (by decide +kernel) (by decide +kernel)
theorem kw_807 : Cond.instanceMethod ⟨"NobodyTwice", "part", "(I)J"⟩ ∈ GT := gm 807 (by decide +kernel) (by decide +kernel)
theorem kw_808 : Cond.selects "NobodyTwice" ⟨"NobodyTwice", "part", "(I)J"⟩ ⟨"NobodyTwice", "part", "(I)J"⟩ ∈ GT := gm 808 (by decide +kernel) (by decide +kernel)
theorem kw_809 : Cond.code ⟨"NobodyTwice", "part", "(I)J"⟩ prog_1_method_30_code 2 (Option.some Jvm.ClassFile.FieldType.long) ∈ GT := gm 809 (by decide +kernel) (by decide +kernel)
theorem kw_810 : Cond.methodLink "NobodyTwiceLaw" 135 ⟨"NobodyTwice", "image", "(I)I"⟩ ∈ GT := gm 810 (by decide +kernel) (by decide +kernel)
theorem kw_811 : Cond.instanceMethod ⟨"NobodyTwice", "image", "(I)I"⟩ ∈ GT := gm 811 (by decide +kernel) (by decide +kernel)
theorem kw_812 : Cond.selects "NobodyTwice" ⟨"NobodyTwice", "image", "(I)I"⟩ ⟨"NobodyTwice", "image", "(I)I"⟩ ∈ GT := gm 812 (by decide +kernel) (by decide +kernel)
theorem kw_813 : Cond.code ⟨"NobodyTwice", "image", "(I)I"⟩ prog_1_method_31_code 2 (Option.some Jvm.ClassFile.FieldType.int) ∈ GT := gm 813 (by decide +kernel) (by decide +kernel)
theorem kw_814 : Cond.methodLink "NobodyTwiceLaw" 139 ⟨"NobodyTwice", "from", "(I)I"⟩ ∈ GT := gm 814 (by decide +kernel) (by decide +kernel)
theorem kw_815 : Cond.instanceMethod ⟨"NobodyTwice", "from", "(I)I"⟩ ∈ GT := gm 815 (by decide +kernel) (by decide +kernel)
theorem kw_816 : Cond.selects "NobodyTwice" ⟨"NobodyTwice", "from", "(I)I"⟩ ⟨"NobodyTwice", "from", "(I)I"⟩ ∈ GT := gm 816 (by decide +kernel) (by decide +kernel)
theorem kw_817 : Cond.code ⟨"NobodyTwice", "from", "(I)I"⟩ prog_1_method_32_code 2 (Option.some Jvm.ClassFile.FieldType.int) ∈ GT := gm 817 (by decide +kernel) (by decide +kernel)
theorem kw_818 : Cond.methodLink "NobodyTwiceLaw" 143 ⟨"NobodyTwice", "status", "(I)I"⟩ ∈ GT := gm 818 (by decide +kernel) (by decide +kernel)
theorem kw_819 : Cond.instanceMethod ⟨"NobodyTwice", "status", "(I)I"⟩ ∈ GT := gm 819 (by decide +kernel) (by decide +kernel)
theorem kw_820 : Cond.selects "NobodyTwice" ⟨"NobodyTwice", "status", "(I)I"⟩ ⟨"NobodyTwice", "status", "(I)I"⟩ ∈ GT := gm 820 (by decide +kernel) (by decide +kernel)
theorem kw_821 : Cond.code ⟨"NobodyTwice", "status", "(I)I"⟩ prog_1_method_33_code 2 (Option.some Jvm.ClassFile.FieldType.int) ∈ GT := gm 821 (by decide +kernel) (by decide +kernel)
theorem kw_822 : Cond.methodLink "NobodyTwiceLaw" 147 ⟨"NobodyTwice", "count", "(I)I"⟩ ∈ GT := gm 822 (by decide +kernel) (by decide +kernel)
theorem kw_823 : Cond.instanceMethod ⟨"NobodyTwice", "count", "(I)I"⟩ ∈ GT := gm 823 (by decide +kernel) (by decide +kernel)
theorem kw_824 : Cond.selects "NobodyTwice" ⟨"NobodyTwice", "count", "(I)I"⟩ ⟨"NobodyTwice", "count", "(I)I"⟩ ∈ GT := gm 824 (by decide +kernel) (by decide +kernel)
theorem kw_825 : Cond.code ⟨"NobodyTwice", "count", "(I)I"⟩ prog_1_method_34_code 2 (Option.some Jvm.ClassFile.FieldType.int) ∈ GT := gm 825 (by decide +kernel) (by decide +kernel)
theorem kw_826 : Cond.methodLink "NobodyTwice" 261 ⟨"NobodyTwice", "amount", "(I)I"⟩ ∈ GT := gm 826 (by decide +kernel) (by decide +kernel)
theorem kw_828 : Cond.instanceMethod ⟨"NobodyTwice", "amount", "(I)I"⟩ ∈ GT := gm 828 (by decide +kernel) (by decide +kernel)
theorem kw_829 : Cond.code ⟨"NobodyTwice", "amount", "(I)I"⟩ prog_1_method_43_code 2 (Option.some Jvm.ClassFile.FieldType.int) ∈ GT := gm 829 (by decide +kernel) (by decide +kernel)
theorem kw_830 : Cond.methodLink "NobodyTwice" 272 ⟨"NobodyTwice$Valley", "prizesTold", "()I"⟩ ∈ GT := gm 830 (by decide +kernel) (by decide +kernel)
theorem kw_831 : Cond.instanceMethod ⟨"NobodyTwice$Valley", "prizesTold", "()I"⟩ ∈ GT := gm 831 (by decide +kernel) (by decide +kernel)
theorem kw_832 : Cond.selects "NobodyTwice$Valley" ⟨"NobodyTwice$Valley", "prizesTold", "()I"⟩ ⟨"NobodyTwice$Valley", "prizesTold", "()I"⟩ ∈ GT := gm 832 (by decide +kernel) (by decide +kernel)
theorem kw_833 : Cond.code ⟨"NobodyTwice$Valley", "prizesTold", "()I"⟩ prog_12_method_12_code 3 (Option.some Jvm.ClassFile.FieldType.int) ∈ GT := gm 833 (by decide +kernel) (by decide +kernel)
theorem kw_834 : Cond.methodLink "NobodyTwice" 275 ⟨"NobodyTwice$Valley", "winsOfAll", "()I"⟩ ∈ GT := gm 834 (by decide +kernel) (by decide +kernel)
theorem kw_835 : Cond.instanceMethod ⟨"NobodyTwice$Valley", "winsOfAll", "()I"⟩ ∈ GT := gm 835 (by decide +kernel) (by decide +kernel)
theorem kw_836 : Cond.selects "NobodyTwice$Valley" ⟨"NobodyTwice$Valley", "winsOfAll", "()I"⟩ ⟨"NobodyTwice$Valley", "winsOfAll", "()I"⟩ ∈ GT := gm 836 (by decide +kernel) (by decide +kernel)
theorem kw_837 : Cond.code ⟨"NobodyTwice$Valley", "winsOfAll", "()I"⟩ prog_12_method_13_code 3 (Option.some Jvm.ClassFile.FieldType.int) ∈ GT := gm 837 (by decide +kernel) (by decide +kernel)
theorem kw_838 : Cond.methodLink "NobodyTwice$Valley" 94 ⟨"java/lang/Integer", "bitCount", "(I)I"⟩ ∈ GT := gm 838 (by decide +kernel) (by decide +kernel)
theorem kw_839 : Cond.methodLink "NobodyTwiceLaw" 151 ⟨"NobodyTwice", "digest", "()J"⟩ ∈ GT := gm 839 (by decide +kernel) (by decide +kernel)
theorem kw_840 : Cond.instanceMethod ⟨"NobodyTwice", "digest", "()J"⟩ ∈ GT := gm 840 (by decide +kernel) (by decide +kernel)
theorem kw_841 : Cond.selects "NobodyTwice" ⟨"NobodyTwice", "digest", "()J"⟩ ⟨"NobodyTwice", "digest", "()J"⟩ ∈ GT := gm 841 (by decide +kernel) (by decide +kernel)
theorem kw_842 : Cond.code ⟨"NobodyTwice", "digest", "()J"⟩ prog_1_method_35_code 4 (Option.some Jvm.ClassFile.FieldType.long) ∈ GT := gm 842 (by decide +kernel) (by decide +kernel)
theorem kw_843 : Cond.constantLong "NobodyTwice" 264 1303 ∈ GT := gm 843 (by decide +kernel) (by decide +kernel)
theorem kw_844 : Cond.constantLong "NobodyTwice" 266 31 ∈ GT := gm 844 (by decide +kernel) (by decide +kernel)
theorem kw_845 : Cond.methodLink "NobodyTwice" 268 ⟨"NobodyTwice$Valley", "mixedInto", "(J)J"⟩ ∈ GT := gm 845 (by decide +kernel) (by decide +kernel)
theorem kw_846 : Cond.instanceMethod ⟨"NobodyTwice$Valley", "mixedInto", "(J)J"⟩ ∈ GT := gm 846 (by decide +kernel) (by decide +kernel)
theorem kw_847 : Cond.selects "NobodyTwice$Valley" ⟨"NobodyTwice$Valley", "mixedInto", "(J)J"⟩ ⟨"NobodyTwice$Valley", "mixedInto", "(J)J"⟩ ∈ GT := gm 847 (by decide +kernel) (by decide +kernel)
theorem kw_848 : Cond.code ⟨"NobodyTwice$Valley", "mixedInto", "(J)J"⟩ prog_12_method_14_code 5 (Option.some Jvm.ClassFile.FieldType.long) ∈ GT := gm 848 (by decide +kernel) (by decide +kernel)
theorem kw_849 : Cond.constantLong "NobodyTwice$Valley" 100 31 ∈ GT := gm 849 (by decide +kernel) (by decide +kernel)
theorem kw_850 : Cond.methodLink "NobodyTwice$Valley" 102 ⟨"NobodyTwice$Table", "mixedInto", "(J)J"⟩ ∈ GT := gm 850 (by decide +kernel) (by decide +kernel)
theorem kw_851 : Cond.instanceMethod ⟨"NobodyTwice$Table", "mixedInto", "(J)J"⟩ ∈ GT := gm 851 (by decide +kernel) (by decide +kernel)
theorem kw_852 : Cond.selects "NobodyTwice$Table" ⟨"NobodyTwice$Table", "mixedInto", "(J)J"⟩ ⟨"NobodyTwice$Table", "mixedInto", "(J)J"⟩ ∈ GT := gm 852 (by decide +kernel) (by decide +kernel)
theorem kw_853 : Cond.code ⟨"NobodyTwice$Table", "mixedInto", "(J)J"⟩ prog_11_method_5_code 4 (Option.some Jvm.ClassFile.FieldType.long) ∈ GT := gm 853 (by decide +kernel) (by decide +kernel)
theorem kw_854 : Cond.constantLong "NobodyTwice$Table" 25 31 ∈ GT := gm 854 (by decide +kernel) (by decide +kernel)
theorem kw_855 : Cond.classLink "NobodyTwiceLaw" 10 "NobodyTwiceModel" ∈ GT := gm 855 (by decide +kernel) (by decide +kernel)
theorem kw_856 : Cond.instantiable "NobodyTwiceModel" 21 ∈ GT := gm 856 (by decide +kernel) (by decide +kernel)
theorem kw_857 : Cond.methodLink "NobodyTwiceLaw" 12 ⟨"NobodyTwiceModel", "<init>", "()V"⟩ ∈ GT := gm 857 (by decide +kernel) (by decide +kernel)
theorem kw_858 : Cond.instanceMethod ⟨"NobodyTwiceModel", "<init>", "()V"⟩ ∈ GT := gm 858 (by decide +kernel) (by decide +kernel)
theorem kw_859 : Cond.code ⟨"NobodyTwiceModel", "<init>", "()V"⟩ prog_14_method_1_code 1 (Option.none : Option Jvm.ClassFile.FieldType) ∈ GT := gm 859 (by decide +kernel) (by decide +kernel)
theorem kw_860 : Cond.methodLink "NobodyTwiceModel" 1 ⟨"java/lang/Object", "<init>", "()V"⟩ ∈ GT := gm 860 (by decide +kernel) (by decide +kernel)
theorem kw_861 : Cond.methodLink "NobodyTwiceModel" 57 ⟨"NobodyTwiceModel", "begin", "([I)V"⟩ ∈ GT := gm 861 (by decide +kernel) (by decide +kernel)
theorem kw_862 : Cond.static ⟨"NobodyTwiceModel", "begin", "([I)V"⟩ ∈ GT := gm 862 (by decide +kernel) (by decide +kernel)
theorem kw_863 : Cond.code ⟨"NobodyTwiceModel", "begin", "([I)V"⟩ prog_14_method_9_code 2 (Option.none : Option Jvm.ClassFile.FieldType) ∈ GT := gm 863 (by decide +kernel) (by decide +kernel)
theorem kw_864 : Cond.fieldLink "NobodyTwiceModel" 7 "NobodyTwiceModel" "now" "[I" ∈ GT := gm 864 (by decide +kernel) (by decide +kernel)
theorem kw_865 : Cond.fieldLink "NobodyTwiceModel" 13 "NobodyTwiceModel" "kept" "[I" ∈ GT := gm 865 (by decide +kernel) (by decide +kernel)
theorem kw_866 : Cond.fieldLink "NobodyTwiceModel" 16 "NobodyTwiceModel" "isKept" "[Z" ∈ GT := gm 866 (by decide +kernel) (by decide +kernel)
theorem kw_867 : Cond.fieldLink "NobodyTwiceModel" 20 "NobodyTwiceModel" "refused" "[I" ∈ GT := gm 867 (by decide +kernel) (by decide +kernel)
theorem kw_868 : Cond.fieldLink "NobodyTwiceModel" 175 "NobodyTwiceModel" "above" "J" ∈ GT := gm 868 (by decide +kernel) (by decide +kernel)
theorem kw_869 : Cond.fieldLink "NobodyTwiceModel" 23 "NobodyTwiceModel" "below" "J" ∈ GT := gm 869 (by decide +kernel) (by decide +kernel)
theorem kw_870 : Cond.fieldLink "NobodyTwiceModel" 27 "NobodyTwiceModel" "wins" "[I" ∈ GT := gm 870 (by decide +kernel) (by decide +kernel)
theorem kw_871 : Cond.fieldLink "NobodyTwiceModel" 30 "NobodyTwiceModel" "seconds" "[I" ∈ GT := gm 871 (by decide +kernel) (by decide +kernel)
theorem kw_872 : Cond.fieldLink "NobodyTwiceModel" 33 "NobodyTwiceModel" "sorts" "[I" ∈ GT := gm 872 (by decide +kernel) (by decide +kernel)
theorem kw_873 : Cond.fieldLink "NobodyTwiceModel" 36 "NobodyTwiceModel" "worths" "[I" ∈ GT := gm 873 (by decide +kernel) (by decide +kernel)
theorem kw_874 : Cond.fieldLink "NobodyTwiceModel" 39 "NobodyTwiceModel" "triesIn" "[I" ∈ GT := gm 874 (by decide +kernel) (by decide +kernel)
theorem kw_875 : Cond.fieldLink "NobodyTwiceModel" 42 "NobodyTwiceModel" "his" "[I" ∈ GT := gm 875 (by decide +kernel) (by decide +kernel)
theorem kw_876 : Cond.fieldLink "NobodyTwiceModel" 45 "NobodyTwiceModel" "theirs" "[I" ∈ GT := gm 876 (by decide +kernel) (by decide +kernel)
theorem kw_877 : Cond.fieldLink "NobodyTwiceModel" 48 "NobodyTwiceModel" "bytes" "[I" ∈ GT := gm 877 (by decide +kernel) (by decide +kernel)
theorem kw_878 : Cond.fieldLink "NobodyTwiceModel" 200 "NobodyTwiceModel" "bytesLong" "I" ∈ GT := gm 878 (by decide +kernel) (by decide +kernel)
theorem kw_879 : Cond.fieldLink "NobodyTwiceModel" 212 "NobodyTwiceModel" "tokenAt" "I" ∈ GT := gm 879 (by decide +kernel) (by decide +kernel)
theorem kw_880 : Cond.fieldLink "NobodyTwiceModel" 215 "NobodyTwiceModel" "tokenLong" "I" ∈ GT := gm 880 (by decide +kernel) (by decide +kernel)
theorem kw_881 : Cond.fieldLink "NobodyTwiceModel" 218 "NobodyTwiceModel" "token" "I" ∈ GT := gm 881 (by decide +kernel) (by decide +kernel)
theorem kw_882 : Cond.fieldLink "NobodyTwiceModel" 221 "NobodyTwiceModel" "value" "I" ∈ GT := gm 882 (by decide +kernel) (by decide +kernel)
theorem kw_883 : Cond.fieldLink "NobodyTwiceModel" 51 "NobodyTwiceModel" "anew" "[I" ∈ GT := gm 883 (by decide +kernel) (by decide +kernel)
theorem kw_884 : Cond.fieldLink "NobodyTwiceModel" 54 "NobodyTwiceModel" "values" "[I" ∈ GT := gm 884 (by decide +kernel) (by decide +kernel)
theorem kw_927 : Cond.superclass "NobodyTwiceModel" "java/lang/Object" ∈ GT := gm 927 (by decide +kernel) (by decide +kernel)
theorem kw_928 : Cond.methodLink "NobodyTwiceLaw" 17 ⟨"NobodyTwiceModel", "valley", "()I"⟩ ∈ GT := gm 928 (by decide +kernel) (by decide +kernel)
theorem kw_929 : Cond.instanceMethod ⟨"NobodyTwiceModel", "valley", "()I"⟩ ∈ GT := gm 929 (by decide +kernel) (by decide +kernel)
theorem kw_930 : Cond.selects "NobodyTwiceModel" ⟨"NobodyTwiceModel", "valley", "()I"⟩ ⟨"NobodyTwiceModel", "valley", "()I"⟩ ∈ GT := gm 930 (by decide +kernel) (by decide +kernel)
theorem kw_931 : Cond.code ⟨"NobodyTwiceModel", "valley", "()I"⟩ prog_14_method_15_code 2 (Option.some Jvm.ClassFile.FieldType.int) ∈ GT := gm 931 (by decide +kernel) (by decide +kernel)
theorem kw_932 : Cond.methodLink "NobodyTwiceModel" 61 ⟨"NobodyTwiceModel", "many", "()I"⟩ ∈ GT := gm 932 (by decide +kernel) (by decide +kernel)
theorem kw_934 : Cond.instanceMethod ⟨"NobodyTwiceModel", "many", "()I"⟩ ∈ GT := gm 934 (by decide +kernel) (by decide +kernel)
theorem kw_935 : Cond.code ⟨"NobodyTwiceModel", "many", "()I"⟩ prog_14_method_10_code 1 (Option.some Jvm.ClassFile.FieldType.int) ∈ GT := gm 935 (by decide +kernel) (by decide +kernel)
theorem kw_936 : Cond.methodLink "NobodyTwiceLaw" 22 ⟨"NobodyTwiceModel", "prize", "(III)I"⟩ ∈ GT := gm 936 (by decide +kernel) (by decide +kernel)
theorem kw_937 : Cond.instanceMethod ⟨"NobodyTwiceModel", "prize", "(III)I"⟩ ∈ GT := gm 937 (by decide +kernel) (by decide +kernel)
theorem kw_938 : Cond.selects "NobodyTwiceModel" ⟨"NobodyTwiceModel", "prize", "(III)I"⟩ ⟨"NobodyTwiceModel", "prize", "(III)I"⟩ ∈ GT := gm 938 (by decide +kernel) (by decide +kernel)
theorem kw_939 : Cond.code ⟨"NobodyTwiceModel", "prize", "(III)I"⟩ prog_14_method_16_code 5 (Option.some Jvm.ClassFile.FieldType.int) ∈ GT := gm 939 (by decide +kernel) (by decide +kernel)
theorem kw_940 : Cond.methodLink "NobodyTwiceModel" 73 ⟨"NobodyTwiceModel", "isYear", "(I)Z"⟩ ∈ GT := gm 940 (by decide +kernel) (by decide +kernel)
theorem kw_941 : Cond.static ⟨"NobodyTwiceModel", "isYear", "(I)Z"⟩ ∈ GT := gm 941 (by decide +kernel) (by decide +kernel)
theorem kw_942 : Cond.code ⟨"NobodyTwiceModel", "isYear", "(I)Z"⟩ prog_14_method_12_code 1 (Option.some Jvm.ClassFile.FieldType.boolean) ∈ GT := gm 942 (by decide +kernel) (by decide +kernel)
theorem kw_943 : Cond.constantLong "NobodyTwiceModel" 69 7 ∈ GT := gm 943 (by decide +kernel) (by decide +kernel)
theorem kw_944 : Cond.methodLink "NobodyTwiceModel" 65 ⟨"NobodyTwiceModel", "in", "(JJJ)Z"⟩ ∈ GT := gm 944 (by decide +kernel) (by decide +kernel)
theorem kw_945 : Cond.static ⟨"NobodyTwiceModel", "in", "(JJJ)Z"⟩ ∈ GT := gm 945 (by decide +kernel) (by decide +kernel)
theorem kw_946 : Cond.code ⟨"NobodyTwiceModel", "in", "(JJJ)Z"⟩ prog_14_method_3_code 6 (Option.some Jvm.ClassFile.FieldType.boolean) ∈ GT := gm 946 (by decide +kernel) (by decide +kernel)
theorem kw_947 : Cond.methodLink "NobodyTwiceModel" 77 ⟨"NobodyTwiceModel", "isSort", "(I)Z"⟩ ∈ GT := gm 947 (by decide +kernel) (by decide +kernel)
theorem kw_948 : Cond.static ⟨"NobodyTwiceModel", "isSort", "(I)Z"⟩ ∈ GT := gm 948 (by decide +kernel) (by decide +kernel)
theorem kw_949 : Cond.code ⟨"NobodyTwiceModel", "isSort", "(I)Z"⟩ prog_14_method_14_code 1 (Option.some Jvm.ClassFile.FieldType.boolean) ∈ GT := gm 949 (by decide +kernel) (by decide +kernel)
theorem kw_950 : Cond.constantLong "NobodyTwiceModel" 71 2 ∈ GT := gm 950 (by decide +kernel) (by decide +kernel)
theorem kw_951 : Cond.constantLong "NobodyTwiceModel" 80 30 ∈ GT := gm 951 (by decide +kernel) (by decide +kernel)
theorem kw_952 : Cond.methodLink "NobodyTwiceModel" 82 ⟨"NobodyTwiceModel", "bad", "(I)I"⟩ ∈ GT := gm 952 (by decide +kernel) (by decide +kernel)
theorem kw_954 : Cond.instanceMethod ⟨"NobodyTwiceModel", "bad", "(I)I"⟩ ∈ GT := gm 954 (by decide +kernel) (by decide +kernel)
theorem kw_955 : Cond.code ⟨"NobodyTwiceModel", "bad", "(I)I"⟩ prog_14_method_4_code 2 (Option.some Jvm.ClassFile.FieldType.int) ∈ GT := gm 955 (by decide +kernel) (by decide +kernel)
theorem kw_956 : Cond.methodLink "NobodyTwiceLaw" 27 ⟨"NobodyTwiceModel", "one", "(IIII)I"⟩ ∈ GT := gm 956 (by decide +kernel) (by decide +kernel)
theorem kw_957 : Cond.instanceMethod ⟨"NobodyTwiceModel", "one", "(IIII)I"⟩ ∈ GT := gm 957 (by decide +kernel) (by decide +kernel)
theorem kw_958 : Cond.selects "NobodyTwiceModel" ⟨"NobodyTwiceModel", "one", "(IIII)I"⟩ ⟨"NobodyTwiceModel", "one", "(IIII)I"⟩ ∈ GT := gm 958 (by decide +kernel) (by decide +kernel)
theorem kw_959 : Cond.code ⟨"NobodyTwiceModel", "one", "(IIII)I"⟩ prog_14_method_18_code 5 (Option.some Jvm.ClassFile.FieldType.int) ∈ GT := gm 959 (by decide +kernel) (by decide +kernel)
theorem kw_960 : Cond.constantLong "NobodyTwiceModel" 86 5 ∈ GT := gm 960 (by decide +kernel) (by decide +kernel)
theorem kw_961 : Cond.constantLong "NobodyTwiceModel" 88 9 ∈ GT := gm 961 (by decide +kernel) (by decide +kernel)
theorem kw_962 : Cond.methodLink "NobodyTwiceModel" 90 ⟨"NobodyTwiceModel", "full", "()I"⟩ ∈ GT := gm 962 (by decide +kernel) (by decide +kernel)
theorem kw_964 : Cond.instanceMethod ⟨"NobodyTwiceModel", "full", "()I"⟩ ∈ GT := gm 964 (by decide +kernel) (by decide +kernel)
theorem kw_965 : Cond.code ⟨"NobodyTwiceModel", "full", "()I"⟩ prog_14_method_6_code 1 (Option.some Jvm.ClassFile.FieldType.int) ∈ GT := gm 965 (by decide +kernel) (by decide +kernel)
theorem kw_966 : Cond.methodLink "NobodyTwiceModel" 93 ⟨"NobodyTwiceModel", "layOne", "([IIIII)V"⟩ ∈ GT := gm 966 (by decide +kernel) (by decide +kernel)
theorem kw_967 : Cond.static ⟨"NobodyTwiceModel", "layOne", "([IIIII)V"⟩ ∈ GT := gm 967 (by decide +kernel) (by decide +kernel)
theorem kw_968 : Cond.code ⟨"NobodyTwiceModel", "layOne", "([IIIII)V"⟩ prog_14_method_17_code 6 (Option.none : Option Jvm.ClassFile.FieldType) ∈ GT := gm 968 (by decide +kernel) (by decide +kernel)
theorem kw_969 : Cond.methodLink "NobodyTwiceLaw" 44 ⟨"NobodyTwiceModel", "year", "()I"⟩ ∈ GT := gm 969 (by decide +kernel) (by decide +kernel)
theorem kw_970 : Cond.instanceMethod ⟨"NobodyTwiceModel", "year", "()I"⟩ ∈ GT := gm 970 (by decide +kernel) (by decide +kernel)
theorem kw_971 : Cond.selects "NobodyTwiceModel" ⟨"NobodyTwiceModel", "year", "()I"⟩ ⟨"NobodyTwiceModel", "year", "()I"⟩ ∈ GT := gm 971 (by decide +kernel) (by decide +kernel)
theorem kw_972 : Cond.code ⟨"NobodyTwiceModel", "year", "()I"⟩ prog_14_method_32_code 3 (Option.some Jvm.ClassFile.FieldType.int) ∈ GT := gm 972 (by decide +kernel) (by decide +kernel)
theorem kw_973 : Cond.methodLink "NobodyTwiceModel" 134 ⟨"NobodyTwiceModel", "no", "()I"⟩ ∈ GT := gm 973 (by decide +kernel) (by decide +kernel)
theorem kw_975 : Cond.instanceMethod ⟨"NobodyTwiceModel", "no", "()I"⟩ ∈ GT := gm 975 (by decide +kernel) (by decide +kernel)
theorem kw_976 : Cond.code ⟨"NobodyTwiceModel", "no", "()I"⟩ prog_14_method_5_code 1 (Option.some Jvm.ClassFile.FieldType.int) ∈ GT := gm 976 (by decide +kernel) (by decide +kernel)
theorem kw_977 : Cond.methodLink "NobodyTwiceModel" 137 ⟨"NobodyTwiceModel", "keep", "()V"⟩ ∈ GT := gm 977 (by decide +kernel) (by decide +kernel)
theorem kw_979 : Cond.instanceMethod ⟨"NobodyTwiceModel", "keep", "()V"⟩ ∈ GT := gm 979 (by decide +kernel) (by decide +kernel)
theorem kw_980 : Cond.code ⟨"NobodyTwiceModel", "keep", "()V"⟩ prog_14_method_31_code 2 (Option.none : Option Jvm.ClassFile.FieldType) ∈ GT := gm 980 (by decide +kernel) (by decide +kernel)
theorem kw_981 : Cond.methodLink "NobodyTwiceModel" 140 ⟨"NobodyTwiceModel", "layHand", "()V"⟩ ∈ GT := gm 981 (by decide +kernel) (by decide +kernel)
theorem kw_983 : Cond.instanceMethod ⟨"NobodyTwiceModel", "layHand", "()V"⟩ ∈ GT := gm 983 (by decide +kernel) (by decide +kernel)
theorem kw_984 : Cond.code ⟨"NobodyTwiceModel", "layHand", "()V"⟩ prog_14_method_23_code 2 (Option.none : Option Jvm.ClassFile.FieldType) ∈ GT := gm 984 (by decide +kernel) (by decide +kernel)
theorem kw_985 : Cond.methodLink "NobodyTwiceModel" 128 ⟨"NobodyTwiceModel", "goYear", "(I)I"⟩ ∈ GT := gm 985 (by decide +kernel) (by decide +kernel)
theorem kw_987 : Cond.instanceMethod ⟨"NobodyTwiceModel", "goYear", "(I)I"⟩ ∈ GT := gm 987 (by decide +kernel) (by decide +kernel)
theorem kw_988 : Cond.code ⟨"NobodyTwiceModel", "goYear", "(I)I"⟩ prog_14_method_28_code 4 (Option.some Jvm.ClassFile.FieldType.int) ∈ GT := gm 988 (by decide +kernel) (by decide +kernel)
theorem kw_989 : Cond.methodLink "NobodyTwiceModel" 124 ⟨"NobodyTwiceModel", "bestIn", "(II)I"⟩ ∈ GT := gm 989 (by decide +kernel) (by decide +kernel)
theorem kw_991 : Cond.instanceMethod ⟨"NobodyTwiceModel", "bestIn", "(II)I"⟩ ∈ GT := gm 991 (by decide +kernel) (by decide +kernel)
theorem kw_992 : Cond.code ⟨"NobodyTwiceModel", "bestIn", "(II)I"⟩ prog_14_method_27_code 6 (Option.some Jvm.ClassFile.FieldType.int) ∈ GT := gm 992 (by decide +kernel) (by decide +kernel)
theorem kw_993 : Cond.methodLink "NobodyTwiceModel" 121 ⟨"NobodyTwiceModel", "enters", "(II)Z"⟩ ∈ GT := gm 993 (by decide +kernel) (by decide +kernel)
theorem kw_995 : Cond.instanceMethod ⟨"NobodyTwiceModel", "enters", "(II)Z"⟩ ∈ GT := gm 995 (by decide +kernel) (by decide +kernel)
theorem kw_996 : Cond.code ⟨"NobodyTwiceModel", "enters", "(II)Z"⟩ prog_14_method_26_code 3 (Option.some Jvm.ClassFile.FieldType.boolean) ∈ GT := gm 996 (by decide +kernel) (by decide +kernel)
theorem kw_997 : Cond.methodLink "NobodyTwiceModel" 112 ⟨"NobodyTwiceModel", "isBarred", "(I)Z"⟩ ∈ GT := gm 997 (by decide +kernel) (by decide +kernel)
theorem kw_999 : Cond.instanceMethod ⟨"NobodyTwiceModel", "isBarred", "(I)Z"⟩ ∈ GT := gm 999 (by decide +kernel) (by decide +kernel)
theorem kw_1000 : Cond.code ⟨"NobodyTwiceModel", "isBarred", "(I)Z"⟩ prog_14_method_25_code 2 (Option.some Jvm.ClassFile.FieldType.boolean) ∈ GT := gm 1000 (by decide +kernel) (by decide +kernel)
theorem kw_1001 : Cond.methodLink "NobodyTwiceModel" 105 ⟨"NobodyTwiceModel", "bits", "(I)I"⟩ ∈ GT := gm 1001 (by decide +kernel) (by decide +kernel)
theorem kw_1002 : Cond.static ⟨"NobodyTwiceModel", "bits", "(I)I"⟩ ∈ GT := gm 1002 (by decide +kernel) (by decide +kernel)
theorem kw_1003 : Cond.code ⟨"NobodyTwiceModel", "bits", "(I)I"⟩ prog_14_method_7_code 3 (Option.some Jvm.ClassFile.FieldType.int) ∈ GT := gm 1003 (by decide +kernel) (by decide +kernel)
theorem kw_1004 : Cond.methodLink "NobodyTwiceModel" 108 ⟨"NobodyTwiceModel", "isBarredBy", "(II)Z"⟩ ∈ GT := gm 1004 (by decide +kernel) (by decide +kernel)
theorem kw_1005 : Cond.static ⟨"NobodyTwiceModel", "isBarredBy", "(II)Z"⟩ ∈ GT := gm 1005 (by decide +kernel) (by decide +kernel)
theorem kw_1006 : Cond.code ⟨"NobodyTwiceModel", "isBarredBy", "(II)Z"⟩ prog_14_method_21_code 2 (Option.some Jvm.ClassFile.FieldType.boolean) ∈ GT := gm 1006 (by decide +kernel) (by decide +kernel)
theorem kw_1007 : Cond.methodLink "NobodyTwiceModel" 115 ⟨"NobodyTwiceModel", "tries", "(II)Z"⟩ ∈ GT := gm 1007 (by decide +kernel) (by decide +kernel)
theorem kw_1009 : Cond.instanceMethod ⟨"NobodyTwiceModel", "tries", "(II)Z"⟩ ∈ GT := gm 1009 (by decide +kernel) (by decide +kernel)
theorem kw_1010 : Cond.code ⟨"NobodyTwiceModel", "tries", "(II)Z"⟩ prog_14_method_24_code 3 (Option.some Jvm.ClassFile.FieldType.boolean) ∈ GT := gm 1010 (by decide +kernel) (by decide +kernel)
theorem kw_1011 : Cond.methodLink "NobodyTwiceModel" 101 ⟨"NobodyTwiceModel", "triesAs", "(III)Z"⟩ ∈ GT := gm 1011 (by decide +kernel) (by decide +kernel)
theorem kw_1012 : Cond.static ⟨"NobodyTwiceModel", "triesAs", "(III)Z"⟩ ∈ GT := gm 1012 (by decide +kernel) (by decide +kernel)
theorem kw_1013 : Cond.code ⟨"NobodyTwiceModel", "triesAs", "(III)Z"⟩ prog_14_method_19_code 4 (Option.some Jvm.ClassFile.FieldType.boolean) ∈ GT := gm 1013 (by decide +kernel) (by decide +kernel)
theorem kw_1014 : Cond.methodLink "NobodyTwiceModel" 118 ⟨"NobodyTwiceModel", "goodOf", "(III)I"⟩ ∈ GT := gm 1014 (by decide +kernel) (by decide +kernel)
theorem kw_1016 : Cond.instanceMethod ⟨"NobodyTwiceModel", "goodOf", "(III)I"⟩ ∈ GT := gm 1016 (by decide +kernel) (by decide +kernel)
theorem kw_1017 : Cond.code ⟨"NobodyTwiceModel", "goodOf", "(III)I"⟩ prog_14_method_22_code 4 (Option.some Jvm.ClassFile.FieldType.int) ∈ GT := gm 1017 (by decide +kernel) (by decide +kernel)
theorem kw_1018 : Cond.methodLink "NobodyTwiceModel" 97 ⟨"NobodyTwiceModel", "goodAs", "(III)I"⟩ ∈ GT := gm 1018 (by decide +kernel) (by decide +kernel)
theorem kw_1019 : Cond.static ⟨"NobodyTwiceModel", "goodAs", "(III)I"⟩ ∈ GT := gm 1019 (by decide +kernel) (by decide +kernel)
theorem kw_1020 : Cond.code ⟨"NobodyTwiceModel", "goodAs", "(III)I"⟩ prog_14_method_20_code 3 (Option.some Jvm.ClassFile.FieldType.int) ∈ GT := gm 1020 (by decide +kernel) (by decide +kernel)
theorem kw_1021 : Cond.methodLink "NobodyTwiceLaw" 48 ⟨"NobodyTwiceModel", "undo", "()I"⟩ ∈ GT := gm 1021 (by decide +kernel) (by decide +kernel)
theorem kw_1022 : Cond.instanceMethod ⟨"NobodyTwiceModel", "undo", "()I"⟩ ∈ GT := gm 1022 (by decide +kernel) (by decide +kernel)
theorem kw_1023 : Cond.selects "NobodyTwiceModel" ⟨"NobodyTwiceModel", "undo", "()I"⟩ ⟨"NobodyTwiceModel", "undo", "()I"⟩ ∈ GT := gm 1023 (by decide +kernel) (by decide +kernel)
theorem kw_1024 : Cond.code ⟨"NobodyTwiceModel", "undo", "()I"⟩ prog_14_method_33_code 2 (Option.some Jvm.ClassFile.FieldType.int) ∈ GT := gm 1024 (by decide +kernel) (by decide +kernel)
theorem kw_1025 : Cond.methodLink "NobodyTwiceLaw" 53 ⟨"NobodyTwiceModel", "of", "(II)I"⟩ ∈ GT := gm 1025 (by decide +kernel) (by decide +kernel)
theorem kw_1026 : Cond.instanceMethod ⟨"NobodyTwiceModel", "of", "(II)I"⟩ ∈ GT := gm 1026 (by decide +kernel) (by decide +kernel)
theorem kw_1027 : Cond.selects "NobodyTwiceModel" ⟨"NobodyTwiceModel", "of", "(II)I"⟩ ⟨"NobodyTwiceModel", "of", "(II)I"⟩ ∈ GT := gm 1027 (by decide +kernel) (by decide +kernel)
theorem kw_1028 : Cond.code ⟨"NobodyTwiceModel", "of", "(II)I"⟩ prog_14_method_34_code 3 (Option.some Jvm.ClassFile.FieldType.int) ∈ GT := gm 1028 (by decide +kernel) (by decide +kernel)
theorem kw_1029 : Cond.methodLink "NobodyTwiceModel" 143 ⟨"NobodyTwiceModel", "isOne", "(I)Z"⟩ ∈ GT := gm 1029 (by decide +kernel) (by decide +kernel)
theorem kw_1031 : Cond.instanceMethod ⟨"NobodyTwiceModel", "isOne", "(I)Z"⟩ ∈ GT := gm 1031 (by decide +kernel) (by decide +kernel)
theorem kw_1032 : Cond.code ⟨"NobodyTwiceModel", "isOne", "(I)Z"⟩ prog_14_method_11_code 2 (Option.some Jvm.ClassFile.FieldType.boolean) ∈ GT := gm 1032 (by decide +kernel) (by decide +kernel)
theorem kw_1033 : Cond.constantLong "NobodyTwiceModel" 146 6 ∈ GT := gm 1033 (by decide +kernel) (by decide +kernel)
theorem kw_1034 : Cond.methodLink "NobodyTwiceLaw" 57 ⟨"NobodyTwiceModel", "about", "(II)I"⟩ ∈ GT := gm 1034 (by decide +kernel) (by decide +kernel)
theorem kw_1035 : Cond.instanceMethod ⟨"NobodyTwiceModel", "about", "(II)I"⟩ ∈ GT := gm 1035 (by decide +kernel) (by decide +kernel)
theorem kw_1036 : Cond.selects "NobodyTwiceModel" ⟨"NobodyTwiceModel", "about", "(II)I"⟩ ⟨"NobodyTwiceModel", "about", "(II)I"⟩ ∈ GT := gm 1036 (by decide +kernel) (by decide +kernel)
theorem kw_1037 : Cond.code ⟨"NobodyTwiceModel", "about", "(II)I"⟩ prog_14_method_35_code 3 (Option.some Jvm.ClassFile.FieldType.int) ∈ GT := gm 1037 (by decide +kernel) (by decide +kernel)
theorem kw_1038 : Cond.methodLink "NobodyTwiceLaw" 61 ⟨"NobodyTwiceModel", "good", "(III)I"⟩ ∈ GT := gm 1038 (by decide +kernel) (by decide +kernel)
theorem kw_1039 : Cond.instanceMethod ⟨"NobodyTwiceModel", "good", "(III)I"⟩ ∈ GT := gm 1039 (by decide +kernel) (by decide +kernel)
theorem kw_1040 : Cond.selects "NobodyTwiceModel" ⟨"NobodyTwiceModel", "good", "(III)I"⟩ ⟨"NobodyTwiceModel", "good", "(III)I"⟩ ∈ GT := gm 1040 (by decide +kernel) (by decide +kernel)
theorem kw_1041 : Cond.code ⟨"NobodyTwiceModel", "good", "(III)I"⟩ prog_14_method_36_code 4 (Option.some Jvm.ClassFile.FieldType.int) ∈ GT := gm 1041 (by decide +kernel) (by decide +kernel)
theorem kw_1042 : Cond.methodLink "NobodyTwiceLaw" 65 ⟨"NobodyTwiceModel", "enter", "(I)I"⟩ ∈ GT := gm 1042 (by decide +kernel) (by decide +kernel)
theorem kw_1043 : Cond.instanceMethod ⟨"NobodyTwiceModel", "enter", "(I)I"⟩ ∈ GT := gm 1043 (by decide +kernel) (by decide +kernel)
theorem kw_1044 : Cond.selects "NobodyTwiceModel" ⟨"NobodyTwiceModel", "enter", "(I)I"⟩ ⟨"NobodyTwiceModel", "enter", "(I)I"⟩ ∈ GT := gm 1044 (by decide +kernel) (by decide +kernel)
theorem kw_1045 : Cond.code ⟨"NobodyTwiceModel", "enter", "(I)I"⟩ prog_14_method_37_code 4 (Option.some Jvm.ClassFile.FieldType.int) ∈ GT := gm 1045 (by decide +kernel) (by decide +kernel)
theorem kw_1046 : Cond.methodLink "NobodyTwiceModel" 148 ⟨"NobodyTwiceModel", "isToCome", "(I)Z"⟩ ∈ GT := gm 1046 (by decide +kernel) (by decide +kernel)
theorem kw_1048 : Cond.instanceMethod ⟨"NobodyTwiceModel", "isToCome", "(I)Z"⟩ ∈ GT := gm 1048 (by decide +kernel) (by decide +kernel)
theorem kw_1049 : Cond.code ⟨"NobodyTwiceModel", "isToCome", "(I)Z"⟩ prog_14_method_13_code 2 (Option.some Jvm.ClassFile.FieldType.boolean) ∈ GT := gm 1049 (by decide +kernel) (by decide +kernel)
theorem kw_1050 : Cond.methodLink "NobodyTwiceModel" 151 ⟨"NobodyTwiceModel", "goTill", "(I)V"⟩ ∈ GT := gm 1050 (by decide +kernel) (by decide +kernel)
theorem kw_1052 : Cond.instanceMethod ⟨"NobodyTwiceModel", "goTill", "(I)V"⟩ ∈ GT := gm 1052 (by decide +kernel) (by decide +kernel)
theorem kw_1053 : Cond.code ⟨"NobodyTwiceModel", "goTill", "(I)V"⟩ prog_14_method_29_code 4 (Option.none : Option Jvm.ClassFile.FieldType) ∈ GT := gm 1053 (by decide +kernel) (by decide +kernel)
theorem kw_1054 : Cond.methodLink "NobodyTwiceLaw" 69 ⟨"NobodyTwiceModel", "winner", "(II)I"⟩ ∈ GT := gm 1054 (by decide +kernel) (by decide +kernel)
theorem kw_1055 : Cond.instanceMethod ⟨"NobodyTwiceModel", "winner", "(II)I"⟩ ∈ GT := gm 1055 (by decide +kernel) (by decide +kernel)
theorem kw_1056 : Cond.selects "NobodyTwiceModel" ⟨"NobodyTwiceModel", "winner", "(II)I"⟩ ⟨"NobodyTwiceModel", "winner", "(II)I"⟩ ∈ GT := gm 1056 (by decide +kernel) (by decide +kernel)
theorem kw_1057 : Cond.code ⟨"NobodyTwiceModel", "winner", "(II)I"⟩ prog_14_method_38_code 4 (Option.some Jvm.ClassFile.FieldType.int) ∈ GT := gm 1057 (by decide +kernel) (by decide +kernel)
theorem kw_1058 : Cond.methodLink "NobodyTwiceLaw" 73 ⟨"NobodyTwiceModel", "end", "(II)I"⟩ ∈ GT := gm 1058 (by decide +kernel) (by decide +kernel)
theorem kw_1059 : Cond.instanceMethod ⟨"NobodyTwiceModel", "end", "(II)I"⟩ ∈ GT := gm 1059 (by decide +kernel) (by decide +kernel)
theorem kw_1060 : Cond.selects "NobodyTwiceModel" ⟨"NobodyTwiceModel", "end", "(II)I"⟩ ⟨"NobodyTwiceModel", "end", "(II)I"⟩ ∈ GT := gm 1060 (by decide +kernel) (by decide +kernel)
theorem kw_1061 : Cond.code ⟨"NobodyTwiceModel", "end", "(II)I"⟩ prog_14_method_39_code 3 (Option.some Jvm.ClassFile.FieldType.int) ∈ GT := gm 1061 (by decide +kernel) (by decide +kernel)
theorem kw_1062 : Cond.methodLink "NobodyTwiceModel" 155 ⟨"NobodyTwiceModel", "worthOf", "(I)I"⟩ ∈ GT := gm 1062 (by decide +kernel) (by decide +kernel)
theorem kw_1064 : Cond.instanceMethod ⟨"NobodyTwiceModel", "worthOf", "(I)I"⟩ ∈ GT := gm 1064 (by decide +kernel) (by decide +kernel)
theorem kw_1065 : Cond.code ⟨"NobodyTwiceModel", "worthOf", "(I)I"⟩ prog_14_method_30_code 4 (Option.some Jvm.ClassFile.FieldType.int) ∈ GT := gm 1065 (by decide +kernel) (by decide +kernel)
theorem kw_1066 : Cond.methodLink "NobodyTwiceModel" 131 ⟨"NobodyTwiceModel", "has", "(II)Z"⟩ ∈ GT := gm 1066 (by decide +kernel) (by decide +kernel)
theorem kw_1067 : Cond.static ⟨"NobodyTwiceModel", "has", "(II)Z"⟩ ∈ GT := gm 1067 (by decide +kernel) (by decide +kernel)
theorem kw_1068 : Cond.code ⟨"NobodyTwiceModel", "has", "(II)Z"⟩ prog_14_method_8_code 2 (Option.some Jvm.ClassFile.FieldType.boolean) ∈ GT := gm 1068 (by decide +kernel) (by decide +kernel)
theorem kw_1069 : Cond.methodLink "NobodyTwiceLaw" 77 ⟨"NobodyTwiceModel", "left", "()I"⟩ ∈ GT := gm 1069 (by decide +kernel) (by decide +kernel)
theorem kw_1070 : Cond.instanceMethod ⟨"NobodyTwiceModel", "left", "()I"⟩ ∈ GT := gm 1070 (by decide +kernel) (by decide +kernel)
theorem kw_1071 : Cond.selects "NobodyTwiceModel" ⟨"NobodyTwiceModel", "left", "()I"⟩ ⟨"NobodyTwiceModel", "left", "()I"⟩ ∈ GT := gm 1071 (by decide +kernel) (by decide +kernel)
theorem kw_1072 : Cond.code ⟨"NobodyTwiceModel", "left", "()I"⟩ prog_14_method_40_code 3 (Option.some Jvm.ClassFile.FieldType.int) ∈ GT := gm 1072 (by decide +kernel) (by decide +kernel)
theorem kw_1073 : Cond.methodLink "NobodyTwiceLaw" 81 ⟨"NobodyTwiceModel", "best", "(II)I"⟩ ∈ GT := gm 1073 (by decide +kernel) (by decide +kernel)
theorem kw_1074 : Cond.instanceMethod ⟨"NobodyTwiceModel", "best", "(II)I"⟩ ∈ GT := gm 1074 (by decide +kernel) (by decide +kernel)
theorem kw_1075 : Cond.selects "NobodyTwiceModel" ⟨"NobodyTwiceModel", "best", "(II)I"⟩ ⟨"NobodyTwiceModel", "best", "(II)I"⟩ ∈ GT := gm 1075 (by decide +kernel) (by decide +kernel)
theorem kw_1076 : Cond.code ⟨"NobodyTwiceModel", "best", "(II)I"⟩ prog_14_method_42_code 7 (Option.some Jvm.ClassFile.FieldType.int) ∈ GT := gm 1076 (by decide +kernel) (by decide +kernel)
theorem kw_1077 : Cond.methodLink "NobodyTwiceModel" 158 ⟨"NobodyTwiceModel", "winsBy", "(II)I"⟩ ∈ GT := gm 1077 (by decide +kernel) (by decide +kernel)
theorem kw_1079 : Cond.instanceMethod ⟨"NobodyTwiceModel", "winsBy", "(II)I"⟩ ∈ GT := gm 1079 (by decide +kernel) (by decide +kernel)
theorem kw_1080 : Cond.code ⟨"NobodyTwiceModel", "winsBy", "(II)I"⟩ prog_14_method_41_code 4 (Option.some Jvm.ClassFile.FieldType.int) ∈ GT := gm 1080 (by decide +kernel) (by decide +kernel)
theorem kw_1081 : Cond.methodLink "NobodyTwiceLaw" 85 ⟨"NobodyTwiceModel", "rivals", "(III)I"⟩ ∈ GT := gm 1081 (by decide +kernel) (by decide +kernel)
theorem kw_1082 : Cond.instanceMethod ⟨"NobodyTwiceModel", "rivals", "(III)I"⟩ ∈ GT := gm 1082 (by decide +kernel) (by decide +kernel)
theorem kw_1083 : Cond.selects "NobodyTwiceModel" ⟨"NobodyTwiceModel", "rivals", "(III)I"⟩ ⟨"NobodyTwiceModel", "rivals", "(III)I"⟩ ∈ GT := gm 1083 (by decide +kernel) (by decide +kernel)
theorem kw_1084 : Cond.code ⟨"NobodyTwiceModel", "rivals", "(III)I"⟩ prog_14_method_44_code 8 (Option.some Jvm.ClassFile.FieldType.int) ∈ GT := gm 1084 (by decide +kernel) (by decide +kernel)
theorem kw_1085 : Cond.methodLink "NobodyTwiceModel" 161 ⟨"NobodyTwiceModel", "rests", "(II)Z"⟩ ∈ GT := gm 1085 (by decide +kernel) (by decide +kernel)
theorem kw_1087 : Cond.instanceMethod ⟨"NobodyTwiceModel", "rests", "(II)Z"⟩ ∈ GT := gm 1087 (by decide +kernel) (by decide +kernel)
theorem kw_1088 : Cond.code ⟨"NobodyTwiceModel", "rests", "(II)Z"⟩ prog_14_method_43_code 5 (Option.some Jvm.ClassFile.FieldType.boolean) ∈ GT := gm 1088 (by decide +kernel) (by decide +kernel)
theorem kw_1089 : Cond.methodLink "NobodyTwiceLaw" 89 ⟨"NobodyTwiceModel", "handicap", "(I)I"⟩ ∈ GT := gm 1089 (by decide +kernel) (by decide +kernel)
theorem kw_1090 : Cond.instanceMethod ⟨"NobodyTwiceModel", "handicap", "(I)I"⟩ ∈ GT := gm 1090 (by decide +kernel) (by decide +kernel)
theorem kw_1091 : Cond.selects "NobodyTwiceModel" ⟨"NobodyTwiceModel", "handicap", "(I)I"⟩ ⟨"NobodyTwiceModel", "handicap", "(I)I"⟩ ∈ GT := gm 1091 (by decide +kernel) (by decide +kernel)
theorem kw_1092 : Cond.code ⟨"NobodyTwiceModel", "handicap", "(I)I"⟩ prog_14_method_45_code 8 (Option.some Jvm.ClassFile.FieldType.int) ∈ GT := gm 1092 (by decide +kernel) (by decide +kernel)
theorem kw_1093 : Cond.methodLink "NobodyTwiceLaw" 93 ⟨"NobodyTwiceModel", "order", "(I)I"⟩ ∈ GT := gm 1093 (by decide +kernel) (by decide +kernel)
theorem kw_1094 : Cond.instanceMethod ⟨"NobodyTwiceModel", "order", "(I)I"⟩ ∈ GT := gm 1094 (by decide +kernel) (by decide +kernel)
theorem kw_1095 : Cond.selects "NobodyTwiceModel" ⟨"NobodyTwiceModel", "order", "(I)I"⟩ ⟨"NobodyTwiceModel", "order", "(I)I"⟩ ∈ GT := gm 1095 (by decide +kernel) (by decide +kernel)
theorem kw_1096 : Cond.code ⟨"NobodyTwiceModel", "order", "(I)I"⟩ prog_14_method_46_code 6 (Option.some Jvm.ClassFile.FieldType.int) ∈ GT := gm 1096 (by decide +kernel) (by decide +kernel)
theorem kw_1097 : Cond.methodLink "NobodyTwiceLaw" 97 ⟨"NobodyTwiceModel", "note", "(IIII)I"⟩ ∈ GT := gm 1097 (by decide +kernel) (by decide +kernel)
theorem kw_1098 : Cond.instanceMethod ⟨"NobodyTwiceModel", "note", "(IIII)I"⟩ ∈ GT := gm 1098 (by decide +kernel) (by decide +kernel)
theorem kw_1099 : Cond.selects "NobodyTwiceModel" ⟨"NobodyTwiceModel", "note", "(IIII)I"⟩ ⟨"NobodyTwiceModel", "note", "(IIII)I"⟩ ∈ GT := gm 1099 (by decide +kernel) (by decide +kernel)
theorem kw_1100 : Cond.code ⟨"NobodyTwiceModel", "note", "(IIII)I"⟩ prog_14_method_47_code 6 (Option.some Jvm.ClassFile.FieldType.int) ∈ GT := gm 1100 (by decide +kernel) (by decide +kernel)
theorem kw_1101 : Cond.methodLink "NobodyTwiceLaw" 101 ⟨"NobodyTwiceModel", "beaten", "(IIII)I"⟩ ∈ GT := gm 1101 (by decide +kernel) (by decide +kernel)
theorem kw_1102 : Cond.instanceMethod ⟨"NobodyTwiceModel", "beaten", "(IIII)I"⟩ ∈ GT := gm 1102 (by decide +kernel) (by decide +kernel)
theorem kw_1103 : Cond.selects "NobodyTwiceModel" ⟨"NobodyTwiceModel", "beaten", "(IIII)I"⟩ ⟨"NobodyTwiceModel", "beaten", "(IIII)I"⟩ ∈ GT := gm 1103 (by decide +kernel) (by decide +kernel)
theorem kw_1104 : Cond.code ⟨"NobodyTwiceModel", "beaten", "(IIII)I"⟩ prog_14_method_48_code 6 (Option.some Jvm.ClassFile.FieldType.int) ∈ GT := gm 1104 (by decide +kernel) (by decide +kernel)
theorem kw_1105 : Cond.methodLink "NobodyTwiceLaw" 105 ⟨"NobodyTwiceModel", "forget", "(I)I"⟩ ∈ GT := gm 1105 (by decide +kernel) (by decide +kernel)
theorem kw_1106 : Cond.instanceMethod ⟨"NobodyTwiceModel", "forget", "(I)I"⟩ ∈ GT := gm 1106 (by decide +kernel) (by decide +kernel)
theorem kw_1107 : Cond.selects "NobodyTwiceModel" ⟨"NobodyTwiceModel", "forget", "(I)I"⟩ ⟨"NobodyTwiceModel", "forget", "(I)I"⟩ ∈ GT := gm 1107 (by decide +kernel) (by decide +kernel)
theorem kw_1108 : Cond.code ⟨"NobodyTwiceModel", "forget", "(I)I"⟩ prog_14_method_49_code 3 (Option.some Jvm.ClassFile.FieldType.int) ∈ GT := gm 1108 (by decide +kernel) (by decide +kernel)
theorem kw_1109 : Cond.methodLink "NobodyTwiceLaw" 109 ⟨"NobodyTwiceModel", "is", "(I)I"⟩ ∈ GT := gm 1109 (by decide +kernel) (by decide +kernel)
theorem kw_1110 : Cond.instanceMethod ⟨"NobodyTwiceModel", "is", "(I)I"⟩ ∈ GT := gm 1110 (by decide +kernel) (by decide +kernel)
theorem kw_1111 : Cond.selects "NobodyTwiceModel" ⟨"NobodyTwiceModel", "is", "(I)I"⟩ ⟨"NobodyTwiceModel", "is", "(I)I"⟩ ∈ GT := gm 1111 (by decide +kernel) (by decide +kernel)
theorem kw_1112 : Cond.code ⟨"NobodyTwiceModel", "is", "(I)I"⟩ prog_14_method_51_code 2 (Option.some Jvm.ClassFile.FieldType.int) ∈ GT := gm 1112 (by decide +kernel) (by decide +kernel)
theorem kw_1113 : Cond.methodLink "NobodyTwiceModel" 164 ⟨"NobodyTwiceModel", "kindsOf", "(I)I"⟩ ∈ GT := gm 1113 (by decide +kernel) (by decide +kernel)
theorem kw_1115 : Cond.instanceMethod ⟨"NobodyTwiceModel", "kindsOf", "(I)I"⟩ ∈ GT := gm 1115 (by decide +kernel) (by decide +kernel)
theorem kw_1116 : Cond.code ⟨"NobodyTwiceModel", "kindsOf", "(I)I"⟩ prog_14_method_50_code 7 (Option.some Jvm.ClassFile.FieldType.int) ∈ GT := gm 1116 (by decide +kernel) (by decide +kernel)
theorem kw_1117 : Cond.methodLink "NobodyTwiceLaw" 113 ⟨"NobodyTwiceModel", "offer", "(I)I"⟩ ∈ GT := gm 1117 (by decide +kernel) (by decide +kernel)
theorem kw_1118 : Cond.instanceMethod ⟨"NobodyTwiceModel", "offer", "(I)I"⟩ ∈ GT := gm 1118 (by decide +kernel) (by decide +kernel)
theorem kw_1119 : Cond.selects "NobodyTwiceModel" ⟨"NobodyTwiceModel", "offer", "(I)I"⟩ ⟨"NobodyTwiceModel", "offer", "(I)I"⟩ ∈ GT := gm 1119 (by decide +kernel) (by decide +kernel)
theorem kw_1120 : Cond.code ⟨"NobodyTwiceModel", "offer", "(I)I"⟩ prog_14_method_52_code 9 (Option.some Jvm.ClassFile.FieldType.int) ∈ GT := gm 1120 (by decide +kernel) (by decide +kernel)
theorem kw_1121 : Cond.constant "NobodyTwiceModel" 167 1000000 ∈ GT := gm 1121 (by decide +kernel) (by decide +kernel)
theorem kw_1122 : Cond.methodLink "NobodyTwiceLaw" 117 ⟨"NobodyTwiceModel", "may", "(II)I"⟩ ∈ GT := gm 1122 (by decide +kernel) (by decide +kernel)
theorem kw_1123 : Cond.instanceMethod ⟨"NobodyTwiceModel", "may", "(II)I"⟩ ∈ GT := gm 1123 (by decide +kernel) (by decide +kernel)
theorem kw_1124 : Cond.selects "NobodyTwiceModel" ⟨"NobodyTwiceModel", "may", "(II)I"⟩ ⟨"NobodyTwiceModel", "may", "(II)I"⟩ ∈ GT := gm 1124 (by decide +kernel) (by decide +kernel)
theorem kw_1125 : Cond.code ⟨"NobodyTwiceModel", "may", "(II)I"⟩ prog_14_method_55_code 8 (Option.some Jvm.ClassFile.FieldType.int) ∈ GT := gm 1125 (by decide +kernel) (by decide +kernel)
theorem kw_1126 : Cond.methodLink "NobodyTwiceModel" 172 ⟨"NobodyTwiceModel", "isBeaten", "(III)Z"⟩ ∈ GT := gm 1126 (by decide +kernel) (by decide +kernel)
theorem kw_1128 : Cond.instanceMethod ⟨"NobodyTwiceModel", "isBeaten", "(III)Z"⟩ ∈ GT := gm 1128 (by decide +kernel) (by decide +kernel)
theorem kw_1129 : Cond.code ⟨"NobodyTwiceModel", "isBeaten", "(III)Z"⟩ prog_14_method_54_code 4 (Option.some Jvm.ClassFile.FieldType.boolean) ∈ GT := gm 1129 (by decide +kernel) (by decide +kernel)
theorem kw_1130 : Cond.methodLink "NobodyTwiceModel" 168 ⟨"NobodyTwiceModel", "goodThen", "(IIII)I"⟩ ∈ GT := gm 1130 (by decide +kernel) (by decide +kernel)
theorem kw_1132 : Cond.instanceMethod ⟨"NobodyTwiceModel", "goodThen", "(IIII)I"⟩ ∈ GT := gm 1132 (by decide +kernel) (by decide +kernel)
theorem kw_1133 : Cond.code ⟨"NobodyTwiceModel", "goodThen", "(IIII)I"⟩ prog_14_method_53_code 7 (Option.some Jvm.ClassFile.FieldType.int) ∈ GT := gm 1133 (by decide +kernel) (by decide +kernel)
theorem kw_1134 : Cond.methodLink "NobodyTwiceLaw" 121 ⟨"NobodyTwiceModel", "clash", "()I"⟩ ∈ GT := gm 1134 (by decide +kernel) (by decide +kernel)
theorem kw_1135 : Cond.instanceMethod ⟨"NobodyTwiceModel", "clash", "()I"⟩ ∈ GT := gm 1135 (by decide +kernel) (by decide +kernel)
theorem kw_1136 : Cond.selects "NobodyTwiceModel" ⟨"NobodyTwiceModel", "clash", "()I"⟩ ⟨"NobodyTwiceModel", "clash", "()I"⟩ ∈ GT := gm 1136 (by decide +kernel) (by decide +kernel)
theorem kw_1137 : Cond.code ⟨"NobodyTwiceModel", "clash", "()I"⟩ prog_14_method_56_code 3 (Option.some Jvm.ClassFile.FieldType.int) ∈ GT := gm 1137 (by decide +kernel) (by decide +kernel)
theorem kw_1138 : Cond.methodLink "NobodyTwiceLaw" 125 ⟨"NobodyTwiceModel", "odds", "(II)I"⟩ ∈ GT := gm 1138 (by decide +kernel) (by decide +kernel)
theorem kw_1139 : Cond.instanceMethod ⟨"NobodyTwiceModel", "odds", "(II)I"⟩ ∈ GT := gm 1139 (by decide +kernel) (by decide +kernel)
theorem kw_1140 : Cond.selects "NobodyTwiceModel" ⟨"NobodyTwiceModel", "odds", "(II)I"⟩ ⟨"NobodyTwiceModel", "odds", "(II)I"⟩ ∈ GT := gm 1140 (by decide +kernel) (by decide +kernel)
theorem kw_1141 : Cond.code ⟨"NobodyTwiceModel", "odds", "(II)I"⟩ prog_14_method_58_code 5 (Option.some Jvm.ClassFile.FieldType.int) ∈ GT := gm 1141 (by decide +kernel) (by decide +kernel)
theorem kw_1142 : Cond.methodLink "NobodyTwiceModel" 178 ⟨"NobodyTwiceModel", "fraction", "(JJ)V"⟩ ∈ GT := gm 1142 (by decide +kernel) (by decide +kernel)
theorem kw_1144 : Cond.instanceMethod ⟨"NobodyTwiceModel", "fraction", "(JJ)V"⟩ ∈ GT := gm 1144 (by decide +kernel) (by decide +kernel)
theorem kw_1145 : Cond.code ⟨"NobodyTwiceModel", "fraction", "(JJ)V"⟩ prog_14_method_57_code 11 (Option.none : Option Jvm.ClassFile.FieldType) ∈ GT := gm 1145 (by decide +kernel) (by decide +kernel)
theorem kw_1146 : Cond.methodLink "NobodyTwiceLaw" 129 ⟨"NobodyTwiceModel", "valleys", "(II)I"⟩ ∈ GT := gm 1146 (by decide +kernel) (by decide +kernel)
theorem kw_1147 : Cond.instanceMethod ⟨"NobodyTwiceModel", "valleys", "(II)I"⟩ ∈ GT := gm 1147 (by decide +kernel) (by decide +kernel)
theorem kw_1148 : Cond.selects "NobodyTwiceModel" ⟨"NobodyTwiceModel", "valleys", "(II)I"⟩ ⟨"NobodyTwiceModel", "valleys", "(II)I"⟩ ∈ GT := gm 1148 (by decide +kernel) (by decide +kernel)
theorem kw_1149 : Cond.code ⟨"NobodyTwiceModel", "valleys", "(II)I"⟩ prog_14_method_59_code 8 (Option.some Jvm.ClassFile.FieldType.int) ∈ GT := gm 1149 (by decide +kernel) (by decide +kernel)
theorem kw_1150 : Cond.constantLong "NobodyTwiceModel" 182 999999 ∈ GT := gm 1150 (by decide +kernel) (by decide +kernel)
theorem kw_1151 : Cond.constantLong "NobodyTwiceModel" 184 60 ∈ GT := gm 1151 (by decide +kernel) (by decide +kernel)
theorem kw_1152 : Cond.constantLong "NobodyTwiceModel" 186 1103515245 ∈ GT := gm 1152 (by decide +kernel) (by decide +kernel)
theorem kw_1153 : Cond.constantLong "NobodyTwiceModel" 188 12345 ∈ GT := gm 1153 (by decide +kernel) (by decide +kernel)
theorem kw_1154 : Cond.constantLong "NobodyTwiceModel" 190 2147483648 ∈ GT := gm 1154 (by decide +kernel) (by decide +kernel)
theorem kw_1155 : Cond.constantLong "NobodyTwiceModel" 192 65536 ∈ GT := gm 1155 (by decide +kernel) (by decide +kernel)
theorem kw_1156 : Cond.constantLong "NobodyTwiceModel" 194 3 ∈ GT := gm 1156 (by decide +kernel) (by decide +kernel)
theorem kw_1157 : Cond.constantLong "NobodyTwiceModel" 196 1048576 ∈ GT := gm 1157 (by decide +kernel) (by decide +kernel)
theorem kw_1158 : Cond.methodLink "NobodyTwiceLaw" 32 ⟨"NobodyTwiceModel", "type", "(I)I"⟩ ∈ GT := gm 1158 (by decide +kernel) (by decide +kernel)
theorem kw_1159 : Cond.instanceMethod ⟨"NobodyTwiceModel", "type", "(I)I"⟩ ∈ GT := gm 1159 (by decide +kernel) (by decide +kernel)
theorem kw_1160 : Cond.selects "NobodyTwiceModel" ⟨"NobodyTwiceModel", "type", "(I)I"⟩ ⟨"NobodyTwiceModel", "type", "(I)I"⟩ ∈ GT := gm 1160 (by decide +kernel) (by decide +kernel)
theorem kw_1161 : Cond.code ⟨"NobodyTwiceModel", "type", "(I)I"⟩ prog_14_method_60_code 2 (Option.some Jvm.ClassFile.FieldType.int) ∈ GT := gm 1161 (by decide +kernel) (by decide +kernel)
theorem kw_1162 : Cond.constantLong "NobodyTwiceModel" 198 127 ∈ GT := gm 1162 (by decide +kernel) (by decide +kernel)
theorem kw_1163 : Cond.methodLink "NobodyTwiceLaw" 36 ⟨"NobodyTwiceModel", "clear", "()I"⟩ ∈ GT := gm 1163 (by decide +kernel) (by decide +kernel)
theorem kw_1164 : Cond.instanceMethod ⟨"NobodyTwiceModel", "clear", "()I"⟩ ∈ GT := gm 1164 (by decide +kernel) (by decide +kernel)
theorem kw_1165 : Cond.selects "NobodyTwiceModel" ⟨"NobodyTwiceModel", "clear", "()I"⟩ ⟨"NobodyTwiceModel", "clear", "()I"⟩ ∈ GT := gm 1165 (by decide +kernel) (by decide +kernel)
theorem kw_1166 : Cond.code ⟨"NobodyTwiceModel", "clear", "()I"⟩ prog_14_method_61_code 2 (Option.some Jvm.ClassFile.FieldType.int) ∈ GT := gm 1166 (by decide +kernel) (by decide +kernel)
theorem kw_1167 : Cond.methodLink "NobodyTwiceLaw" 40 ⟨"NobodyTwiceModel", "read", "()I"⟩ ∈ GT := gm 1167 (by decide +kernel) (by decide +kernel)
theorem kw_1168 : Cond.instanceMethod ⟨"NobodyTwiceModel", "read", "()I"⟩ ∈ GT := gm 1168 (by decide +kernel) (by decide +kernel)
theorem kw_1169 : Cond.selects "NobodyTwiceModel" ⟨"NobodyTwiceModel", "read", "()I"⟩ ⟨"NobodyTwiceModel", "read", "()I"⟩ ∈ GT := gm 1169 (by decide +kernel) (by decide +kernel)
theorem kw_1170 : Cond.code ⟨"NobodyTwiceModel", "read", "()I"⟩ prog_14_method_71_code 3 (Option.some Jvm.ClassFile.FieldType.int) ∈ GT := gm 1170 (by decide +kernel) (by decide +kernel)
theorem kw_1171 : Cond.methodLink "NobodyTwiceModel" 230 ⟨"NobodyTwiceModel", "lookAt", "(I)V"⟩ ∈ GT := gm 1171 (by decide +kernel) (by decide +kernel)
theorem kw_1173 : Cond.instanceMethod ⟨"NobodyTwiceModel", "lookAt", "(I)V"⟩ ∈ GT := gm 1173 (by decide +kernel) (by decide +kernel)
theorem kw_1174 : Cond.code ⟨"NobodyTwiceModel", "lookAt", "(I)V"⟩ prog_14_method_64_code 5 (Option.none : Option Jvm.ClassFile.FieldType) ∈ GT := gm 1174 (by decide +kernel) (by decide +kernel)
theorem kw_1175 : Cond.methodLink "NobodyTwiceModel" 224 ⟨"NobodyTwiceModel", "isSmall", "(I)Z"⟩ ∈ GT := gm 1175 (by decide +kernel) (by decide +kernel)
theorem kw_1176 : Cond.static ⟨"NobodyTwiceModel", "isSmall", "(I)Z"⟩ ∈ GT := gm 1176 (by decide +kernel) (by decide +kernel)
theorem kw_1177 : Cond.code ⟨"NobodyTwiceModel", "isSmall", "(I)Z"⟩ prog_14_method_62_code 1 (Option.some Jvm.ClassFile.FieldType.boolean) ∈ GT := gm 1177 (by decide +kernel) (by decide +kernel)
theorem kw_1178 : Cond.constantLong "NobodyTwiceModel" 204 97 ∈ GT := gm 1178 (by decide +kernel) (by decide +kernel)
theorem kw_1179 : Cond.constantLong "NobodyTwiceModel" 206 122 ∈ GT := gm 1179 (by decide +kernel) (by decide +kernel)
theorem kw_1180 : Cond.methodLink "NobodyTwiceModel" 227 ⟨"NobodyTwiceModel", "isFigure", "(I)Z"⟩ ∈ GT := gm 1180 (by decide +kernel) (by decide +kernel)
theorem kw_1181 : Cond.static ⟨"NobodyTwiceModel", "isFigure", "(I)Z"⟩ ∈ GT := gm 1181 (by decide +kernel) (by decide +kernel)
theorem kw_1182 : Cond.code ⟨"NobodyTwiceModel", "isFigure", "(I)Z"⟩ prog_14_method_63_code 1 (Option.some Jvm.ClassFile.FieldType.boolean) ∈ GT := gm 1182 (by decide +kernel) (by decide +kernel)
theorem kw_1183 : Cond.constantLong "NobodyTwiceModel" 208 48 ∈ GT := gm 1183 (by decide +kernel) (by decide +kernel)
theorem kw_1184 : Cond.constantLong "NobodyTwiceModel" 210 57 ∈ GT := gm 1184 (by decide +kernel) (by decide +kernel)
theorem kw_1185 : Cond.methodLink "NobodyTwiceModel" 239 ⟨"NobodyTwiceModel", "spells", "(IIIIIII)Z"⟩ ∈ GT := gm 1185 (by decide +kernel) (by decide +kernel)
theorem kw_1187 : Cond.instanceMethod ⟨"NobodyTwiceModel", "spells", "(IIIIIII)Z"⟩ ∈ GT := gm 1187 (by decide +kernel) (by decide +kernel)
theorem kw_1188 : Cond.code ⟨"NobodyTwiceModel", "spells", "(IIIIIII)Z"⟩ prog_14_method_66_code 10 (Option.some Jvm.ClassFile.FieldType.boolean) ∈ GT := gm 1188 (by decide +kernel) (by decide +kernel)
theorem kw_1189 : Cond.methodLink "NobodyTwiceModel" 233 ⟨"NobodyTwiceModel", "goBehind", "()V"⟩ ∈ GT := gm 1189 (by decide +kernel) (by decide +kernel)
theorem kw_1191 : Cond.instanceMethod ⟨"NobodyTwiceModel", "goBehind", "()V"⟩ ∈ GT := gm 1191 (by decide +kernel) (by decide +kernel)
theorem kw_1192 : Cond.code ⟨"NobodyTwiceModel", "goBehind", "()V"⟩ prog_14_method_65_code 1 (Option.none : Option Jvm.ClassFile.FieldType) ∈ GT := gm 1192 (by decide +kernel) (by decide +kernel)
theorem kw_1193 : Cond.methodLink "NobodyTwiceModel" 250 ⟨"NobodyTwiceModel", "takesItem", "()Z"⟩ ∈ GT := gm 1193 (by decide +kernel) (by decide +kernel)
theorem kw_1195 : Cond.instanceMethod ⟨"NobodyTwiceModel", "takesItem", "()Z"⟩ ∈ GT := gm 1195 (by decide +kernel) (by decide +kernel)
theorem kw_1196 : Cond.code ⟨"NobodyTwiceModel", "takesItem", "()Z"⟩ prog_14_method_70_code 1 (Option.some Jvm.ClassFile.FieldType.boolean) ∈ GT := gm 1196 (by decide +kernel) (by decide +kernel)
theorem kw_1197 : Cond.methodLink "NobodyTwiceModel" 243 ⟨"NobodyTwiceModel", "takesPrize", "()Z"⟩ ∈ GT := gm 1197 (by decide +kernel) (by decide +kernel)
theorem kw_1199 : Cond.instanceMethod ⟨"NobodyTwiceModel", "takesPrize", "()Z"⟩ ∈ GT := gm 1199 (by decide +kernel) (by decide +kernel)
theorem kw_1200 : Cond.code ⟨"NobodyTwiceModel", "takesPrize", "()Z"⟩ prog_14_method_68_code 1 (Option.some Jvm.ClassFile.FieldType.boolean) ∈ GT := gm 1200 (by decide +kernel) (by decide +kernel)
theorem kw_1201 : Cond.methodLink "NobodyTwiceModel" 236 ⟨"NobodyTwiceModel", "takes", "(III)Z"⟩ ∈ GT := gm 1201 (by decide +kernel) (by decide +kernel)
theorem kw_1203 : Cond.instanceMethod ⟨"NobodyTwiceModel", "takes", "(III)Z"⟩ ∈ GT := gm 1203 (by decide +kernel) (by decide +kernel)
theorem kw_1204 : Cond.code ⟨"NobodyTwiceModel", "takes", "(III)Z"⟩ prog_14_method_67_code 4 (Option.some Jvm.ClassFile.FieldType.boolean) ∈ GT := gm 1204 (by decide +kernel) (by decide +kernel)
theorem kw_1205 : Cond.methodLink "NobodyTwiceModel" 247 ⟨"NobodyTwiceModel", "takesOne", "()Z"⟩ ∈ GT := gm 1205 (by decide +kernel) (by decide +kernel)
theorem kw_1207 : Cond.instanceMethod ⟨"NobodyTwiceModel", "takesOne", "()Z"⟩ ∈ GT := gm 1207 (by decide +kernel) (by decide +kernel)
theorem kw_1208 : Cond.code ⟨"NobodyTwiceModel", "takesOne", "()Z"⟩ prog_14_method_69_code 1 (Option.some Jvm.ClassFile.FieldType.boolean) ∈ GT := gm 1208 (by decide +kernel) (by decide +kernel)
theorem kw_1209 : Cond.methodLink "NobodyTwiceLaw" 134 ⟨"NobodyTwiceModel", "part", "(I)J"⟩ ∈ GT := gm 1209 (by decide +kernel) (by decide +kernel)
theorem kw_1210 : Cond.instanceMethod ⟨"NobodyTwiceModel", "part", "(I)J"⟩ ∈ GT := gm 1210 (by decide +kernel) (by decide +kernel)
theorem kw_1211 : Cond.selects "NobodyTwiceModel" ⟨"NobodyTwiceModel", "part", "(I)J"⟩ ⟨"NobodyTwiceModel", "part", "(I)J"⟩ ∈ GT := gm 1211 (by decide +kernel) (by decide +kernel)
theorem kw_1212 : Cond.code ⟨"NobodyTwiceModel", "part", "(I)J"⟩ prog_14_method_72_code 2 (Option.some Jvm.ClassFile.FieldType.long) ∈ GT := gm 1212 (by decide +kernel) (by decide +kernel)
theorem kw_1213 : Cond.methodLink "NobodyTwiceLaw" 138 ⟨"NobodyTwiceModel", "image", "(I)I"⟩ ∈ GT := gm 1213 (by decide +kernel) (by decide +kernel)
theorem kw_1214 : Cond.instanceMethod ⟨"NobodyTwiceModel", "image", "(I)I"⟩ ∈ GT := gm 1214 (by decide +kernel) (by decide +kernel)
theorem kw_1215 : Cond.selects "NobodyTwiceModel" ⟨"NobodyTwiceModel", "image", "(I)I"⟩ ⟨"NobodyTwiceModel", "image", "(I)I"⟩ ∈ GT := gm 1215 (by decide +kernel) (by decide +kernel)
theorem kw_1216 : Cond.code ⟨"NobodyTwiceModel", "image", "(I)I"⟩ prog_14_method_73_code 3 (Option.some Jvm.ClassFile.FieldType.int) ∈ GT := gm 1216 (by decide +kernel) (by decide +kernel)
theorem kw_1217 : Cond.methodLink "NobodyTwiceLaw" 142 ⟨"NobodyTwiceModel", "from", "(I)I"⟩ ∈ GT := gm 1217 (by decide +kernel) (by decide +kernel)
theorem kw_1218 : Cond.instanceMethod ⟨"NobodyTwiceModel", "from", "(I)I"⟩ ∈ GT := gm 1218 (by decide +kernel) (by decide +kernel)
theorem kw_1219 : Cond.selects "NobodyTwiceModel" ⟨"NobodyTwiceModel", "from", "(I)I"⟩ ⟨"NobodyTwiceModel", "from", "(I)I"⟩ ∈ GT := gm 1219 (by decide +kernel) (by decide +kernel)
theorem kw_1220 : Cond.code ⟨"NobodyTwiceModel", "from", "(I)I"⟩ prog_14_method_74_code 3 (Option.some Jvm.ClassFile.FieldType.int) ∈ GT := gm 1220 (by decide +kernel) (by decide +kernel)
theorem kw_1221 : Cond.methodLink "NobodyTwiceLaw" 146 ⟨"NobodyTwiceModel", "status", "(I)I"⟩ ∈ GT := gm 1221 (by decide +kernel) (by decide +kernel)
theorem kw_1222 : Cond.instanceMethod ⟨"NobodyTwiceModel", "status", "(I)I"⟩ ∈ GT := gm 1222 (by decide +kernel) (by decide +kernel)
theorem kw_1223 : Cond.selects "NobodyTwiceModel" ⟨"NobodyTwiceModel", "status", "(I)I"⟩ ⟨"NobodyTwiceModel", "status", "(I)I"⟩ ∈ GT := gm 1223 (by decide +kernel) (by decide +kernel)
theorem kw_1224 : Cond.code ⟨"NobodyTwiceModel", "status", "(I)I"⟩ prog_14_method_75_code 2 (Option.some Jvm.ClassFile.FieldType.int) ∈ GT := gm 1224 (by decide +kernel) (by decide +kernel)
theorem kw_1225 : Cond.methodLink "NobodyTwiceLaw" 150 ⟨"NobodyTwiceModel", "count", "(I)I"⟩ ∈ GT := gm 1225 (by decide +kernel) (by decide +kernel)
theorem kw_1226 : Cond.instanceMethod ⟨"NobodyTwiceModel", "count", "(I)I"⟩ ∈ GT := gm 1226 (by decide +kernel) (by decide +kernel)
theorem kw_1227 : Cond.selects "NobodyTwiceModel" ⟨"NobodyTwiceModel", "count", "(I)I"⟩ ⟨"NobodyTwiceModel", "count", "(I)I"⟩ ∈ GT := gm 1227 (by decide +kernel) (by decide +kernel)
theorem kw_1228 : Cond.code ⟨"NobodyTwiceModel", "count", "(I)I"⟩ prog_14_method_79_code 2 (Option.some Jvm.ClassFile.FieldType.int) ∈ GT := gm 1228 (by decide +kernel) (by decide +kernel)
theorem kw_1229 : Cond.methodLink "NobodyTwiceModel" 259 ⟨"NobodyTwiceModel", "counted", "(I)I"⟩ ∈ GT := gm 1229 (by decide +kernel) (by decide +kernel)
theorem kw_1231 : Cond.instanceMethod ⟨"NobodyTwiceModel", "counted", "(I)I"⟩ ∈ GT := gm 1231 (by decide +kernel) (by decide +kernel)
theorem kw_1232 : Cond.code ⟨"NobodyTwiceModel", "counted", "(I)I"⟩ prog_14_method_78_code 2 (Option.some Jvm.ClassFile.FieldType.int) ∈ GT := gm 1232 (by decide +kernel) (by decide +kernel)
theorem kw_1233 : Cond.methodLink "NobodyTwiceModel" 253 ⟨"NobodyTwiceModel", "manyPrizes", "()I"⟩ ∈ GT := gm 1233 (by decide +kernel) (by decide +kernel)
theorem kw_1235 : Cond.instanceMethod ⟨"NobodyTwiceModel", "manyPrizes", "()I"⟩ ∈ GT := gm 1235 (by decide +kernel) (by decide +kernel)
theorem kw_1236 : Cond.code ⟨"NobodyTwiceModel", "manyPrizes", "()I"⟩ prog_14_method_76_code 3 (Option.some Jvm.ClassFile.FieldType.int) ∈ GT := gm 1236 (by decide +kernel) (by decide +kernel)
theorem kw_1237 : Cond.methodLink "NobodyTwiceModel" 256 ⟨"NobodyTwiceModel", "manyWins", "()I"⟩ ∈ GT := gm 1237 (by decide +kernel) (by decide +kernel)
theorem kw_1239 : Cond.instanceMethod ⟨"NobodyTwiceModel", "manyWins", "()I"⟩ ∈ GT := gm 1239 (by decide +kernel) (by decide +kernel)
theorem kw_1240 : Cond.code ⟨"NobodyTwiceModel", "manyWins", "()I"⟩ prog_14_method_77_code 3 (Option.some Jvm.ClassFile.FieldType.int) ∈ GT := gm 1240 (by decide +kernel) (by decide +kernel)
theorem kw_1241 : Cond.methodLink "NobodyTwiceLaw" 155 ⟨"NobodyTwiceModel", "digest", "()J"⟩ ∈ GT := gm 1241 (by decide +kernel) (by decide +kernel)
theorem kw_1242 : Cond.instanceMethod ⟨"NobodyTwiceModel", "digest", "()J"⟩ ∈ GT := gm 1242 (by decide +kernel) (by decide +kernel)
theorem kw_1243 : Cond.selects "NobodyTwiceModel" ⟨"NobodyTwiceModel", "digest", "()J"⟩ ⟨"NobodyTwiceModel", "digest", "()J"⟩ ∈ GT := gm 1243 (by decide +kernel) (by decide +kernel)
theorem kw_1244 : Cond.code ⟨"NobodyTwiceModel", "digest", "()J"⟩ prog_14_method_81_code 4 (Option.some Jvm.ClassFile.FieldType.long) ∈ GT := gm 1244 (by decide +kernel) (by decide +kernel)
theorem kw_1245 : Cond.constantLong "NobodyTwiceModel" 264 1303 ∈ GT := gm 1245 (by decide +kernel) (by decide +kernel)
theorem kw_1246 : Cond.constantLong "NobodyTwiceModel" 262 31 ∈ GT := gm 1246 (by decide +kernel) (by decide +kernel)
theorem kw_1247 : Cond.methodLink "NobodyTwiceModel" 266 ⟨"NobodyTwiceModel", "sums", "(JII)J"⟩ ∈ GT := gm 1247 (by decide +kernel) (by decide +kernel)
theorem kw_1249 : Cond.instanceMethod ⟨"NobodyTwiceModel", "sums", "(JII)J"⟩ ∈ GT := gm 1249 (by decide +kernel) (by decide +kernel)
theorem kw_1250 : Cond.code ⟨"NobodyTwiceModel", "sums", "(JII)J"⟩ prog_14_method_80_code 8 (Option.some Jvm.ClassFile.FieldType.long) ∈ GT := gm 1250 (by decide +kernel) (by decide +kernel)
theorem kw_1251 : Cond.sameMethod "NobodyTwice$Saver" "NobodyTwice$Saver" "wants" "(II)Z" ∈ GT := gm 1251 (by decide +kernel) (by decide +kernel)
theorem kw_1257 : Cond.fieldLink "java/lang/String" 9 "java/lang/String" "value" "[B" ∈ GT := gm 1257 (by decide +kernel) (by decide +kernel)
theorem kw_1258 : Cond.fieldLink "java/lang/String" 15 "java/lang/String" "coder" "B" ∈ GT := gm 1258 (by decide +kernel) (by decide +kernel)
theorem gX0 : ∀ w ∈ u_ws RX0 TX0 5, w ∈ GT := gmL [241, 243, 245, 247, 249] (by decide +kernel) (by decide +kernel)
theorem gX1 : ∀ w ∈ u_ws RX1 TX1 0, w ∈ GT := gmL [] (by decide +kernel) (by decide +kernel)
theorem gX2 : ∀ w ∈ u_ws RX2 TX2 4, w ∈ GT := gmL [265, 267, 269, 271] (by decide +kernel) (by decide +kernel)
theorem gX3 : ∀ w ∈ u_ws RX3 TX3 0, w ∈ GT := gmL [] (by decide +kernel) (by decide +kernel)
theorem gX4 : ∀ w ∈ u_ws RX4 TX4 0, w ∈ GT := gmL [] (by decide +kernel) (by decide +kernel)
theorem gX5 : ∀ w ∈ u_ws RX5 TX5 0, w ∈ GT := gmL [] (by decide +kernel) (by decide +kernel)
theorem gX6 : ∀ w ∈ u_ws RX6 TX6 0, w ∈ GT := gmL [] (by decide +kernel) (by decide +kernel)
theorem gX7 : ∀ w ∈ u_ws RX7 TX7 0, w ∈ GT := gmL [] (by decide +kernel) (by decide +kernel)
theorem gX8 : ∀ w ∈ u_ws RX8 TX8 6, w ∈ GT := gmL [287, 289, 291, 293, 295, 297] (by decide +kernel) (by decide +kernel)
theorem gX9 : ∀ w ∈ u_ws RX9 TX9 2, w ∈ GT := gmL [97, 99] (by decide +kernel) (by decide +kernel)
theorem gX10 : ∀ w ∈ u_ws RX10 TX10 13, w ∈ GT := gmL [148, 150, 152, 154, 156, 158, 160, 162, 164, 166, 168, 170, 172] (by decide +kernel) (by decide +kernel)
theorem gX11 : ∀ w ∈ u_ws RX11 TX11 12, w ∈ GT := gmL [312, 314, 316, 318, 320, 322, 324, 326, 328, 330, 332, 334] (by decide +kernel) (by decide +kernel)
theorem gX12 : ∀ w ∈ u_ws RX12 TX12 21, w ∈ GT := gmL [885, 887, 889, 891, 893, 895, 897, 899, 901, 903, 905, 907, 909, 911, 913, 915, 917, 919, 921, 923, 925] (by decide +kernel) (by decide +kernel)
/-- the classes whose objects the worlds hold -/
abbrev cls : List vw_C := [(RX0, TX0, 5), (RX1, TX1, 0), (RX2, TX2, 4), (RX3, TX3, 0), (RX4, TX4, 0), (RX5, TX5, 0), (RX6, TX6, 0), (RX7, TX7, 0), (RX8, TX8, 6), (RX9, TX9, 2), (RX10, TX10, 13), (RX11, TX11, 12), (RX12, TX12, 21)]
def nwF : List (String × Nat × String × String × String × String) := [("NobodyTwice$Valley", 65, "NobodyTwice$Table", "rows", "I", "NobodyTwice"), ("NobodyTwice$Contest", 122, "NobodyTwice$Table", "rows", "I", "NobodyTwice"), ("NobodyTwice", 208, "NobodyTwice$Table", "rows", "I", "NobodyTwice"), ("NobodyTwice$Foresight", 69, "NobodyTwice$Valley", "sorts", "[I", "NobodyTwice"), ("NobodyTwice$Contest", 76, "NobodyTwice$Valley", "sorts", "[I", "NobodyTwice"), ("NobodyTwice", 154, "NobodyTwice$Valley", "sorts", "[I", "NobodyTwice"), ("NobodyTwice", 72, "NobodyTwice$Valley", "worths", "[I", "NobodyTwice"), ("NobodyTwice$Contest", 83, "NobodyTwice$Valley", "worths", "[I", "NobodyTwice"), ("NobodyTwice$Foresight", 113, "NobodyTwice$Valley", "worths", "[I", "NobodyTwice"), ("NobodyTwice$Contest", 54, "NobodyTwice$Valley", "kinds", "[I", "NobodyTwice"), ("NobodyTwice", 138, "NobodyTwice$Valley", "kinds", "[I", "NobodyTwice"), ("NobodyTwice$Contest", 90, "NobodyTwice$Valley", "arts", "[I", "NobodyTwice"), ("NobodyTwice", 151, "NobodyTwice$Valley", "arts", "[I", "NobodyTwice"), ("NobodyTwice$Contest", 59, "NobodyTwice$Valley", "wins", "[I", "NobodyTwice"), ("NobodyTwice$Foresight", 66, "NobodyTwice$Valley", "wins", "[I", "NobodyTwice"), ("NobodyTwice", 141, "NobodyTwice$Valley", "wins", "[I", "NobodyTwice"), ("NobodyTwice", 144, "NobodyTwice$Valley", "seconds", "[I", "NobodyTwice"), ("NobodyTwice", 204, "NobodyTwice$Valley", "notes", "LNobodyTwice$Table;", "NobodyTwice"), ("NobodyTwice$Contest", 134, "NobodyTwice$Valley", "beatings", "LNobodyTwice$Table;", "NobodyTwice"), ("NobodyTwice", 216, "NobodyTwice$Valley", "beatings", "LNobodyTwice$Table;", "NobodyTwice"), ("NobodyTwice", 57, "NobodyTwice$Valley", "people", "I", "NobodyTwice"), ("NobodyTwice$Script", 68, "NobodyTwice$Valley", "people", "I", "NobodyTwice"), ("NobodyTwice$Foresight", 63, "NobodyTwice$Valley", "people", "I", "NobodyTwice"), ("NobodyTwice$Contest", 72, "NobodyTwice$Valley", "people", "I", "NobodyTwice"), ("NobodyTwice$Foresight", 38, "NobodyTwice$Valley", "year", "I", "NobodyTwice"), ("NobodyTwice", 109, "NobodyTwice$Valley", "year", "I", "NobodyTwice"), ("NobodyTwice$Contest", 106, "NobodyTwice$Valley", "year", "I", "NobodyTwice"), ("NobodyTwice", 80, "NobodyTwice$Valley", "undoable", "I", "NobodyTwice"), ("NobodyTwice", 167, "NobodyTwice$Contest", "entrants", "I", "NobodyTwice"), ("NobodyTwice$Foresight", 46, "NobodyTwice$Contest", "first", "I", "NobodyTwice"), ("NobodyTwice", 122, "NobodyTwice$Contest", "first", "I", "NobodyTwice"), ("NobodyTwice$Foresight", 49, "NobodyTwice$Contest", "second", "I", "NobodyTwice"), ("NobodyTwice", 125, "NobodyTwice$Contest", "second", "I", "NobodyTwice"), ("NobodyTwice", 176, "NobodyTwice$Foresight", "trial", "LNobodyTwice$Valley;", "NobodyTwice"), ("NobodyTwice", 94, "NobodyTwice$Script", "length", "I", "NobodyTwice")]
def nwM : List (String × Nat × MethodName × String) := [("NobodyTwice$Valley", 38, ⟨"NobodyTwice$Table", "<init>", "()V"⟩, "NobodyTwice"), ("NobodyTwice$Contest", 21, ⟨"NobodyTwice$Plain", "<init>", "()V"⟩, "NobodyTwice"), ("NobodyTwice$Contest", 24, ⟨"NobodyTwice$Saver", "<init>", "()V"⟩, "NobodyTwice"), ("NobodyTwice$Saver", 1, ⟨"NobodyTwice$Plain", "<init>", "()V"⟩, "NobodyTwice"), ("NobodyTwice$Contest", 27, ⟨"NobodyTwice$Hider", "<init>", "()V"⟩, "NobodyTwice"), ("NobodyTwice$Hider", 1, ⟨"NobodyTwice$Plain", "<init>", "()V"⟩, "NobodyTwice"), ("NobodyTwice$Contest", 30, ⟨"NobodyTwice$Proud", "<init>", "()V"⟩, "NobodyTwice"), ("NobodyTwice$Proud", 1, ⟨"NobodyTwice$Saver", "<init>", "()V"⟩, "NobodyTwice"), ("NobodyTwice$Contest", 33, ⟨"NobodyTwice$Dog", "<init>", "()V"⟩, "NobodyTwice"), ("NobodyTwice$Dog", 1, ⟨"NobodyTwice$Plain", "<init>", "()V"⟩, "NobodyTwice"), ("NobodyTwice$Contest", 36, ⟨"NobodyTwice$Old", "<init>", "()V"⟩, "NobodyTwice"), ("NobodyTwice$Old", 1, ⟨"NobodyTwice$Saver", "<init>", "()V"⟩, "NobodyTwice"), ("NobodyTwice", 45, ⟨"NobodyTwice$Script", "<init>", "()V"⟩, "NobodyTwice"), ("NobodyTwice$Script", 75, ⟨"NobodyTwice", "within", "(III)Z"⟩, "NobodyTwice"), ("NobodyTwice$Contest", 46, ⟨"NobodyTwice", "within", "(III)Z"⟩, "NobodyTwice"), ("NobodyTwice$Valley", 82, ⟨"NobodyTwice", "within", "(III)Z"⟩, "NobodyTwice")]
end
section
/-! THE FRAME OF ALL WALKS. A world: a fixed number of cells at fixed addresses, of fixed shape; its contents are numbers: St. -/
abbrev Sta : Type := (Nat → Nat → Int32) × (Nat → Nat → Int64)
abbrev Shp : Type := Nat → (Nat → Int32) → (Nat → Int64) → va_E
/-- constants of a world: class numbers and slots; addresses; shape; how many cells; array classes; where the three texts and their bytes lie -/
abbrev Wco : Type := va_G × (Nat → Nat) × Shp × Nat × List (ClassId × FieldType) × (Nat → Nat) × (Nat → Nat)
def wG (w : Wco) : va_G := w.1
def wad (w : Wco) : Nat → Nat := w.2.1
def wsh (w : Wco) : Shp := w.2.2.1
def wnn (w : Wco) : Nat := w.2.2.2.1
def wty (w : Wco) : List (ClassId × FieldType) := w.2.2.2.2.1
def wtK (w : Wco) : Nat → Nat := w.2.2.2.2.2.1
def wtV (w : Wco) : Nat → Nat := w.2.2.2.2.2.2
def wl (w : Wco) (σ : Sta) : va_W := (List.range (wnn w)).map fun k => (wad w k, wsh w k (σ.1 k) (σ.2 k))
def wA (w : Wco) : Nat → Prop := fun q => ∃ k, k < wnn w ∧ q = wad w k
def Wd (w : Wco) (σ : Sta) (H : Heap) : Prop := va_P (wG w) cls (wl w σ) H ∧ va_D (wA w) (wl w σ)
theorem wl_at {w : Wco} {σ : Sta} {k : Nat} (h : k < wnn w) : (wl w σ)[k]? = some (wad w k, wsh w k (σ.1 k) (σ.2 k)) := by
  simp [wl, h]
def up1 (σ : Sta) (k : Nat) (f : Nat → Int32) : Sta := (va_up σ.1 k f, σ.2)
def up2 (σ : Sta) (k : Nat) (f : Nat → Int64) : Sta := (σ.1, va_up σ.2 k f)
theorem wl_set1 {w : Wco} {σ : Sta} {k : Nat} {f : Nat → Int32} : (wl w σ).set k (wad w k, wsh w k f (σ.2 k)) = wl w (up1 σ k f) := by
  apply List.ext_getElem?
  intro i
  by_cases hi : i = k
  · subst hi
    by_cases hn : i < wnn w
    · rw [List.getElem?_set_self (by simpa [wl] using hn), wl_at hn]
      simp [up1, va_up]
    · have h1 : ((wl w σ).set i (wad w i, wsh w i f (σ.2 i)))[i]? = none := by simp [wl]; omega
      have h2 : (wl w (up1 σ i f))[i]? = none := by simp [wl]; omega
      rw [h1, h2]
  · rw [List.getElem?_set_ne (fun h => hi h.symm)]
    simp [wl, up1, va_up, hi]
theorem wl_set2 {w : Wco} {σ : Sta} {k : Nat} {f : Nat → Int64} : (wl w σ).set k (wad w k, wsh w k (σ.1 k) f) = wl w (up2 σ k f) := by
  apply List.ext_getElem?
  intro i
  by_cases hi : i = k
  · subst hi
    by_cases hn : i < wnn w
    · rw [List.getElem?_set_self (by simpa [wl] using hn), wl_at hn]
      simp [up2, va_up]
    · have h1 : ((wl w σ).set i (wad w i, wsh w i (σ.1 i) f))[i]? = none := by simp [wl]; omega
      have h2 : (wl w (up2 σ i f))[i]? = none := by simp [wl]; omega
      rw [h1, h2]
  · rw [List.getElem?_set_ne (fun h => hi h.symm)]
    simp [wl, up2, va_up, hi]
/-- what the tables say, and the constant texts: bystanders of every walk -/
def KN (U : State) : Prop := (∀ q ∈ nwF, va_Nw (.fieldLinkNest q.1 q.2.1 q.2.2.1 q.2.2.2.1 q.2.2.2.2.1 q.2.2.2.2.2) U) ∧ (∀ q ∈ nwM, va_Nw (.methodLinkNest q.1 q.2.1 q.2.2.1 q.2.2.2) U)
theorem KN.warm {s U : State} (hW : s.WarmedH U.vm) (h : KN s) : KN U := ⟨fun q hq => va_Nw.warmF hW (h.1 q hq), fun q hq => va_Nw.warmM hW (h.2 q hq)⟩
theorem KN.same {s U : State} (hv : s.vm = U.vm) (h : KN s) : KN U := ⟨fun q hq => va_Nw.same rfl hv (h.1 q hq), fun q hq => va_Nw.same rfl hv (h.2 q hq)⟩
def txL : List Nat := [6, 5, 3]
def txB : List (List Int32) := [[118, 97, 108, 108, 101, 121], [112, 114, 105, 122, 101], [111, 110, 101]]
def KS (w : Wco) (U : State) (H : Heap) : Prop := vk_S 3 txL txB (wtK w) (wtV w) (wA w) U H ∧ va_Z "java/lang/String" "COMPACT_STRINGS" "Z" (.int 1) (wA w) U H
def KR (w : Wco) (U : State) : Prop := vk_R "NobodyTwice$Script" 30 "valley" (wtK w 0) U ∧ vk_R "NobodyTwice$Script" 45 "prize" (wtK w 1) U ∧ vk_R "NobodyTwice$Script" 51 "one" (wtK w 2) U
def KK (w : Wco) (U : State) (H : Heap) : Prop := va_K (wG w) cls (wty w) U ∧ KN U ∧ KS w U H ∧ KR w U
theorem KK.warm {w : Wco} {s U : State} {H : Heap} (hW : s.WarmedH U.vm) (h : KK w s H) : KK w U H :=
  ⟨va_K.moved hW.alike h.1, h.2.1.warm hW, ⟨vk_S.moved hW.alike h.2.2.1.1, va_Z.moved hW.alike h.2.2.1.2⟩, ⟨vk_R.warm hW h.2.2.2.1, vk_R.warm hW h.2.2.2.2.1, vk_R.warm hW h.2.2.2.2.2⟩⟩
theorem KK.calling {w : Wco} {U : State} {H : Heap} {g : JFrame} {mk : MethodId} {a : Array Value} (h : KK w U H) : KK w (U.calling g mk a) H :=
  ⟨va_K.moved (u := U) (U := U.calling g mk a) (Vm.Alike.refl U.vm) h.1, h.2.1.same rfl, ⟨vk_S.moved (u := U) (U := U.calling g mk a) (Vm.Alike.refl U.vm) h.2.2.1.1, va_Z.moved (u := U) (U := U.calling g mk a) (Vm.Alike.refl U.vm) h.2.2.1.2⟩, ⟨vk_R.same rfl h.2.2.2.1, vk_R.same rfl h.2.2.2.2.1, vk_R.same rfl h.2.2.2.2.2⟩⟩
theorem KK.kept {w : Wco} {U : State} {H H1 : Heap} (h : KK w U H) (hq : ∀ a : Nat, a < H.size → ¬ wA w a → H1[a]? = H[a]?) : KK w U H1 :=
  ⟨h.1, h.2.1, ⟨vk_S.kept h.2.2.1.1 hq, va_Z.kept h.2.2.1.2 hq⟩, h.2.2.2⟩
/-- a method's end: the answer, the new contents, nothing else changed -/
def Rt (w : Wco) (o : Option Value) (σ' : Sta) : Array Value → State → Outcome → State → Prop := fun _ st oc t => (oc = .returned o ∧ Wd w σ' t.heap) ∧ va_F (wA w) st t
/-- a contract: from contents σ with the arguments av it answers o and leaves σ' -/
def Ct (l : Launch) (w : Wco) (y : MethodName) (ws : List Cond) (rm : Room) (av : List Value) (σ : Sta) (o : Option Value) (σ' : Sta) : Prop :=
  Met l y ws rm (va_Pc av (fun U => Wd w σ U.heap ∧ KK w U U.heap)) (Rt w o σ') 0 0 (wA w)
/-- the machine's own bystanders in a walk -/
abbrev Mco : Type := Program × Launch × Env × Room × State × MethodId × Array Value × List Frame × Method × Code
def mP (M : Mco) : Program := M.1
def mL (M : Mco) : Launch := M.2.1
def mE (M : Mco) : Env := M.2.2.1
def mR (M : Mco) : Room := M.2.2.2.1
def mS (M : Mco) : State := M.2.2.2.2.1
def mI (M : Mco) : MethodId := M.2.2.2.2.2.1
def mA (M : Mco) : Array Value := M.2.2.2.2.2.2.1
def mB (M : Mco) : List Frame := M.2.2.2.2.2.2.2.1
def mM (M : Mco) : Method := M.2.2.2.2.2.2.2.2.1
def mC (M : Mco) : Code := M.2.2.2.2.2.2.2.2.2
def Cx (M : Mco) (w : Wco) (cc : ByteArray) (nL : Nat) (own : String) (c0 : Cond) (ret : Option FieldType) (rm : Room) : Prop :=
  (mP M).tables.exec = Jvm.exec ∧ (mC M).code = cc ∧ (mC M).maxLocals = nL ∧ (mS M).vm.findClass own = some (mI M).cls ∧ (∀ x ∈ c0 :: GT, x.before (mA M) (mS M) = true) ∧ KK w (mS M) (mS M).heap ∧ (mM M).locks = false ∧ (mM M).sig.returnType = ret ∧ mR M = rm
def Sm (M : Mco) (w : Wco) (nL : Nat) {ρ : Type} (ov : ρ → Option Value) (pc : Nat) (lv : List (Nat × Value)) (st : List Value) (σ : Sta) (F : Option (ρ × Sta)) : Prop :=
  ∀ (r : ρ) (σ' : Sta), F = some (r, σ') → ∀ (H : Heap) (locs : List Loc) (ls : Array Slot), Wd w σ H → va_S (wA w) (mS M).heap H locs → lv_has ls nL lv →
    W (mP M) (mL M) (mE M) (mR M) (mS M) (mI M) (mA M) (mB M) (mM M) (mC M) H locs 0 0 (MQ (mB M) (Rt w (ov r) σ') (mA M) (mS M) 0 0 (wA w)) (F0 (mI M) pc ls st)
def oI (x : Int32) : Option Value := some (.int x)
def oL (x : Int64) : Option Value := some (.long x)
def oV (_ : Unit) : Option Value := none
/-! the words of the pictures -/
def fI {β : Type} (σ : Sta) (k i : Nat) (K : Int32 → Option β) : Option β := K (σ.1 k i)
def fL {β : Type} (σ : Sta) (k i : Nat) (K : Int64 → Option β) : Option β := K (σ.2 k i)
def pI {β : Type} (σ : Sta) (k i : Nat) (v : Int32) (K : Sta → Option β) : Option β := K (up1 σ k (upd (σ.1 k) i v))
def pL {β : Type} (σ : Sta) (k i : Nat) (v : Int64) (K : Sta → Option β) : Option β := K (up2 σ k (vp_updL (σ.2 k) i v))
def aI {β : Type} (σ : Sta) (k n : Nat) (i : Int32) (K : Int32 → Option β) : Option β := if i < 0 ∨ n ≤ i.toNatClampNeg then none else K (σ.1 k i.toNatClampNeg)
def sI {β : Type} (σ : Sta) (k n : Nat) (i v : Int32) (K : Sta → Option β) : Option β := if i < 0 ∨ n ≤ i.toNatClampNeg then none else K (up1 σ k (upd (σ.1 k) i.toNatClampNeg v))
def sZ {β : Type} (σ : Sta) (k n : Nat) (i v : Int32) (K : Sta → Option β) : Option β := if i < 0 ∨ n ≤ i.toNatClampNeg then none else K (up1 σ k (upd (σ.1 k) i.toNatClampNeg (vp_nar .boolean v)))
def aR {β : Type} (n : Nat) (i : Int32) (K : Nat → Option β) : Option β := if i < 0 ∨ n ≤ i.toNatClampNeg then none else K i.toNatClampNeg
def cA {α β : Type} (f : Option (α × Sta)) (K : α → Sta → Option β) : Option β := match f with
  | some q => K q.1 q.2
  | none => none
def cpI {β : Type} (σ : Sta) (k0 k1 n : Nat) (K : Sta → Option β) : Option β := K (up1 σ k1 (va_cpy (σ.1 k0) (σ.1 k1) 0 0 n))
def dvL {β : Type} (y : Int64) (F : Option β) : Option β := if y = 0 then none else F
def rZ (v : Int32) (σ : Sta) : Option (Int32 × Sta) := if v = 0 ∨ v = 1 then some (v, σ) else none
def tsw {β : Type} (x : Int32) (Fs : List (Option β)) (Fd : Option β) : Option β := if x.toInt < 0 ∨ (Fs.length : Int) ≤ x.toInt then Fd else Fs.getD x.toInt.toNat none
theorem cA_some {α β : Type} {f : Option (α × Sta)} {K : α → Sta → Option β} {r : β} (h : cA f K = some r) : ∃ a t, f = some (a, t) ∧ K a t = some r := by
  cases f with
  | none => cases h
  | some q => exact ⟨q.1, q.2, rfl, h⟩
section ROWS
variable {M : Mco} {w : Wco} {cc : ByteArray} {nL : Nat} {own : String} {c0 : Cond} {ret : Option FieldType} {rm : Room} {ρ : Type} {ov : ρ → Option Value} {pc : Nat} {lv : List (Nat × Value)} {st : List Value} {σ : Sta} {F F2 : Option (ρ × Sta)}
theorem sm_none : Sm M w nL ov pc lv st σ none := fun _ _ h => by cases h
theorem sm_sub (ks : List Nat) {lv' : List (Nat × Value)} (h : lv_pick lv ks = lv') (k : Sm M w nL ov pc lv' st σ F) : Sm M w nL ov pc lv st σ F :=
  fun r σ' e H locs ls hW hS hl => k r σ' e H locs ls hW hS (lv_sub hl ks h)
theorem sm_iconst (C : Cx M w cc nL own c0 ret rm) {n : Int} (v : Int32) (hd : decode cc pc = .ok (.iconst n, 1)) (hv : Int32.ofInt n = v) (k : Sm M w nL ov (pc + 1) lv (.int v :: st) σ F) : Sm M w nL ov pc lv st σ F :=
  fun r σ' e H locs ls hW hS hl => lv_iconst C.1 C.2.1 hd hv (k r σ' e H locs ls hW hS hl)
theorem sm_bipush (C : Cx M w cc nL own c0 ret rm) {n : Int} (v : Int32) (hd : decode cc pc = .ok (.bipush n, 2)) (hv : (Int8.ofInt n).toInt32 = v) (k : Sm M w nL ov (pc + 2) lv (.int v :: st) σ F) : Sm M w nL ov pc lv st σ F :=
  fun r σ' e H locs ls hW hS hl => lv_bipush C.1 C.2.1 hd hv (k r σ' e H locs ls hW hS hl)
theorem sm_sipush (C : Cx M w cc nL own c0 ret rm) {n : Int} (v : Int32) (hd : decode cc pc = .ok (.sipush n, 3)) (hv : (Int16.ofInt n).toInt32 = v) (k : Sm M w nL ov (pc + 3) lv (.int v :: st) σ F) : Sm M w nL ov pc lv st σ F :=
  fun r σ' e H locs ls hW hS hl => lv_sipush C.1 C.2.1 hd hv (k r σ' e H locs ls hW hS hl)
theorem sm_lconst (C : Cx M w cc nL own c0 ret rm) {n : Fin 2} (v : Int64) (hd : decode cc pc = .ok (.lconst n, 1)) (hv : Int64.ofNat (n : Nat) = v) (k : Sm M w nL ov (pc + 1) lv (.long v :: st) σ F) : Sm M w nL ov pc lv st σ F :=
  fun r σ' e H locs ls hW hS hl => lv_lconst C.1 C.2.1 hd hv (k r σ' e H locs ls hW hS hl)
theorem sm_ldc (C : Cx M w cc nL own c0 ret rm) {index : Nat} {v : Int32} (hk : Cond.constant own index v ∈ GT) (hd : decode cc pc = .ok (.ldc index, 2)) (k : Sm M w nL ov (pc + 2) lv (.int v :: st) σ F) : Sm M w nL ov pc lv st σ F :=
  fun r σ' e H locs ls hW hS hl => lv_ldc C.1 C.2.1 C.2.2.2.1 (C.2.2.2.2.1 _ (gtM hk)) hd (k r σ' e H locs ls hW hS hl)
theorem sm_ldcw (C : Cx M w cc nL own c0 ret rm) {index : Nat} {v : Int32} (hk : Cond.constant own index v ∈ GT) (hd : decode cc pc = .ok (.ldc_w index, 3)) (k : Sm M w nL ov (pc + 3) lv (.int v :: st) σ F) : Sm M w nL ov pc lv st σ F :=
  fun r σ' e H locs ls hW hS hl => lv_ldcw C.1 C.2.1 C.2.2.2.1 (C.2.2.2.2.1 _ (gtM hk)) hd (k r σ' e H locs ls hW hS hl)
theorem sm_ldc2 (C : Cx M w cc nL own c0 ret rm) {index : Nat} {v : Int64} (hk : Cond.constantLong own index v ∈ GT) (hd : decode cc pc = .ok (.ldc2_w index, 3)) (k : Sm M w nL ov (pc + 3) lv (.long v :: st) σ F) : Sm M w nL ov pc lv st σ F :=
  fun r σ' e H locs ls hW hS hl => lv_ldc2 C.1 C.2.1 C.2.2.2.1 (C.2.2.2.2.1 _ (gtM hk)) hd (k r σ' e H locs ls hW hS hl)
theorem sm_iload_n (C : Cx M w cc nL own c0 ret rm) (j : Nat) {k : Fin 4} {x : Int32} (hd : decode cc pc = .ok (.iload_n k, 1)) (hj : lv[j]? = some ((k : Nat), .int x)) (kk : Sm M w nL ov (pc + 1) lv (.int x :: st) σ F) : Sm M w nL ov pc lv st σ F :=
  fun r σ' e H locs ls hW hS hl => lv_iload_n C.1 C.2.1 hd rfl (lv_at hl j hj) (kk r σ' e H locs ls hW hS hl)
theorem sm_iload (C : Cx M w cc nL own c0 ret rm) (j : Nat) {i : Nat} {x : Int32} (hd : decode cc pc = .ok (.iload i, 2)) (hj : lv[j]? = some (i, .int x)) (kk : Sm M w nL ov (pc + 2) lv (.int x :: st) σ F) : Sm M w nL ov pc lv st σ F :=
  fun r σ' e H locs ls hW hS hl => lv_iload C.1 C.2.1 hd (lv_at hl j hj) (kk r σ' e H locs ls hW hS hl)
theorem sm_lload_n (C : Cx M w cc nL own c0 ret rm) (j : Nat) {k : Fin 4} {x : Int64} (hd : decode cc pc = .ok (.lload_n k, 1)) (hj : lv[j]? = some ((k : Nat), .long x)) (kk : Sm M w nL ov (pc + 1) lv (.long x :: st) σ F) : Sm M w nL ov pc lv st σ F :=
  fun r σ' e H locs ls hW hS hl => lv_lload_n C.1 C.2.1 hd rfl (lv_at hl j hj) (kk r σ' e H locs ls hW hS hl)
theorem sm_lload (C : Cx M w cc nL own c0 ret rm) (j : Nat) {i : Nat} {x : Int64} (hd : decode cc pc = .ok (.lload i, 2)) (hj : lv[j]? = some (i, .long x)) (kk : Sm M w nL ov (pc + 2) lv (.long x :: st) σ F) : Sm M w nL ov pc lv st σ F :=
  fun r σ' e H locs ls hW hS hl => lv_lload C.1 C.2.1 hd (lv_at hl j hj) (kk r σ' e H locs ls hW hS hl)
theorem sm_aload_n (C : Cx M w cc nL own c0 ret rm) (j : Nat) {k : Fin 4} {x : Nat} (hd : decode cc pc = .ok (.aload_n k, 1)) (hj : lv[j]? = some ((k : Nat), .ref x)) (kk : Sm M w nL ov (pc + 1) lv (.ref x :: st) σ F) : Sm M w nL ov pc lv st σ F :=
  fun r σ' e H locs ls hW hS hl => lv_aload_n C.1 C.2.1 hd rfl (lv_at hl j hj) (kk r σ' e H locs ls hW hS hl)
theorem sm_aload (C : Cx M w cc nL own c0 ret rm) (j : Nat) {i : Nat} {x : Nat} (hd : decode cc pc = .ok (.aload i, 2)) (hj : lv[j]? = some (i, .ref x)) (kk : Sm M w nL ov (pc + 2) lv (.ref x :: st) σ F) : Sm M w nL ov pc lv st σ F :=
  fun r σ' e H locs ls hW hS hl => lv_aload C.1 C.2.1 hd (lv_at hl j hj) (kk r σ' e H locs ls hW hS hl)
theorem sm_istore_n (C : Cx M w cc nL own c0 ret rm) (lv' : List (Nat × Value)) {k : Fin 4} {x : Int32} (hd : decode cc pc = .ok (.istore_n k, 1)) (hn : (k : Nat) < nL) (hl' : ((k : Nat), Value.int x) :: lv.filter (fun q => !(q.1 == (k : Nat)) && !(q.1 + 1 == (k : Nat) && q.2.category == 2)) = lv') (kk : Sm M w nL ov (pc + 1) lv' st σ F) : Sm M w nL ov pc lv (.int x :: st) σ F :=
  fun r σ' e H locs ls hW hS hl => lv_istore_n C.1 C.2.1 hd rfl hl hn hl' (fun ls hl => kk r σ' e H locs ls hW hS hl)
theorem sm_istore (C : Cx M w cc nL own c0 ret rm) (lv' : List (Nat × Value)) {i : Nat} {x : Int32} (hd : decode cc pc = .ok (.istore i, 2)) (hn : i < nL) (hl' : (i, Value.int x) :: lv.filter (fun q => !(q.1 == i) && !(q.1 + 1 == i && q.2.category == 2)) = lv') (kk : Sm M w nL ov (pc + 2) lv' st σ F) : Sm M w nL ov pc lv (.int x :: st) σ F :=
  fun r σ' e H locs ls hW hS hl => lv_istore C.1 C.2.1 hd hl hn hl' (fun ls hl => kk r σ' e H locs ls hW hS hl)
theorem sm_lstore_n (C : Cx M w cc nL own c0 ret rm) (lv' : List (Nat × Value)) {k : Fin 4} {x : Int64} (hd : decode cc pc = .ok (.lstore_n k, 1)) (hn : (k : Nat) + 1 < nL) (hl' : ((k : Nat), Value.long x) :: lv.filter (fun q => !(q.1 == (k : Nat)) && (!(q.1 == (k : Nat) + 1) && !(q.1 + 1 == (k : Nat) && q.2.category == 2))) = lv') (kk : Sm M w nL ov (pc + 1) lv' st σ F) : Sm M w nL ov pc lv (.long x :: st) σ F :=
  fun r σ' e H locs ls hW hS hl => lv_lstore_n C.1 C.2.1 hd rfl hl hn hl' (fun ls hl => kk r σ' e H locs ls hW hS hl)
theorem sm_lstore (C : Cx M w cc nL own c0 ret rm) (lv' : List (Nat × Value)) {i : Nat} {x : Int64} (hd : decode cc pc = .ok (.lstore i, 2)) (hn : i + 1 < nL) (hl' : (i, Value.long x) :: lv.filter (fun q => !(q.1 == i) && (!(q.1 == i + 1) && !(q.1 + 1 == i && q.2.category == 2))) = lv') (kk : Sm M w nL ov (pc + 2) lv' st σ F) : Sm M w nL ov pc lv (.long x :: st) σ F :=
  fun r σ' e H locs ls hW hS hl => lv_lstore C.1 C.2.1 hd hl hn hl' (fun ls hl => kk r σ' e H locs ls hW hS hl)
theorem sm_astore_n (C : Cx M w cc nL own c0 ret rm) (lv' : List (Nat × Value)) {k : Fin 4} {x : Nat} (hd : decode cc pc = .ok (.astore_n k, 1)) (hn : (k : Nat) < nL) (hl' : ((k : Nat), Value.ref x) :: lv.filter (fun q => !(q.1 == (k : Nat)) && !(q.1 + 1 == (k : Nat) && q.2.category == 2)) = lv') (kk : Sm M w nL ov (pc + 1) lv' st σ F) : Sm M w nL ov pc lv (.ref x :: st) σ F :=
  fun r σ' e H locs ls hW hS hl => lv_astore_n C.1 C.2.1 hd rfl hl hn hl' (fun ls hl => kk r σ' e H locs ls hW hS hl)
theorem sm_astore (C : Cx M w cc nL own c0 ret rm) (lv' : List (Nat × Value)) {i : Nat} {x : Nat} (hd : decode cc pc = .ok (.astore i, 2)) (hn : i < nL) (hl' : (i, Value.ref x) :: lv.filter (fun q => !(q.1 == i) && !(q.1 + 1 == i && q.2.category == 2)) = lv') (kk : Sm M w nL ov (pc + 2) lv' st σ F) : Sm M w nL ov pc lv (.ref x :: st) σ F :=
  fun r σ' e H locs ls hW hS hl => lv_astore C.1 C.2.1 hd hl hn hl' (fun ls hl => kk r σ' e H locs ls hW hS hl)
theorem sm_iinc (C : Cx M w cc nL own c0 ret rm) (j : Nat) (v : Int32) (lv' : List (Nat × Value)) {i : Nat} {n : Int} {x : Int32} (hd : decode cc pc = .ok (.iinc i n, 3)) (hj : lv[j]? = some (i, .int x)) (hv : x + Int32.ofInt n = v) (hn : i < nL) (hl' : (i, Value.int v) :: lv.filter (fun q => !(q.1 == i) && !(q.1 + 1 == i && q.2.category == 2)) = lv') (kk : Sm M w nL ov (pc + 3) lv' st σ F) : Sm M w nL ov pc lv st σ F :=
  fun r σ' e H locs ls hW hS hl => lv_iinc C.1 C.2.1 hd hl hj hv hn hl' (fun ls hl => kk r σ' e H locs ls hW hS hl)
-- ==GEN==
theorem sm_iadd (C : Cx M w cc nL own c0 ret rm) {x y : Int32} (hd : decode cc pc = .ok (.iadd, 1)) (k : Sm M w nL ov (pc + 1) lv (.int (x + y) :: st) σ F) : Sm M w nL ov pc lv (.int y :: .int x :: st) σ F :=
  fun r σ' e H locs ls hW hS hl => lv_iadd C.1 C.2.1 hd (k r σ' e H locs ls hW hS hl)
theorem sm_isub (C : Cx M w cc nL own c0 ret rm) {x y : Int32} (hd : decode cc pc = .ok (.isub, 1)) (k : Sm M w nL ov (pc + 1) lv (.int (x - y) :: st) σ F) : Sm M w nL ov pc lv (.int y :: .int x :: st) σ F :=
  fun r σ' e H locs ls hW hS hl => lv_isub C.1 C.2.1 hd (k r σ' e H locs ls hW hS hl)
theorem sm_imul (C : Cx M w cc nL own c0 ret rm) {x y : Int32} (hd : decode cc pc = .ok (.imul, 1)) (k : Sm M w nL ov (pc + 1) lv (.int (x * y) :: st) σ F) : Sm M w nL ov pc lv (.int y :: .int x :: st) σ F :=
  fun r σ' e H locs ls hW hS hl => lv_imul C.1 C.2.1 hd (k r σ' e H locs ls hW hS hl)
theorem sm_iand (C : Cx M w cc nL own c0 ret rm) {x y : Int32} (hd : decode cc pc = .ok (.iand, 1)) (k : Sm M w nL ov (pc + 1) lv (.int (x &&& y) :: st) σ F) : Sm M w nL ov pc lv (.int y :: .int x :: st) σ F :=
  fun r σ' e H locs ls hW hS hl => lv_iand C.1 C.2.1 hd (k r σ' e H locs ls hW hS hl)
theorem sm_ior (C : Cx M w cc nL own c0 ret rm) {x y : Int32} (hd : decode cc pc = .ok (.ior, 1)) (k : Sm M w nL ov (pc + 1) lv (.int (x ||| y) :: st) σ F) : Sm M w nL ov pc lv (.int y :: .int x :: st) σ F :=
  fun r σ' e H locs ls hW hS hl => lv_ior C.1 C.2.1 hd (k r σ' e H locs ls hW hS hl)
theorem sm_ixor (C : Cx M w cc nL own c0 ret rm) {x y : Int32} (hd : decode cc pc = .ok (.ixor, 1)) (k : Sm M w nL ov (pc + 1) lv (.int (x ^^^ y) :: st) σ F) : Sm M w nL ov pc lv (.int y :: .int x :: st) σ F :=
  fun r σ' e H locs ls hW hS hl => lv_ixor C.1 C.2.1 hd (k r σ' e H locs ls hW hS hl)
theorem sm_ishl (C : Cx M w cc nL own c0 ret rm) {x y : Int32} (hd : decode cc pc = .ok (.ishl, 1)) (k : Sm M w nL ov (pc + 1) lv (.int (x <<< (y &&& 31)) :: st) σ F) : Sm M w nL ov pc lv (.int y :: .int x :: st) σ F :=
  fun r σ' e H locs ls hW hS hl => lv_ishl C.1 C.2.1 hd (k r σ' e H locs ls hW hS hl)
theorem sm_ishr (C : Cx M w cc nL own c0 ret rm) {x y : Int32} (hd : decode cc pc = .ok (.ishr, 1)) (k : Sm M w nL ov (pc + 1) lv (.int (x >>> (y &&& 31)) :: st) σ F) : Sm M w nL ov pc lv (.int y :: .int x :: st) σ F :=
  fun r σ' e H locs ls hW hS hl => lv_ishr C.1 C.2.1 hd (k r σ' e H locs ls hW hS hl)
theorem sm_idiv (C : Cx M w cc nL own c0 ret rm) {x y : Int32} (hd : decode cc pc = .ok (.idiv, 1)) (hne : ¬ y = 0) (k : Sm M w nL ov (pc + 1) lv (.int (x / y) :: st) σ F) : Sm M w nL ov pc lv (.int y :: .int x :: st) σ F :=
  fun r σ' e H locs ls hW hS hl => lv_idiv C.1 C.2.1 hd hne (k r σ' e H locs ls hW hS hl)
theorem sm_irem (C : Cx M w cc nL own c0 ret rm) {x y : Int32} (hd : decode cc pc = .ok (.irem, 1)) (hne : ¬ y = 0) (k : Sm M w nL ov (pc + 1) lv (.int (x - x / y * y) :: st) σ F) : Sm M w nL ov pc lv (.int y :: .int x :: st) σ F :=
  fun r σ' e H locs ls hW hS hl => lv_irem C.1 C.2.1 hd hne (k r σ' e H locs ls hW hS hl)
theorem sm_ineg (C : Cx M w cc nL own c0 ret rm) {x : Int32} (hd : decode cc pc = .ok (.ineg, 1)) (k : Sm M w nL ov (pc + 1) lv (.int (-x) :: st) σ F) : Sm M w nL ov pc lv (.int x :: st) σ F :=
  fun r σ' e H locs ls hW hS hl => lv_ineg C.1 C.2.1 hd (k r σ' e H locs ls hW hS hl)
theorem sm_iushr (C : Cx M w cc nL own c0 ret rm) {x y : Int32} (hd : decode cc pc = .ok (.iushr, 1)) (k : Sm M w nL ov (pc + 1) lv (.int ((x.toUInt32 >>> (y.toUInt32 &&& Int32.toUInt32 31)).toInt32) :: st) σ F) : Sm M w nL ov pc lv (.int y :: .int x :: st) σ F :=
  fun r σ' e H locs ls hW hS hl => lv_iushr C.1 C.2.1 hd rfl (k r σ' e H locs ls hW hS hl)
theorem sm_ladd (C : Cx M w cc nL own c0 ret rm) {x y : Int64} (hd : decode cc pc = .ok (.ladd, 1)) (k : Sm M w nL ov (pc + 1) lv (.long (x + y) :: st) σ F) : Sm M w nL ov pc lv (.long y :: .long x :: st) σ F :=
  fun r σ' e H locs ls hW hS hl => lv_ladd C.1 C.2.1 hd (k r σ' e H locs ls hW hS hl)
theorem sm_lmul (C : Cx M w cc nL own c0 ret rm) {x y : Int64} (hd : decode cc pc = .ok (.lmul, 1)) (k : Sm M w nL ov (pc + 1) lv (.long (x * y) :: st) σ F) : Sm M w nL ov pc lv (.long y :: .long x :: st) σ F :=
  fun r σ' e H locs ls hW hS hl => lv_lmul C.1 C.2.1 hd (k r σ' e H locs ls hW hS hl)
theorem sm_ldiv (C : Cx M w cc nL own c0 ret rm) {x y : Int64} (hd : decode cc pc = .ok (.ldiv, 1)) (hne : ¬ y = 0) (k : Sm M w nL ov (pc + 1) lv (.long (x / y) :: st) σ F) : Sm M w nL ov pc lv (.long y :: .long x :: st) σ F :=
  fun r σ' e H locs ls hW hS hl => lv_ldiv C.1 C.2.1 hd hne (k r σ' e H locs ls hW hS hl)
theorem sm_ldivG (C : Cx M w cc nL own c0 ret rm) {x y : Int64} (hd : decode cc pc = .ok (.ldiv, 1)) (k : Sm M w nL ov (pc + 1) lv (.long (x / y) :: st) σ F) : Sm M w nL ov pc lv (.long y :: .long x :: st) σ (dvL y F) := by
  intro r σ' e H locs ls hW hS hl
  by_cases hy : y = 0
  · rw [dvL, if_pos hy] at e
    cases e
  · rw [dvL, if_neg hy] at e
    exact lv_ldiv C.1 C.2.1 hd hy (k r σ' e H locs ls hW hS hl)
theorem sm_lrem (C : Cx M w cc nL own c0 ret rm) {x y : Int64} (hd : decode cc pc = .ok (.lrem, 1)) (hne : ¬ y = 0) (k : Sm M w nL ov (pc + 1) lv (.long (x - x / y * y) :: st) σ F) : Sm M w nL ov pc lv (.long y :: .long x :: st) σ F :=
  fun r σ' e H locs ls hW hS hl => lv_lrem C.1 C.2.1 hd hne (k r σ' e H locs ls hW hS hl)
theorem sm_lremG (C : Cx M w cc nL own c0 ret rm) {x y : Int64} (hd : decode cc pc = .ok (.lrem, 1)) (k : Sm M w nL ov (pc + 1) lv (.long (x - x / y * y) :: st) σ F) : Sm M w nL ov pc lv (.long y :: .long x :: st) σ (dvL y F) := by
  intro r σ' e H locs ls hW hS hl
  by_cases hy : y = 0
  · rw [dvL, if_pos hy] at e
    cases e
  · rw [dvL, if_neg hy] at e
    exact lv_lrem C.1 C.2.1 hd hy (k r σ' e H locs ls hW hS hl)
theorem sm_i2l (C : Cx M w cc nL own c0 ret rm) {x : Int32} (hd : decode cc pc = .ok (.i2l, 1)) (k : Sm M w nL ov (pc + 1) lv (.long x.toInt64 :: st) σ F) : Sm M w nL ov pc lv (.int x :: st) σ F :=
  fun r σ' e H locs ls hW hS hl => lv_i2l C.1 C.2.1 hd rfl (k r σ' e H locs ls hW hS hl)
theorem sm_l2i (C : Cx M w cc nL own c0 ret rm) {x : Int64} (hd : decode cc pc = .ok (.l2i, 1)) (k : Sm M w nL ov (pc + 1) lv (.int x.toInt32 :: st) σ F) : Sm M w nL ov pc lv (.long x :: st) σ F :=
  fun r σ' e H locs ls hW hS hl => lv_l2i C.1 C.2.1 hd rfl (k r σ' e H locs ls hW hS hl)
theorem sm_lcmp (C : Cx M w cc nL own c0 ret rm) {x y : Int64} (hd : decode cc pc = .ok (.lcmp, 1)) (k : Sm M w nL ov (pc + 1) lv (.int (lg_cmp x y) :: st) σ F) : Sm M w nL ov pc lv (.long y :: .long x :: st) σ F :=
  fun r σ' e H locs ls hW hS hl => W.lcmp C.1 C.2.1 hd (k r σ' e H locs ls hW hS hl)
theorem sm_dup (C : Cx M w cc nL own c0 ret rm) {v : Value} (hd : decode cc pc = .ok (.dup, 1)) (hc : v.category = 1) (k : Sm M w nL ov (pc + 1) lv (v :: v :: st) σ F) : Sm M w nL ov pc lv (v :: st) σ F :=
  fun r σ' e H locs ls hW hS hl => lv_dup C.1 C.2.1 hd hc (k r σ' e H locs ls hW hS hl)
theorem sm_pop (C : Cx M w cc nL own c0 ret rm) {v : Value} (hd : decode cc pc = .ok (.pop, 1)) (hc : v.category = 1) (k : Sm M w nL ov (pc + 1) lv (st) σ F) : Sm M w nL ov pc lv (v :: st) σ F :=
  fun r σ' e H locs ls hW hS hl => lv_pop C.1 C.2.1 hd hc (k r σ' e H locs ls hW hS hl)
theorem sm_dup2 (C : Cx M w cc nL own c0 ret rm) {v u : Value} (hd : decode cc pc = .ok (.dup2, 1)) (hc : v.category = 1) (hu : u.category = 1) (k : Sm M w nL ov (pc + 1) lv (v :: u :: v :: u :: st) σ F) : Sm M w nL ov pc lv (v :: u :: st) σ F :=
  fun r σ' e H locs ls hW hS hl => lv_dup2_11 C.1 C.2.1 hd hc hu (k r σ' e H locs ls hW hS hl)
theorem sm_goto (C : Cx M w cc nL own c0 ret rm) {off : Int} (tgt : Nat) (hd : decode cc pc = .ok (.goto off, 3)) (ht : (pc : Int) + off = (tgt : Int)) (k : Sm M w nL ov tgt lv st σ F) : Sm M w nL ov pc lv st σ F :=
  fun r σ' e H locs ls hW hS hl => lv_goto C.1 C.2.1 hd ht (k r σ' e H locs ls hW hS hl)
theorem sm_icmp_eq (C : Cx M w cc nL own c0 ret rm) {x y : Int32} {off : Int} (tgt : Nat) (hd : decode cc pc = .ok (.if_icmp .eq off, 3)) (ht : (pc : Int) + off = (tgt : Int)) (kt : Sm M w nL ov tgt lv st σ F) (kf : Sm M w nL ov (pc + 3) lv st σ F2) : Sm M w nL ov pc lv (.int y :: .int x :: st) σ (if x = y then F else F2) := by
  intro r σ' e H locs ls hW hS hl
  refine lv_icmp_eq C.1 C.2.1 hd ht (fun c => kt r σ' ?_ H locs ls hW hS hl) (fun c => kf r σ' ?_ H locs ls hW hS hl)
  · rw [if_pos c] at e; exact e
  · rw [if_neg c] at e; exact e
theorem sm_if_eq (C : Cx M w cc nL own c0 ret rm) {x : Int32} {off : Int} (tgt : Nat) (hd : decode cc pc = .ok (.ifCond .eq off, 3)) (ht : (pc : Int) + off = (tgt : Int)) (kt : Sm M w nL ov tgt lv st σ F) (kf : Sm M w nL ov (pc + 3) lv st σ F2) : Sm M w nL ov pc lv (.int x :: st) σ (if x = 0 then F else F2) := by
  intro r σ' e H locs ls hW hS hl
  refine lv_if_eq C.1 C.2.1 hd ht (fun c => kt r σ' ?_ H locs ls hW hS hl) (fun c => kf r σ' ?_ H locs ls hW hS hl)
  · rw [if_pos c] at e; exact e
  · rw [if_neg c] at e; exact e
theorem sm_icmp_ne (C : Cx M w cc nL own c0 ret rm) {x y : Int32} {off : Int} (tgt : Nat) (hd : decode cc pc = .ok (.if_icmp .ne off, 3)) (ht : (pc : Int) + off = (tgt : Int)) (kt : Sm M w nL ov tgt lv st σ F) (kf : Sm M w nL ov (pc + 3) lv st σ F2) : Sm M w nL ov pc lv (.int y :: .int x :: st) σ (if x = y then F2 else F) := by
  intro r σ' e H locs ls hW hS hl
  refine lv_icmp_ne C.1 C.2.1 hd ht (fun c => kt r σ' ?_ H locs ls hW hS hl) (fun c => kf r σ' ?_ H locs ls hW hS hl)
  · rw [if_neg c] at e; exact e
  · rw [if_pos c] at e; exact e
theorem sm_if_ne (C : Cx M w cc nL own c0 ret rm) {x : Int32} {off : Int} (tgt : Nat) (hd : decode cc pc = .ok (.ifCond .ne off, 3)) (ht : (pc : Int) + off = (tgt : Int)) (kt : Sm M w nL ov tgt lv st σ F) (kf : Sm M w nL ov (pc + 3) lv st σ F2) : Sm M w nL ov pc lv (.int x :: st) σ (if x = 0 then F2 else F) := by
  intro r σ' e H locs ls hW hS hl
  refine lv_if_ne C.1 C.2.1 hd ht (fun c => kt r σ' ?_ H locs ls hW hS hl) (fun c => kf r σ' ?_ H locs ls hW hS hl)
  · rw [if_neg c] at e; exact e
  · rw [if_pos c] at e; exact e
theorem sm_icmp_lt (C : Cx M w cc nL own c0 ret rm) {x y : Int32} {off : Int} (tgt : Nat) (hd : decode cc pc = .ok (.if_icmp .lt off, 3)) (ht : (pc : Int) + off = (tgt : Int)) (kt : Sm M w nL ov tgt lv st σ F) (kf : Sm M w nL ov (pc + 3) lv st σ F2) : Sm M w nL ov pc lv (.int y :: .int x :: st) σ (if x < y then F else F2) := by
  intro r σ' e H locs ls hW hS hl
  refine lv_icmp_lt C.1 C.2.1 hd ht (fun c => kt r σ' ?_ H locs ls hW hS hl) (fun c => kf r σ' ?_ H locs ls hW hS hl)
  · rw [if_pos c] at e; exact e
  · rw [if_neg c] at e; exact e
theorem sm_if_lt (C : Cx M w cc nL own c0 ret rm) {x : Int32} {off : Int} (tgt : Nat) (hd : decode cc pc = .ok (.ifCond .lt off, 3)) (ht : (pc : Int) + off = (tgt : Int)) (kt : Sm M w nL ov tgt lv st σ F) (kf : Sm M w nL ov (pc + 3) lv st σ F2) : Sm M w nL ov pc lv (.int x :: st) σ (if x < 0 then F else F2) := by
  intro r σ' e H locs ls hW hS hl
  refine lv_if_lt C.1 C.2.1 hd ht (fun c => kt r σ' ?_ H locs ls hW hS hl) (fun c => kf r σ' ?_ H locs ls hW hS hl)
  · rw [if_pos c] at e; exact e
  · rw [if_neg c] at e; exact e
theorem sm_icmp_ge (C : Cx M w cc nL own c0 ret rm) {x y : Int32} {off : Int} (tgt : Nat) (hd : decode cc pc = .ok (.if_icmp .ge off, 3)) (ht : (pc : Int) + off = (tgt : Int)) (kt : Sm M w nL ov tgt lv st σ F) (kf : Sm M w nL ov (pc + 3) lv st σ F2) : Sm M w nL ov pc lv (.int y :: .int x :: st) σ (if x < y then F2 else F) := by
  intro r σ' e H locs ls hW hS hl
  refine lv_icmp_ge C.1 C.2.1 hd ht (fun c => kt r σ' ?_ H locs ls hW hS hl) (fun c => kf r σ' ?_ H locs ls hW hS hl)
  · rw [if_neg (Int32.not_lt.mpr c)] at e; exact e
  · rw [if_pos (Int32.not_le.mp c)] at e; exact e
theorem sm_if_ge (C : Cx M w cc nL own c0 ret rm) {x : Int32} {off : Int} (tgt : Nat) (hd : decode cc pc = .ok (.ifCond .ge off, 3)) (ht : (pc : Int) + off = (tgt : Int)) (kt : Sm M w nL ov tgt lv st σ F) (kf : Sm M w nL ov (pc + 3) lv st σ F2) : Sm M w nL ov pc lv (.int x :: st) σ (if x < 0 then F2 else F) := by
  intro r σ' e H locs ls hW hS hl
  refine lv_if_ge C.1 C.2.1 hd ht (fun c => kt r σ' ?_ H locs ls hW hS hl) (fun c => kf r σ' ?_ H locs ls hW hS hl)
  · rw [if_neg (Int32.not_lt.mpr c)] at e; exact e
  · rw [if_pos (Int32.not_le.mp c)] at e; exact e
theorem sm_icmp_gt (C : Cx M w cc nL own c0 ret rm) {x y : Int32} {off : Int} (tgt : Nat) (hd : decode cc pc = .ok (.if_icmp .gt off, 3)) (ht : (pc : Int) + off = (tgt : Int)) (kt : Sm M w nL ov tgt lv st σ F) (kf : Sm M w nL ov (pc + 3) lv st σ F2) : Sm M w nL ov pc lv (.int y :: .int x :: st) σ (if y < x then F else F2) := by
  intro r σ' e H locs ls hW hS hl
  refine lv_icmp_gt C.1 C.2.1 hd ht (fun c => kt r σ' ?_ H locs ls hW hS hl) (fun c => kf r σ' ?_ H locs ls hW hS hl)
  · rw [if_pos c] at e; exact e
  · rw [if_neg c] at e; exact e
theorem sm_if_gt (C : Cx M w cc nL own c0 ret rm) {x : Int32} {off : Int} (tgt : Nat) (hd : decode cc pc = .ok (.ifCond .gt off, 3)) (ht : (pc : Int) + off = (tgt : Int)) (kt : Sm M w nL ov tgt lv st σ F) (kf : Sm M w nL ov (pc + 3) lv st σ F2) : Sm M w nL ov pc lv (.int x :: st) σ (if 0 < x then F else F2) := by
  intro r σ' e H locs ls hW hS hl
  refine lv_if_gt C.1 C.2.1 hd ht (fun c => kt r σ' ?_ H locs ls hW hS hl) (fun c => kf r σ' ?_ H locs ls hW hS hl)
  · rw [if_pos c] at e; exact e
  · rw [if_neg c] at e; exact e
theorem sm_icmp_le (C : Cx M w cc nL own c0 ret rm) {x y : Int32} {off : Int} (tgt : Nat) (hd : decode cc pc = .ok (.if_icmp .le off, 3)) (ht : (pc : Int) + off = (tgt : Int)) (kt : Sm M w nL ov tgt lv st σ F) (kf : Sm M w nL ov (pc + 3) lv st σ F2) : Sm M w nL ov pc lv (.int y :: .int x :: st) σ (if y < x then F2 else F) := by
  intro r σ' e H locs ls hW hS hl
  refine lv_icmp_le C.1 C.2.1 hd ht (fun c => kt r σ' ?_ H locs ls hW hS hl) (fun c => kf r σ' ?_ H locs ls hW hS hl)
  · rw [if_neg (Int32.not_lt.mpr c)] at e; exact e
  · rw [if_pos (Int32.not_le.mp c)] at e; exact e
theorem sm_if_le (C : Cx M w cc nL own c0 ret rm) {x : Int32} {off : Int} (tgt : Nat) (hd : decode cc pc = .ok (.ifCond .le off, 3)) (ht : (pc : Int) + off = (tgt : Int)) (kt : Sm M w nL ov tgt lv st σ F) (kf : Sm M w nL ov (pc + 3) lv st σ F2) : Sm M w nL ov pc lv (.int x :: st) σ (if 0 < x then F2 else F) := by
  intro r σ' e H locs ls hW hS hl
  refine lv_if_le C.1 C.2.1 hd ht (fun c => kt r σ' ?_ H locs ls hW hS hl) (fun c => kf r σ' ?_ H locs ls hW hS hl)
  · rw [if_neg (Int32.not_lt.mpr c)] at e; exact e
  · rw [if_pos (Int32.not_le.mp c)] at e; exact e
theorem sm_table (C : Cx M w cc nL own c0 ret rm) {dflt hi : Int} {offs : Array Int} {len : Nat} {x : Int32} (tgt : Nat) {Fs : List (Option (ρ × Sta))} (hd : decode cc pc = .ok (.tableswitch dflt 0 hi offs, len)) (hlen : (Fs.length : Int) = hi + 1) (ht : (pc : Int) + dflt = (tgt : Int))
    (ks : ∀ j, j < Fs.length → ∃ (off : Int) (tg : Nat), offs[j]? = some off ∧ (pc : Int) + off = (tg : Int) ∧ Sm M w nL ov tg lv st σ (Fs.getD j none)) (kd : Sm M w nL ov tgt lv st σ F) : Sm M w nL ov pc lv (.int x :: st) σ (tsw x Fs F) := by
  intro r σ' e H locs ls hW hS hl
  by_cases hx : x.toInt < 0 ∨ (Fs.length : Int) ≤ x.toInt
  · rw [tsw, if_pos hx] at e
    exact lv_tableOut C.1 C.2.1 hd (by omega) ht (kd r σ' e H locs ls hW hS hl)
  · rw [tsw, if_neg hx] at e
    obtain ⟨off, tg, h1, h2, h3⟩ := ks x.toInt.toNat (by omega)
    exact lv_tableIn C.1 C.2.1 hd (by omega) (by omega) (off := off) (tgt := tg) (by rw [Int.sub_zero]; exact h1) h2 (h3 r σ' e H locs ls hW hS hl)
theorem sm_fin {H : Heap} {locs : List Loc} {o : Option Value} (C : Cx M w cc nL own c0 ret rm) (hW : Wd w σ H) (hS : va_S (wA w) (mS M).heap H locs) (t : State) (ht : t.heap = H) : Rt w o σ (mA M) (mS M) (.returned o) t := ⟨⟨rfl, by rw [ht]; exact hW⟩, hS.F ht⟩
theorem sm_iret (C : Cx M w cc nL own c0 (some .int) rm) {x : Int32} (hd : decode cc pc = .ok (.ireturn, 1)) : Sm M w nL oI pc lv [.int x] σ (some (x, σ)) := by
  intro r σ' e H locs ls hW hS hl
  cases e
  exact W.iret C.1 C.2.1 C.2.2.2.2.2.2.2.1 (fun t ht _ => sm_fin C hW hS t ht) hS.2.2 hd C.2.2.2.2.2.2.1
theorem sm_zret (C : Cx M w cc nL own c0 (some .boolean) rm) {x : Int32} (hd : decode cc pc = .ok (.ireturn, 1)) : Sm M w nL oI pc lv [.int x] σ (rZ x σ) := by
  intro r σ' e H locs ls hW hS hl
  by_cases hx : x = 0 ∨ x = 1
  · rw [rZ, if_pos hx] at e
    cases e
    exact W.zret (ty := .boolean) C.1 C.2.1 C.2.2.2.2.2.2.2.1 (by rcases hx with rfl | rfl <;> decide) (fun t ht _ => sm_fin C hW hS t ht) hS.2.2 hd C.2.2.2.2.2.2.1
  · rw [rZ, if_neg hx] at e
    cases e
theorem sm_lret (C : Cx M w cc nL own c0 (some .long) rm) {x : Int64} (hd : decode cc pc = .ok (.lreturn, 1)) : Sm M w nL oL pc lv [.long x] σ (some (x, σ)) := by
  intro r σ' e H locs ls hW hS hl
  cases e
  exact W.lret C.1 C.2.1 C.2.2.2.2.2.2.2.1 (fun t ht _ => sm_fin C hW hS t ht) hS.2.2 hd C.2.2.2.2.2.2.1
theorem sm_vret (C : Cx M w cc nL own c0 none rm) (hd : decode cc pc = .ok (.return_, 1)) : Sm M w nL oV pc lv [] σ (some ((), σ)) := by
  intro r σ' e H locs ls hW hS hl
  cases e
  exact W.vret C.1 C.2.1 C.2.2.2.2.2.2.2.1 (fun t ht _ => sm_fin C hW hS t ht) hS.2.2 hd C.2.2.2.2.2.2.1
theorem sm_getI (C : Cx M w cc nL own c0 ret rm) {R : String} {T : u_T} {N ci index j kk : Nat} {fs : (Nat → Int32) → (Nat → Int64) → List Value} {K : Int32 → Option (ρ × Sta)} (hs : ∀ f g, wsh w kk f g = .inr (ci, fs f g)) (hk : kk < wnn w) (hc : cls[ci]? = some (R, T, N)) (hg : ∀ x ∈ u_ws R T N, x ∈ GT) (hj : j < N) (hlink : Cond.fieldLink own index (T j).1 (T j).2.1 (T j).2.2.1 ∈ GT) (hd : decode cc pc = .ok (.getfield index, 3)) (hf : ∀ f g, (fs f g)[j]? = some (.int (f j))) (k : ∀ v, Sm M w nL ov (pc + 3) lv (.int v :: st) σ (K v)) : Sm M w nL ov pc lv (.ref (wad w kk) :: st) σ (fI σ kk j K) := by
  intro r σ' e H locs ls hW hS hl
  exact va_get (C := R) (T := T) (N := N) (ci := ci) (v := .int (σ.1 kk j)) C.1 C.2.1 C.2.2.2.2.1 (fun x hx => gtM (hg x hx)) C.2.2.2.1 C.2.2.2.2.2.1.1 hW.1 kk (fs := fs (σ.1 kk) (σ.2 kk)) (by rw [wl_at hk, hs]) hc j hj (C.2.2.2.2.1 _ (gtM hlink)) (fun _ h9 => h9) (hf _ _) hd (k _ r σ' e H locs ls hW hS hl)
theorem sm_getL (C : Cx M w cc nL own c0 ret rm) {R : String} {T : u_T} {N ci index j kk : Nat} {fs : (Nat → Int32) → (Nat → Int64) → List Value} {K : Int64 → Option (ρ × Sta)} (hs : ∀ f g, wsh w kk f g = .inr (ci, fs f g)) (hk : kk < wnn w) (hc : cls[ci]? = some (R, T, N)) (hg : ∀ x ∈ u_ws R T N, x ∈ GT) (hj : j < N) (hlink : Cond.fieldLink own index (T j).1 (T j).2.1 (T j).2.2.1 ∈ GT) (hd : decode cc pc = .ok (.getfield index, 3)) (hf : ∀ f g, (fs f g)[j]? = some (.long (g j))) (k : ∀ v, Sm M w nL ov (pc + 3) lv (.long v :: st) σ (K v)) : Sm M w nL ov pc lv (.ref (wad w kk) :: st) σ (fL σ kk j K) := by
  intro r σ' e H locs ls hW hS hl
  exact va_get (C := R) (T := T) (N := N) (ci := ci) (v := .long (σ.2 kk j)) C.1 C.2.1 C.2.2.2.2.1 (fun x hx => gtM (hg x hx)) C.2.2.2.1 C.2.2.2.2.2.1.1 hW.1 kk (fs := fs (σ.1 kk) (σ.2 kk)) (by rw [wl_at hk, hs]) hc j hj (C.2.2.2.2.1 _ (gtM hlink)) (fun _ h9 => h9) (hf _ _) hd (k _ r σ' e H locs ls hW hS hl)
theorem sm_getR (C : Cx M w cc nL own c0 ret rm) {R : String} {T : u_T} {N ci index j kk d : Nat} {fs : (Nat → Int32) → (Nat → Int64) → List Value} (hs : ∀ f g, wsh w kk f g = .inr (ci, fs f g)) (hk : kk < wnn w) (hc : cls[ci]? = some (R, T, N)) (hg : ∀ x ∈ u_ws R T N, x ∈ GT) (hj : j < N) (hlink : Cond.fieldLink own index (T j).1 (T j).2.1 (T j).2.2.1 ∈ GT) (hd : decode cc pc = .ok (.getfield index, 3)) (hf : ∀ f g, (fs f g)[j]? = some (.ref (wad w d))) (k : Sm M w nL ov (pc + 3) lv (.ref (wad w d) :: st) σ F) : Sm M w nL ov pc lv (.ref (wad w kk) :: st) σ F := by
  intro r σ' e H locs ls hW hS hl
  exact va_get (C := R) (T := T) (N := N) (ci := ci) (v := .ref (wad w d)) C.1 C.2.1 C.2.2.2.2.1 (fun x hx => gtM (hg x hx)) C.2.2.2.1 C.2.2.2.2.2.1.1 hW.1 kk (fs := fs (σ.1 kk) (σ.2 kk)) (by rw [wl_at hk, hs]) hc j hj (C.2.2.2.2.1 _ (gtM hlink)) (fun _ h9 => h9) (hf _ _) hd (k r σ' e H locs ls hW hS hl)
theorem sm_putI (C : Cx M w cc nL own c0 ret rm) {R : String} {T : u_T} {N ci index j kk : Nat} {fs : (Nat → Int32) → (Nat → Int64) → List Value} {v : Int32} {K : Sta → Option (ρ × Sta)} (hs : ∀ f g, wsh w kk f g = .inr (ci, fs f g)) (hk : kk < wnn w) (hc : cls[ci]? = some (R, T, N)) (hg : ∀ x ∈ u_ws R T N, x ∈ GT) (ty0 : Nat → FieldType) (hty : ∀ k, k < N → parseFieldDescriptor (T k).2.2.1 = some (ty0 k)) (hnm : ∀ a, a < N → ∀ b, b < N → a ≠ b → (T a).2.1 ≠ (T b).2.1) (hj : j < N) (hlink : Cond.fieldLink own index (T j).1 (T j).2.1 (T j).2.2.1 ∈ GT) (hfin : (T j).2.2.2 = false) (hdesc : parseFieldDescriptor (T j).2.2.1 = some .int) (hd : decode cc pc = .ok (.putfield index, 3)) (hl0 : ∀ f g, j < (fs f g).length) (hset : ∀ f g v, (fs f g).set j (.int v) = fs (upd f j v) g) (k : ∀ σ1, Sm M w nL ov (pc + 3) lv st σ1 (K σ1)) : Sm M w nL ov pc lv (.int v :: .ref (wad w kk) :: st) σ (pI σ kk j v K) := by
  intro r σ' e H locs ls hW hS hl
  refine va_put (C := R) (T := T) (N := N) (ci := ci) (v := .int v) (ty := .int) C.1 C.2.1 C.2.2.2.2.1 (fun x hx => gtM (hg x hx)) ty0 hty hnm C.2.2.2.1 C.2.2.2.2.2.1.1 hW.1 hW.2 hS kk (fs := fs (σ.1 kk) (σ.2 kk)) (by rw [wl_at hk, hs]) hc j hj (C.2.2.2.2.1 _ (gtM hlink)) (fun _ h9 => h9) hfin hdesc rfl rfl (hl0 _ _) hd (fun H1 locs1 hP1 hD1 hS1 => k _ r σ' e H1 locs1 ls ?_ hS1 hl)
  have e2 : (wl w σ).set kk (wad w kk, .inr (ci, (fs (σ.1 kk) (σ.2 kk)).set j (.int v))) = wl w (up1 σ kk (upd (σ.1 kk) j v)) := by
    rw [hset, ← hs, ← wl_set1]
  rw [e2] at hP1 hD1
  exact ⟨hP1, hD1⟩
theorem sm_putL (C : Cx M w cc nL own c0 ret rm) {R : String} {T : u_T} {N ci index j kk : Nat} {fs : (Nat → Int32) → (Nat → Int64) → List Value} {v : Int64} {K : Sta → Option (ρ × Sta)} (hs : ∀ f g, wsh w kk f g = .inr (ci, fs f g)) (hk : kk < wnn w) (hc : cls[ci]? = some (R, T, N)) (hg : ∀ x ∈ u_ws R T N, x ∈ GT) (ty0 : Nat → FieldType) (hty : ∀ k, k < N → parseFieldDescriptor (T k).2.2.1 = some (ty0 k)) (hnm : ∀ a, a < N → ∀ b, b < N → a ≠ b → (T a).2.1 ≠ (T b).2.1) (hj : j < N) (hlink : Cond.fieldLink own index (T j).1 (T j).2.1 (T j).2.2.1 ∈ GT) (hfin : (T j).2.2.2 = false) (hdesc : parseFieldDescriptor (T j).2.2.1 = some .long) (hd : decode cc pc = .ok (.putfield index, 3)) (hl0 : ∀ f g, j < (fs f g).length) (hset : ∀ f g v, (fs f g).set j (.long v) = fs f (vp_updL g j v)) (k : ∀ σ1, Sm M w nL ov (pc + 3) lv st σ1 (K σ1)) : Sm M w nL ov pc lv (.long v :: .ref (wad w kk) :: st) σ (pL σ kk j v K) := by
  intro r σ' e H locs ls hW hS hl
  refine va_put (C := R) (T := T) (N := N) (ci := ci) (v := .long v) (ty := .long) C.1 C.2.1 C.2.2.2.2.1 (fun x hx => gtM (hg x hx)) ty0 hty hnm C.2.2.2.1 C.2.2.2.2.2.1.1 hW.1 hW.2 hS kk (fs := fs (σ.1 kk) (σ.2 kk)) (by rw [wl_at hk, hs]) hc j hj (C.2.2.2.2.1 _ (gtM hlink)) (fun _ h9 => h9) hfin hdesc rfl rfl (hl0 _ _) hd (fun H1 locs1 hP1 hD1 hS1 => k _ r σ' e H1 locs1 ls ?_ hS1 hl)
  have e2 : (wl w σ).set kk (wad w kk, .inr (ci, (fs (σ.1 kk) (σ.2 kk)).set j (.long v))) = wl w (up2 σ kk (vp_updL (σ.2 kk) j v)) := by
    rw [hset, ← hs, ← wl_set2]
  rw [e2] at hP1 hD1
  exact ⟨hP1, hD1⟩
theorem sm_getIN (C : Cx M w cc nL own c0 ret rm) {host : String} {R : String} {T : u_T} {N ci index j kk : Nat} {fs : (Nat → Int32) → (Nat → Int64) → List Value} {K : Int32 → Option (ρ × Sta)} (hs : ∀ f g, wsh w kk f g = .inr (ci, fs f g)) (hk : kk < wnn w) (hc : cls[ci]? = some (R, T, N)) (hg : ∀ x ∈ u_ws R T N, x ∈ GT) (hj : j < N) (hlink : (own, index, (T j).1, (T j).2.1, (T j).2.2.1, host) ∈ nwF) (hd : decode cc pc = .ok (.getfield index, 3)) (hf : ∀ f g, (fs f g)[j]? = some (.int (f j))) (k : ∀ v, Sm M w nL ov (pc + 3) lv (.int v :: st) σ (K v)) : Sm M w nL ov pc lv (.ref (wad w kk) :: st) σ (fI σ kk j K) := by
  intro r σ' e H locs ls hW hS hl
  exact va_getN (C := R) (T := T) (N := N) (ci := ci) (v := .int (σ.1 kk j)) C.1 C.2.1 C.2.2.2.2.1 (fun x hx => gtM (hg x hx)) C.2.2.2.1 C.2.2.2.2.2.1.1 hW.1 kk (fs := fs (σ.1 kk) (σ.2 kk)) (by rw [wl_at hk, hs]) hc j hj (va_Nw.use rfl (C.2.2.2.2.2.1.2.1.1 _ hlink)) (fun _ h9 => h9) (hf _ _) hd (k _ r σ' e H locs ls hW hS hl)
theorem sm_getLN (C : Cx M w cc nL own c0 ret rm) {host : String} {R : String} {T : u_T} {N ci index j kk : Nat} {fs : (Nat → Int32) → (Nat → Int64) → List Value} {K : Int64 → Option (ρ × Sta)} (hs : ∀ f g, wsh w kk f g = .inr (ci, fs f g)) (hk : kk < wnn w) (hc : cls[ci]? = some (R, T, N)) (hg : ∀ x ∈ u_ws R T N, x ∈ GT) (hj : j < N) (hlink : (own, index, (T j).1, (T j).2.1, (T j).2.2.1, host) ∈ nwF) (hd : decode cc pc = .ok (.getfield index, 3)) (hf : ∀ f g, (fs f g)[j]? = some (.long (g j))) (k : ∀ v, Sm M w nL ov (pc + 3) lv (.long v :: st) σ (K v)) : Sm M w nL ov pc lv (.ref (wad w kk) :: st) σ (fL σ kk j K) := by
  intro r σ' e H locs ls hW hS hl
  exact va_getN (C := R) (T := T) (N := N) (ci := ci) (v := .long (σ.2 kk j)) C.1 C.2.1 C.2.2.2.2.1 (fun x hx => gtM (hg x hx)) C.2.2.2.1 C.2.2.2.2.2.1.1 hW.1 kk (fs := fs (σ.1 kk) (σ.2 kk)) (by rw [wl_at hk, hs]) hc j hj (va_Nw.use rfl (C.2.2.2.2.2.1.2.1.1 _ hlink)) (fun _ h9 => h9) (hf _ _) hd (k _ r σ' e H locs ls hW hS hl)
theorem sm_getRN (C : Cx M w cc nL own c0 ret rm) {host : String} {R : String} {T : u_T} {N ci index j kk d : Nat} {fs : (Nat → Int32) → (Nat → Int64) → List Value} (hs : ∀ f g, wsh w kk f g = .inr (ci, fs f g)) (hk : kk < wnn w) (hc : cls[ci]? = some (R, T, N)) (hg : ∀ x ∈ u_ws R T N, x ∈ GT) (hj : j < N) (hlink : (own, index, (T j).1, (T j).2.1, (T j).2.2.1, host) ∈ nwF) (hd : decode cc pc = .ok (.getfield index, 3)) (hf : ∀ f g, (fs f g)[j]? = some (.ref (wad w d))) (k : Sm M w nL ov (pc + 3) lv (.ref (wad w d) :: st) σ F) : Sm M w nL ov pc lv (.ref (wad w kk) :: st) σ F := by
  intro r σ' e H locs ls hW hS hl
  exact va_getN (C := R) (T := T) (N := N) (ci := ci) (v := .ref (wad w d)) C.1 C.2.1 C.2.2.2.2.1 (fun x hx => gtM (hg x hx)) C.2.2.2.1 C.2.2.2.2.2.1.1 hW.1 kk (fs := fs (σ.1 kk) (σ.2 kk)) (by rw [wl_at hk, hs]) hc j hj (va_Nw.use rfl (C.2.2.2.2.2.1.2.1.1 _ hlink)) (fun _ h9 => h9) (hf _ _) hd (k r σ' e H locs ls hW hS hl)
theorem sm_putIN (C : Cx M w cc nL own c0 ret rm) {host : String} {R : String} {T : u_T} {N ci index j kk : Nat} {fs : (Nat → Int32) → (Nat → Int64) → List Value} {v : Int32} {K : Sta → Option (ρ × Sta)} (hs : ∀ f g, wsh w kk f g = .inr (ci, fs f g)) (hk : kk < wnn w) (hc : cls[ci]? = some (R, T, N)) (hg : ∀ x ∈ u_ws R T N, x ∈ GT) (ty0 : Nat → FieldType) (hty : ∀ k, k < N → parseFieldDescriptor (T k).2.2.1 = some (ty0 k)) (hnm : ∀ a, a < N → ∀ b, b < N → a ≠ b → (T a).2.1 ≠ (T b).2.1) (hj : j < N) (hlink : (own, index, (T j).1, (T j).2.1, (T j).2.2.1, host) ∈ nwF) (hfin : (T j).2.2.2 = false) (hdesc : parseFieldDescriptor (T j).2.2.1 = some .int) (hd : decode cc pc = .ok (.putfield index, 3)) (hl0 : ∀ f g, j < (fs f g).length) (hset : ∀ f g v, (fs f g).set j (.int v) = fs (upd f j v) g) (k : ∀ σ1, Sm M w nL ov (pc + 3) lv st σ1 (K σ1)) : Sm M w nL ov pc lv (.int v :: .ref (wad w kk) :: st) σ (pI σ kk j v K) := by
  intro r σ' e H locs ls hW hS hl
  refine va_putN (C := R) (T := T) (N := N) (ci := ci) (v := .int v) (ty := .int) C.1 C.2.1 C.2.2.2.2.1 (fun x hx => gtM (hg x hx)) ty0 hty hnm C.2.2.2.1 C.2.2.2.2.2.1.1 hW.1 hW.2 hS kk (fs := fs (σ.1 kk) (σ.2 kk)) (by rw [wl_at hk, hs]) hc j hj (va_Nw.use rfl (C.2.2.2.2.2.1.2.1.1 _ hlink)) (fun _ h9 => h9) hfin hdesc rfl rfl (hl0 _ _) hd (fun H1 locs1 hP1 hD1 hS1 => k _ r σ' e H1 locs1 ls ?_ hS1 hl)
  have e2 : (wl w σ).set kk (wad w kk, .inr (ci, (fs (σ.1 kk) (σ.2 kk)).set j (.int v))) = wl w (up1 σ kk (upd (σ.1 kk) j v)) := by
    rw [hset, ← hs, ← wl_set1]
  rw [e2] at hP1 hD1
  exact ⟨hP1, hD1⟩
theorem sm_putLN (C : Cx M w cc nL own c0 ret rm) {host : String} {R : String} {T : u_T} {N ci index j kk : Nat} {fs : (Nat → Int32) → (Nat → Int64) → List Value} {v : Int64} {K : Sta → Option (ρ × Sta)} (hs : ∀ f g, wsh w kk f g = .inr (ci, fs f g)) (hk : kk < wnn w) (hc : cls[ci]? = some (R, T, N)) (hg : ∀ x ∈ u_ws R T N, x ∈ GT) (ty0 : Nat → FieldType) (hty : ∀ k, k < N → parseFieldDescriptor (T k).2.2.1 = some (ty0 k)) (hnm : ∀ a, a < N → ∀ b, b < N → a ≠ b → (T a).2.1 ≠ (T b).2.1) (hj : j < N) (hlink : (own, index, (T j).1, (T j).2.1, (T j).2.2.1, host) ∈ nwF) (hfin : (T j).2.2.2 = false) (hdesc : parseFieldDescriptor (T j).2.2.1 = some .long) (hd : decode cc pc = .ok (.putfield index, 3)) (hl0 : ∀ f g, j < (fs f g).length) (hset : ∀ f g v, (fs f g).set j (.long v) = fs f (vp_updL g j v)) (k : ∀ σ1, Sm M w nL ov (pc + 3) lv st σ1 (K σ1)) : Sm M w nL ov pc lv (.long v :: .ref (wad w kk) :: st) σ (pL σ kk j v K) := by
  intro r σ' e H locs ls hW hS hl
  refine va_putN (C := R) (T := T) (N := N) (ci := ci) (v := .long v) (ty := .long) C.1 C.2.1 C.2.2.2.2.1 (fun x hx => gtM (hg x hx)) ty0 hty hnm C.2.2.2.1 C.2.2.2.2.2.1.1 hW.1 hW.2 hS kk (fs := fs (σ.1 kk) (σ.2 kk)) (by rw [wl_at hk, hs]) hc j hj (va_Nw.use rfl (C.2.2.2.2.2.1.2.1.1 _ hlink)) (fun _ h9 => h9) hfin hdesc rfl rfl (hl0 _ _) hd (fun H1 locs1 hP1 hD1 hS1 => k _ r σ' e H1 locs1 ls ?_ hS1 hl)
  have e2 : (wl w σ).set kk (wad w kk, .inr (ci, (fs (σ.1 kk) (σ.2 kk)).set j (.long v))) = wl w (up2 σ kk (vp_updL (σ.2 kk) j v)) := by
    rw [hset, ← hs, ← wl_set2]
  rw [e2] at hP1 hD1
  exact ⟨hP1, hD1⟩
theorem sm_iald (C : Cx M w cc nL own c0 ret rm) {cI : ClassId} {n kk : Nat} {i : Int32} {K : Int32 → Option (ρ × Sta)} (hs : ∀ f g, wsh w kk f g = .inl (cI, n, .inl f)) (hk : kk < wnn w) (ht : (wty w)[0]? = some (cI, .int)) (hd : decode cc pc = .ok (.iaload, 1)) (k : ∀ v, Sm M w nL ov (pc + 1) lv (.int v :: st) σ (K v)) : Sm M w nL ov pc lv (.int i :: .ref (wad w kk) :: st) σ (aI σ kk n i K) := by
  intro r σ' e H locs ls hW hS hl
  by_cases hi : i < 0 ∨ n ≤ i.toNatClampNeg
  · rw [aI, if_pos hi] at e
    cases e
  · rw [aI, if_neg hi] at e
    exact va_iald C.1 C.2.1 C.2.2.2.2.2.1.1 hW.1 kk 0 (n := n) (f := σ.1 kk) (by rw [wl_at hk, hs]) ht hi hd (k _ r σ' e H locs ls hW hS hl)
theorem sm_zald (C : Cx M w cc nL own c0 ret rm) {cZ : ClassId} {n kk : Nat} {i : Int32} {K : Int32 → Option (ρ × Sta)} (hs : ∀ f g, wsh w kk f g = .inl (cZ, n, .inl f)) (hk : kk < wnn w) (ht : (wty w)[1]? = some (cZ, .boolean)) (hd : decode cc pc = .ok (.baload, 1)) (k : ∀ v, Sm M w nL ov (pc + 1) lv (.int v :: st) σ (K v)) : Sm M w nL ov pc lv (.int i :: .ref (wad w kk) :: st) σ (aI σ kk n i K) := by
  intro r σ' e H locs ls hW hS hl
  by_cases hi : i < 0 ∨ n ≤ i.toNatClampNeg
  · rw [aI, if_pos hi] at e
    cases e
  · rw [aI, if_neg hi] at e
    exact va_zald C.1 C.2.1 C.2.2.2.2.2.1.1 hW.1 kk 1 (n := n) (f := σ.1 kk) (by rw [wl_at hk, hs]) ht hi hd (k _ r σ' e H locs ls hW hS hl)
theorem sm_iast (C : Cx M w cc nL own c0 ret rm) {cI : ClassId} {n kk : Nat} {i v : Int32} {K : Sta → Option (ρ × Sta)} (hs : ∀ f g, wsh w kk f g = .inl (cI, n, .inl f)) (hk : kk < wnn w) (ht : (wty w)[0]? = some (cI, .int)) (hd : decode cc pc = .ok (.iastore, 1)) (k : ∀ σ1, Sm M w nL ov (pc + 1) lv st σ1 (K σ1)) : Sm M w nL ov pc lv (.int v :: .int i :: .ref (wad w kk) :: st) σ (sI σ kk n i v K) := by
  intro r σ' e H locs ls hW hS hl
  by_cases hi : i < 0 ∨ n ≤ i.toNatClampNeg
  · rw [sI, if_pos hi] at e
    cases e
  · rw [sI, if_neg hi] at e
    refine va_iast C.1 C.2.1 C.2.2.2.2.2.1.1 hW.1 hW.2 hS kk 0 (n := n) (f := σ.1 kk) (by rw [wl_at hk, hs]) ht hi hd (fun H1 locs1 hP1 hD1 hS1 => k _ r σ' e H1 locs1 ls ?_ hS1 hl)
    have e2 : (wl w σ).set kk (wad w kk, .inl (cI, n, .inl (upd (σ.1 kk) i.toNatClampNeg v))) = wl w (up1 σ kk (upd (σ.1 kk) i.toNatClampNeg v)) := by
      rw [← wl_set1, hs]
    rw [e2] at hP1 hD1
    exact ⟨hP1, hD1⟩
theorem sm_zast (C : Cx M w cc nL own c0 ret rm) {cZ : ClassId} {n kk : Nat} {i v : Int32} {K : Sta → Option (ρ × Sta)} (hs : ∀ f g, wsh w kk f g = .inl (cZ, n, .inl f)) (hk : kk < wnn w) (ht : (wty w)[1]? = some (cZ, .boolean)) (hd : decode cc pc = .ok (.bastore, 1)) (k : ∀ σ1, Sm M w nL ov (pc + 1) lv st σ1 (K σ1)) : Sm M w nL ov pc lv (.int v :: .int i :: .ref (wad w kk) :: st) σ (sZ σ kk n i v K) := by
  intro r σ' e H locs ls hW hS hl
  by_cases hi : i < 0 ∨ n ≤ i.toNatClampNeg
  · rw [sZ, if_pos hi] at e
    cases e
  · rw [sZ, if_neg hi] at e
    refine va_zast C.1 C.2.1 C.2.2.2.2.2.1.1 hW.1 hW.2 hS kk 1 (n := n) (f := σ.1 kk) (by rw [wl_at hk, hs]) ht hi hd (fun H1 locs1 hP1 hD1 hS1 => k _ r σ' e H1 locs1 ls ?_ hS1 hl)
    have e2 : (wl w σ).set kk (wad w kk, .inl (cZ, n, .inl (upd (σ.1 kk) i.toNatClampNeg (vp_nar .boolean v)))) = wl w (up1 σ kk (upd (σ.1 kk) i.toNatClampNeg (vp_nar .boolean v))) := by
      rw [← wl_set1, hs]
    rw [e2] at hP1 hD1
    exact ⟨hP1, hD1⟩
theorem sm_aald (C : Cx M w cc nL own c0 ret rm) {cR : ClassId} {E : String} {n kk b t ti : Nat} {i : Int32} {K : Nat → Option (ρ × Sta)} (hs : ∀ f g, wsh w kk f g = .inl (cR, n, .inr (.inr (.inr (.inr (fun j => some (wad w (b + t * j)))))))) (hk : kk < wnn w) (ht : (wty w)[ti]? = some (cR, .object E)) (hd : decode cc pc = .ok (.aaload, 1)) (k : ∀ j, j < n → Sm M w nL ov (pc + 1) lv (.ref (wad w (b + t * j)) :: st) σ (K j)) : Sm M w nL ov pc lv (.int i :: .ref (wad w kk) :: st) σ (aR n i K) := by
  intro r σ' e H locs ls hW hS hl
  by_cases hi : i < 0 ∨ n ≤ i.toNatClampNeg
  · rw [aR, if_pos hi] at e
    cases e
  · rw [aR, if_neg hi] at e
    exact va_aldq C.1 C.2.1 C.2.2.2.2.2.1.1 hW.1 kk ti (n := n) (f := fun j => some (wad w (b + t * j))) (by rw [wl_at hk, hs]) ht hi hd (k _ (by omega) r σ' e H locs ls hW hS hl)
theorem sm_alen (C : Cx M w cc nL own c0 ret rm) {cI : ClassId} {n kk : Nat} (v : Int32) (hs : ∀ f g, wsh w kk f g = .inl (cI, n, .inl f)) (hk : kk < wnn w) (ht : (wty w)[0]? = some (cI, .int)) (hv : Int32.ofNat n = v) (hd : decode cc pc = .ok (.arraylength, 1)) (k : Sm M w nL ov (pc + 1) lv (.int v :: st) σ F) : Sm M w nL ov pc lv (.ref (wad w kk) :: st) σ F :=
  fun r σ' e H locs ls hW hS hl => va_alen C.1 C.2.1 C.2.2.2.2.2.1.1 hW.1 kk 0 (x := (n, .inl (σ.1 kk))) (by rw [wl_at hk, hs]) ht hv hd (k r σ' e H locs ls hW hS hl)
theorem sm_copy (C : Cx M w cc nL own c0 ret rm) {cI : ClassId} {n0 n1 k0 k1 m index : Nat} {z : Int32} {K : Sta → Option (ρ × Sta)} (hs0 : ∀ f g, wsh w k0 f g = .inl (cI, n0, .inl f)) (hk0 : k0 < wnn w) (hs1 : ∀ f g, wsh w k1 f g = .inl (cI, n1, .inl f)) (hk1 : k1 < wnn w) (ht : (wty w)[0]? = some (cI, .int)) (hlink : Cond.methodLink own index arraycopyName ∈ GT) (hnat : Cond.native arraycopyName ∈ GT) (hstat : Cond.static arraycopyName ∈ GT) (hini : Cond.initialized "java/lang/System" ∈ GT) (hz : z = nI m) (hm0 : m ≤ n0) (hm1 : m ≤ n1) (hm : m < 2 ^ 31) (hfr : 1 ≤ rm.frames) (hlo : (st.map fun v => v.category).sum + (nativeFrameWords "java/lang/System" "arraycopy" 5 + 11) ≤ rm.locals) (hd : decode cc pc = .ok (.invokestatic index, 3)) (k : ∀ σ1, Sm M w nL ov (pc + 3) lv st σ1 (K σ1)) : Sm M w nL ov pc lv (.int z :: .int 0 :: .ref (wad w k1) :: .int 0 :: .ref (wad w k0) :: st) σ (cpI σ k0 k1 m K) := by
  intro r σ' e H locs ls hW hS hl
  have hzc : z.toNatClampNeg = m := by rw [hz]; exact nI_clamp hm
  refine va_copyi C.1 C.2.1 (C.2.2.1.trans hl.1.symm) C.2.2.2.1 (C.2.2.2.2.1 _ (gtM hlink)) (C.2.2.2.2.1 _ (gtM hnat)) (C.2.2.2.2.1 _ (gtM hstat)) (C.2.2.2.2.1 _ (gtM hini)) C.2.2.2.2.2.1.1 hW.1 hW.2 hS k0 k1 0 0 (f := σ.1 k0) (g := σ.1 k1) (n0 := n0) (n1 := n1) (ty := .int) (by rw [wl_at hk0, hs0]) (by rw [wl_at hk1, hs1]) ht ht rfl (by decide) (by decide) (by rw [hz]; exact nI_pos hm) (by rw [hzc]; show 0 + m ≤ n0; omega) (by rw [hzc]; show 0 + m ≤ n1; omega) (fun _ _ => rfl) (by rw [C.2.2.2.2.2.2.2.2]; exact hfr) (by rw [C.2.2.2.2.2.2.2.2]; exact hlo) hd (fun H1 locs1 hP1 hD1 hS1 => k _ r σ' e H1 locs1 ls ?_ hS1 hl)
  have e2 : (wl w σ).set k1 (wad w k1, .inl (cI, n1, .inl (va_cpy (σ.1 k0) (σ.1 k1) (0 : Int32).toNatClampNeg (0 : Int32).toNatClampNeg z.toNatClampNeg))) = wl w (up1 σ k1 (va_cpy (σ.1 k0) (σ.1 k1) 0 0 m)) := by
    rw [← wl_set1, hs1, hzc]
    rfl
  rw [e2] at hP1 hD1
  exact ⟨hP1, hD1⟩
theorem sm_max (C : Cx M w cc nL own c0 ret rm) {index : Nat} {x y : Int32} (hlink : Cond.methodLink own index Lib.Math.max.name ∈ GT) (hstat : Cond.static Lib.Math.max.name ∈ GT) (hini : Cond.initialized "java/lang/Math" ∈ GT) (hcode : Cond.code Lib.Math.max.name Lib.Math.max.code 2 (some .int) ∈ GT) (hfr : 1 ≤ rm.frames) (hlo : (st.map fun v => v.category).sum + 13 ≤ rm.locals) (hd : decode cc pc = .ok (.invokestatic index, 3)) (k : Sm M w nL ov (pc + 3) lv (.int (if x < y then y else x) :: st) σ F) : Sm M w nL ov pc lv (.int y :: .int x :: st) σ F := by
  intro r σ' e H locs ls hW hS hl
  exact va_mmax C.1 C.2.1 (C.2.2.1.trans hl.1.symm) C.2.2.2.1 (C.2.2.2.2.1 _ (gtM hlink)) (C.2.2.2.2.1 _ (gtM hstat)) (C.2.2.2.2.1 _ (gtM hini)) (C.2.2.2.2.1 _ (gtM hcode)) (by rw [C.2.2.2.2.2.2.2.2]; exact hfr) (by rw [C.2.2.2.2.2.2.2.2]; exact hlo) (Nat.zero_le _) (Nat.zero_le _) hd (k r σ' e H locs ls hW hS hl)
/-- behind a call -/
theorem sm_after {ρ2 : Type} {ov2 : ρ2 → Option Value} {f : Option (ρ2 × Sta)} {K : ρ2 → Sta → Option (ρ × Sta)} {st0 : List Value} {a : Array Value} (C : Cx M w cc nL own c0 ret rm)
    (run : ∀ (q : ρ2) (σ1 : Sta), f = some (q, σ1) → ∀ (H : Heap) (locs : List Loc) (ls : Array Slot), Wd w σ H → va_S (wA w) (mS M).heap H locs → lv_has ls nL lv → va_Run (mP M) (mL M) (mE M) (mR M) (mS M) (mI M) (mA M) (mB M) (mM M) (mC M) H locs 0 0 0 0 (F0 (mI M) pc ls st0) st (Rt w (ov2 q) σ1 a) (wA w))
    (k : ∀ (q : ρ2) (σ1 : Sta), Sm M w nL ov (pc + 3) lv ((ov2 q).toList ++ st) σ1 (K q σ1)) : Sm M w nL ov pc lv st0 σ (cA f K) := by
  intro r σ' e H locs ls hW hS hl
  obtain ⟨q, σ1, h1, h2⟩ := cA_some e
  intro T hT X
  obtain ⟨v, st₀, t, T', L, g0, X', hL, e1, e2, ⟨⟨hv, hw1⟩, hz, hk⟩, go⟩ := run q σ1 h1 H locs ls hW hS hl T hT X
  cases hv
  rw [g0] at hz hk
  obtain ⟨t2, a1, b1⟩ := k q σ1 r σ' h2 T'.heap (locs ++ L) ls (by rw [e1]; exact hw1) ⟨Nat.le_trans hS.1 (by rw [e1]; exact hz), fun x g1 g2 => by rw [e1, hk x (Nat.lt_of_lt_of_le g1 hS.1) g2]; exact hS.2.1 x g1 g2, fun x hx => by
      rcases List.mem_append.mp hx with h | h
      · exact hS.2.2 x h
      · exact hL x h⟩ hl T' rfl X'
  exact ⟨t2, go t2 a1, b1⟩
theorem sm_blind {av : List Value} : FrameBlind (va_Pc av (fun U => Wd w σ U.heap ∧ KK w U U.heap)) := fun _ _ _ _ h => ⟨h.1, h.2.1, h.2.2.calling⟩
theorem sm_pre {H : Heap} {locs : List Loc} {av : List Value} (C : Cx M w cc nL own c0 ret rm) (hW : Wd w σ H) (hS : va_S (wA w) (mS M).heap H locs) : ∀ U : State, U.heap = H → (mS M).WarmedH U.vm → va_Pc av (fun U => Wd w σ U.heap ∧ KK w U U.heap) av.toArray U := fun U hU hW9 => ⟨rfl, by rw [hU]; exact hW, by rw [hU]; exact (C.2.2.2.2.2.1.warm hW9).kept hS.2.1⟩
theorem gV {c1 : Cond} {own R : String} {index : Nat} {y : MethodName} {b : ByteArray} {mx : Nat} {rt : Option FieldType} (h1 : Cond.methodLink own index y ∈ GT) (h2 : Cond.instanceMethod y ∈ GT) (h3 : Cond.selects R y y ∈ GT) (h4 : Cond.initialized R ∈ GT) (h5 : Cond.code y b mx rt ∈ GT) : GoodIn (c1 :: GT) (wsV own index R y (Cond.code y b mx rt :: GT)) := by
  intro x hx
  simp only [wsV, List.cons_append, List.nil_append, List.mem_cons] at hx
  rcases hx with rfl | rfl | rfl | rfl | rfl | hx
  · exact gtOne h1
  · exact gtOne h2
  · exact gtOne h3
  · exact gtOne h4
  · exact gtOne h5
  · exact gtOne hx
theorem gS {c1 : Cond} {own : String} {index : Nat} {y : MethodName} {b : ByteArray} {mx : Nat} {rt : Option FieldType} (h1 : Cond.methodLink own index y ∈ GT) (h2 : Cond.static y ∈ GT) (h4 : Cond.initialized y.cls ∈ GT) (h5 : Cond.code y b mx rt ∈ GT) : GoodIn (c1 :: GT) (va_wsS own index y (Cond.code y b mx rt :: GT)) := by
  intro x hx
  simp only [va_wsS, List.cons_append, List.nil_append, List.mem_cons] at hx
  rcases hx with rfl | rfl | rfl | rfl | hx
  · exact gtOne h1
  · exact gtOne h2
  · exact gtOne h4
  · exact gtOne h5
  · exact gtOne hx
theorem gC {c1 : Cond} {y : MethodName} {b : ByteArray} {mx : Nat} {rt : Option FieldType} (h5 : Cond.code y b mx rt ∈ GT) : GoodIn (c1 :: GT) (Cond.code y b mx rt :: GT) := by
  intro x hx
  rcases List.mem_cons.mp hx with rfl | hx
  · exact gtOne h5
  · exact gtOne hx
/-- a virtual call whose method is the receiver's own -/
theorem sm_callV {ρ2 : Type} {ov2 : ρ2 → Option Value} {f : Option (ρ2 × Sta)} {K : ρ2 → Sta → Option (ρ × Sta)} (C : Cx M w cc nL own c0 ret rm) {R : String} {T : u_T} {N ci index kk mx n : Nat} {fs : (Nat → Int32) → (Nat → Int64) → List Value} {y : MethodName} {b : ByteArray} {rt : Option FieldType} {rmc : Room} (As : List Value) (hs : ∀ f g, wsh w kk f g = .inr (ci, fs f g)) (hk : kk < wnn w) (hc : cls[ci]? = some (R, T, N))
    (hM : ∀ q σ1, f = some (q, σ1) → Ct (mL M) w y (Cond.code y b mx rt :: GT) rmc (.ref (wad w kk) :: As) σ (ov2 q) σ1) (h1 : Cond.methodLink own index y ∈ GT) (h2 : Cond.instanceMethod y ∈ GT) (h3 : Cond.selects R y y ∈ GT) (h4 : Cond.initialized R ∈ GT) (h5 : Cond.code y b mx rt ∈ GT) (hd : decode cc pc = .ok (.invokevirtual index, 3))
    (hn : As.length = n) (hrc : rmc.cells = 0) (hrs : rmc.slots = 0) (hdd : y.cls = R ∧ y.cls ≠ "java/lang/invoke/MethodHandle" ∧ y.cls ≠ "java/lang/invoke/VarHandle" ∧ (parseMethodDescriptor y.desc).map (fun d => d.parameters.length) = some n) (hR : rmc.frames + 1 ≤ rm.frames ∧ 8 + (mx + 11) + rmc.locals ≤ rm.locals) (hst : (st.map fun v => v.category).sum ≤ 8)
    (st0 : List Value) (hst0 : st0 = As.reverse ++ .ref (wad w kk) :: st) (k : ∀ (q : ρ2) (σ1 : Sta), Sm M w nL ov (pc + 3) lv ((ov2 q).toList ++ st) σ1 (K q σ1)) : Sm M w nL ov pc lv st0 σ (cA f K) :=
  sm_after (a := (Value.ref (wad w kk) :: As).toArray) C (fun q σ1 hq H locs ls hW hS hl => va_runV (As := As) (rest := st) ⟨C.1, C.2.1, C.2.2.1, C.2.2.2.1, C.2.2.2.2.1⟩ (hM q σ1 hq) (cwV n C.2.2.2.2.1 (gV h1 h2 h3 h4 h5) rfl hrc hrs hdd (by rw [C.2.2.2.2.2.2.2.2]; exact hR)) ⟨sm_blind, va_recv C.2.2.2.2.2.1.1 hW.1 (ci := ci) (q0 := kk) hc (fs := fs (σ.1 kk) (σ.2 kk)) (by rw [wl_at hk, hs]), sm_pre C hW hS⟩ rfl hn hl.1 hst0 (lv_room hst) hd ⟨Nat.zero_le _, Nat.zero_le _⟩) k
/-- a static call -/
theorem sm_callS {ρ2 : Type} {ov2 : ρ2 → Option Value} {f : Option (ρ2 × Sta)} {K : ρ2 → Sta → Option (ρ × Sta)} (C : Cx M w cc nL own c0 ret rm) {index mx n : Nat} {y : MethodName} {b : ByteArray} {rt : Option FieldType} {rmc : Room} (As : List Value)
    (hM : ∀ q σ1, f = some (q, σ1) → Ct (mL M) w y (Cond.code y b mx rt :: GT) rmc As σ (ov2 q) σ1) (h1 : Cond.methodLink own index y ∈ GT) (h2 : Cond.static y ∈ GT) (h4 : Cond.initialized y.cls ∈ GT) (h5 : Cond.code y b mx rt ∈ GT) (hd : decode cc pc = .ok (.invokestatic index, 3))
    (hn : As.length = n) (hrc : rmc.cells = 0) (hrs : rmc.slots = 0) (hdd : y.cls ≠ "java/lang/invoke/MethodHandle" ∧ y.cls ≠ "java/lang/invoke/VarHandle" ∧ (parseMethodDescriptor y.desc).map (fun d => d.parameters.length) = some n) (hR : rmc.frames + 1 ≤ rm.frames ∧ 8 + (mx + 11) + rmc.locals ≤ rm.locals) (hst : (st.map fun v => v.category).sum ≤ 8)
    (st0 : List Value) (hst0 : st0 = As.reverse ++ st) (k : ∀ (q : ρ2) (σ1 : Sta), Sm M w nL ov (pc + 3) lv ((ov2 q).toList ++ st) σ1 (K q σ1)) : Sm M w nL ov pc lv st0 σ (cA f K) :=
  sm_after (a := As.toArray) C (fun q σ1 hq H locs ls hW hS hl => va_runS (As := As) (rest := st) ⟨C.1, C.2.1, C.2.2.1, C.2.2.2.1, C.2.2.2.2.1⟩ (hM q σ1 hq) (va_cwS n C.2.2.2.2.1 (gS h1 h2 h4 h5) rfl hrc hrs hdd (by rw [C.2.2.2.2.2.2.2.2]; exact hR)) ⟨sm_blind, sm_pre C hW hS⟩ rfl hn hl.1 hst0 (lv_room hst) hd ⟨Nat.zero_le _, Nat.zero_le _⟩) k
/-- a static call of a nest mate's private method -/
theorem sm_callSN {ρ2 : Type} {ov2 : ρ2 → Option Value} {f : Option (ρ2 × Sta)} {K : ρ2 → Sta → Option (ρ × Sta)} (C : Cx M w cc nL own c0 ret rm) {index mx n : Nat} {host : String} {y : MethodName} {b : ByteArray} {rt : Option FieldType} {rmc : Room} (As : List Value)
    (hM : ∀ q σ1, f = some (q, σ1) → Ct (mL M) w y (Cond.code y b mx rt :: GT) rmc As σ (ov2 q) σ1) (h1 : (own, index, y, host) ∈ nwM) (h2 : Cond.static y ∈ GT) (h4 : Cond.initialized y.cls ∈ GT) (h5 : Cond.code y b mx rt ∈ GT) (hd : decode cc pc = .ok (.invokestatic index, 3))
    (hn : As.length = n) (hrc : rmc.cells = 0) (hrs : rmc.slots = 0) (hdd : y.cls ≠ "java/lang/invoke/MethodHandle" ∧ y.cls ≠ "java/lang/invoke/VarHandle" ∧ (parseMethodDescriptor y.desc).map (fun d => d.parameters.length) = some n) (hR : rmc.frames + 1 ≤ rm.frames ∧ 8 + (mx + 11) + rmc.locals ≤ rm.locals) (hst : (st.map fun v => v.category).sum ≤ 8)
    (st0 : List Value) (hst0 : st0 = As.reverse ++ st) (k : ∀ (q : ρ2) (σ1 : Sta), Sm M w nL ov (pc + 3) lv ((ov2 q).toList ++ st) σ1 (K q σ1)) : Sm M w nL ov pc lv st0 σ (cA f K) :=
  sm_after (a := As.toArray) C (fun q σ1 hq H locs ls hW hS hl => va_runSN (As := As) (rest := st) ⟨C.1, C.2.1, C.2.2.1, C.2.2.2.1, C.2.2.2.2.1⟩ (hM q σ1 hq) ⟨va_cnB (host := host) n C.2.2.2.2.1 (gC h5) rfl hrc hrs (C.2.2.2.2.2.1.2.1.2 _ h1) (C.2.2.2.2.1 _ (gtM h4)) hdd (by rw [C.2.2.2.2.2.2.2.2]; exact hR), C.2.2.2.2.1 _ (gtM h2), trivial⟩ ⟨sm_blind, sm_pre C hW hS⟩ rfl hn hl.1 hst0 (lv_room hst) hd ⟨Nat.zero_le _, Nat.zero_le _⟩) k
end ROWS
/-- a contract out of a walk from the entry -/
theorem ct_of {l : Launch} {w : Wco} {y : MethodName} {cc : ByteArray} {nL : Nat} {rt : Option FieldType} {rm : Room} {av : List Value} {σ σ' : Sta} {ρ : Type} {ov : ρ → Option Value} {r : ρ} {F : Option (ρ × Sta)} (lv : List (Nat × Value)) (hy : plainName y.cls = true) (hlen : (lg_sl av).length ≤ nL) (hlv : lv_args 0 av = lv) (h : F = some (r, σ'))
    (walk : ∀ M : Mco, mL M = l → Cx M w cc nL y.cls (Cond.code y cc nL rt) rt rm → Sm M w nL ov 0 lv [] σ F) : Ct l w y (Cond.code y cc nL rt :: GT) rm av σ (ov r) σ' := by
  refine Met.ofW (cc := cc) (maxL := nL) (ret := rt) hy rfl ?_
  intro p e s m args below meth c s₁ B hml hv
  obtain ⟨rfl, hW, hK⟩ := hv
  have hts := atoms_spec (ws := Cond.code y cc nL rt :: GT) B.pre
  have hown : s.vm.findClass y.cls = some m.cls := findClass_of_methodNamed B.named
  have hl := lv_entry av (n := nL) hlen
  rw [lg_entry_eq]
  rw [hlv] at hl
  exact walk (p, l, e, (headSpec (Cond.code y cc nL rt :: GT) rm).room, s, m, av.toArray, below, meth, c) rfl ⟨B.exec, B.bytes, hml, hown, hts, hK, B.notSynchronized, B.returns, rfl⟩ r σ' h s.heap [] _ hW va_S.rf hl
end
