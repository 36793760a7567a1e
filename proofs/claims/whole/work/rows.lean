section
-- ===== PART A: goes FIRST, ahead of the names: the tables' words, and 'selects' of the private methods out of them =====
/-- a private method of a class that the tables say can be made, by its rows of tables_1 -/
def lw_okq (q : MethodName × Nat) : Prop := (q.1.cls ≠ "java/lang/invoke/MethodHandle" ∧ q.1.cls ≠ "java/lang/invoke/VarHandle") ∧ Cond.instantiable q.1.cls q.2 ∈ tables_1 ∧ Cond.privateMethod q.1 ∈ tables_1 ∧ Cond.instanceMethod q.1 ∈ tables_1
theorem lw_p0 : lw_okq (⟨"SweptGates", "order", "(IIII)I"⟩, 9) := ⟨⟨by decide +kernel, by decide +kernel⟩, List.mem_of_getElem? (i := 15) (by decide +kernel), List.mem_of_getElem? (i := 221) (by decide +kernel), List.mem_of_getElem? (i := 222) (by decide +kernel)⟩
theorem lw_p1 : lw_okq (⟨"SweptGates", "refuse", "(I)I"⟩, 9) := ⟨⟨by decide +kernel, by decide +kernel⟩, List.mem_of_getElem? (i := 15) (by decide +kernel), List.mem_of_getElem? (i := 245) (by decide +kernel), List.mem_of_getElem? (i := 246) (by decide +kernel)⟩
theorem lw_p2 : lw_okq (⟨"SweptGates", "sweepNow", "()LSweptGates$Sweep;"⟩, 9) := ⟨⟨by decide +kernel, by decide +kernel⟩, List.mem_of_getElem? (i := 15) (by decide +kernel), List.mem_of_getElem? (i := 322) (by decide +kernel), List.mem_of_getElem? (i := 323) (by decide +kernel)⟩
theorem lw_p3 : lw_okq (⟨"SweptGates", "orderIsDone", "(I)Z"⟩, 9) := ⟨⟨by decide +kernel, by decide +kernel⟩, List.mem_of_getElem? (i := 15) (by decide +kernel), List.mem_of_getElem? (i := 627) (by decide +kernel), List.mem_of_getElem? (i := 628) (by decide +kernel)⟩
theorem lw_p4 : lw_okq (⟨"SweptGates", "toldOf", "(I)I"⟩, 9) := ⟨⟨by decide +kernel, by decide +kernel⟩, List.mem_of_getElem? (i := 15) (by decide +kernel), List.mem_of_getElem? (i := 648) (by decide +kernel), List.mem_of_getElem? (i := 649) (by decide +kernel)⟩
theorem lw_p5 : lw_okq (⟨"SweptGatesModel", "no", "()I"⟩, 24) := ⟨⟨by decide +kernel, by decide +kernel⟩, List.mem_of_getElem? (i := 681) (by decide +kernel), List.mem_of_getElem? (i := 764) (by decide +kernel), List.mem_of_getElem? (i := 765) (by decide +kernel)⟩
theorem lw_p6 : lw_okq (⟨"SweptGatesModel", "laysAside", "()V"⟩, 24) := ⟨⟨by decide +kernel, by decide +kernel⟩, List.mem_of_getElem? (i := 681) (by decide +kernel), List.mem_of_getElem? (i := 772) (by decide +kernel), List.mem_of_getElem? (i := 773) (by decide +kernel)⟩
theorem lw_p7 : lw_okq (⟨"SweptGatesModel", "begins", "(I)I"⟩, 24) := ⟨⟨by decide +kernel, by decide +kernel⟩, List.mem_of_getElem? (i := 681) (by decide +kernel), List.mem_of_getElem? (i := 776) (by decide +kernel), List.mem_of_getElem? (i := 777) (by decide +kernel)⟩
theorem lw_p8 : lw_okq (⟨"SweptGatesModel", "answers", "(I)I"⟩, 24) := ⟨⟨by decide +kernel, by decide +kernel⟩, List.mem_of_getElem? (i := 681) (by decide +kernel), List.mem_of_getElem? (i := 783) (by decide +kernel), List.mem_of_getElem? (i := 784) (by decide +kernel)⟩
theorem lw_p9 : lw_okq (⟨"SweptGatesModel", "leaves", "()V"⟩, 24) := ⟨⟨by decide +kernel, by decide +kernel⟩, List.mem_of_getElem? (i := 681) (by decide +kernel), List.mem_of_getElem? (i := 787) (by decide +kernel), List.mem_of_getElem? (i := 788) (by decide +kernel)⟩
theorem lw_p10 : lw_okq (⟨"SweptGatesModel", "full", "()I"⟩, 24) := ⟨⟨by decide +kernel, by decide +kernel⟩, List.mem_of_getElem? (i := 681) (by decide +kernel), List.mem_of_getElem? (i := 791) (by decide +kernel), List.mem_of_getElem? (i := 792) (by decide +kernel)⟩
theorem lw_p11 : lw_okq (⟨"SweptGatesModel", "bad", "()I"⟩, 24) := ⟨⟨by decide +kernel, by decide +kernel⟩, List.mem_of_getElem? (i := 681) (by decide +kernel), List.mem_of_getElem? (i := 795) (by decide +kernel), List.mem_of_getElem? (i := 796) (by decide +kernel)⟩
theorem lw_p12 : lw_okq (⟨"SweptGatesModel", "addsGate", "(II)I"⟩, 24) := ⟨⟨by decide +kernel, by decide +kernel⟩, List.mem_of_getElem? (i := 681) (by decide +kernel), List.mem_of_getElem? (i := 803) (by decide +kernel), List.mem_of_getElem? (i := 804) (by decide +kernel)⟩
theorem lw_p13 : lw_okq (⟨"SweptGatesModel", "isLiteral", "(I)Z"⟩, 24) := ⟨⟨by decide +kernel, by decide +kernel⟩, List.mem_of_getElem? (i := 681) (by decide +kernel), List.mem_of_getElem? (i := 807) (by decide +kernel), List.mem_of_getElem? (i := 808) (by decide +kernel)⟩
theorem lw_p14 : lw_okq (⟨"SweptGatesModel", "adds", "(II)I"⟩, 24) := ⟨⟨by decide +kernel, by decide +kernel⟩, List.mem_of_getElem? (i := 681) (by decide +kernel), List.mem_of_getElem? (i := 811) (by decide +kernel), List.mem_of_getElem? (i := 812) (by decide +kernel)⟩
theorem lw_p15 : lw_okq (⟨"SweptGatesModel", "addsXor", "(II)I"⟩, 24) := ⟨⟨by decide +kernel, by decide +kernel⟩, List.mem_of_getElem? (i := 681) (by decide +kernel), List.mem_of_getElem? (i := 819) (by decide +kernel), List.mem_of_getElem? (i := 820) (by decide +kernel)⟩
def lw_privs_1 : List (MethodName × Nat) := [(⟨"SweptGates", "order", "(IIII)I"⟩, 9), (⟨"SweptGates", "refuse", "(I)I"⟩, 9), (⟨"SweptGates", "sweepNow", "()LSweptGates$Sweep;"⟩, 9), (⟨"SweptGates", "orderIsDone", "(I)Z"⟩, 9), (⟨"SweptGates", "toldOf", "(I)I"⟩, 9), (⟨"SweptGatesModel", "no", "()I"⟩, 24), (⟨"SweptGatesModel", "laysAside", "()V"⟩, 24), (⟨"SweptGatesModel", "begins", "(I)I"⟩, 24), (⟨"SweptGatesModel", "answers", "(I)I"⟩, 24), (⟨"SweptGatesModel", "leaves", "()V"⟩, 24), (⟨"SweptGatesModel", "full", "()I"⟩, 24), (⟨"SweptGatesModel", "bad", "()I"⟩, 24), (⟨"SweptGatesModel", "addsGate", "(II)I"⟩, 24), (⟨"SweptGatesModel", "isLiteral", "(I)Z"⟩, 24), (⟨"SweptGatesModel", "adds", "(II)I"⟩, 24), (⟨"SweptGatesModel", "addsXor", "(II)I"⟩, 24)]
theorem lw_r1 : ∀ q ∈ lw_privs_1, lw_okq q := List.forall_mem_cons.mpr ⟨lw_p0, List.forall_mem_cons.mpr ⟨lw_p1, List.forall_mem_cons.mpr ⟨lw_p2, List.forall_mem_cons.mpr ⟨lw_p3, List.forall_mem_cons.mpr ⟨lw_p4, List.forall_mem_cons.mpr ⟨lw_p5, List.forall_mem_cons.mpr ⟨lw_p6, List.forall_mem_cons.mpr ⟨lw_p7, List.forall_mem_cons.mpr ⟨lw_p8, List.forall_mem_cons.mpr ⟨lw_p9, List.forall_mem_cons.mpr ⟨lw_p10, List.forall_mem_cons.mpr ⟨lw_p11, List.forall_mem_cons.mpr ⟨lw_p12, List.forall_mem_cons.mpr ⟨lw_p13, List.forall_mem_cons.mpr ⟨lw_p14, List.forall_mem_cons.mpr ⟨lw_p15, fun _ h => absurd h List.not_mem_nil⟩⟩⟩⟩⟩⟩⟩⟩⟩⟩⟩⟩⟩⟩⟩⟩
theorem lw_p16 : lw_okq (⟨"SweptGatesModel", "addsThree", "(IIII)I"⟩, 24) := ⟨⟨by decide +kernel, by decide +kernel⟩, List.mem_of_getElem? (i := 681) (by decide +kernel), List.mem_of_getElem? (i := 826) (by decide +kernel), List.mem_of_getElem? (i := 827) (by decide +kernel)⟩
theorem lw_p17 : lw_okq (⟨"SweptGatesModel", "addsMux", "(III)I"⟩, 24) := ⟨⟨by decide +kernel, by decide +kernel⟩, List.mem_of_getElem? (i := 681) (by decide +kernel), List.mem_of_getElem? (i := 834) (by decide +kernel), List.mem_of_getElem? (i := 835) (by decide +kernel)⟩
theorem lw_p18 : lw_okq (⟨"SweptGatesModel", "addsOut", "(II)I"⟩, 24) := ⟨⟨by decide +kernel, by decide +kernel⟩, List.mem_of_getElem? (i := 681) (by decide +kernel), List.mem_of_getElem? (i := 842) (by decide +kernel), List.mem_of_getElem? (i := 843) (by decide +kernel)⟩
theorem lw_p19 : lw_okq (⟨"SweptGatesModel", "addsPattern", "(I)I"⟩, 24) := ⟨⟨by decide +kernel, by decide +kernel⟩, List.mem_of_getElem? (i := 681) (by decide +kernel), List.mem_of_getElem? (i := 853) (by decide +kernel), List.mem_of_getElem? (i := 854) (by decide +kernel)⟩
theorem lw_p20 : lw_okq (⟨"SweptGatesModel", "rows", "()I"⟩, 24) := ⟨⟨by decide +kernel, by decide +kernel⟩, List.mem_of_getElem? (i := 681) (by decide +kernel), List.mem_of_getElem? (i := 857) (by decide +kernel), List.mem_of_getElem? (i := 858) (by decide +kernel)⟩
theorem lw_p21 : lw_okq (⟨"SweptGatesModel", "settlesAll", "()I"⟩, 24) := ⟨⟨by decide +kernel, by decide +kernel⟩, List.mem_of_getElem? (i := 681) (by decide +kernel), List.mem_of_getElem? (i := 865) (by decide +kernel), List.mem_of_getElem? (i := 866) (by decide +kernel)⟩
theorem lw_p22 : lw_okq (⟨"SweptGatesModel", "sweeps", "()V"⟩, 24) := ⟨⟨by decide +kernel, by decide +kernel⟩, List.mem_of_getElem? (i := 681) (by decide +kernel), List.mem_of_getElem? (i := 869) (by decide +kernel), List.mem_of_getElem? (i := 870) (by decide +kernel)⟩
theorem lw_p23 : lw_okq (⟨"SweptGatesModel", "laysTables", "()V"⟩, 24) := ⟨⟨by decide +kernel, by decide +kernel⟩, List.mem_of_getElem? (i := 681) (by decide +kernel), List.mem_of_getElem? (i := 873) (by decide +kernel), List.mem_of_getElem? (i := 874) (by decide +kernel)⟩
theorem lw_p24 : lw_okq (⟨"SweptGatesModel", "tableOf", "(I)I"⟩, 24) := ⟨⟨by decide +kernel, by decide +kernel⟩, List.mem_of_getElem? (i := 681) (by decide +kernel), List.mem_of_getElem? (i := 877) (by decide +kernel), List.mem_of_getElem? (i := 878) (by decide +kernel)⟩
theorem lw_p25 : lw_okq (⟨"SweptGatesModel", "merges", "(III)V"⟩, 24) := ⟨⟨by decide +kernel, by decide +kernel⟩, List.mem_of_getElem? (i := 681) (by decide +kernel), List.mem_of_getElem? (i := 881) (by decide +kernel), List.mem_of_getElem? (i := 882) (by decide +kernel)⟩
theorem lw_p26 : lw_okq (⟨"SweptGatesModel", "sweepsGate", "(I)V"⟩, 24) := ⟨⟨by decide +kernel, by decide +kernel⟩, List.mem_of_getElem? (i := 681) (by decide +kernel), List.mem_of_getElem? (i := 885) (by decide +kernel), List.mem_of_getElem? (i := 886) (by decide +kernel)⟩
theorem lw_p27 : lw_okq (⟨"SweptGatesModel", "formOf", "(I)I"⟩, 24) := ⟨⟨by decide +kernel, by decide +kernel⟩, List.mem_of_getElem? (i := 681) (by decide +kernel), List.mem_of_getElem? (i := 889) (by decide +kernel), List.mem_of_getElem? (i := 890) (by decide +kernel)⟩
theorem lw_p28 : lw_okq (⟨"SweptGatesModel", "isByRules", "(III)Z"⟩, 24) := ⟨⟨by decide +kernel, by decide +kernel⟩, List.mem_of_getElem? (i := 681) (by decide +kernel), List.mem_of_getElem? (i := 893) (by decide +kernel), List.mem_of_getElem? (i := 894) (by decide +kernel)⟩
theorem lw_p29 : lw_okq (⟨"SweptGatesModel", "isThere", "(III)Z"⟩, 24) := ⟨⟨by decide +kernel, by decide +kernel⟩, List.mem_of_getElem? (i := 681) (by decide +kernel), List.mem_of_getElem? (i := 897) (by decide +kernel), List.mem_of_getElem? (i := 898) (by decide +kernel)⟩
theorem lw_p30 : lw_okq (⟨"SweptGatesModel", "looksAt", "(II)Z"⟩, 24) := ⟨⟨by decide +kernel, by decide +kernel⟩, List.mem_of_getElem? (i := 681) (by decide +kernel), List.mem_of_getElem? (i := 901) (by decide +kernel), List.mem_of_getElem? (i := 902) (by decide +kernel)⟩
theorem lw_p31 : lw_okq (⟨"SweptGatesModel", "otherwise", "(II)I"⟩, 24) := ⟨⟨by decide +kernel, by decide +kernel⟩, List.mem_of_getElem? (i := 681) (by decide +kernel), List.mem_of_getElem? (i := 905) (by decide +kernel), List.mem_of_getElem? (i := 906) (by decide +kernel)⟩
def lw_privs_2 : List (MethodName × Nat) := [(⟨"SweptGatesModel", "addsThree", "(IIII)I"⟩, 24), (⟨"SweptGatesModel", "addsMux", "(III)I"⟩, 24), (⟨"SweptGatesModel", "addsOut", "(II)I"⟩, 24), (⟨"SweptGatesModel", "addsPattern", "(I)I"⟩, 24), (⟨"SweptGatesModel", "rows", "()I"⟩, 24), (⟨"SweptGatesModel", "settlesAll", "()I"⟩, 24), (⟨"SweptGatesModel", "sweeps", "()V"⟩, 24), (⟨"SweptGatesModel", "laysTables", "()V"⟩, 24), (⟨"SweptGatesModel", "tableOf", "(I)I"⟩, 24), (⟨"SweptGatesModel", "merges", "(III)V"⟩, 24), (⟨"SweptGatesModel", "sweepsGate", "(I)V"⟩, 24), (⟨"SweptGatesModel", "formOf", "(I)I"⟩, 24), (⟨"SweptGatesModel", "isByRules", "(III)Z"⟩, 24), (⟨"SweptGatesModel", "isThere", "(III)Z"⟩, 24), (⟨"SweptGatesModel", "looksAt", "(II)Z"⟩, 24), (⟨"SweptGatesModel", "otherwise", "(II)I"⟩, 24)]
theorem lw_r2 : ∀ q ∈ lw_privs_2, lw_okq q := List.forall_mem_cons.mpr ⟨lw_p16, List.forall_mem_cons.mpr ⟨lw_p17, List.forall_mem_cons.mpr ⟨lw_p18, List.forall_mem_cons.mpr ⟨lw_p19, List.forall_mem_cons.mpr ⟨lw_p20, List.forall_mem_cons.mpr ⟨lw_p21, List.forall_mem_cons.mpr ⟨lw_p22, List.forall_mem_cons.mpr ⟨lw_p23, List.forall_mem_cons.mpr ⟨lw_p24, List.forall_mem_cons.mpr ⟨lw_p25, List.forall_mem_cons.mpr ⟨lw_p26, List.forall_mem_cons.mpr ⟨lw_p27, List.forall_mem_cons.mpr ⟨lw_p28, List.forall_mem_cons.mpr ⟨lw_p29, List.forall_mem_cons.mpr ⟨lw_p30, List.forall_mem_cons.mpr ⟨lw_p31, fun _ h => absurd h List.not_mem_nil⟩⟩⟩⟩⟩⟩⟩⟩⟩⟩⟩⟩⟩⟩⟩⟩
theorem lw_p32 : lw_okq (⟨"SweptGatesModel", "checks", "(IIZ)Z"⟩, 24) := ⟨⟨by decide +kernel, by decide +kernel⟩, List.mem_of_getElem? (i := 681) (by decide +kernel), List.mem_of_getElem? (i := 912) (by decide +kernel), List.mem_of_getElem? (i := 913) (by decide +kernel)⟩
theorem lw_p33 : lw_okq (⟨"SweptGatesModel", "comes", "(I)V"⟩, 24) := ⟨⟨by decide +kernel, by decide +kernel⟩, List.mem_of_getElem? (i := 681) (by decide +kernel), List.mem_of_getElem? (i := 916) (by decide +kernel), List.mem_of_getElem? (i := 917) (by decide +kernel)⟩
theorem lw_p34 : lw_okq (⟨"SweptGatesModel", "settled", "(I)I"⟩, 24) := ⟨⟨by decide +kernel, by decide +kernel⟩, List.mem_of_getElem? (i := 681) (by decide +kernel), List.mem_of_getElem? (i := 920) (by decide +kernel), List.mem_of_getElem? (i := 921) (by decide +kernel)⟩
theorem lw_p35 : lw_okq (⟨"SweptGatesModel", "isGate", "(I)Z"⟩, 24) := ⟨⟨by decide +kernel, by decide +kernel⟩, List.mem_of_getElem? (i := 681) (by decide +kernel), List.mem_of_getElem? (i := 928) (by decide +kernel), List.mem_of_getElem? (i := 929) (by decide +kernel)⟩
theorem lw_p36 : lw_okq (⟨"SweptGatesModel", "isNode", "(I)Z"⟩, 24) := ⟨⟨by decide +kernel, by decide +kernel⟩, List.mem_of_getElem? (i := 681) (by decide +kernel), List.mem_of_getElem? (i := 932) (by decide +kernel), List.mem_of_getElem? (i := 933) (by decide +kernel)⟩
theorem lw_p37 : lw_okq (⟨"SweptGatesModel", "tellTable", "(I)I"⟩, 24) := ⟨⟨by decide +kernel, by decide +kernel⟩, List.mem_of_getElem? (i := 681) (by decide +kernel), List.mem_of_getElem? (i := 940) (by decide +kernel), List.mem_of_getElem? (i := 941) (by decide +kernel)⟩
theorem lw_p38 : lw_okq (⟨"SweptGatesModel", "depthOf", "(I)I"⟩, 24) := ⟨⟨by decide +kernel, by decide +kernel⟩, List.mem_of_getElem? (i := 681) (by decide +kernel), List.mem_of_getElem? (i := 952) (by decide +kernel), List.mem_of_getElem? (i := 953) (by decide +kernel)⟩
theorem lw_p39 : lw_okq (⟨"SweptGatesModel", "coneOf", "(I)I"⟩, 24) := ⟨⟨by decide +kernel, by decide +kernel⟩, List.mem_of_getElem? (i := 681) (by decide +kernel), List.mem_of_getElem? (i := 960) (by decide +kernel), List.mem_of_getElem? (i := 961) (by decide +kernel)⟩
theorem lw_p40 : lw_okq (⟨"SweptGatesModel", "countOf", "(I)I"⟩, 24) := ⟨⟨by decide +kernel, by decide +kernel⟩, List.mem_of_getElem? (i := 681) (by decide +kernel), List.mem_of_getElem? (i := 972) (by decide +kernel), List.mem_of_getElem? (i := 973) (by decide +kernel)⟩
theorem lw_p41 : lw_okq (⟨"SweptGatesModel", "signOf", "(I)I"⟩, 24) := ⟨⟨by decide +kernel, by decide +kernel⟩, List.mem_of_getElem? (i := 681) (by decide +kernel), List.mem_of_getElem? (i := 980) (by decide +kernel), List.mem_of_getElem? (i := 981) (by decide +kernel)⟩
theorem lw_p42 : lw_okq (⟨"SweptGatesModel", "merged", "(I)I"⟩, 24) := ⟨⟨by decide +kernel, by decide +kernel⟩, List.mem_of_getElem? (i := 681) (by decide +kernel), List.mem_of_getElem? (i := 992) (by decide +kernel), List.mem_of_getElem? (i := 993) (by decide +kernel)⟩
theorem lw_p43 : lw_okq (⟨"SweptGatesModel", "lineAt", "(I)I"⟩, 24) := ⟨⟨by decide +kernel, by decide +kernel⟩, List.mem_of_getElem? (i := 681) (by decide +kernel), List.mem_of_getElem? (i := 996) (by decide +kernel), List.mem_of_getElem? (i := 997) (by decide +kernel)⟩
theorem lw_p44 : lw_okq (⟨"SweptGatesModel", "sweptOf", "(I)I"⟩, 24) := ⟨⟨by decide +kernel, by decide +kernel⟩, List.mem_of_getElem? (i := 681) (by decide +kernel), List.mem_of_getElem? (i := 1004) (by decide +kernel), List.mem_of_getElem? (i := 1005) (by decide +kernel)⟩
theorem lw_p45 : lw_okq (⟨"SweptGatesModel", "areOuts", "(I)Z"⟩, 24) := ⟨⟨by decide +kernel, by decide +kernel⟩, List.mem_of_getElem? (i := 681) (by decide +kernel), List.mem_of_getElem? (i := 1016) (by decide +kernel), List.mem_of_getElem? (i := 1017) (by decide +kernel)⟩
theorem lw_p46 : lw_okq (⟨"SweptGatesModel", "areAlike", "(I)Z"⟩, 24) := ⟨⟨by decide +kernel, by decide +kernel⟩, List.mem_of_getElem? (i := 681) (by decide +kernel), List.mem_of_getElem? (i := 1020) (by decide +kernel), List.mem_of_getElem? (i := 1021) (by decide +kernel)⟩
theorem lw_p47 : lw_okq (⟨"SweptGatesModel", "verdictNow", "()I"⟩, 24) := ⟨⟨by decide +kernel, by decide +kernel⟩, List.mem_of_getElem? (i := 681) (by decide +kernel), List.mem_of_getElem? (i := 1032) (by decide +kernel), List.mem_of_getElem? (i := 1033) (by decide +kernel)⟩
def lw_privs_3 : List (MethodName × Nat) := [(⟨"SweptGatesModel", "checks", "(IIZ)Z"⟩, 24), (⟨"SweptGatesModel", "comes", "(I)V"⟩, 24), (⟨"SweptGatesModel", "settled", "(I)I"⟩, 24), (⟨"SweptGatesModel", "isGate", "(I)Z"⟩, 24), (⟨"SweptGatesModel", "isNode", "(I)Z"⟩, 24), (⟨"SweptGatesModel", "tellTable", "(I)I"⟩, 24), (⟨"SweptGatesModel", "depthOf", "(I)I"⟩, 24), (⟨"SweptGatesModel", "coneOf", "(I)I"⟩, 24), (⟨"SweptGatesModel", "countOf", "(I)I"⟩, 24), (⟨"SweptGatesModel", "signOf", "(I)I"⟩, 24), (⟨"SweptGatesModel", "merged", "(I)I"⟩, 24), (⟨"SweptGatesModel", "lineAt", "(I)I"⟩, 24), (⟨"SweptGatesModel", "sweptOf", "(I)I"⟩, 24), (⟨"SweptGatesModel", "areOuts", "(I)Z"⟩, 24), (⟨"SweptGatesModel", "areAlike", "(I)Z"⟩, 24), (⟨"SweptGatesModel", "verdictNow", "()I"⟩, 24)]
theorem lw_r3 : ∀ q ∈ lw_privs_3, lw_okq q := List.forall_mem_cons.mpr ⟨lw_p32, List.forall_mem_cons.mpr ⟨lw_p33, List.forall_mem_cons.mpr ⟨lw_p34, List.forall_mem_cons.mpr ⟨lw_p35, List.forall_mem_cons.mpr ⟨lw_p36, List.forall_mem_cons.mpr ⟨lw_p37, List.forall_mem_cons.mpr ⟨lw_p38, List.forall_mem_cons.mpr ⟨lw_p39, List.forall_mem_cons.mpr ⟨lw_p40, List.forall_mem_cons.mpr ⟨lw_p41, List.forall_mem_cons.mpr ⟨lw_p42, List.forall_mem_cons.mpr ⟨lw_p43, List.forall_mem_cons.mpr ⟨lw_p44, List.forall_mem_cons.mpr ⟨lw_p45, List.forall_mem_cons.mpr ⟨lw_p46, List.forall_mem_cons.mpr ⟨lw_p47, fun _ h => absurd h List.not_mem_nil⟩⟩⟩⟩⟩⟩⟩⟩⟩⟩⟩⟩⟩⟩⟩⟩
theorem lw_p48 : lw_okq (⟨"SweptGatesModel", "reads", "()Z"⟩, 24) := ⟨⟨by decide +kernel, by decide +kernel⟩, List.mem_of_getElem? (i := 681) (by decide +kernel), List.mem_of_getElem? (i := 1048) (by decide +kernel), List.mem_of_getElem? (i := 1049) (by decide +kernel)⟩
theorem lw_p49 : lw_okq (⟨"SweptGatesModel", "blanks", "()V"⟩, 24) := ⟨⟨by decide +kernel, by decide +kernel⟩, List.mem_of_getElem? (i := 681) (by decide +kernel), List.mem_of_getElem? (i := 1052) (by decide +kernel), List.mem_of_getElem? (i := 1053) (by decide +kernel)⟩
theorem lw_p50 : lw_okq (⟨"SweptGatesModel", "isAt", "(II)Z"⟩, 24) := ⟨⟨by decide +kernel, by decide +kernel⟩, List.mem_of_getElem? (i := 681) (by decide +kernel), List.mem_of_getElem? (i := 1056) (by decide +kernel), List.mem_of_getElem? (i := 1057) (by decide +kernel)⟩
theorem lw_p51 : lw_okq (⟨"SweptGatesModel", "readsOrder", "()V"⟩, 24) := ⟨⟨by decide +kernel, by decide +kernel⟩, List.mem_of_getElem? (i := 681) (by decide +kernel), List.mem_of_getElem? (i := 1060) (by decide +kernel), List.mem_of_getElem? (i := 1061) (by decide +kernel)⟩
theorem lw_p52 : lw_okq (⟨"SweptGatesModel", "number", "()I"⟩, 24) := ⟨⟨by decide +kernel, by decide +kernel⟩, List.mem_of_getElem? (i := 681) (by decide +kernel), List.mem_of_getElem? (i := 1067) (by decide +kernel), List.mem_of_getElem? (i := 1068) (by decide +kernel)⟩
theorem lw_p53 : lw_okq (⟨"SweptGatesModel", "doesOrder", "(I)I"⟩, 24) := ⟨⟨by decide +kernel, by decide +kernel⟩, List.mem_of_getElem? (i := 681) (by decide +kernel), List.mem_of_getElem? (i := 1071) (by decide +kernel), List.mem_of_getElem? (i := 1072) (by decide +kernel)⟩
theorem lw_p54 : lw_okq (⟨"SweptGatesModel", "toldOf", "(I)I"⟩, 24) := ⟨⟨by decide +kernel, by decide +kernel⟩, List.mem_of_getElem? (i := 681) (by decide +kernel), List.mem_of_getElem? (i := 1079) (by decide +kernel), List.mem_of_getElem? (i := 1080) (by decide +kernel)⟩
theorem lw_p55 : lw_okq (⟨"SweptGatesModel", "mix", "(I)V"⟩, 24) := ⟨⟨by decide +kernel, by decide +kernel⟩, List.mem_of_getElem? (i := 681) (by decide +kernel), List.mem_of_getElem? (i := 1088) (by decide +kernel), List.mem_of_getElem? (i := 1089) (by decide +kernel)⟩
theorem lw_p56 : lw_okq (⟨"SweptGatesModel", "mixNode", "(I)V"⟩, 24) := ⟨⟨by decide +kernel, by decide +kernel⟩, List.mem_of_getElem? (i := 681) (by decide +kernel), List.mem_of_getElem? (i := 1093) (by decide +kernel), List.mem_of_getElem? (i := 1094) (by decide +kernel)⟩
theorem lw_p57 : lw_okq (⟨"SweptGatesModel", "mixOuts", "(I)V"⟩, 24) := ⟨⟨by decide +kernel, by decide +kernel⟩, List.mem_of_getElem? (i := 681) (by decide +kernel), List.mem_of_getElem? (i := 1097) (by decide +kernel), List.mem_of_getElem? (i := 1098) (by decide +kernel)⟩
def lw_privs_4 : List (MethodName × Nat) := [(⟨"SweptGatesModel", "reads", "()Z"⟩, 24), (⟨"SweptGatesModel", "blanks", "()V"⟩, 24), (⟨"SweptGatesModel", "isAt", "(II)Z"⟩, 24), (⟨"SweptGatesModel", "readsOrder", "()V"⟩, 24), (⟨"SweptGatesModel", "number", "()I"⟩, 24), (⟨"SweptGatesModel", "doesOrder", "(I)I"⟩, 24), (⟨"SweptGatesModel", "toldOf", "(I)I"⟩, 24), (⟨"SweptGatesModel", "mix", "(I)V"⟩, 24), (⟨"SweptGatesModel", "mixNode", "(I)V"⟩, 24), (⟨"SweptGatesModel", "mixOuts", "(I)V"⟩, 24)]
theorem lw_r4 : ∀ q ∈ lw_privs_4, lw_okq q := List.forall_mem_cons.mpr ⟨lw_p48, List.forall_mem_cons.mpr ⟨lw_p49, List.forall_mem_cons.mpr ⟨lw_p50, List.forall_mem_cons.mpr ⟨lw_p51, List.forall_mem_cons.mpr ⟨lw_p52, List.forall_mem_cons.mpr ⟨lw_p53, List.forall_mem_cons.mpr ⟨lw_p54, List.forall_mem_cons.mpr ⟨lw_p55, List.forall_mem_cons.mpr ⟨lw_p56, List.forall_mem_cons.mpr ⟨lw_p57, fun _ h => absurd h List.not_mem_nil⟩⟩⟩⟩⟩⟩⟩⟩⟩⟩
def lw_privs : List (MethodName × Nat) := lw_privs_1 ++ (lw_privs_2 ++ (lw_privs_3 ++ (lw_privs_4)))
def lw_tbl : List Cond := k2_sels lw_privs ++ tables_1
theorem lw_privs_ok : ∀ q ∈ lw_privs, lw_okq q := by
  show ∀ q ∈ lw_privs_1 ++ (lw_privs_2 ++ (lw_privs_3 ++ (lw_privs_4))), lw_okq q
  exact List.forall_mem_append.mpr ⟨lw_r1, List.forall_mem_append.mpr ⟨lw_r2, List.forall_mem_append.mpr ⟨lw_r3, lw_r4⟩⟩⟩
end
section
def RX0 : String := "SweptGates$Circuit"
def TX0 : u_T := fun k => match k with
  | 0 => ("SweptGates$Circuit", "firsts", "[I", true)
  | 1 => ("SweptGates$Circuit", "seconds", "[I", true)
  | 2 => ("SweptGates$Circuit", "truths", "[I", true)
  | 3 => ("SweptGates$Circuit", "levels", "[I", true)
  | 4 => ("SweptGates$Circuit", "outLiterals", "[I", true)
  | 5 => ("SweptGates$Circuit", "outCounts", "[I", true)
  | 6 => ("SweptGates$Circuit", "patterns", "[I", true)
  | 7 => ("SweptGates$Circuit", "inputCount", "I", false)
  | 8 => ("SweptGates$Circuit", "nodeCount", "I", false)
  | _ => ("SweptGates$Circuit", "patternCount", "I", false)
def tyX0 : Nat → FieldType := fun k => match k with
  | 0 => .array .int
  | 1 => .array .int
  | 2 => .array .int
  | 3 => .array .int
  | 4 => .array .int
  | 5 => .array .int
  | 6 => .array .int
  | 7 => .int
  | 8 => .int
  | _ => .int
theorem nmX0 : ∀ a, a < 10 → ∀ b, b < 10 → a ≠ b → (TX0 a).2.1 ≠ (TX0 b).2.1 := by decide +kernel
theorem tyX0_ok : ∀ k, k < 10 → parseFieldDescriptor (TX0 k).2.2.1 = some (tyX0 k) := by decide +kernel
abbrev cX0_init : ByteArray := prog_2_method_1_code
def yX0_init : MethodName := ⟨RX0, "<init>", "()V"⟩
abbrev cX0_restart : ByteArray := prog_2_method_2_code
def yX0_restart : MethodName := ⟨RX0, "restart", "(I)V"⟩
abbrev cX0_copyFrom : ByteArray := prog_2_method_3_code
def yX0_copyFrom : MethodName := ⟨RX0, "copyFrom", "(LSweptGates$Circuit;)V"⟩
abbrev cX0_isNode : ByteArray := prog_2_method_4_code
def yX0_isNode : MethodName := ⟨RX0, "isNode", "(I)Z"⟩
abbrev cX0_isGate : ByteArray := prog_2_method_5_code
def yX0_isGate : MethodName := ⟨RX0, "isGate", "(I)Z"⟩
abbrev cX0_isLiteral : ByteArray := prog_2_method_6_code
def yX0_isLiteral : MethodName := ⟨RX0, "isLiteral", "(I)Z"⟩
abbrev cX0_isSide : ByteArray := prog_2_method_7_code
def yX0_isSide : MethodName := ⟨RX0, "isSide", "(I)Z"⟩
abbrev cX0_isRow : ByteArray := prog_2_method_8_code
def yX0_isRow : MethodName := ⟨RX0, "isRow", "(I)Z"⟩
abbrev cX0_hasOutPair : ByteArray := prog_2_method_9_code
def yX0_hasOutPair : MethodName := ⟨RX0, "hasOutPair", "(I)Z"⟩
abbrev cX0_allRows : ByteArray := prog_2_method_10_code
def yX0_allRows : MethodName := ⟨RX0, "allRows", "()I"⟩
abbrev cX0_truthOf : ByteArray := prog_2_method_11_code
def yX0_truthOf : MethodName := ⟨RX0, "truthOf", "(I)I"⟩
abbrev cX0_levelOf : ByteArray := prog_2_method_12_code
def yX0_levelOf : MethodName := ⟨RX0, "levelOf", "(I)I"⟩
abbrev cX0_outOf : ByteArray := prog_2_method_13_code
def yX0_outOf : MethodName := ⟨RX0, "outOf", "(II)I"⟩
abbrev cX0_pairDifference : ByteArray := prog_2_method_14_code
def yX0_pairDifference : MethodName := ⟨RX0, "pairDifference", "(I)I"⟩
abbrev cX0_pairIsAlikeBy : ByteArray := prog_2_method_15_code
def yX0_pairIsAlikeBy : MethodName := ⟨RX0, "pairIsAlikeBy", "(LSweptGates$Sweep;I)Z"⟩
abbrev cX0_verdictBy : ByteArray := prog_2_method_16_code
def yX0_verdictBy : MethodName := ⟨RX0, "verdictBy", "(LSweptGates$Sweep;)I"⟩
abbrev cX0_countOf : ByteArray := prog_2_method_17_code
def yX0_countOf : MethodName := ⟨RX0, "countOf", "(I)I"⟩
abbrev cX0_signOf : ByteArray := prog_2_method_18_code
def yX0_signOf : MethodName := ⟨RX0, "signOf", "(I)I"⟩
abbrev cX0_gatesBehind : ByteArray := prog_2_method_19_code
def yX0_gatesBehind : MethodName := ⟨RX0, "gatesBehind", "(I)I"⟩
abbrev cX0_refusalOf : ByteArray := prog_2_method_20_code
def yX0_refusalOf : MethodName := ⟨RX0, "refusalOf", "(IIII)I"⟩
abbrev cX0_roomFor : ByteArray := prog_2_method_21_code
def yX0_roomFor : MethodName := ⟨RX0, "roomFor", "(I)I"⟩
abbrev cX0_perform : ByteArray := prog_2_method_22_code
def yX0_perform : MethodName := ⟨RX0, "perform", "(IIII)I"⟩
abbrev cX0_changeInputs : ByteArray := prog_2_method_23_code
def yX0_changeInputs : MethodName := ⟨RX0, "changeInputs", "(I)I"⟩
abbrev cX0_addGate : ByteArray := prog_2_method_24_code
def yX0_addGate : MethodName := ⟨RX0, "addGate", "(II)I"⟩
abbrev cX0_addEither : ByteArray := prog_2_method_25_code
def yX0_addEither : MethodName := ⟨RX0, "addEither", "(IIII)I"⟩
abbrev cX0_addOut : ByteArray := prog_2_method_26_code
def yX0_addOut : MethodName := ⟨RX0, "addOut", "(II)I"⟩
abbrev cX0_addPattern : ByteArray := prog_2_method_27_code
def yX0_addPattern : MethodName := ⟨RX0, "addPattern", "(I)I"⟩
abbrev cX0_settleBy : ByteArray := prog_2_method_28_code
def yX0_settleBy : MethodName := ⟨RX0, "settleBy", "(LSweptGates$Sweep;)I"⟩
abbrev cX0_settleOuts : ByteArray := prog_2_method_29_code
def yX0_settleOuts : MethodName := ⟨RX0, "settleOuts", "(ILSweptGates$Sweep;)V"⟩
abbrev cX0_digestCounts : ByteArray := prog_2_method_30_code
def yX0_digestCounts : MethodName := ⟨RX0, "digestCounts", "(J)J"⟩
abbrev cX0_digestNode : ByteArray := prog_2_method_31_code
def yX0_digestNode : MethodName := ⟨RX0, "digestNode", "(JI)J"⟩
abbrev cX0_digestOuts : ByteArray := prog_2_method_32_code
def yX0_digestOuts : MethodName := ⟨RX0, "digestOuts", "(J)J"⟩
def RX1 : String := "SweptGates$History"
def TX1 : u_T := fun k => match k with
  | 0 => ("SweptGates$History", "states", "[LSweptGates$Circuit;", true)
  | 1 => ("SweptGates$History", "newest", "I", false)
  | _ => ("SweptGates$History", "size", "I", false)
def tyX1 : Nat → FieldType := fun k => match k with
  | 0 => .array (.object "SweptGates$Circuit")
  | 1 => .int
  | _ => .int
theorem nmX1 : ∀ a, a < 3 → ∀ b, b < 3 → a ≠ b → (TX1 a).2.1 ≠ (TX1 b).2.1 := by decide +kernel
theorem tyX1_ok : ∀ k, k < 3 → parseFieldDescriptor (TX1 k).2.2.1 = some (tyX1 k) := by decide +kernel
abbrev cX1_init : ByteArray := prog_3_method_1_code
def yX1_init : MethodName := ⟨RX1, "<init>", "()V"⟩
abbrev cX1_keep : ByteArray := prog_3_method_2_code
def yX1_keep : MethodName := ⟨RX1, "keep", "(LSweptGates$Circuit;)V"⟩
abbrev cX1_restore : ByteArray := prog_3_method_3_code
def yX1_restore : MethodName := ⟨RX1, "restore", "(LSweptGates$Circuit;)V"⟩
def RX2 : String := "SweptGates$Script"
def TX2 : u_T := fun k => match k with
  | 0 => ("SweptGates$Script", "bytes", "[I", true)
  | 1 => ("SweptGates$Script", "kinds", "[I", true)
  | 2 => ("SweptGates$Script", "numbers", "[I", true)
  | 3 => ("SweptGates$Script", "length", "I", false)
  | 4 => ("SweptGates$Script", "orderCount", "I", false)
  | 5 => ("SweptGates$Script", "openKind", "I", false)
  | 6 => ("SweptGates$Script", "given", "I", false)
  | _ => ("SweptGates$Script", "figures", "I", false)
def tyX2 : Nat → FieldType := fun k => match k with
  | 0 => .array .int
  | 1 => .array .int
  | 2 => .array .int
  | 3 => .int
  | 4 => .int
  | 5 => .int
  | 6 => .int
  | _ => .int
theorem nmX2 : ∀ a, a < 8 → ∀ b, b < 8 → a ≠ b → (TX2 a).2.1 ≠ (TX2 b).2.1 := by decide +kernel
theorem tyX2_ok : ∀ k, k < 8 → parseFieldDescriptor (TX2 k).2.2.1 = some (tyX2 k) := by decide +kernel
abbrev cX2_init : ByteArray := prog_4_method_1_code
def yX2_init : MethodName := ⟨RX2, "<init>", "()V"⟩
abbrev cX2_append : ByteArray := prog_4_method_2_code
def yX2_append : MethodName := ⟨RX2, "append", "(I)I"⟩
abbrev cX2_numberOf : ByteArray := prog_4_method_3_code
def yX2_numberOf : MethodName := ⟨RX2, "numberOf", "(II)I"⟩
abbrev cX2_readFault : ByteArray := prog_4_method_4_code
def yX2_readFault : MethodName := ⟨RX2, "readFault", "()I"⟩
abbrev cX2_takes : ByteArray := prog_4_method_5_code
def yX2_takes : MethodName := ⟨RX2, "takes", "(I)Z"⟩
abbrev cX2_opensOrder : ByteArray := prog_4_method_6_code
def yX2_opensOrder : MethodName := ⟨RX2, "opensOrder", "(I)Z"⟩
abbrev cX2_endsOrder : ByteArray := prog_4_method_7_code
def yX2_endsOrder : MethodName := ⟨RX2, "endsOrder", "()Z"⟩
abbrev cX2_takesFigure : ByteArray := prog_4_method_8_code
def yX2_takesFigure : MethodName := ⟨RX2, "takesFigure", "(I)Z"⟩
def RX3 : String := "SweptGates$Sweep"
def TX3 : u_T := fun k => match k with
  | 0 => ("SweptGates$Sweep", "forms", "[I", true)
  | 1 => ("SweptGates$Sweep", "reasons", "[I", true)
  | 2 => ("SweptGates$Sweep", "lessers", "[I", true)
  | 3 => ("SweptGates$Sweep", "greaters", "[I", true)
  | 4 => ("SweptGates$Sweep", "lineGates", "[I", true)
  | 5 => ("SweptGates$Sweep", "newNumbers", "[I", true)
  | 6 => ("SweptGates$Sweep", "rows", "[I", true)
  | 7 => ("SweptGates$Sweep", "gatesBy", "[I", true)
  | 8 => ("SweptGates$Sweep", "lineCount", "I", false)
  | 9 => ("SweptGates$Sweep", "rowCount", "I", false)
  | 10 => ("SweptGates$Sweep", "checkCount", "I", false)
  | 11 => ("SweptGates$Sweep", "patternRows", "I", false)
  | _ => ("SweptGates$Sweep", "allRows", "I", false)
def tyX3 : Nat → FieldType := fun k => match k with
  | 0 => .array .int
  | 1 => .array .int
  | 2 => .array .int
  | 3 => .array .int
  | 4 => .array .int
  | 5 => .array .int
  | 6 => .array .int
  | 7 => .array .int
  | 8 => .int
  | 9 => .int
  | 10 => .int
  | 11 => .int
  | _ => .int
theorem nmX3 : ∀ a, a < 13 → ∀ b, b < 13 → a ≠ b → (TX3 a).2.1 ≠ (TX3 b).2.1 := by decide +kernel
theorem tyX3_ok : ∀ k, k < 13 → parseFieldDescriptor (TX3 k).2.2.1 = some (tyX3 k) := by decide +kernel
abbrev cX3_init : ByteArray := prog_5_method_1_code
def yX3_init : MethodName := ⟨RX3, "<init>", "()V"⟩
abbrev cX3_run : ByteArray := prog_5_method_2_code
def yX3_run : MethodName := ⟨RX3, "run", "(LSweptGates$Circuit;)V"⟩
abbrev cX3_begin : ByteArray := prog_5_method_3_code
def yX3_begin : MethodName := ⟨RX3, "begin", "(LSweptGates$Circuit;)V"⟩
abbrev cX3_merge : ByteArray := prog_5_method_4_code
def yX3_merge : MethodName := ⟨RX3, "merge", "(III)V"⟩
abbrev cX3_addRow : ByteArray := prog_5_method_5_code
def yX3_addRow : MethodName := ⟨RX3, "addRow", "(I)V"⟩
abbrev cX3_sweepGate : ByteArray := prog_5_method_6_code
def yX3_sweepGate : MethodName := ⟨RX3, "sweepGate", "(ILSweptGates$Circuit;)V"⟩
abbrev cX3_formByRule : ByteArray := prog_5_method_7_code
def yX3_formByRule : MethodName := ⟨RX3, "formByRule", "(II)I"⟩
abbrev cX3_sameGate : ByteArray := prog_5_method_8_code
def yX3_sameGate : MethodName := ⟨RX3, "sameGate", "(II)I"⟩
abbrev cX3_formByChecks : ByteArray := prog_5_method_9_code
def yX3_formByChecks : MethodName := ⟨RX3, "formByChecks", "(ILSweptGates$Circuit;)I"⟩
abbrev cX3_checkHolds : ByteArray := prog_5_method_10_code
def yX3_checkHolds : MethodName := ⟨RX3, "checkHolds", "(I)Z"⟩
abbrev cX3_formOf : ByteArray := prog_5_method_11_code
def yX3_formOf : MethodName := ⟨RX3, "formOf", "(I)I"⟩
abbrev cX3_lineOf : ByteArray := prog_5_method_12_code
def yX3_lineOf : MethodName := ⟨RX3, "lineOf", "(II)I"⟩
abbrev cX3_tallyOf : ByteArray := prog_5_method_13_code
def yX3_tallyOf : MethodName := ⟨RX3, "tallyOf", "(I)I"⟩
abbrev cX3_numberKept : ByteArray := prog_5_method_14_code
def yX3_numberKept : MethodName := ⟨RX3, "numberKept", "(I)V"⟩
abbrev cX3_numbered : ByteArray := prog_5_method_15_code
def yX3_numbered : MethodName := ⟨RX3, "numbered", "(I)I"⟩
abbrev cX3_digestOn : ByteArray := prog_5_method_16_code
def yX3_digestOn : MethodName := ⟨RX3, "digestOn", "(J)J"⟩
def RX4 : String := "SweptGates"
def TX4 : u_T := fun k => match k with
  | 0 => ("SweptGates", "circuit", "LSweptGates$Circuit;", true)
  | 1 => ("SweptGates", "spare", "LSweptGates$Circuit;", true)
  | 2 => ("SweptGates", "sweep", "LSweptGates$Sweep;", true)
  | 3 => ("SweptGates", "history", "LSweptGates$History;", true)
  | 4 => ("SweptGates", "script", "LSweptGates$Script;", true)
  | 5 => ("SweptGates", "sweepIsOld", "Z", false)
  | 6 => ("SweptGates", "badCalls", "I", false)
  | 7 => ("SweptGates", "noCalls", "I", false)
  | _ => ("SweptGates", "fullCalls", "I", false)
def tyX4 : Nat → FieldType := fun k => match k with
  | 0 => .object "SweptGates$Circuit"
  | 1 => .object "SweptGates$Circuit"
  | 2 => .object "SweptGates$Sweep"
  | 3 => .object "SweptGates$History"
  | 4 => .object "SweptGates$Script"
  | 5 => .boolean
  | 6 => .int
  | 7 => .int
  | _ => .int
theorem nmX4 : ∀ a, a < 9 → ∀ b, b < 9 → a ≠ b → (TX4 a).2.1 ≠ (TX4 b).2.1 := by decide +kernel
theorem tyX4_ok : ∀ k, k < 9 → parseFieldDescriptor (TX4 k).2.2.1 = some (tyX4 k) := by decide +kernel
abbrev cX4_init : ByteArray := prog_1_method_1_code
def yX4_init : MethodName := ⟨RX4, "<init>", "()V"⟩
abbrev cX4_inputs : ByteArray := prog_1_method_2_code
def yX4_inputs : MethodName := ⟨RX4, "inputs", "(I)I"⟩
abbrev cX4_gate : ByteArray := prog_1_method_3_code
def yX4_gate : MethodName := ⟨RX4, "gate", "(II)I"⟩
abbrev cX4_xor : ByteArray := prog_1_method_4_code
def yX4_xor : MethodName := ⟨RX4, "xor", "(II)I"⟩
abbrev cX4_mux : ByteArray := prog_1_method_5_code
def yX4_mux : MethodName := ⟨RX4, "mux", "(III)I"⟩
abbrev cX4_out : ByteArray := prog_1_method_6_code
def yX4_out : MethodName := ⟨RX4, "out", "(II)I"⟩
abbrev cX4_pattern : ByteArray := prog_1_method_7_code
def yX4_pattern : MethodName := ⟨RX4, "pattern", "(I)I"⟩
abbrev cX4_settles : ByteArray := prog_1_method_8_code
def yX4_settles : MethodName := ⟨RX4, "settles", "()I"⟩
abbrev cX4_of : ByteArray := prog_1_method_9_code
def yX4_of : MethodName := ⟨RX4, "of", "(II)I"⟩
abbrev cX4_table : ByteArray := prog_1_method_10_code
def yX4_table : MethodName := ⟨RX4, "table", "(I)I"⟩
abbrev cX4_at : ByteArray := prog_1_method_11_code
def yX4_at : MethodName := ⟨RX4, "at", "(II)I"⟩
abbrev cX4_depth : ByteArray := prog_1_method_12_code
def yX4_depth : MethodName := ⟨RX4, "depth", "(I)I"⟩
abbrev cX4_cone : ByteArray := prog_1_method_13_code
def yX4_cone : MethodName := ⟨RX4, "cone", "(I)I"⟩
abbrev cX4_outs : ByteArray := prog_1_method_14_code
def yX4_outs : MethodName := ⟨RX4, "outs", "(II)I"⟩
abbrev cX4_count : ByteArray := prog_1_method_15_code
def yX4_count : MethodName := ⟨RX4, "count", "(I)I"⟩
abbrev cX4_sign : ByteArray := prog_1_method_16_code
def yX4_sign : MethodName := ⟨RX4, "sign", "(I)I"⟩
abbrev cX4_form : ByteArray := prog_1_method_17_code
def yX4_form : MethodName := ⟨RX4, "form", "(I)I"⟩
abbrev cX4_lines : ByteArray := prog_1_method_18_code
def yX4_lines : MethodName := ⟨RX4, "lines", "(II)I"⟩
abbrev cX4_swept : ByteArray := prog_1_method_19_code
def yX4_swept : MethodName := ⟨RX4, "swept", "(I)I"⟩
abbrev cX4_row : ByteArray := prog_1_method_20_code
def yX4_row : MethodName := ⟨RX4, "row", "(I)I"⟩
abbrev cX4_alike : ByteArray := prog_1_method_21_code
def yX4_alike : MethodName := ⟨RX4, "alike", "(I)I"⟩
abbrev cX4_witness : ByteArray := prog_1_method_22_code
def yX4_witness : MethodName := ⟨RX4, "witness", "(I)I"⟩
abbrev cX4_verdict : ByteArray := prog_1_method_23_code
def yX4_verdict : MethodName := ⟨RX4, "verdict", "()I"⟩
abbrev cX4_type : ByteArray := prog_1_method_24_code
def yX4_type : MethodName := ⟨RX4, "type", "(I)I"⟩
abbrev cX4_clear : ByteArray := prog_1_method_25_code
def yX4_clear : MethodName := ⟨RX4, "clear", "()I"⟩
abbrev cX4_does : ByteArray := prog_1_method_26_code
def yX4_does : MethodName := ⟨RX4, "does", "()I"⟩
abbrev cX4_back : ByteArray := prog_1_method_27_code
def yX4_back : MethodName := ⟨RX4, "back", "()I"⟩
abbrev cX4_told : ByteArray := prog_1_method_28_code
def yX4_told : MethodName := ⟨RX4, "told", "(I)I"⟩
abbrev cX4_digest : ByteArray := prog_1_method_29_code
def yX4_digest : MethodName := ⟨RX4, "digest", "()J"⟩
abbrev cX4_refuse : ByteArray := prog_1_method_30_code
def yX4_refuse : MethodName := ⟨RX4, "refuse", "(I)I"⟩
abbrev cX4_order : ByteArray := prog_1_method_31_code
def yX4_order : MethodName := ⟨RX4, "order", "(IIII)I"⟩
abbrev cX4_orderIsDone : ByteArray := prog_1_method_32_code
def yX4_orderIsDone : MethodName := ⟨RX4, "orderIsDone", "(I)Z"⟩
abbrev cX4_sweepNow : ByteArray := prog_1_method_33_code
def yX4_sweepNow : MethodName := ⟨RX4, "sweepNow", "()LSweptGates$Sweep;"⟩
abbrev cX4_toldOf : ByteArray := prog_1_method_34_code
def yX4_toldOf : MethodName := ⟨RX4, "toldOf", "(I)I"⟩
abbrev cX4_leastRow : ByteArray := prog_1_method_35_code
def yX4_leastRow : MethodName := ⟨RX4, "leastRow", "(I)I"⟩
def RX5 : String := "SweptGatesModel"
def TX5 : u_T := fun k => match k with
  | 0 => ("SweptGatesModel", "now", "[I", true)
  | 1 => ("SweptGatesModel", "aside", "[I", true)
  | 2 => ("SweptGatesModel", "past", "[I", true)
  | 3 => ("SweptGatesModel", "states", "I", false)
  | 4 => ("SweptGatesModel", "refused", "[I", true)
  | 5 => ("SweptGatesModel", "text", "[I", true)
  | 6 => ("SweptGatesModel", "length", "I", false)
  | 7 => ("SweptGatesModel", "tables", "[I", true)
  | 8 => ("SweptGatesModel", "all", "I", false)
  | 9 => ("SweptGatesModel", "rowsBehind", "[I", true)
  | 10 => ("SweptGatesModel", "rowsMany", "I", false)
  | 11 => ("SweptGatesModel", "forms", "[I", true)
  | 12 => ("SweptGatesModel", "lesser", "[I", true)
  | 13 => ("SweptGatesModel", "greater", "[I", true)
  | 14 => ("SweptGatesModel", "why", "[I", true)
  | 15 => ("SweptGatesModel", "checks", "I", false)
  | 16 => ("SweptGatesModel", "numbers", "[I", true)
  | 17 => ("SweptGatesModel", "depths", "[I", true)
  | 18 => ("SweptGatesModel", "spot", "I", false)
  | 19 => ("SweptGatesModel", "isFaulty", "Z", false)
  | 20 => ("SweptGatesModel", "orders", "I", false)
  | 21 => ("SweptGatesModel", "letters", "[I", true)
  | 22 => ("SweptGatesModel", "parts", "[I", true)
  | _ => ("SweptGatesModel", "hash", "J", false)
def tyX5 : Nat → FieldType := fun k => match k with
  | 0 => .array .int
  | 1 => .array .int
  | 2 => .array .int
  | 3 => .int
  | 4 => .array .int
  | 5 => .array .int
  | 6 => .int
  | 7 => .array .int
  | 8 => .int
  | 9 => .array .int
  | 10 => .int
  | 11 => .array .int
  | 12 => .array .int
  | 13 => .array .int
  | 14 => .array .int
  | 15 => .int
  | 16 => .array .int
  | 17 => .array .int
  | 18 => .int
  | 19 => .boolean
  | 20 => .int
  | 21 => .array .int
  | 22 => .array .int
  | _ => .long
theorem nmX5 : ∀ a, a < 24 → ∀ b, b < 24 → a ≠ b → (TX5 a).2.1 ≠ (TX5 b).2.1 := by decide +kernel
theorem tyX5_ok : ∀ k, k < 24 → parseFieldDescriptor (TX5 k).2.2.1 = some (tyX5 k) := by decide +kernel
abbrev cX5_init : ByteArray := prog_7_method_1_code
def yX5_init : MethodName := ⟨RX5, "<init>", "()V"⟩
abbrev cX5_bad : ByteArray := prog_7_method_3_code
def yX5_bad : MethodName := ⟨RX5, "bad", "()I"⟩
abbrev cX5_no : ByteArray := prog_7_method_4_code
def yX5_no : MethodName := ⟨RX5, "no", "()I"⟩
abbrev cX5_full : ByteArray := prog_7_method_5_code
def yX5_full : MethodName := ⟨RX5, "full", "()I"⟩
abbrev cX5_within : ByteArray := prog_7_method_6_code
def yX5_within : MethodName := ⟨RX5, "within", "(III)Z"⟩
abbrev cX5_isNode : ByteArray := prog_7_method_7_code
def yX5_isNode : MethodName := ⟨RX5, "isNode", "(I)Z"⟩
abbrev cX5_isGate : ByteArray := prog_7_method_8_code
def yX5_isGate : MethodName := ⟨RX5, "isGate", "(I)Z"⟩
abbrev cX5_isLiteral : ByteArray := prog_7_method_9_code
def yX5_isLiteral : MethodName := ⟨RX5, "isLiteral", "(I)Z"⟩
abbrev cX5_rows : ByteArray := prog_7_method_10_code
def yX5_rows : MethodName := ⟨RX5, "rows", "()I"⟩
abbrev cX5_isSide : ByteArray := prog_7_method_11_code
def yX5_isSide : MethodName := ⟨RX5, "isSide", "(I)Z"⟩
abbrev cX5_laysAside : ByteArray := prog_7_method_12_code
def yX5_laysAside : MethodName := ⟨RX5, "laysAside", "()V"⟩
abbrev cX5_leaves : ByteArray := prog_7_method_13_code
def yX5_leaves : MethodName := ⟨RX5, "leaves", "()V"⟩
abbrev cX5_back : ByteArray := prog_7_method_14_code
def yX5_back : MethodName := ⟨RX5, "back", "()I"⟩
abbrev cX5_answers : ByteArray := prog_7_method_15_code
def yX5_answers : MethodName := ⟨RX5, "answers", "(I)I"⟩
abbrev cX5_begins : ByteArray := prog_7_method_16_code
def yX5_begins : MethodName := ⟨RX5, "begins", "(I)I"⟩
abbrev cX5_adds : ByteArray := prog_7_method_17_code
def yX5_adds : MethodName := ⟨RX5, "adds", "(II)I"⟩
abbrev cX5_addsGate : ByteArray := prog_7_method_18_code
def yX5_addsGate : MethodName := ⟨RX5, "addsGate", "(II)I"⟩
abbrev cX5_addsThree : ByteArray := prog_7_method_19_code
def yX5_addsThree : MethodName := ⟨RX5, "addsThree", "(IIII)I"⟩
abbrev cX5_turned : ByteArray := prog_7_method_20_code
def yX5_turned : MethodName := ⟨RX5, "turned", "(I)I"⟩
abbrev cX5_addsXor : ByteArray := prog_7_method_21_code
def yX5_addsXor : MethodName := ⟨RX5, "addsXor", "(II)I"⟩
abbrev cX5_addsMux : ByteArray := prog_7_method_22_code
def yX5_addsMux : MethodName := ⟨RX5, "addsMux", "(III)I"⟩
abbrev cX5_addsOut : ByteArray := prog_7_method_23_code
def yX5_addsOut : MethodName := ⟨RX5, "addsOut", "(II)I"⟩
abbrev cX5_addsPattern : ByteArray := prog_7_method_24_code
def yX5_addsPattern : MethodName := ⟨RX5, "addsPattern", "(I)I"⟩
abbrev cX5_inputs : ByteArray := prog_7_method_25_code
def yX5_inputs : MethodName := ⟨RX5, "inputs", "(I)I"⟩
abbrev cX5_gate : ByteArray := prog_7_method_26_code
def yX5_gate : MethodName := ⟨RX5, "gate", "(II)I"⟩
abbrev cX5_xor : ByteArray := prog_7_method_27_code
def yX5_xor : MethodName := ⟨RX5, "xor", "(II)I"⟩
abbrev cX5_mux : ByteArray := prog_7_method_28_code
def yX5_mux : MethodName := ⟨RX5, "mux", "(III)I"⟩
abbrev cX5_out : ByteArray := prog_7_method_29_code
def yX5_out : MethodName := ⟨RX5, "out", "(II)I"⟩
abbrev cX5_pattern : ByteArray := prog_7_method_30_code
def yX5_pattern : MethodName := ⟨RX5, "pattern", "(I)I"⟩
abbrev cX5_tableOf : ByteArray := prog_7_method_31_code
def yX5_tableOf : MethodName := ⟨RX5, "tableOf", "(I)I"⟩
abbrev cX5_laysTables : ByteArray := prog_7_method_32_code
def yX5_laysTables : MethodName := ⟨RX5, "laysTables", "()V"⟩
abbrev cX5_tellTable : ByteArray := prog_7_method_33_code
def yX5_tellTable : MethodName := ⟨RX5, "tellTable", "(I)I"⟩
abbrev cX5_bitsOf : ByteArray := prog_7_method_34_code
def yX5_bitsOf : MethodName := ⟨RX5, "bitsOf", "(III[I)I"⟩
abbrev cX5_formOf : ByteArray := prog_7_method_35_code
def yX5_formOf : MethodName := ⟨RX5, "formOf", "(I)I"⟩
abbrev cX5_merges : ByteArray := prog_7_method_36_code
def yX5_merges : MethodName := ⟨RX5, "merges", "(III)V"⟩
abbrev cX5_comes : ByteArray := prog_7_method_37_code
def yX5_comes : MethodName := ⟨RX5, "comes", "(I)V"⟩
abbrev cX5_otherwise : ByteArray := prog_7_method_38_code
def yX5_otherwise : MethodName := ⟨RX5, "otherwise", "(II)I"⟩
abbrev cX5_checks : ByteArray := prog_7_method_39_code
def yX5_checks : MethodName := ⟨RX5, "checks", "(IIZ)Z"⟩
abbrev cX5_looksAt : ByteArray := prog_7_method_40_code
def yX5_looksAt : MethodName := ⟨RX5, "looksAt", "(II)Z"⟩
abbrev cX5_isByRules : ByteArray := prog_7_method_41_code
def yX5_isByRules : MethodName := ⟨RX5, "isByRules", "(III)Z"⟩
abbrev cX5_isThere : ByteArray := prog_7_method_42_code
def yX5_isThere : MethodName := ⟨RX5, "isThere", "(III)Z"⟩
abbrev cX5_sweepsGate : ByteArray := prog_7_method_43_code
def yX5_sweepsGate : MethodName := ⟨RX5, "sweepsGate", "(I)V"⟩
abbrev cX5_sweeps : ByteArray := prog_7_method_44_code
def yX5_sweeps : MethodName := ⟨RX5, "sweeps", "()V"⟩
abbrev cX5_merged : ByteArray := prog_7_method_45_code
def yX5_merged : MethodName := ⟨RX5, "merged", "(I)I"⟩
abbrev cX5_settled : ByteArray := prog_7_method_46_code
def yX5_settled : MethodName := ⟨RX5, "settled", "(I)I"⟩
abbrev cX5_settlesAll : ByteArray := prog_7_method_47_code
def yX5_settlesAll : MethodName := ⟨RX5, "settlesAll", "()I"⟩
abbrev cX5_settles : ByteArray := prog_7_method_48_code
def yX5_settles : MethodName := ⟨RX5, "settles", "()I"⟩
abbrev cX5_of : ByteArray := prog_7_method_49_code
def yX5_of : MethodName := ⟨RX5, "of", "(II)I"⟩
abbrev cX5_table : ByteArray := prog_7_method_50_code
def yX5_table : MethodName := ⟨RX5, "table", "(I)I"⟩
abbrev cX5_at : ByteArray := prog_7_method_51_code
def yX5_at : MethodName := ⟨RX5, "at", "(II)I"⟩
abbrev cX5_depthOf : ByteArray := prog_7_method_52_code
def yX5_depthOf : MethodName := ⟨RX5, "depthOf", "(I)I"⟩
abbrev cX5_depth : ByteArray := prog_7_method_53_code
def yX5_depth : MethodName := ⟨RX5, "depth", "(I)I"⟩
abbrev cX5_coneOf : ByteArray := prog_7_method_54_code
def yX5_coneOf : MethodName := ⟨RX5, "coneOf", "(I)I"⟩
abbrev cX5_cone : ByteArray := prog_7_method_55_code
def yX5_cone : MethodName := ⟨RX5, "cone", "(I)I"⟩
abbrev cX5_outs : ByteArray := prog_7_method_56_code
def yX5_outs : MethodName := ⟨RX5, "outs", "(II)I"⟩
abbrev cX5_countOf : ByteArray := prog_7_method_57_code
def yX5_countOf : MethodName := ⟨RX5, "countOf", "(I)I"⟩
abbrev cX5_count : ByteArray := prog_7_method_58_code
def yX5_count : MethodName := ⟨RX5, "count", "(I)I"⟩
abbrev cX5_signOf : ByteArray := prog_7_method_59_code
def yX5_signOf : MethodName := ⟨RX5, "signOf", "(I)I"⟩
abbrev cX5_sign : ByteArray := prog_7_method_60_code
def yX5_sign : MethodName := ⟨RX5, "sign", "(I)I"⟩
abbrev cX5_form : ByteArray := prog_7_method_61_code
def yX5_form : MethodName := ⟨RX5, "form", "(I)I"⟩
abbrev cX5_lineAt : ByteArray := prog_7_method_62_code
def yX5_lineAt : MethodName := ⟨RX5, "lineAt", "(I)I"⟩
abbrev cX5_lines : ByteArray := prog_7_method_63_code
def yX5_lines : MethodName := ⟨RX5, "lines", "(II)I"⟩
abbrev cX5_sweptOf : ByteArray := prog_7_method_64_code
def yX5_sweptOf : MethodName := ⟨RX5, "sweptOf", "(I)I"⟩
abbrev cX5_swept : ByteArray := prog_7_method_65_code
def yX5_swept : MethodName := ⟨RX5, "swept", "(I)I"⟩
abbrev cX5_row : ByteArray := prog_7_method_66_code
def yX5_row : MethodName := ⟨RX5, "row", "(I)I"⟩
abbrev cX5_areOuts : ByteArray := prog_7_method_67_code
def yX5_areOuts : MethodName := ⟨RX5, "areOuts", "(I)Z"⟩
abbrev cX5_areAlike : ByteArray := prog_7_method_68_code
def yX5_areAlike : MethodName := ⟨RX5, "areAlike", "(I)Z"⟩
abbrev cX5_alike : ByteArray := prog_7_method_69_code
def yX5_alike : MethodName := ⟨RX5, "alike", "(I)I"⟩
abbrev cX5_witness : ByteArray := prog_7_method_70_code
def yX5_witness : MethodName := ⟨RX5, "witness", "(I)I"⟩
abbrev cX5_verdictNow : ByteArray := prog_7_method_71_code
def yX5_verdictNow : MethodName := ⟨RX5, "verdictNow", "()I"⟩
abbrev cX5_verdict : ByteArray := prog_7_method_72_code
def yX5_verdict : MethodName := ⟨RX5, "verdict", "()I"⟩
abbrev cX5_type : ByteArray := prog_7_method_73_code
def yX5_type : MethodName := ⟨RX5, "type", "(I)I"⟩
abbrev cX5_clear : ByteArray := prog_7_method_74_code
def yX5_clear : MethodName := ⟨RX5, "clear", "()I"⟩
abbrev cX5_isAt : ByteArray := prog_7_method_75_code
def yX5_isAt : MethodName := ⟨RX5, "isAt", "(II)Z"⟩
abbrev cX5_blanks : ByteArray := prog_7_method_76_code
def yX5_blanks : MethodName := ⟨RX5, "blanks", "()V"⟩
abbrev cX5_number : ByteArray := prog_7_method_77_code
def yX5_number : MethodName := ⟨RX5, "number", "()I"⟩
abbrev cX5_manyOf : ByteArray := prog_7_method_78_code
def yX5_manyOf : MethodName := ⟨RX5, "manyOf", "(I)I"⟩
abbrev cX5_readsOrder : ByteArray := prog_7_method_79_code
def yX5_readsOrder : MethodName := ⟨RX5, "readsOrder", "()V"⟩
abbrev cX5_reads : ByteArray := prog_7_method_80_code
def yX5_reads : MethodName := ⟨RX5, "reads", "()Z"⟩
abbrev cX5_doesOrder : ByteArray := prog_7_method_81_code
def yX5_doesOrder : MethodName := ⟨RX5, "doesOrder", "(I)I"⟩
abbrev cX5_does : ByteArray := prog_7_method_82_code
def yX5_does : MethodName := ⟨RX5, "does", "()I"⟩
abbrev cX5_toldOf : ByteArray := prog_7_method_83_code
def yX5_toldOf : MethodName := ⟨RX5, "toldOf", "(I)I"⟩
abbrev cX5_told : ByteArray := prog_7_method_84_code
def yX5_told : MethodName := ⟨RX5, "told", "(I)I"⟩
abbrev cX5_mix : ByteArray := prog_7_method_85_code
def yX5_mix : MethodName := ⟨RX5, "mix", "(I)V"⟩
abbrev cX5_mixNode : ByteArray := prog_7_method_86_code
def yX5_mixNode : MethodName := ⟨RX5, "mixNode", "(I)V"⟩
abbrev cX5_mixOuts : ByteArray := prog_7_method_87_code
def yX5_mixOuts : MethodName := ⟨RX5, "mixOuts", "(I)V"⟩
abbrev cX5_digest : ByteArray := prog_7_method_88_code
def yX5_digest : MethodName := ⟨RX5, "digest", "()J"⟩
def RJ11 : String := "java/lang/Character"
abbrev cJ11_isValidCodePoint_9a6ad : ByteArray := prog_8_method_11_code
def yJ11_isValidCodePoint_9a6ad : MethodName := ⟨RJ11, "isValidCodePoint", "(I)Z"⟩
abbrev cJ11_highSurrogate_5068e : ByteArray := prog_8_method_28_code
def yJ11_highSurrogate_5068e : MethodName := ⟨RJ11, "highSurrogate", "(I)C"⟩
abbrev cJ11_lowSurrogate_5068e : ByteArray := prog_8_method_29_code
def yJ11_lowSurrogate_5068e : MethodName := ⟨RJ11, "lowSurrogate", "(I)C"⟩
def RJ9 : String := "java/lang/Math"
abbrev cJ9_max_7cf53 : ByteArray := prog_9_method_65_code
def yJ9_max_7cf53 : MethodName := ⟨RJ9, "max", "(II)I"⟩
abbrev cJ9_min_7cf53 : ByteArray := prog_9_method_69_code
def yJ9_min_7cf53 : MethodName := ⟨RJ9, "min", "(II)I"⟩
def RJ0 : String := "java/lang/String"
abbrev cJ0_length_8abf5 : ByteArray := prog_10_method_54_code
def yJ0_length_8abf5 : MethodName := ⟨RJ0, "length", "()I"⟩
abbrev cJ0_indexOf_0f7a4 : ByteArray := prog_10_method_79_code
def yJ0_indexOf_0f7a4 : MethodName := ⟨RJ0, "indexOf", "(I)I"⟩
abbrev cJ0_indexOf_7cf53 : ByteArray := prog_10_method_80_code
def yJ0_indexOf_7cf53 : MethodName := ⟨RJ0, "indexOf", "(II)I"⟩
abbrev cJ0_coder_7d493 : ByteArray := prog_10_method_152_code
def yJ0_coder_7d493 : MethodName := ⟨RJ0, "coder", "()B"⟩
abbrev cJ0_isLatin1_aae02 : ByteArray := prog_10_method_154_code
def yJ0_isLatin1_aae02 : MethodName := ⟨RJ0, "isLatin1", "()Z"⟩
abbrev cJ0_checkBoundsBeginEnd_23922 : ByteArray := prog_10_method_158_code
def yJ0_checkBoundsBeginEnd_23922 : MethodName := ⟨RJ0, "checkBoundsBeginEnd", "(III)V"⟩
def RJ1 : String := "java/lang/StringLatin1"
abbrev cJ1_canEncode_9a6ad : ByteArray := prog_11_method_4_code
def yJ1_canEncode_9a6ad : MethodName := ⟨RJ1, "canEncode", "(I)Z"⟩
abbrev cJ1_indexOf_4cfef : ByteArray := prog_11_method_22_code
def yJ1_indexOf_4cfef : MethodName := ⟨RJ1, "indexOf", "([BIII)I"⟩
abbrev cJ1_indexOfChar_4cfef : ByteArray := prog_11_method_23_code
def yJ1_indexOfChar_4cfef : MethodName := ⟨RJ1, "indexOfChar", "([BIII)I"⟩
def RJ2 : String := "java/lang/StringUTF16"
abbrev cJ2_getChar_3b067 : ByteArray := prog_12_method_5_code
def yJ2_getChar_3b067 : MethodName := ⟨RJ2, "getChar", "([BI)C"⟩
abbrev cJ2_length_9d52b : ByteArray := prog_12_method_6_code
def yJ2_length_9d52b : MethodName := ⟨RJ2, "length", "([B)I"⟩
abbrev cJ2_indexOf_4cfef : ByteArray := prog_12_method_40_code
def yJ2_indexOf_4cfef : MethodName := ⟨RJ2, "indexOf", "([BIII)I"⟩
abbrev cJ2_indexOfChar_4cfef : ByteArray := prog_12_method_47_code
def yJ2_indexOfChar_4cfef : MethodName := ⟨RJ2, "indexOfChar", "([BIII)I"⟩
abbrev cJ2_indexOfCharUnsafe_4cfef : ByteArray := prog_12_method_48_code
def yJ2_indexOfCharUnsafe_4cfef : MethodName := ⟨RJ2, "indexOfCharUnsafe", "([BIII)I"⟩
abbrev cJ2_indexOfSupplementary_4cfef : ByteArray := prog_12_method_49_code
def yJ2_indexOfSupplementary_4cfef : MethodName := ⟨RJ2, "indexOfSupplementary", "([BIII)I"⟩
abbrev cJ2_checkBoundsBeginEnd_d044e : ByteArray := prog_12_method_93_code
def yJ2_checkBoundsBeginEnd_d044e : MethodName := ⟨RJ2, "checkBoundsBeginEnd", "(II[B)V"⟩
def RJ10 : String := "java/lang/System"
def RJ3 : String := "jdk/internal/util/Preconditions"
abbrev cJ3_checkFromToIndex_8c36e : ByteArray := prog_14_method_12_code
def yJ3_checkFromToIndex_8c36e : MethodName := ⟨RJ3, "checkFromToIndex", "(IIILjava/util/function/BiFunction;)I"⟩
def RL : String := "SweptGatesLaw"
abbrev cL_law : ByteArray := code
def yL_law : MethodName := ⟨RL, "law", "([I)Z"⟩
abbrev vwCl : List vw_C := [(RX0, TX0, 10), (RX1, TX1, 3), (RX2, TX2, 8), (RX3, TX3, 13), (RX4, TX4, 9), (RX5, TX5, 24)]
end
section
theorem dJ9_max_7cf53_0 : decode cJ9_max_7cf53 0 = .ok (.iload_n 0, 1) := by decide +kernel
theorem dJ9_max_7cf53_1 : decode cJ9_max_7cf53 1 = .ok (.iload_n 1, 1) := by decide +kernel
theorem dJ9_max_7cf53_2 : decode cJ9_max_7cf53 2 = .ok (.if_icmp .lt 7, 3) := by decide +kernel
theorem dJ9_max_7cf53_5 : decode cJ9_max_7cf53 5 = .ok (.iload_n 0, 1) := by decide +kernel
theorem dJ9_max_7cf53_6 : decode cJ9_max_7cf53 6 = .ok (.goto 4, 3) := by decide +kernel
theorem dJ9_max_7cf53_9 : decode cJ9_max_7cf53 9 = .ok (.iload_n 1, 1) := by decide +kernel
theorem dJ9_max_7cf53_10 : decode cJ9_max_7cf53 10 = .ok (.ireturn, 1) := by decide +kernel
theorem dJ9_min_7cf53_0 : decode cJ9_min_7cf53 0 = .ok (.iload_n 0, 1) := by decide +kernel
theorem dJ9_min_7cf53_1 : decode cJ9_min_7cf53 1 = .ok (.iload_n 1, 1) := by decide +kernel
theorem dJ9_min_7cf53_2 : decode cJ9_min_7cf53 2 = .ok (.if_icmp .gt 7, 3) := by decide +kernel
theorem dJ9_min_7cf53_5 : decode cJ9_min_7cf53 5 = .ok (.iload_n 0, 1) := by decide +kernel
theorem dJ9_min_7cf53_6 : decode cJ9_min_7cf53 6 = .ok (.goto 4, 3) := by decide +kernel
theorem dJ9_min_7cf53_9 : decode cJ9_min_7cf53 9 = .ok (.iload_n 1, 1) := by decide +kernel
theorem dJ9_min_7cf53_10 : decode cJ9_min_7cf53 10 = .ok (.ireturn, 1) := by decide +kernel
theorem dJ0_length_8abf5_0 : decode cJ0_length_8abf5 0 = .ok (.aload_n 0, 1) := by decide +kernel
theorem dJ0_length_8abf5_1 : decode cJ0_length_8abf5 1 = .ok (.getfield 9, 3) := by decide +kernel
theorem dJ0_length_8abf5_4 : decode cJ0_length_8abf5 4 = .ok (.arraylength, 1) := by decide +kernel
theorem dJ0_length_8abf5_5 : decode cJ0_length_8abf5 5 = .ok (.aload_n 0, 1) := by decide +kernel
theorem dJ0_length_8abf5_6 : decode cJ0_length_8abf5 6 = .ok (.invokevirtual 335, 3) := by decide +kernel
theorem dJ0_length_8abf5_9 : decode cJ0_length_8abf5 9 = .ok (.ishr, 1) := by decide +kernel
theorem dJ0_length_8abf5_10 : decode cJ0_length_8abf5 10 = .ok (.ireturn, 1) := by decide +kernel
theorem dJ0_indexOf_0f7a4_0 : decode cJ0_indexOf_0f7a4 0 = .ok (.aload_n 0, 1) := by decide +kernel
theorem dJ0_indexOf_0f7a4_1 : decode cJ0_indexOf_0f7a4 1 = .ok (.iload_n 1, 1) := by decide +kernel
theorem dJ0_indexOf_0f7a4_2 : decode cJ0_indexOf_0f7a4 2 = .ok (.iconst 0, 1) := by decide +kernel
theorem dJ0_indexOf_0f7a4_3 : decode cJ0_indexOf_0f7a4 3 = .ok (.invokevirtual 633, 3) := by decide +kernel
theorem dJ0_indexOf_0f7a4_6 : decode cJ0_indexOf_0f7a4 6 = .ok (.ireturn, 1) := by decide +kernel
theorem dJ0_indexOf_7cf53_0 : decode cJ0_indexOf_7cf53 0 = .ok (.aload_n 0, 1) := by decide +kernel
theorem dJ0_indexOf_7cf53_1 : decode cJ0_indexOf_7cf53 1 = .ok (.invokevirtual 492, 3) := by decide +kernel
theorem dJ0_indexOf_7cf53_4 : decode cJ0_indexOf_7cf53 4 = .ok (.ifCond .eq 19, 3) := by decide +kernel
theorem dJ0_indexOf_7cf53_7 : decode cJ0_indexOf_7cf53 7 = .ok (.aload_n 0, 1) := by decide +kernel
theorem dJ0_indexOf_7cf53_8 : decode cJ0_indexOf_7cf53 8 = .ok (.getfield 9, 3) := by decide +kernel
theorem dJ0_indexOf_7cf53_11 : decode cJ0_indexOf_7cf53 11 = .ok (.iload_n 1, 1) := by decide +kernel
theorem dJ0_indexOf_7cf53_12 : decode cJ0_indexOf_7cf53 12 = .ok (.iload_n 2, 1) := by decide +kernel
theorem dJ0_indexOf_7cf53_13 : decode cJ0_indexOf_7cf53 13 = .ok (.aload_n 0, 1) := by decide +kernel
theorem dJ0_indexOf_7cf53_14 : decode cJ0_indexOf_7cf53 14 = .ok (.invokevirtual 505, 3) := by decide +kernel
theorem dJ0_indexOf_7cf53_17 : decode cJ0_indexOf_7cf53 17 = .ok (.invokestatic 637, 3) := by decide +kernel
theorem dJ0_indexOf_7cf53_20 : decode cJ0_indexOf_7cf53 20 = .ok (.goto 16, 3) := by decide +kernel
theorem dJ0_indexOf_7cf53_23 : decode cJ0_indexOf_7cf53 23 = .ok (.aload_n 0, 1) := by decide +kernel
theorem dJ0_indexOf_7cf53_24 : decode cJ0_indexOf_7cf53 24 = .ok (.getfield 9, 3) := by decide +kernel
theorem dJ0_indexOf_7cf53_27 : decode cJ0_indexOf_7cf53 27 = .ok (.iload_n 1, 1) := by decide +kernel
theorem dJ0_indexOf_7cf53_28 : decode cJ0_indexOf_7cf53 28 = .ok (.iload_n 2, 1) := by decide +kernel
theorem dJ0_indexOf_7cf53_29 : decode cJ0_indexOf_7cf53 29 = .ok (.aload_n 0, 1) := by decide +kernel
theorem dJ0_indexOf_7cf53_30 : decode cJ0_indexOf_7cf53 30 = .ok (.invokevirtual 505, 3) := by decide +kernel
theorem dJ0_indexOf_7cf53_33 : decode cJ0_indexOf_7cf53 33 = .ok (.invokestatic 640, 3) := by decide +kernel
theorem dJ0_indexOf_7cf53_36 : decode cJ0_indexOf_7cf53 36 = .ok (.ireturn, 1) := by decide +kernel
theorem dJ0_coder_7d493_0 : decode cJ0_coder_7d493 0 = .ok (.getstatic 38, 3) := by decide +kernel
theorem dJ0_coder_7d493_3 : decode cJ0_coder_7d493 3 = .ok (.ifCond .eq 10, 3) := by decide +kernel
theorem dJ0_coder_7d493_6 : decode cJ0_coder_7d493 6 = .ok (.aload_n 0, 1) := by decide +kernel
theorem dJ0_coder_7d493_7 : decode cJ0_coder_7d493 7 = .ok (.getfield 15, 3) := by decide +kernel
theorem dJ0_coder_7d493_10 : decode cJ0_coder_7d493 10 = .ok (.goto 4, 3) := by decide +kernel
theorem dJ0_coder_7d493_13 : decode cJ0_coder_7d493 13 = .ok (.iconst 1, 1) := by decide +kernel
theorem dJ0_coder_7d493_14 : decode cJ0_coder_7d493 14 = .ok (.ireturn, 1) := by decide +kernel
theorem dJ0_isLatin1_aae02_0 : decode cJ0_isLatin1_aae02 0 = .ok (.getstatic 38, 3) := by decide +kernel
theorem dJ0_isLatin1_aae02_3 : decode cJ0_isLatin1_aae02 3 = .ok (.ifCond .eq 14, 3) := by decide +kernel
theorem dJ0_isLatin1_aae02_6 : decode cJ0_isLatin1_aae02 6 = .ok (.aload_n 0, 1) := by decide +kernel
theorem dJ0_isLatin1_aae02_7 : decode cJ0_isLatin1_aae02 7 = .ok (.getfield 15, 3) := by decide +kernel
theorem dJ0_isLatin1_aae02_10 : decode cJ0_isLatin1_aae02 10 = .ok (.ifCond .ne 7, 3) := by decide +kernel
theorem dJ0_isLatin1_aae02_13 : decode cJ0_isLatin1_aae02 13 = .ok (.iconst 1, 1) := by decide +kernel
theorem dJ0_isLatin1_aae02_14 : decode cJ0_isLatin1_aae02 14 = .ok (.goto 4, 3) := by decide +kernel
theorem dJ0_isLatin1_aae02_17 : decode cJ0_isLatin1_aae02 17 = .ok (.iconst 0, 1) := by decide +kernel
theorem dJ0_isLatin1_aae02_18 : decode cJ0_isLatin1_aae02 18 = .ok (.ireturn, 1) := by decide +kernel
theorem dJ0_checkBoundsBeginEnd_23922_0 : decode cJ0_checkBoundsBeginEnd_23922 0 = .ok (.iload_n 0, 1) := by decide +kernel
theorem dJ0_checkBoundsBeginEnd_23922_1 : decode cJ0_checkBoundsBeginEnd_23922 1 = .ok (.iload_n 1, 1) := by decide +kernel
theorem dJ0_checkBoundsBeginEnd_23922_2 : decode cJ0_checkBoundsBeginEnd_23922 2 = .ok (.iload_n 2, 1) := by decide +kernel
theorem dJ0_checkBoundsBeginEnd_23922_3 : decode cJ0_checkBoundsBeginEnd_23922 3 = .ok (.getstatic 1053, 3) := by decide +kernel
theorem dJ0_checkBoundsBeginEnd_23922_6 : decode cJ0_checkBoundsBeginEnd_23922 6 = .ok (.invokestatic 1062, 3) := by decide +kernel
theorem dJ0_checkBoundsBeginEnd_23922_9 : decode cJ0_checkBoundsBeginEnd_23922 9 = .ok (.pop, 1) := by decide +kernel
theorem dJ0_checkBoundsBeginEnd_23922_10 : decode cJ0_checkBoundsBeginEnd_23922 10 = .ok (.return_, 1) := by decide +kernel
theorem dJ1_canEncode_9a6ad_0 : decode cJ1_canEncode_9a6ad 0 = .ok (.iload_n 0, 1) := by decide +kernel
theorem dJ1_canEncode_9a6ad_1 : decode cJ1_canEncode_9a6ad 1 = .ok (.ifCond .lt 14, 3) := by decide +kernel
theorem dJ1_canEncode_9a6ad_4 : decode cJ1_canEncode_9a6ad 4 = .ok (.iload_n 0, 1) := by decide +kernel
theorem dJ1_canEncode_9a6ad_5 : decode cJ1_canEncode_9a6ad 5 = .ok (.sipush 255, 3) := by decide +kernel
theorem dJ1_canEncode_9a6ad_8 : decode cJ1_canEncode_9a6ad 8 = .ok (.if_icmp .gt 7, 3) := by decide +kernel
theorem dJ1_canEncode_9a6ad_11 : decode cJ1_canEncode_9a6ad 11 = .ok (.iconst 1, 1) := by decide +kernel
theorem dJ1_canEncode_9a6ad_12 : decode cJ1_canEncode_9a6ad 12 = .ok (.goto 4, 3) := by decide +kernel
theorem dJ1_canEncode_9a6ad_15 : decode cJ1_canEncode_9a6ad 15 = .ok (.iconst 0, 1) := by decide +kernel
theorem dJ1_canEncode_9a6ad_16 : decode cJ1_canEncode_9a6ad 16 = .ok (.ireturn, 1) := by decide +kernel
theorem dJ1_indexOf_4cfef_0 : decode cJ1_indexOf_4cfef 0 = .ok (.iload_n 1, 1) := by decide +kernel
theorem dJ1_indexOf_4cfef_1 : decode cJ1_indexOf_4cfef 1 = .ok (.invokestatic 88, 3) := by decide +kernel
theorem dJ1_indexOf_4cfef_4 : decode cJ1_indexOf_4cfef 4 = .ok (.ifCond .ne 5, 3) := by decide +kernel
theorem dJ1_indexOf_4cfef_7 : decode cJ1_indexOf_4cfef 7 = .ok (.iconst (-1), 1) := by decide +kernel
theorem dJ1_indexOf_4cfef_8 : decode cJ1_indexOf_4cfef 8 = .ok (.ireturn, 1) := by decide +kernel
theorem dJ1_indexOf_4cfef_9 : decode cJ1_indexOf_4cfef 9 = .ok (.iload_n 2, 1) := by decide +kernel
theorem dJ1_indexOf_4cfef_10 : decode cJ1_indexOf_4cfef 10 = .ok (.iconst 0, 1) := by decide +kernel
theorem dJ1_indexOf_4cfef_11 : decode cJ1_indexOf_4cfef 11 = .ok (.invokestatic 92, 3) := by decide +kernel
theorem dJ1_indexOf_4cfef_14 : decode cJ1_indexOf_4cfef 14 = .ok (.istore_n 2, 1) := by decide +kernel
theorem dJ1_indexOf_4cfef_15 : decode cJ1_indexOf_4cfef 15 = .ok (.iload_n 3, 1) := by decide +kernel
theorem dJ1_indexOf_4cfef_16 : decode cJ1_indexOf_4cfef 16 = .ok (.aload_n 0, 1) := by decide +kernel
theorem dJ1_indexOf_4cfef_17 : decode cJ1_indexOf_4cfef 17 = .ok (.arraylength, 1) := by decide +kernel
theorem dJ1_indexOf_4cfef_18 : decode cJ1_indexOf_4cfef 18 = .ok (.invokestatic 38, 3) := by decide +kernel
theorem dJ1_indexOf_4cfef_21 : decode cJ1_indexOf_4cfef 21 = .ok (.istore_n 3, 1) := by decide +kernel
theorem dJ1_indexOf_4cfef_22 : decode cJ1_indexOf_4cfef 22 = .ok (.iload_n 2, 1) := by decide +kernel
theorem dJ1_indexOf_4cfef_23 : decode cJ1_indexOf_4cfef 23 = .ok (.iload_n 3, 1) := by decide +kernel
theorem dJ1_indexOf_4cfef_24 : decode cJ1_indexOf_4cfef 24 = .ok (.if_icmp .lt 5, 3) := by decide +kernel
theorem dJ1_indexOf_4cfef_27 : decode cJ1_indexOf_4cfef 27 = .ok (.iconst (-1), 1) := by decide +kernel
theorem dJ1_indexOf_4cfef_28 : decode cJ1_indexOf_4cfef 28 = .ok (.ireturn, 1) := by decide +kernel
theorem dJ1_indexOf_4cfef_29 : decode cJ1_indexOf_4cfef 29 = .ok (.aload_n 0, 1) := by decide +kernel
theorem dJ1_indexOf_4cfef_30 : decode cJ1_indexOf_4cfef 30 = .ok (.iload_n 1, 1) := by decide +kernel
theorem dJ1_indexOf_4cfef_31 : decode cJ1_indexOf_4cfef 31 = .ok (.iload_n 2, 1) := by decide +kernel
theorem dJ1_indexOf_4cfef_32 : decode cJ1_indexOf_4cfef 32 = .ok (.iload_n 3, 1) := by decide +kernel
theorem dJ1_indexOf_4cfef_33 : decode cJ1_indexOf_4cfef 33 = .ok (.invokestatic 95, 3) := by decide +kernel
theorem dJ1_indexOf_4cfef_36 : decode cJ1_indexOf_4cfef 36 = .ok (.ireturn, 1) := by decide +kernel
theorem dJ1_indexOfChar_4cfef_0 : decode cJ1_indexOfChar_4cfef 0 = .ok (.iload_n 1, 1) := by decide +kernel
theorem dJ1_indexOfChar_4cfef_1 : decode cJ1_indexOfChar_4cfef 1 = .ok (.i2b, 1) := by decide +kernel
theorem dJ1_indexOfChar_4cfef_2 : decode cJ1_indexOfChar_4cfef 2 = .ok (.istore 4, 2) := by decide +kernel
theorem dJ1_indexOfChar_4cfef_4 : decode cJ1_indexOfChar_4cfef 4 = .ok (.iload_n 2, 1) := by decide +kernel
theorem dJ1_indexOfChar_4cfef_5 : decode cJ1_indexOfChar_4cfef 5 = .ok (.istore 5, 2) := by decide +kernel
theorem dJ1_indexOfChar_4cfef_7 : decode cJ1_indexOfChar_4cfef 7 = .ok (.iload 5, 2) := by decide +kernel
theorem dJ1_indexOfChar_4cfef_9 : decode cJ1_indexOfChar_4cfef 9 = .ok (.iload_n 3, 1) := by decide +kernel
theorem dJ1_indexOfChar_4cfef_10 : decode cJ1_indexOfChar_4cfef 10 = .ok (.if_icmp .ge 21, 3) := by decide +kernel
theorem dJ1_indexOfChar_4cfef_13 : decode cJ1_indexOfChar_4cfef 13 = .ok (.aload_n 0, 1) := by decide +kernel
theorem dJ1_indexOfChar_4cfef_14 : decode cJ1_indexOfChar_4cfef 14 = .ok (.iload 5, 2) := by decide +kernel
theorem dJ1_indexOfChar_4cfef_16 : decode cJ1_indexOfChar_4cfef 16 = .ok (.baload, 1) := by decide +kernel
theorem dJ1_indexOfChar_4cfef_17 : decode cJ1_indexOfChar_4cfef 17 = .ok (.iload 4, 2) := by decide +kernel
theorem dJ1_indexOfChar_4cfef_19 : decode cJ1_indexOfChar_4cfef 19 = .ok (.if_icmp .ne 6, 3) := by decide +kernel
theorem dJ1_indexOfChar_4cfef_22 : decode cJ1_indexOfChar_4cfef 22 = .ok (.iload 5, 2) := by decide +kernel
theorem dJ1_indexOfChar_4cfef_24 : decode cJ1_indexOfChar_4cfef 24 = .ok (.ireturn, 1) := by decide +kernel
theorem dJ1_indexOfChar_4cfef_25 : decode cJ1_indexOfChar_4cfef 25 = .ok (.iinc 5 1, 3) := by decide +kernel
theorem dJ1_indexOfChar_4cfef_28 : decode cJ1_indexOfChar_4cfef 28 = .ok (.goto (-21), 3) := by decide +kernel
theorem dJ1_indexOfChar_4cfef_31 : decode cJ1_indexOfChar_4cfef 31 = .ok (.iconst (-1), 1) := by decide +kernel
theorem dJ1_indexOfChar_4cfef_32 : decode cJ1_indexOfChar_4cfef 32 = .ok (.ireturn, 1) := by decide +kernel
end
section
theorem dL_law_0 : decode cL_law 0 = .ok (.new 7, 3) := by decide +kernel
theorem dL_law_3 : decode cL_law 3 = .ok (.dup, 1) := by decide +kernel
theorem dL_law_4 : decode cL_law 4 = .ok (.invokespecial 9, 3) := by decide +kernel
theorem dL_law_7 : decode cL_law 7 = .ok (.astore_n 1, 1) := by decide +kernel
theorem dL_law_8 : decode cL_law 8 = .ok (.new 10, 3) := by decide +kernel
theorem dL_law_11 : decode cL_law 11 = .ok (.dup, 1) := by decide +kernel
theorem dL_law_12 : decode cL_law 12 = .ok (.invokespecial 12, 3) := by decide +kernel
theorem dL_law_15 : decode cL_law 15 = .ok (.astore_n 2, 1) := by decide +kernel
theorem dL_law_16 : decode cL_law 16 = .ok (.iconst 0, 1) := by decide +kernel
theorem dL_law_17 : decode cL_law 17 = .ok (.istore_n 3, 1) := by decide +kernel
theorem dL_law_18 : decode cL_law 18 = .ok (.iload_n 3, 1) := by decide +kernel
theorem dL_law_19 : decode cL_law 19 = .ok (.aload_n 0, 1) := by decide +kernel
theorem dL_law_20 : decode cL_law 20 = .ok (.arraylength, 1) := by decide +kernel
theorem dL_law_21 : decode cL_law 21 = .ok (.iconst 4, 1) := by decide +kernel
theorem dL_law_22 : decode cL_law 22 = .ok (.isub, 1) := by decide +kernel
theorem dL_law_23 : decode cL_law 23 = .ok (.if_icmp .gt 818, 3) := by decide +kernel
theorem dL_law_26 : decode cL_law 26 = .ok (.aload_n 0, 1) := by decide +kernel
theorem dL_law_27 : decode cL_law 27 = .ok (.iload_n 3, 1) := by decide +kernel
theorem dL_law_28 : decode cL_law 28 = .ok (.iaload, 1) := by decide +kernel
theorem dL_law_29 : decode cL_law 29 = .ok (.bipush 31, 2) := by decide +kernel
theorem dL_law_31 : decode cL_law 31 = .ok (.iand, 1) := by decide +kernel
theorem dL_law_32 : decode cL_law 32 = .ok (.tableswitch 803 0 27 #[128, 151, 184, 217, 260, 293, 316, 329, 362, 385, 418, 441, 464, 497, 520, 543, 566, 599, 622, 645, 668, 691, 704, 727, 740, 753, 766, 789], 128) := by decide +kernel
theorem dL_law_160 : decode cL_law 160 = .ok (.aload_n 1, 1) := by decide +kernel
theorem dL_law_161 : decode cL_law 161 = .ok (.aload_n 0, 1) := by decide +kernel
theorem dL_law_162 : decode cL_law 162 = .ok (.iload_n 3, 1) := by decide +kernel
theorem dL_law_163 : decode cL_law 163 = .ok (.iconst 1, 1) := by decide +kernel
theorem dL_law_164 : decode cL_law 164 = .ok (.iadd, 1) := by decide +kernel
theorem dL_law_165 : decode cL_law 165 = .ok (.iaload, 1) := by decide +kernel
theorem dL_law_166 : decode cL_law 166 = .ok (.invokevirtual 13, 3) := by decide +kernel
theorem dL_law_169 : decode cL_law 169 = .ok (.aload_n 2, 1) := by decide +kernel
theorem dL_law_170 : decode cL_law 170 = .ok (.aload_n 0, 1) := by decide +kernel
theorem dL_law_171 : decode cL_law 171 = .ok (.iload_n 3, 1) := by decide +kernel
theorem dL_law_172 : decode cL_law 172 = .ok (.iconst 1, 1) := by decide +kernel
theorem dL_law_173 : decode cL_law 173 = .ok (.iadd, 1) := by decide +kernel
theorem dL_law_174 : decode cL_law 174 = .ok (.iaload, 1) := by decide +kernel
theorem dL_law_175 : decode cL_law 175 = .ok (.invokevirtual 17, 3) := by decide +kernel
theorem dL_law_178 : decode cL_law 178 = .ok (.if_icmp .eq 657, 3) := by decide +kernel
theorem dL_law_181 : decode cL_law 181 = .ok (.iconst 0, 1) := by decide +kernel
theorem dL_law_182 : decode cL_law 182 = .ok (.ireturn, 1) := by decide +kernel
theorem dL_law_183 : decode cL_law 183 = .ok (.aload_n 1, 1) := by decide +kernel
theorem dL_law_184 : decode cL_law 184 = .ok (.aload_n 0, 1) := by decide +kernel
theorem dL_law_185 : decode cL_law 185 = .ok (.iload_n 3, 1) := by decide +kernel
theorem dL_law_186 : decode cL_law 186 = .ok (.iconst 1, 1) := by decide +kernel
theorem dL_law_187 : decode cL_law 187 = .ok (.iadd, 1) := by decide +kernel
theorem dL_law_188 : decode cL_law 188 = .ok (.iaload, 1) := by decide +kernel
theorem dL_law_189 : decode cL_law 189 = .ok (.aload_n 0, 1) := by decide +kernel
theorem dL_law_190 : decode cL_law 190 = .ok (.iload_n 3, 1) := by decide +kernel
theorem dL_law_191 : decode cL_law 191 = .ok (.iconst 2, 1) := by decide +kernel
theorem dL_law_192 : decode cL_law 192 = .ok (.iadd, 1) := by decide +kernel
theorem dL_law_193 : decode cL_law 193 = .ok (.iaload, 1) := by decide +kernel
theorem dL_law_194 : decode cL_law 194 = .ok (.invokevirtual 18, 3) := by decide +kernel
theorem dL_law_197 : decode cL_law 197 = .ok (.aload_n 2, 1) := by decide +kernel
theorem dL_law_198 : decode cL_law 198 = .ok (.aload_n 0, 1) := by decide +kernel
theorem dL_law_199 : decode cL_law 199 = .ok (.iload_n 3, 1) := by decide +kernel
theorem dL_law_200 : decode cL_law 200 = .ok (.iconst 1, 1) := by decide +kernel
theorem dL_law_201 : decode cL_law 201 = .ok (.iadd, 1) := by decide +kernel
theorem dL_law_202 : decode cL_law 202 = .ok (.iaload, 1) := by decide +kernel
theorem dL_law_203 : decode cL_law 203 = .ok (.aload_n 0, 1) := by decide +kernel
theorem dL_law_204 : decode cL_law 204 = .ok (.iload_n 3, 1) := by decide +kernel
theorem dL_law_205 : decode cL_law 205 = .ok (.iconst 2, 1) := by decide +kernel
theorem dL_law_206 : decode cL_law 206 = .ok (.iadd, 1) := by decide +kernel
theorem dL_law_207 : decode cL_law 207 = .ok (.iaload, 1) := by decide +kernel
theorem dL_law_208 : decode cL_law 208 = .ok (.invokevirtual 22, 3) := by decide +kernel
theorem dL_law_211 : decode cL_law 211 = .ok (.if_icmp .eq 624, 3) := by decide +kernel
theorem dL_law_214 : decode cL_law 214 = .ok (.iconst 0, 1) := by decide +kernel
theorem dL_law_215 : decode cL_law 215 = .ok (.ireturn, 1) := by decide +kernel
theorem dL_law_216 : decode cL_law 216 = .ok (.aload_n 1, 1) := by decide +kernel
theorem dL_law_217 : decode cL_law 217 = .ok (.aload_n 0, 1) := by decide +kernel
theorem dL_law_218 : decode cL_law 218 = .ok (.iload_n 3, 1) := by decide +kernel
theorem dL_law_219 : decode cL_law 219 = .ok (.iconst 1, 1) := by decide +kernel
theorem dL_law_220 : decode cL_law 220 = .ok (.iadd, 1) := by decide +kernel
theorem dL_law_221 : decode cL_law 221 = .ok (.iaload, 1) := by decide +kernel
theorem dL_law_222 : decode cL_law 222 = .ok (.aload_n 0, 1) := by decide +kernel
theorem dL_law_223 : decode cL_law 223 = .ok (.iload_n 3, 1) := by decide +kernel
theorem dL_law_224 : decode cL_law 224 = .ok (.iconst 2, 1) := by decide +kernel
theorem dL_law_225 : decode cL_law 225 = .ok (.iadd, 1) := by decide +kernel
theorem dL_law_226 : decode cL_law 226 = .ok (.iaload, 1) := by decide +kernel
theorem dL_law_227 : decode cL_law 227 = .ok (.invokevirtual 23, 3) := by decide +kernel
theorem dL_law_230 : decode cL_law 230 = .ok (.aload_n 2, 1) := by decide +kernel
theorem dL_law_231 : decode cL_law 231 = .ok (.aload_n 0, 1) := by decide +kernel
theorem dL_law_232 : decode cL_law 232 = .ok (.iload_n 3, 1) := by decide +kernel
theorem dL_law_233 : decode cL_law 233 = .ok (.iconst 1, 1) := by decide +kernel
theorem dL_law_234 : decode cL_law 234 = .ok (.iadd, 1) := by decide +kernel
theorem dL_law_235 : decode cL_law 235 = .ok (.iaload, 1) := by decide +kernel
theorem dL_law_236 : decode cL_law 236 = .ok (.aload_n 0, 1) := by decide +kernel
theorem dL_law_237 : decode cL_law 237 = .ok (.iload_n 3, 1) := by decide +kernel
theorem dL_law_238 : decode cL_law 238 = .ok (.iconst 2, 1) := by decide +kernel
theorem dL_law_239 : decode cL_law 239 = .ok (.iadd, 1) := by decide +kernel
theorem dL_law_240 : decode cL_law 240 = .ok (.iaload, 1) := by decide +kernel
theorem dL_law_241 : decode cL_law 241 = .ok (.invokevirtual 26, 3) := by decide +kernel
theorem dL_law_244 : decode cL_law 244 = .ok (.if_icmp .eq 591, 3) := by decide +kernel
theorem dL_law_247 : decode cL_law 247 = .ok (.iconst 0, 1) := by decide +kernel
theorem dL_law_248 : decode cL_law 248 = .ok (.ireturn, 1) := by decide +kernel
theorem dL_law_249 : decode cL_law 249 = .ok (.aload_n 1, 1) := by decide +kernel
theorem dL_law_250 : decode cL_law 250 = .ok (.aload_n 0, 1) := by decide +kernel
theorem dL_law_251 : decode cL_law 251 = .ok (.iload_n 3, 1) := by decide +kernel
theorem dL_law_252 : decode cL_law 252 = .ok (.iconst 1, 1) := by decide +kernel
theorem dL_law_253 : decode cL_law 253 = .ok (.iadd, 1) := by decide +kernel
theorem dL_law_254 : decode cL_law 254 = .ok (.iaload, 1) := by decide +kernel
theorem dL_law_255 : decode cL_law 255 = .ok (.aload_n 0, 1) := by decide +kernel
theorem dL_law_256 : decode cL_law 256 = .ok (.iload_n 3, 1) := by decide +kernel
theorem dL_law_257 : decode cL_law 257 = .ok (.iconst 2, 1) := by decide +kernel
theorem dL_law_258 : decode cL_law 258 = .ok (.iadd, 1) := by decide +kernel
theorem dL_law_259 : decode cL_law 259 = .ok (.iaload, 1) := by decide +kernel
theorem dL_law_260 : decode cL_law 260 = .ok (.aload_n 0, 1) := by decide +kernel
theorem dL_law_261 : decode cL_law 261 = .ok (.iload_n 3, 1) := by decide +kernel
theorem dL_law_262 : decode cL_law 262 = .ok (.iconst 3, 1) := by decide +kernel
theorem dL_law_263 : decode cL_law 263 = .ok (.iadd, 1) := by decide +kernel
theorem dL_law_264 : decode cL_law 264 = .ok (.iaload, 1) := by decide +kernel
theorem dL_law_265 : decode cL_law 265 = .ok (.invokevirtual 27, 3) := by decide +kernel
theorem dL_law_268 : decode cL_law 268 = .ok (.aload_n 2, 1) := by decide +kernel
theorem dL_law_269 : decode cL_law 269 = .ok (.aload_n 0, 1) := by decide +kernel
theorem dL_law_270 : decode cL_law 270 = .ok (.iload_n 3, 1) := by decide +kernel
theorem dL_law_271 : decode cL_law 271 = .ok (.iconst 1, 1) := by decide +kernel
theorem dL_law_272 : decode cL_law 272 = .ok (.iadd, 1) := by decide +kernel
theorem dL_law_273 : decode cL_law 273 = .ok (.iaload, 1) := by decide +kernel
theorem dL_law_274 : decode cL_law 274 = .ok (.aload_n 0, 1) := by decide +kernel
theorem dL_law_275 : decode cL_law 275 = .ok (.iload_n 3, 1) := by decide +kernel
theorem dL_law_276 : decode cL_law 276 = .ok (.iconst 2, 1) := by decide +kernel
theorem dL_law_277 : decode cL_law 277 = .ok (.iadd, 1) := by decide +kernel
theorem dL_law_278 : decode cL_law 278 = .ok (.iaload, 1) := by decide +kernel
theorem dL_law_279 : decode cL_law 279 = .ok (.aload_n 0, 1) := by decide +kernel
theorem dL_law_280 : decode cL_law 280 = .ok (.iload_n 3, 1) := by decide +kernel
theorem dL_law_281 : decode cL_law 281 = .ok (.iconst 3, 1) := by decide +kernel
theorem dL_law_282 : decode cL_law 282 = .ok (.iadd, 1) := by decide +kernel
theorem dL_law_283 : decode cL_law 283 = .ok (.iaload, 1) := by decide +kernel
theorem dL_law_284 : decode cL_law 284 = .ok (.invokevirtual 31, 3) := by decide +kernel
theorem dL_law_287 : decode cL_law 287 = .ok (.if_icmp .eq 548, 3) := by decide +kernel
theorem dL_law_290 : decode cL_law 290 = .ok (.iconst 0, 1) := by decide +kernel
theorem dL_law_291 : decode cL_law 291 = .ok (.ireturn, 1) := by decide +kernel
theorem dL_law_292 : decode cL_law 292 = .ok (.aload_n 1, 1) := by decide +kernel
theorem dL_law_293 : decode cL_law 293 = .ok (.aload_n 0, 1) := by decide +kernel
theorem dL_law_294 : decode cL_law 294 = .ok (.iload_n 3, 1) := by decide +kernel
theorem dL_law_295 : decode cL_law 295 = .ok (.iconst 1, 1) := by decide +kernel
theorem dL_law_296 : decode cL_law 296 = .ok (.iadd, 1) := by decide +kernel
theorem dL_law_297 : decode cL_law 297 = .ok (.iaload, 1) := by decide +kernel
theorem dL_law_298 : decode cL_law 298 = .ok (.aload_n 0, 1) := by decide +kernel
theorem dL_law_299 : decode cL_law 299 = .ok (.iload_n 3, 1) := by decide +kernel
theorem dL_law_300 : decode cL_law 300 = .ok (.iconst 2, 1) := by decide +kernel
theorem dL_law_301 : decode cL_law 301 = .ok (.iadd, 1) := by decide +kernel
theorem dL_law_302 : decode cL_law 302 = .ok (.iaload, 1) := by decide +kernel
theorem dL_law_303 : decode cL_law 303 = .ok (.invokevirtual 32, 3) := by decide +kernel
theorem dL_law_306 : decode cL_law 306 = .ok (.aload_n 2, 1) := by decide +kernel
theorem dL_law_307 : decode cL_law 307 = .ok (.aload_n 0, 1) := by decide +kernel
theorem dL_law_308 : decode cL_law 308 = .ok (.iload_n 3, 1) := by decide +kernel
theorem dL_law_309 : decode cL_law 309 = .ok (.iconst 1, 1) := by decide +kernel
theorem dL_law_310 : decode cL_law 310 = .ok (.iadd, 1) := by decide +kernel
theorem dL_law_311 : decode cL_law 311 = .ok (.iaload, 1) := by decide +kernel
theorem dL_law_312 : decode cL_law 312 = .ok (.aload_n 0, 1) := by decide +kernel
theorem dL_law_313 : decode cL_law 313 = .ok (.iload_n 3, 1) := by decide +kernel
theorem dL_law_314 : decode cL_law 314 = .ok (.iconst 2, 1) := by decide +kernel
theorem dL_law_315 : decode cL_law 315 = .ok (.iadd, 1) := by decide +kernel
theorem dL_law_316 : decode cL_law 316 = .ok (.iaload, 1) := by decide +kernel
theorem dL_law_317 : decode cL_law 317 = .ok (.invokevirtual 35, 3) := by decide +kernel
theorem dL_law_320 : decode cL_law 320 = .ok (.if_icmp .eq 515, 3) := by decide +kernel
theorem dL_law_323 : decode cL_law 323 = .ok (.iconst 0, 1) := by decide +kernel
theorem dL_law_324 : decode cL_law 324 = .ok (.ireturn, 1) := by decide +kernel
theorem dL_law_325 : decode cL_law 325 = .ok (.aload_n 1, 1) := by decide +kernel
theorem dL_law_326 : decode cL_law 326 = .ok (.aload_n 0, 1) := by decide +kernel
theorem dL_law_327 : decode cL_law 327 = .ok (.iload_n 3, 1) := by decide +kernel
theorem dL_law_328 : decode cL_law 328 = .ok (.iconst 1, 1) := by decide +kernel
theorem dL_law_329 : decode cL_law 329 = .ok (.iadd, 1) := by decide +kernel
theorem dL_law_330 : decode cL_law 330 = .ok (.iaload, 1) := by decide +kernel
theorem dL_law_331 : decode cL_law 331 = .ok (.invokevirtual 36, 3) := by decide +kernel
theorem dL_law_334 : decode cL_law 334 = .ok (.aload_n 2, 1) := by decide +kernel
theorem dL_law_335 : decode cL_law 335 = .ok (.aload_n 0, 1) := by decide +kernel
theorem dL_law_336 : decode cL_law 336 = .ok (.iload_n 3, 1) := by decide +kernel
theorem dL_law_337 : decode cL_law 337 = .ok (.iconst 1, 1) := by decide +kernel
theorem dL_law_338 : decode cL_law 338 = .ok (.iadd, 1) := by decide +kernel
theorem dL_law_339 : decode cL_law 339 = .ok (.iaload, 1) := by decide +kernel
theorem dL_law_340 : decode cL_law 340 = .ok (.invokevirtual 39, 3) := by decide +kernel
theorem dL_law_343 : decode cL_law 343 = .ok (.if_icmp .eq 492, 3) := by decide +kernel
theorem dL_law_346 : decode cL_law 346 = .ok (.iconst 0, 1) := by decide +kernel
theorem dL_law_347 : decode cL_law 347 = .ok (.ireturn, 1) := by decide +kernel
theorem dL_law_348 : decode cL_law 348 = .ok (.aload_n 1, 1) := by decide +kernel
theorem dL_law_349 : decode cL_law 349 = .ok (.invokevirtual 40, 3) := by decide +kernel
theorem dL_law_352 : decode cL_law 352 = .ok (.aload_n 2, 1) := by decide +kernel
theorem dL_law_353 : decode cL_law 353 = .ok (.invokevirtual 44, 3) := by decide +kernel
theorem dL_law_356 : decode cL_law 356 = .ok (.if_icmp .eq 479, 3) := by decide +kernel
theorem dL_law_359 : decode cL_law 359 = .ok (.iconst 0, 1) := by decide +kernel
theorem dL_law_360 : decode cL_law 360 = .ok (.ireturn, 1) := by decide +kernel
theorem dL_law_361 : decode cL_law 361 = .ok (.aload_n 1, 1) := by decide +kernel
theorem dL_law_362 : decode cL_law 362 = .ok (.aload_n 0, 1) := by decide +kernel
theorem dL_law_363 : decode cL_law 363 = .ok (.iload_n 3, 1) := by decide +kernel
theorem dL_law_364 : decode cL_law 364 = .ok (.iconst 1, 1) := by decide +kernel
theorem dL_law_365 : decode cL_law 365 = .ok (.iadd, 1) := by decide +kernel
theorem dL_law_366 : decode cL_law 366 = .ok (.iaload, 1) := by decide +kernel
theorem dL_law_367 : decode cL_law 367 = .ok (.aload_n 0, 1) := by decide +kernel
theorem dL_law_368 : decode cL_law 368 = .ok (.iload_n 3, 1) := by decide +kernel
theorem dL_law_369 : decode cL_law 369 = .ok (.iconst 2, 1) := by decide +kernel
theorem dL_law_370 : decode cL_law 370 = .ok (.iadd, 1) := by decide +kernel
theorem dL_law_371 : decode cL_law 371 = .ok (.iaload, 1) := by decide +kernel
theorem dL_law_372 : decode cL_law 372 = .ok (.invokevirtual 45, 3) := by decide +kernel
theorem dL_law_375 : decode cL_law 375 = .ok (.aload_n 2, 1) := by decide +kernel
theorem dL_law_376 : decode cL_law 376 = .ok (.aload_n 0, 1) := by decide +kernel
theorem dL_law_377 : decode cL_law 377 = .ok (.iload_n 3, 1) := by decide +kernel
theorem dL_law_378 : decode cL_law 378 = .ok (.iconst 1, 1) := by decide +kernel
theorem dL_law_379 : decode cL_law 379 = .ok (.iadd, 1) := by decide +kernel
theorem dL_law_380 : decode cL_law 380 = .ok (.iaload, 1) := by decide +kernel
theorem dL_law_381 : decode cL_law 381 = .ok (.aload_n 0, 1) := by decide +kernel
theorem dL_law_382 : decode cL_law 382 = .ok (.iload_n 3, 1) := by decide +kernel
theorem dL_law_383 : decode cL_law 383 = .ok (.iconst 2, 1) := by decide +kernel
theorem dL_law_384 : decode cL_law 384 = .ok (.iadd, 1) := by decide +kernel
theorem dL_law_385 : decode cL_law 385 = .ok (.iaload, 1) := by decide +kernel
theorem dL_law_386 : decode cL_law 386 = .ok (.invokevirtual 48, 3) := by decide +kernel
theorem dL_law_389 : decode cL_law 389 = .ok (.if_icmp .eq 446, 3) := by decide +kernel
theorem dL_law_392 : decode cL_law 392 = .ok (.iconst 0, 1) := by decide +kernel
theorem dL_law_393 : decode cL_law 393 = .ok (.ireturn, 1) := by decide +kernel
theorem dL_law_394 : decode cL_law 394 = .ok (.aload_n 1, 1) := by decide +kernel
theorem dL_law_395 : decode cL_law 395 = .ok (.aload_n 0, 1) := by decide +kernel
theorem dL_law_396 : decode cL_law 396 = .ok (.iload_n 3, 1) := by decide +kernel
theorem dL_law_397 : decode cL_law 397 = .ok (.iconst 1, 1) := by decide +kernel
theorem dL_law_398 : decode cL_law 398 = .ok (.iadd, 1) := by decide +kernel
theorem dL_law_399 : decode cL_law 399 = .ok (.iaload, 1) := by decide +kernel
theorem dL_law_400 : decode cL_law 400 = .ok (.invokevirtual 49, 3) := by decide +kernel
theorem dL_law_403 : decode cL_law 403 = .ok (.aload_n 2, 1) := by decide +kernel
theorem dL_law_404 : decode cL_law 404 = .ok (.aload_n 0, 1) := by decide +kernel
theorem dL_law_405 : decode cL_law 405 = .ok (.iload_n 3, 1) := by decide +kernel
theorem dL_law_406 : decode cL_law 406 = .ok (.iconst 1, 1) := by decide +kernel
theorem dL_law_407 : decode cL_law 407 = .ok (.iadd, 1) := by decide +kernel
theorem dL_law_408 : decode cL_law 408 = .ok (.iaload, 1) := by decide +kernel
theorem dL_law_409 : decode cL_law 409 = .ok (.invokevirtual 52, 3) := by decide +kernel
theorem dL_law_412 : decode cL_law 412 = .ok (.if_icmp .eq 423, 3) := by decide +kernel
theorem dL_law_415 : decode cL_law 415 = .ok (.iconst 0, 1) := by decide +kernel
theorem dL_law_416 : decode cL_law 416 = .ok (.ireturn, 1) := by decide +kernel
theorem dL_law_417 : decode cL_law 417 = .ok (.aload_n 1, 1) := by decide +kernel
theorem dL_law_418 : decode cL_law 418 = .ok (.aload_n 0, 1) := by decide +kernel
theorem dL_law_419 : decode cL_law 419 = .ok (.iload_n 3, 1) := by decide +kernel
theorem dL_law_420 : decode cL_law 420 = .ok (.iconst 1, 1) := by decide +kernel
theorem dL_law_421 : decode cL_law 421 = .ok (.iadd, 1) := by decide +kernel
theorem dL_law_422 : decode cL_law 422 = .ok (.iaload, 1) := by decide +kernel
theorem dL_law_423 : decode cL_law 423 = .ok (.aload_n 0, 1) := by decide +kernel
theorem dL_law_424 : decode cL_law 424 = .ok (.iload_n 3, 1) := by decide +kernel
theorem dL_law_425 : decode cL_law 425 = .ok (.iconst 2, 1) := by decide +kernel
theorem dL_law_426 : decode cL_law 426 = .ok (.iadd, 1) := by decide +kernel
theorem dL_law_427 : decode cL_law 427 = .ok (.iaload, 1) := by decide +kernel
theorem dL_law_428 : decode cL_law 428 = .ok (.invokevirtual 53, 3) := by decide +kernel
theorem dL_law_431 : decode cL_law 431 = .ok (.aload_n 2, 1) := by decide +kernel
theorem dL_law_432 : decode cL_law 432 = .ok (.aload_n 0, 1) := by decide +kernel
theorem dL_law_433 : decode cL_law 433 = .ok (.iload_n 3, 1) := by decide +kernel
theorem dL_law_434 : decode cL_law 434 = .ok (.iconst 1, 1) := by decide +kernel
theorem dL_law_435 : decode cL_law 435 = .ok (.iadd, 1) := by decide +kernel
theorem dL_law_436 : decode cL_law 436 = .ok (.iaload, 1) := by decide +kernel
theorem dL_law_437 : decode cL_law 437 = .ok (.aload_n 0, 1) := by decide +kernel
theorem dL_law_438 : decode cL_law 438 = .ok (.iload_n 3, 1) := by decide +kernel
theorem dL_law_439 : decode cL_law 439 = .ok (.iconst 2, 1) := by decide +kernel
theorem dL_law_440 : decode cL_law 440 = .ok (.iadd, 1) := by decide +kernel
theorem dL_law_441 : decode cL_law 441 = .ok (.iaload, 1) := by decide +kernel
theorem dL_law_442 : decode cL_law 442 = .ok (.invokevirtual 56, 3) := by decide +kernel
theorem dL_law_445 : decode cL_law 445 = .ok (.if_icmp .eq 390, 3) := by decide +kernel
theorem dL_law_448 : decode cL_law 448 = .ok (.iconst 0, 1) := by decide +kernel
theorem dL_law_449 : decode cL_law 449 = .ok (.ireturn, 1) := by decide +kernel
theorem dL_law_450 : decode cL_law 450 = .ok (.aload_n 1, 1) := by decide +kernel
theorem dL_law_451 : decode cL_law 451 = .ok (.aload_n 0, 1) := by decide +kernel
theorem dL_law_452 : decode cL_law 452 = .ok (.iload_n 3, 1) := by decide +kernel
theorem dL_law_453 : decode cL_law 453 = .ok (.iconst 1, 1) := by decide +kernel
theorem dL_law_454 : decode cL_law 454 = .ok (.iadd, 1) := by decide +kernel
theorem dL_law_455 : decode cL_law 455 = .ok (.iaload, 1) := by decide +kernel
theorem dL_law_456 : decode cL_law 456 = .ok (.invokevirtual 57, 3) := by decide +kernel
theorem dL_law_459 : decode cL_law 459 = .ok (.aload_n 2, 1) := by decide +kernel
theorem dL_law_460 : decode cL_law 460 = .ok (.aload_n 0, 1) := by decide +kernel
theorem dL_law_461 : decode cL_law 461 = .ok (.iload_n 3, 1) := by decide +kernel
theorem dL_law_462 : decode cL_law 462 = .ok (.iconst 1, 1) := by decide +kernel
theorem dL_law_463 : decode cL_law 463 = .ok (.iadd, 1) := by decide +kernel
theorem dL_law_464 : decode cL_law 464 = .ok (.iaload, 1) := by decide +kernel
theorem dL_law_465 : decode cL_law 465 = .ok (.invokevirtual 60, 3) := by decide +kernel
theorem dL_law_468 : decode cL_law 468 = .ok (.if_icmp .eq 367, 3) := by decide +kernel
theorem dL_law_471 : decode cL_law 471 = .ok (.iconst 0, 1) := by decide +kernel
theorem dL_law_472 : decode cL_law 472 = .ok (.ireturn, 1) := by decide +kernel
theorem dL_law_473 : decode cL_law 473 = .ok (.aload_n 1, 1) := by decide +kernel
theorem dL_law_474 : decode cL_law 474 = .ok (.aload_n 0, 1) := by decide +kernel
theorem dL_law_475 : decode cL_law 475 = .ok (.iload_n 3, 1) := by decide +kernel
theorem dL_law_476 : decode cL_law 476 = .ok (.iconst 1, 1) := by decide +kernel
theorem dL_law_477 : decode cL_law 477 = .ok (.iadd, 1) := by decide +kernel
theorem dL_law_478 : decode cL_law 478 = .ok (.iaload, 1) := by decide +kernel
theorem dL_law_479 : decode cL_law 479 = .ok (.invokevirtual 61, 3) := by decide +kernel
theorem dL_law_482 : decode cL_law 482 = .ok (.aload_n 2, 1) := by decide +kernel
theorem dL_law_483 : decode cL_law 483 = .ok (.aload_n 0, 1) := by decide +kernel
theorem dL_law_484 : decode cL_law 484 = .ok (.iload_n 3, 1) := by decide +kernel
theorem dL_law_485 : decode cL_law 485 = .ok (.iconst 1, 1) := by decide +kernel
theorem dL_law_486 : decode cL_law 486 = .ok (.iadd, 1) := by decide +kernel
theorem dL_law_487 : decode cL_law 487 = .ok (.iaload, 1) := by decide +kernel
theorem dL_law_488 : decode cL_law 488 = .ok (.invokevirtual 64, 3) := by decide +kernel
theorem dL_law_491 : decode cL_law 491 = .ok (.if_icmp .eq 344, 3) := by decide +kernel
theorem dL_law_494 : decode cL_law 494 = .ok (.iconst 0, 1) := by decide +kernel
theorem dL_law_495 : decode cL_law 495 = .ok (.ireturn, 1) := by decide +kernel
theorem dL_law_496 : decode cL_law 496 = .ok (.aload_n 1, 1) := by decide +kernel
theorem dL_law_497 : decode cL_law 497 = .ok (.aload_n 0, 1) := by decide +kernel
theorem dL_law_498 : decode cL_law 498 = .ok (.iload_n 3, 1) := by decide +kernel
theorem dL_law_499 : decode cL_law 499 = .ok (.iconst 1, 1) := by decide +kernel
theorem dL_law_500 : decode cL_law 500 = .ok (.iadd, 1) := by decide +kernel
theorem dL_law_501 : decode cL_law 501 = .ok (.iaload, 1) := by decide +kernel
theorem dL_law_502 : decode cL_law 502 = .ok (.aload_n 0, 1) := by decide +kernel
theorem dL_law_503 : decode cL_law 503 = .ok (.iload_n 3, 1) := by decide +kernel
theorem dL_law_504 : decode cL_law 504 = .ok (.iconst 2, 1) := by decide +kernel
theorem dL_law_505 : decode cL_law 505 = .ok (.iadd, 1) := by decide +kernel
theorem dL_law_506 : decode cL_law 506 = .ok (.iaload, 1) := by decide +kernel
theorem dL_law_507 : decode cL_law 507 = .ok (.invokevirtual 65, 3) := by decide +kernel
theorem dL_law_510 : decode cL_law 510 = .ok (.aload_n 2, 1) := by decide +kernel
theorem dL_law_511 : decode cL_law 511 = .ok (.aload_n 0, 1) := by decide +kernel
theorem dL_law_512 : decode cL_law 512 = .ok (.iload_n 3, 1) := by decide +kernel
theorem dL_law_513 : decode cL_law 513 = .ok (.iconst 1, 1) := by decide +kernel
theorem dL_law_514 : decode cL_law 514 = .ok (.iadd, 1) := by decide +kernel
theorem dL_law_515 : decode cL_law 515 = .ok (.iaload, 1) := by decide +kernel
theorem dL_law_516 : decode cL_law 516 = .ok (.aload_n 0, 1) := by decide +kernel
theorem dL_law_517 : decode cL_law 517 = .ok (.iload_n 3, 1) := by decide +kernel
theorem dL_law_518 : decode cL_law 518 = .ok (.iconst 2, 1) := by decide +kernel
theorem dL_law_519 : decode cL_law 519 = .ok (.iadd, 1) := by decide +kernel
theorem dL_law_520 : decode cL_law 520 = .ok (.iaload, 1) := by decide +kernel
theorem dL_law_521 : decode cL_law 521 = .ok (.invokevirtual 68, 3) := by decide +kernel
theorem dL_law_524 : decode cL_law 524 = .ok (.if_icmp .eq 311, 3) := by decide +kernel
theorem dL_law_527 : decode cL_law 527 = .ok (.iconst 0, 1) := by decide +kernel
theorem dL_law_528 : decode cL_law 528 = .ok (.ireturn, 1) := by decide +kernel
theorem dL_law_529 : decode cL_law 529 = .ok (.aload_n 1, 1) := by decide +kernel
theorem dL_law_530 : decode cL_law 530 = .ok (.aload_n 0, 1) := by decide +kernel
theorem dL_law_531 : decode cL_law 531 = .ok (.iload_n 3, 1) := by decide +kernel
theorem dL_law_532 : decode cL_law 532 = .ok (.iconst 1, 1) := by decide +kernel
theorem dL_law_533 : decode cL_law 533 = .ok (.iadd, 1) := by decide +kernel
theorem dL_law_534 : decode cL_law 534 = .ok (.iaload, 1) := by decide +kernel
theorem dL_law_535 : decode cL_law 535 = .ok (.invokevirtual 69, 3) := by decide +kernel
theorem dL_law_538 : decode cL_law 538 = .ok (.aload_n 2, 1) := by decide +kernel
theorem dL_law_539 : decode cL_law 539 = .ok (.aload_n 0, 1) := by decide +kernel
theorem dL_law_540 : decode cL_law 540 = .ok (.iload_n 3, 1) := by decide +kernel
theorem dL_law_541 : decode cL_law 541 = .ok (.iconst 1, 1) := by decide +kernel
theorem dL_law_542 : decode cL_law 542 = .ok (.iadd, 1) := by decide +kernel
theorem dL_law_543 : decode cL_law 543 = .ok (.iaload, 1) := by decide +kernel
theorem dL_law_544 : decode cL_law 544 = .ok (.invokevirtual 72, 3) := by decide +kernel
theorem dL_law_547 : decode cL_law 547 = .ok (.if_icmp .eq 288, 3) := by decide +kernel
theorem dL_law_550 : decode cL_law 550 = .ok (.iconst 0, 1) := by decide +kernel
theorem dL_law_551 : decode cL_law 551 = .ok (.ireturn, 1) := by decide +kernel
theorem dL_law_552 : decode cL_law 552 = .ok (.aload_n 1, 1) := by decide +kernel
theorem dL_law_553 : decode cL_law 553 = .ok (.aload_n 0, 1) := by decide +kernel
theorem dL_law_554 : decode cL_law 554 = .ok (.iload_n 3, 1) := by decide +kernel
theorem dL_law_555 : decode cL_law 555 = .ok (.iconst 1, 1) := by decide +kernel
theorem dL_law_556 : decode cL_law 556 = .ok (.iadd, 1) := by decide +kernel
theorem dL_law_557 : decode cL_law 557 = .ok (.iaload, 1) := by decide +kernel
theorem dL_law_558 : decode cL_law 558 = .ok (.invokevirtual 73, 3) := by decide +kernel
theorem dL_law_561 : decode cL_law 561 = .ok (.aload_n 2, 1) := by decide +kernel
theorem dL_law_562 : decode cL_law 562 = .ok (.aload_n 0, 1) := by decide +kernel
theorem dL_law_563 : decode cL_law 563 = .ok (.iload_n 3, 1) := by decide +kernel
theorem dL_law_564 : decode cL_law 564 = .ok (.iconst 1, 1) := by decide +kernel
theorem dL_law_565 : decode cL_law 565 = .ok (.iadd, 1) := by decide +kernel
theorem dL_law_566 : decode cL_law 566 = .ok (.iaload, 1) := by decide +kernel
theorem dL_law_567 : decode cL_law 567 = .ok (.invokevirtual 76, 3) := by decide +kernel
theorem dL_law_570 : decode cL_law 570 = .ok (.if_icmp .eq 265, 3) := by decide +kernel
theorem dL_law_573 : decode cL_law 573 = .ok (.iconst 0, 1) := by decide +kernel
theorem dL_law_574 : decode cL_law 574 = .ok (.ireturn, 1) := by decide +kernel
theorem dL_law_575 : decode cL_law 575 = .ok (.aload_n 1, 1) := by decide +kernel
theorem dL_law_576 : decode cL_law 576 = .ok (.aload_n 0, 1) := by decide +kernel
theorem dL_law_577 : decode cL_law 577 = .ok (.iload_n 3, 1) := by decide +kernel
theorem dL_law_578 : decode cL_law 578 = .ok (.iconst 1, 1) := by decide +kernel
theorem dL_law_579 : decode cL_law 579 = .ok (.iadd, 1) := by decide +kernel
theorem dL_law_580 : decode cL_law 580 = .ok (.iaload, 1) := by decide +kernel
theorem dL_law_581 : decode cL_law 581 = .ok (.invokevirtual 77, 3) := by decide +kernel
theorem dL_law_584 : decode cL_law 584 = .ok (.aload_n 2, 1) := by decide +kernel
theorem dL_law_585 : decode cL_law 585 = .ok (.aload_n 0, 1) := by decide +kernel
theorem dL_law_586 : decode cL_law 586 = .ok (.iload_n 3, 1) := by decide +kernel
theorem dL_law_587 : decode cL_law 587 = .ok (.iconst 1, 1) := by decide +kernel
theorem dL_law_588 : decode cL_law 588 = .ok (.iadd, 1) := by decide +kernel
theorem dL_law_589 : decode cL_law 589 = .ok (.iaload, 1) := by decide +kernel
theorem dL_law_590 : decode cL_law 590 = .ok (.invokevirtual 80, 3) := by decide +kernel
theorem dL_law_593 : decode cL_law 593 = .ok (.if_icmp .eq 242, 3) := by decide +kernel
theorem dL_law_596 : decode cL_law 596 = .ok (.iconst 0, 1) := by decide +kernel
theorem dL_law_597 : decode cL_law 597 = .ok (.ireturn, 1) := by decide +kernel
theorem dL_law_598 : decode cL_law 598 = .ok (.aload_n 1, 1) := by decide +kernel
theorem dL_law_599 : decode cL_law 599 = .ok (.aload_n 0, 1) := by decide +kernel
theorem dL_law_600 : decode cL_law 600 = .ok (.iload_n 3, 1) := by decide +kernel
theorem dL_law_601 : decode cL_law 601 = .ok (.iconst 1, 1) := by decide +kernel
theorem dL_law_602 : decode cL_law 602 = .ok (.iadd, 1) := by decide +kernel
theorem dL_law_603 : decode cL_law 603 = .ok (.iaload, 1) := by decide +kernel
theorem dL_law_604 : decode cL_law 604 = .ok (.aload_n 0, 1) := by decide +kernel
theorem dL_law_605 : decode cL_law 605 = .ok (.iload_n 3, 1) := by decide +kernel
theorem dL_law_606 : decode cL_law 606 = .ok (.iconst 2, 1) := by decide +kernel
theorem dL_law_607 : decode cL_law 607 = .ok (.iadd, 1) := by decide +kernel
theorem dL_law_608 : decode cL_law 608 = .ok (.iaload, 1) := by decide +kernel
theorem dL_law_609 : decode cL_law 609 = .ok (.invokevirtual 81, 3) := by decide +kernel
theorem dL_law_612 : decode cL_law 612 = .ok (.aload_n 2, 1) := by decide +kernel
theorem dL_law_613 : decode cL_law 613 = .ok (.aload_n 0, 1) := by decide +kernel
theorem dL_law_614 : decode cL_law 614 = .ok (.iload_n 3, 1) := by decide +kernel
theorem dL_law_615 : decode cL_law 615 = .ok (.iconst 1, 1) := by decide +kernel
theorem dL_law_616 : decode cL_law 616 = .ok (.iadd, 1) := by decide +kernel
theorem dL_law_617 : decode cL_law 617 = .ok (.iaload, 1) := by decide +kernel
theorem dL_law_618 : decode cL_law 618 = .ok (.aload_n 0, 1) := by decide +kernel
theorem dL_law_619 : decode cL_law 619 = .ok (.iload_n 3, 1) := by decide +kernel
theorem dL_law_620 : decode cL_law 620 = .ok (.iconst 2, 1) := by decide +kernel
theorem dL_law_621 : decode cL_law 621 = .ok (.iadd, 1) := by decide +kernel
theorem dL_law_622 : decode cL_law 622 = .ok (.iaload, 1) := by decide +kernel
theorem dL_law_623 : decode cL_law 623 = .ok (.invokevirtual 84, 3) := by decide +kernel
theorem dL_law_626 : decode cL_law 626 = .ok (.if_icmp .eq 209, 3) := by decide +kernel
theorem dL_law_629 : decode cL_law 629 = .ok (.iconst 0, 1) := by decide +kernel
theorem dL_law_630 : decode cL_law 630 = .ok (.ireturn, 1) := by decide +kernel
theorem dL_law_631 : decode cL_law 631 = .ok (.aload_n 1, 1) := by decide +kernel
theorem dL_law_632 : decode cL_law 632 = .ok (.aload_n 0, 1) := by decide +kernel
theorem dL_law_633 : decode cL_law 633 = .ok (.iload_n 3, 1) := by decide +kernel
theorem dL_law_634 : decode cL_law 634 = .ok (.iconst 1, 1) := by decide +kernel
theorem dL_law_635 : decode cL_law 635 = .ok (.iadd, 1) := by decide +kernel
theorem dL_law_636 : decode cL_law 636 = .ok (.iaload, 1) := by decide +kernel
theorem dL_law_637 : decode cL_law 637 = .ok (.invokevirtual 85, 3) := by decide +kernel
theorem dL_law_640 : decode cL_law 640 = .ok (.aload_n 2, 1) := by decide +kernel
theorem dL_law_641 : decode cL_law 641 = .ok (.aload_n 0, 1) := by decide +kernel
theorem dL_law_642 : decode cL_law 642 = .ok (.iload_n 3, 1) := by decide +kernel
theorem dL_law_643 : decode cL_law 643 = .ok (.iconst 1, 1) := by decide +kernel
theorem dL_law_644 : decode cL_law 644 = .ok (.iadd, 1) := by decide +kernel
theorem dL_law_645 : decode cL_law 645 = .ok (.iaload, 1) := by decide +kernel
theorem dL_law_646 : decode cL_law 646 = .ok (.invokevirtual 88, 3) := by decide +kernel
theorem dL_law_649 : decode cL_law 649 = .ok (.if_icmp .eq 186, 3) := by decide +kernel
theorem dL_law_652 : decode cL_law 652 = .ok (.iconst 0, 1) := by decide +kernel
theorem dL_law_653 : decode cL_law 653 = .ok (.ireturn, 1) := by decide +kernel
theorem dL_law_654 : decode cL_law 654 = .ok (.aload_n 1, 1) := by decide +kernel
theorem dL_law_655 : decode cL_law 655 = .ok (.aload_n 0, 1) := by decide +kernel
theorem dL_law_656 : decode cL_law 656 = .ok (.iload_n 3, 1) := by decide +kernel
theorem dL_law_657 : decode cL_law 657 = .ok (.iconst 1, 1) := by decide +kernel
theorem dL_law_658 : decode cL_law 658 = .ok (.iadd, 1) := by decide +kernel
theorem dL_law_659 : decode cL_law 659 = .ok (.iaload, 1) := by decide +kernel
theorem dL_law_660 : decode cL_law 660 = .ok (.invokevirtual 89, 3) := by decide +kernel
theorem dL_law_663 : decode cL_law 663 = .ok (.aload_n 2, 1) := by decide +kernel
theorem dL_law_664 : decode cL_law 664 = .ok (.aload_n 0, 1) := by decide +kernel
theorem dL_law_665 : decode cL_law 665 = .ok (.iload_n 3, 1) := by decide +kernel
theorem dL_law_666 : decode cL_law 666 = .ok (.iconst 1, 1) := by decide +kernel
theorem dL_law_667 : decode cL_law 667 = .ok (.iadd, 1) := by decide +kernel
theorem dL_law_668 : decode cL_law 668 = .ok (.iaload, 1) := by decide +kernel
theorem dL_law_669 : decode cL_law 669 = .ok (.invokevirtual 92, 3) := by decide +kernel
theorem dL_law_672 : decode cL_law 672 = .ok (.if_icmp .eq 163, 3) := by decide +kernel
theorem dL_law_675 : decode cL_law 675 = .ok (.iconst 0, 1) := by decide +kernel
theorem dL_law_676 : decode cL_law 676 = .ok (.ireturn, 1) := by decide +kernel
theorem dL_law_677 : decode cL_law 677 = .ok (.aload_n 1, 1) := by decide +kernel
theorem dL_law_678 : decode cL_law 678 = .ok (.aload_n 0, 1) := by decide +kernel
theorem dL_law_679 : decode cL_law 679 = .ok (.iload_n 3, 1) := by decide +kernel
theorem dL_law_680 : decode cL_law 680 = .ok (.iconst 1, 1) := by decide +kernel
theorem dL_law_681 : decode cL_law 681 = .ok (.iadd, 1) := by decide +kernel
theorem dL_law_682 : decode cL_law 682 = .ok (.iaload, 1) := by decide +kernel
theorem dL_law_683 : decode cL_law 683 = .ok (.invokevirtual 93, 3) := by decide +kernel
theorem dL_law_686 : decode cL_law 686 = .ok (.aload_n 2, 1) := by decide +kernel
theorem dL_law_687 : decode cL_law 687 = .ok (.aload_n 0, 1) := by decide +kernel
theorem dL_law_688 : decode cL_law 688 = .ok (.iload_n 3, 1) := by decide +kernel
theorem dL_law_689 : decode cL_law 689 = .ok (.iconst 1, 1) := by decide +kernel
theorem dL_law_690 : decode cL_law 690 = .ok (.iadd, 1) := by decide +kernel
theorem dL_law_691 : decode cL_law 691 = .ok (.iaload, 1) := by decide +kernel
theorem dL_law_692 : decode cL_law 692 = .ok (.invokevirtual 96, 3) := by decide +kernel
theorem dL_law_695 : decode cL_law 695 = .ok (.if_icmp .eq 140, 3) := by decide +kernel
theorem dL_law_698 : decode cL_law 698 = .ok (.iconst 0, 1) := by decide +kernel
theorem dL_law_699 : decode cL_law 699 = .ok (.ireturn, 1) := by decide +kernel
theorem dL_law_700 : decode cL_law 700 = .ok (.aload_n 1, 1) := by decide +kernel
theorem dL_law_701 : decode cL_law 701 = .ok (.aload_n 0, 1) := by decide +kernel
theorem dL_law_702 : decode cL_law 702 = .ok (.iload_n 3, 1) := by decide +kernel
theorem dL_law_703 : decode cL_law 703 = .ok (.iconst 1, 1) := by decide +kernel
theorem dL_law_704 : decode cL_law 704 = .ok (.iadd, 1) := by decide +kernel
theorem dL_law_705 : decode cL_law 705 = .ok (.iaload, 1) := by decide +kernel
theorem dL_law_706 : decode cL_law 706 = .ok (.invokevirtual 97, 3) := by decide +kernel
theorem dL_law_709 : decode cL_law 709 = .ok (.aload_n 2, 1) := by decide +kernel
theorem dL_law_710 : decode cL_law 710 = .ok (.aload_n 0, 1) := by decide +kernel
theorem dL_law_711 : decode cL_law 711 = .ok (.iload_n 3, 1) := by decide +kernel
theorem dL_law_712 : decode cL_law 712 = .ok (.iconst 1, 1) := by decide +kernel
theorem dL_law_713 : decode cL_law 713 = .ok (.iadd, 1) := by decide +kernel
theorem dL_law_714 : decode cL_law 714 = .ok (.iaload, 1) := by decide +kernel
theorem dL_law_715 : decode cL_law 715 = .ok (.invokevirtual 100, 3) := by decide +kernel
theorem dL_law_718 : decode cL_law 718 = .ok (.if_icmp .eq 117, 3) := by decide +kernel
theorem dL_law_721 : decode cL_law 721 = .ok (.iconst 0, 1) := by decide +kernel
theorem dL_law_722 : decode cL_law 722 = .ok (.ireturn, 1) := by decide +kernel
theorem dL_law_723 : decode cL_law 723 = .ok (.aload_n 1, 1) := by decide +kernel
theorem dL_law_724 : decode cL_law 724 = .ok (.invokevirtual 101, 3) := by decide +kernel
theorem dL_law_727 : decode cL_law 727 = .ok (.aload_n 2, 1) := by decide +kernel
theorem dL_law_728 : decode cL_law 728 = .ok (.invokevirtual 104, 3) := by decide +kernel
theorem dL_law_731 : decode cL_law 731 = .ok (.if_icmp .eq 104, 3) := by decide +kernel
theorem dL_law_734 : decode cL_law 734 = .ok (.iconst 0, 1) := by decide +kernel
theorem dL_law_735 : decode cL_law 735 = .ok (.ireturn, 1) := by decide +kernel
theorem dL_law_736 : decode cL_law 736 = .ok (.aload_n 1, 1) := by decide +kernel
theorem dL_law_737 : decode cL_law 737 = .ok (.aload_n 0, 1) := by decide +kernel
theorem dL_law_738 : decode cL_law 738 = .ok (.iload_n 3, 1) := by decide +kernel
theorem dL_law_739 : decode cL_law 739 = .ok (.iconst 1, 1) := by decide +kernel
theorem dL_law_740 : decode cL_law 740 = .ok (.iadd, 1) := by decide +kernel
theorem dL_law_741 : decode cL_law 741 = .ok (.iaload, 1) := by decide +kernel
theorem dL_law_742 : decode cL_law 742 = .ok (.invokevirtual 105, 3) := by decide +kernel
theorem dL_law_745 : decode cL_law 745 = .ok (.aload_n 2, 1) := by decide +kernel
theorem dL_law_746 : decode cL_law 746 = .ok (.aload_n 0, 1) := by decide +kernel
theorem dL_law_747 : decode cL_law 747 = .ok (.iload_n 3, 1) := by decide +kernel
theorem dL_law_748 : decode cL_law 748 = .ok (.iconst 1, 1) := by decide +kernel
theorem dL_law_749 : decode cL_law 749 = .ok (.iadd, 1) := by decide +kernel
theorem dL_law_750 : decode cL_law 750 = .ok (.iaload, 1) := by decide +kernel
theorem dL_law_751 : decode cL_law 751 = .ok (.invokevirtual 108, 3) := by decide +kernel
theorem dL_law_754 : decode cL_law 754 = .ok (.if_icmp .eq 81, 3) := by decide +kernel
theorem dL_law_757 : decode cL_law 757 = .ok (.iconst 0, 1) := by decide +kernel
theorem dL_law_758 : decode cL_law 758 = .ok (.ireturn, 1) := by decide +kernel
theorem dL_law_759 : decode cL_law 759 = .ok (.aload_n 1, 1) := by decide +kernel
theorem dL_law_760 : decode cL_law 760 = .ok (.invokevirtual 109, 3) := by decide +kernel
theorem dL_law_763 : decode cL_law 763 = .ok (.aload_n 2, 1) := by decide +kernel
theorem dL_law_764 : decode cL_law 764 = .ok (.invokevirtual 112, 3) := by decide +kernel
theorem dL_law_767 : decode cL_law 767 = .ok (.if_icmp .eq 68, 3) := by decide +kernel
theorem dL_law_770 : decode cL_law 770 = .ok (.iconst 0, 1) := by decide +kernel
theorem dL_law_771 : decode cL_law 771 = .ok (.ireturn, 1) := by decide +kernel
theorem dL_law_772 : decode cL_law 772 = .ok (.aload_n 1, 1) := by decide +kernel
theorem dL_law_773 : decode cL_law 773 = .ok (.invokevirtual 113, 3) := by decide +kernel
theorem dL_law_776 : decode cL_law 776 = .ok (.aload_n 2, 1) := by decide +kernel
theorem dL_law_777 : decode cL_law 777 = .ok (.invokevirtual 116, 3) := by decide +kernel
theorem dL_law_780 : decode cL_law 780 = .ok (.if_icmp .eq 55, 3) := by decide +kernel
theorem dL_law_783 : decode cL_law 783 = .ok (.iconst 0, 1) := by decide +kernel
theorem dL_law_784 : decode cL_law 784 = .ok (.ireturn, 1) := by decide +kernel
theorem dL_law_785 : decode cL_law 785 = .ok (.aload_n 1, 1) := by decide +kernel
theorem dL_law_786 : decode cL_law 786 = .ok (.invokevirtual 117, 3) := by decide +kernel
theorem dL_law_789 : decode cL_law 789 = .ok (.aload_n 2, 1) := by decide +kernel
theorem dL_law_790 : decode cL_law 790 = .ok (.invokevirtual 120, 3) := by decide +kernel
theorem dL_law_793 : decode cL_law 793 = .ok (.if_icmp .eq 42, 3) := by decide +kernel
theorem dL_law_796 : decode cL_law 796 = .ok (.iconst 0, 1) := by decide +kernel
theorem dL_law_797 : decode cL_law 797 = .ok (.ireturn, 1) := by decide +kernel
theorem dL_law_798 : decode cL_law 798 = .ok (.aload_n 1, 1) := by decide +kernel
theorem dL_law_799 : decode cL_law 799 = .ok (.aload_n 0, 1) := by decide +kernel
theorem dL_law_800 : decode cL_law 800 = .ok (.iload_n 3, 1) := by decide +kernel
theorem dL_law_801 : decode cL_law 801 = .ok (.iconst 1, 1) := by decide +kernel
theorem dL_law_802 : decode cL_law 802 = .ok (.iadd, 1) := by decide +kernel
theorem dL_law_803 : decode cL_law 803 = .ok (.iaload, 1) := by decide +kernel
theorem dL_law_804 : decode cL_law 804 = .ok (.invokevirtual 121, 3) := by decide +kernel
theorem dL_law_807 : decode cL_law 807 = .ok (.aload_n 2, 1) := by decide +kernel
theorem dL_law_808 : decode cL_law 808 = .ok (.aload_n 0, 1) := by decide +kernel
theorem dL_law_809 : decode cL_law 809 = .ok (.iload_n 3, 1) := by decide +kernel
theorem dL_law_810 : decode cL_law 810 = .ok (.iconst 1, 1) := by decide +kernel
theorem dL_law_811 : decode cL_law 811 = .ok (.iadd, 1) := by decide +kernel
theorem dL_law_812 : decode cL_law 812 = .ok (.iaload, 1) := by decide +kernel
theorem dL_law_813 : decode cL_law 813 = .ok (.invokevirtual 124, 3) := by decide +kernel
theorem dL_law_816 : decode cL_law 816 = .ok (.if_icmp .eq 19, 3) := by decide +kernel
theorem dL_law_819 : decode cL_law 819 = .ok (.iconst 0, 1) := by decide +kernel
theorem dL_law_820 : decode cL_law 820 = .ok (.ireturn, 1) := by decide +kernel
theorem dL_law_821 : decode cL_law 821 = .ok (.aload_n 1, 1) := by decide +kernel
theorem dL_law_822 : decode cL_law 822 = .ok (.invokevirtual 125, 3) := by decide +kernel
theorem dL_law_825 : decode cL_law 825 = .ok (.aload_n 2, 1) := by decide +kernel
theorem dL_law_826 : decode cL_law 826 = .ok (.invokevirtual 129, 3) := by decide +kernel
theorem dL_law_829 : decode cL_law 829 = .ok (.lcmp, 1) := by decide +kernel
theorem dL_law_830 : decode cL_law 830 = .ok (.ifCond .eq 5, 3) := by decide +kernel
theorem dL_law_833 : decode cL_law 833 = .ok (.iconst 0, 1) := by decide +kernel
theorem dL_law_834 : decode cL_law 834 = .ok (.ireturn, 1) := by decide +kernel
theorem dL_law_835 : decode cL_law 835 = .ok (.iinc 3 4, 3) := by decide +kernel
theorem dL_law_838 : decode cL_law 838 = .ok (.goto (-820), 3) := by decide +kernel
theorem dL_law_841 : decode cL_law 841 = .ok (.iconst 1, 1) := by decide +kernel
theorem dL_law_842 : decode cL_law 842 = .ok (.ireturn, 1) := by decide +kernel
end
section
theorem dX0_init_0 : decode cX0_init 0 = .ok (.aload_n 0, 1) := by decide +kernel
theorem dX0_init_1 : decode cX0_init 1 = .ok (.invokespecial 3, 3) := by decide +kernel
theorem dX0_init_4 : decode cX0_init 4 = .ok (.aload_n 0, 1) := by decide +kernel
theorem dX0_init_5 : decode cX0_init 5 = .ok (.bipush 48, 2) := by decide +kernel
theorem dX0_init_7 : decode cX0_init 7 = .ok (.newarray .int, 2) := by decide +kernel
theorem dX0_init_9 : decode cX0_init 9 = .ok (.putfield 9, 3) := by decide +kernel
theorem dX0_init_12 : decode cX0_init 12 = .ok (.aload_n 0, 1) := by decide +kernel
theorem dX0_init_13 : decode cX0_init 13 = .ok (.bipush 48, 2) := by decide +kernel
theorem dX0_init_15 : decode cX0_init 15 = .ok (.newarray .int, 2) := by decide +kernel
theorem dX0_init_17 : decode cX0_init 17 = .ok (.putfield 15, 3) := by decide +kernel
theorem dX0_init_20 : decode cX0_init 20 = .ok (.aload_n 0, 1) := by decide +kernel
theorem dX0_init_21 : decode cX0_init 21 = .ok (.bipush 48, 2) := by decide +kernel
theorem dX0_init_23 : decode cX0_init 23 = .ok (.newarray .int, 2) := by decide +kernel
theorem dX0_init_25 : decode cX0_init 25 = .ok (.putfield 18, 3) := by decide +kernel
theorem dX0_init_28 : decode cX0_init 28 = .ok (.aload_n 0, 1) := by decide +kernel
theorem dX0_init_29 : decode cX0_init 29 = .ok (.bipush 48, 2) := by decide +kernel
theorem dX0_init_31 : decode cX0_init 31 = .ok (.newarray .int, 2) := by decide +kernel
theorem dX0_init_33 : decode cX0_init 33 = .ok (.putfield 21, 3) := by decide +kernel
theorem dX0_init_36 : decode cX0_init 36 = .ok (.aload_n 0, 1) := by decide +kernel
theorem dX0_init_37 : decode cX0_init 37 = .ok (.bipush 12, 2) := by decide +kernel
theorem dX0_init_39 : decode cX0_init 39 = .ok (.newarray .int, 2) := by decide +kernel
theorem dX0_init_41 : decode cX0_init 41 = .ok (.putfield 24, 3) := by decide +kernel
theorem dX0_init_44 : decode cX0_init 44 = .ok (.aload_n 0, 1) := by decide +kernel
theorem dX0_init_45 : decode cX0_init 45 = .ok (.iconst 2, 1) := by decide +kernel
theorem dX0_init_46 : decode cX0_init 46 = .ok (.newarray .int, 2) := by decide +kernel
theorem dX0_init_48 : decode cX0_init 48 = .ok (.putfield 27, 3) := by decide +kernel
theorem dX0_init_51 : decode cX0_init 51 = .ok (.aload_n 0, 1) := by decide +kernel
theorem dX0_init_52 : decode cX0_init 52 = .ok (.bipush 12, 2) := by decide +kernel
theorem dX0_init_54 : decode cX0_init 54 = .ok (.newarray .int, 2) := by decide +kernel
theorem dX0_init_56 : decode cX0_init 56 = .ok (.putfield 30, 3) := by decide +kernel
theorem dX0_init_59 : decode cX0_init 59 = .ok (.aload_n 0, 1) := by decide +kernel
theorem dX0_init_60 : decode cX0_init 60 = .ok (.iconst 3, 1) := by decide +kernel
theorem dX0_init_61 : decode cX0_init 61 = .ok (.invokevirtual 33, 3) := by decide +kernel
theorem dX0_init_64 : decode cX0_init 64 = .ok (.return_, 1) := by decide +kernel
theorem dX0_restart_0 : decode cX0_restart 0 = .ok (.aload_n 0, 1) := by decide +kernel
theorem dX0_restart_1 : decode cX0_restart 1 = .ok (.iload_n 1, 1) := by decide +kernel
theorem dX0_restart_2 : decode cX0_restart 2 = .ok (.putfield 37, 3) := by decide +kernel
theorem dX0_restart_5 : decode cX0_restart 5 = .ok (.aload_n 0, 1) := by decide +kernel
theorem dX0_restart_6 : decode cX0_restart 6 = .ok (.iload_n 1, 1) := by decide +kernel
theorem dX0_restart_7 : decode cX0_restart 7 = .ok (.iconst 1, 1) := by decide +kernel
theorem dX0_restart_8 : decode cX0_restart 8 = .ok (.iadd, 1) := by decide +kernel
theorem dX0_restart_9 : decode cX0_restart 9 = .ok (.putfield 41, 3) := by decide +kernel
theorem dX0_restart_12 : decode cX0_restart 12 = .ok (.iconst 1, 1) := by decide +kernel
theorem dX0_restart_13 : decode cX0_restart 13 = .ok (.istore_n 2, 1) := by decide +kernel
theorem dX0_restart_14 : decode cX0_restart 14 = .ok (.iload_n 2, 1) := by decide +kernel
theorem dX0_restart_15 : decode cX0_restart 15 = .ok (.iload_n 1, 1) := by decide +kernel
theorem dX0_restart_16 : decode cX0_restart 16 = .ok (.if_icmp .gt 34, 3) := by decide +kernel
theorem dX0_restart_19 : decode cX0_restart 19 = .ok (.aload_n 0, 1) := by decide +kernel
theorem dX0_restart_20 : decode cX0_restart 20 = .ok (.getfield 18, 3) := by decide +kernel
theorem dX0_restart_23 : decode cX0_restart 23 = .ok (.iload_n 2, 1) := by decide +kernel
theorem dX0_restart_24 : decode cX0_restart 24 = .ok (.getstatic 44, 3) := by decide +kernel
theorem dX0_restart_27 : decode cX0_restart 27 = .ok (.iload_n 2, 1) := by decide +kernel
theorem dX0_restart_28 : decode cX0_restart 28 = .ok (.iconst 1, 1) := by decide +kernel
theorem dX0_restart_29 : decode cX0_restart 29 = .ok (.isub, 1) := by decide +kernel
theorem dX0_restart_30 : decode cX0_restart 30 = .ok (.iaload, 1) := by decide +kernel
theorem dX0_restart_31 : decode cX0_restart 31 = .ok (.aload_n 0, 1) := by decide +kernel
theorem dX0_restart_32 : decode cX0_restart 32 = .ok (.invokevirtual 47, 3) := by decide +kernel
theorem dX0_restart_35 : decode cX0_restart 35 = .ok (.iand, 1) := by decide +kernel
theorem dX0_restart_36 : decode cX0_restart 36 = .ok (.iastore, 1) := by decide +kernel
theorem dX0_restart_37 : decode cX0_restart 37 = .ok (.aload_n 0, 1) := by decide +kernel
theorem dX0_restart_38 : decode cX0_restart 38 = .ok (.getfield 21, 3) := by decide +kernel
theorem dX0_restart_41 : decode cX0_restart 41 = .ok (.iload_n 2, 1) := by decide +kernel
theorem dX0_restart_42 : decode cX0_restart 42 = .ok (.iconst 0, 1) := by decide +kernel
theorem dX0_restart_43 : decode cX0_restart 43 = .ok (.iastore, 1) := by decide +kernel
theorem dX0_restart_44 : decode cX0_restart 44 = .ok (.iinc 2 1, 3) := by decide +kernel
theorem dX0_restart_47 : decode cX0_restart 47 = .ok (.goto (-33), 3) := by decide +kernel
theorem dX0_restart_50 : decode cX0_restart 50 = .ok (.aload_n 0, 1) := by decide +kernel
theorem dX0_restart_51 : decode cX0_restart 51 = .ok (.getfield 27, 3) := by decide +kernel
theorem dX0_restart_54 : decode cX0_restart 54 = .ok (.iconst 0, 1) := by decide +kernel
theorem dX0_restart_55 : decode cX0_restart 55 = .ok (.iconst 0, 1) := by decide +kernel
theorem dX0_restart_56 : decode cX0_restart 56 = .ok (.iastore, 1) := by decide +kernel
theorem dX0_restart_57 : decode cX0_restart 57 = .ok (.aload_n 0, 1) := by decide +kernel
theorem dX0_restart_58 : decode cX0_restart 58 = .ok (.getfield 27, 3) := by decide +kernel
theorem dX0_restart_61 : decode cX0_restart 61 = .ok (.iconst 1, 1) := by decide +kernel
theorem dX0_restart_62 : decode cX0_restart 62 = .ok (.iconst 0, 1) := by decide +kernel
theorem dX0_restart_63 : decode cX0_restart 63 = .ok (.iastore, 1) := by decide +kernel
theorem dX0_restart_64 : decode cX0_restart 64 = .ok (.aload_n 0, 1) := by decide +kernel
theorem dX0_restart_65 : decode cX0_restart 65 = .ok (.iconst 0, 1) := by decide +kernel
theorem dX0_restart_66 : decode cX0_restart 66 = .ok (.putfield 51, 3) := by decide +kernel
theorem dX0_restart_69 : decode cX0_restart 69 = .ok (.return_, 1) := by decide +kernel
theorem dX0_copyFrom_0 : decode cX0_copyFrom 0 = .ok (.aload_n 1, 1) := by decide +kernel
theorem dX0_copyFrom_1 : decode cX0_copyFrom 1 = .ok (.getfield 9, 3) := by decide +kernel
theorem dX0_copyFrom_4 : decode cX0_copyFrom 4 = .ok (.iconst 0, 1) := by decide +kernel
theorem dX0_copyFrom_5 : decode cX0_copyFrom 5 = .ok (.aload_n 0, 1) := by decide +kernel
theorem dX0_copyFrom_6 : decode cX0_copyFrom 6 = .ok (.getfield 9, 3) := by decide +kernel
theorem dX0_copyFrom_9 : decode cX0_copyFrom 9 = .ok (.iconst 0, 1) := by decide +kernel
theorem dX0_copyFrom_10 : decode cX0_copyFrom 10 = .ok (.bipush 48, 2) := by decide +kernel
theorem dX0_copyFrom_12 : decode cX0_copyFrom 12 = .ok (.invokestatic 54, 3) := by decide +kernel
theorem dX0_copyFrom_15 : decode cX0_copyFrom 15 = .ok (.aload_n 1, 1) := by decide +kernel
theorem dX0_copyFrom_16 : decode cX0_copyFrom 16 = .ok (.getfield 15, 3) := by decide +kernel
theorem dX0_copyFrom_19 : decode cX0_copyFrom 19 = .ok (.iconst 0, 1) := by decide +kernel
theorem dX0_copyFrom_20 : decode cX0_copyFrom 20 = .ok (.aload_n 0, 1) := by decide +kernel
theorem dX0_copyFrom_21 : decode cX0_copyFrom 21 = .ok (.getfield 15, 3) := by decide +kernel
theorem dX0_copyFrom_24 : decode cX0_copyFrom 24 = .ok (.iconst 0, 1) := by decide +kernel
theorem dX0_copyFrom_25 : decode cX0_copyFrom 25 = .ok (.bipush 48, 2) := by decide +kernel
theorem dX0_copyFrom_27 : decode cX0_copyFrom 27 = .ok (.invokestatic 54, 3) := by decide +kernel
theorem dX0_copyFrom_30 : decode cX0_copyFrom 30 = .ok (.aload_n 1, 1) := by decide +kernel
theorem dX0_copyFrom_31 : decode cX0_copyFrom 31 = .ok (.getfield 18, 3) := by decide +kernel
theorem dX0_copyFrom_34 : decode cX0_copyFrom 34 = .ok (.iconst 0, 1) := by decide +kernel
theorem dX0_copyFrom_35 : decode cX0_copyFrom 35 = .ok (.aload_n 0, 1) := by decide +kernel
theorem dX0_copyFrom_36 : decode cX0_copyFrom 36 = .ok (.getfield 18, 3) := by decide +kernel
theorem dX0_copyFrom_39 : decode cX0_copyFrom 39 = .ok (.iconst 0, 1) := by decide +kernel
theorem dX0_copyFrom_40 : decode cX0_copyFrom 40 = .ok (.bipush 48, 2) := by decide +kernel
theorem dX0_copyFrom_42 : decode cX0_copyFrom 42 = .ok (.invokestatic 54, 3) := by decide +kernel
theorem dX0_copyFrom_45 : decode cX0_copyFrom 45 = .ok (.aload_n 1, 1) := by decide +kernel
theorem dX0_copyFrom_46 : decode cX0_copyFrom 46 = .ok (.getfield 21, 3) := by decide +kernel
theorem dX0_copyFrom_49 : decode cX0_copyFrom 49 = .ok (.iconst 0, 1) := by decide +kernel
theorem dX0_copyFrom_50 : decode cX0_copyFrom 50 = .ok (.aload_n 0, 1) := by decide +kernel
theorem dX0_copyFrom_51 : decode cX0_copyFrom 51 = .ok (.getfield 21, 3) := by decide +kernel
theorem dX0_copyFrom_54 : decode cX0_copyFrom 54 = .ok (.iconst 0, 1) := by decide +kernel
theorem dX0_copyFrom_55 : decode cX0_copyFrom 55 = .ok (.bipush 48, 2) := by decide +kernel
theorem dX0_copyFrom_57 : decode cX0_copyFrom 57 = .ok (.invokestatic 54, 3) := by decide +kernel
theorem dX0_copyFrom_60 : decode cX0_copyFrom 60 = .ok (.aload_n 1, 1) := by decide +kernel
theorem dX0_copyFrom_61 : decode cX0_copyFrom 61 = .ok (.getfield 24, 3) := by decide +kernel
theorem dX0_copyFrom_64 : decode cX0_copyFrom 64 = .ok (.iconst 0, 1) := by decide +kernel
theorem dX0_copyFrom_65 : decode cX0_copyFrom 65 = .ok (.aload_n 0, 1) := by decide +kernel
theorem dX0_copyFrom_66 : decode cX0_copyFrom 66 = .ok (.getfield 24, 3) := by decide +kernel
theorem dX0_copyFrom_69 : decode cX0_copyFrom 69 = .ok (.iconst 0, 1) := by decide +kernel
theorem dX0_copyFrom_70 : decode cX0_copyFrom 70 = .ok (.bipush 12, 2) := by decide +kernel
theorem dX0_copyFrom_72 : decode cX0_copyFrom 72 = .ok (.invokestatic 54, 3) := by decide +kernel
theorem dX0_copyFrom_75 : decode cX0_copyFrom 75 = .ok (.aload_n 1, 1) := by decide +kernel
theorem dX0_copyFrom_76 : decode cX0_copyFrom 76 = .ok (.getfield 27, 3) := by decide +kernel
theorem dX0_copyFrom_79 : decode cX0_copyFrom 79 = .ok (.iconst 0, 1) := by decide +kernel
theorem dX0_copyFrom_80 : decode cX0_copyFrom 80 = .ok (.aload_n 0, 1) := by decide +kernel
theorem dX0_copyFrom_81 : decode cX0_copyFrom 81 = .ok (.getfield 27, 3) := by decide +kernel
theorem dX0_copyFrom_84 : decode cX0_copyFrom 84 = .ok (.iconst 0, 1) := by decide +kernel
theorem dX0_copyFrom_85 : decode cX0_copyFrom 85 = .ok (.iconst 2, 1) := by decide +kernel
theorem dX0_copyFrom_86 : decode cX0_copyFrom 86 = .ok (.invokestatic 54, 3) := by decide +kernel
theorem dX0_copyFrom_89 : decode cX0_copyFrom 89 = .ok (.aload_n 1, 1) := by decide +kernel
theorem dX0_copyFrom_90 : decode cX0_copyFrom 90 = .ok (.getfield 30, 3) := by decide +kernel
theorem dX0_copyFrom_93 : decode cX0_copyFrom 93 = .ok (.iconst 0, 1) := by decide +kernel
theorem dX0_copyFrom_94 : decode cX0_copyFrom 94 = .ok (.aload_n 0, 1) := by decide +kernel
theorem dX0_copyFrom_95 : decode cX0_copyFrom 95 = .ok (.getfield 30, 3) := by decide +kernel
theorem dX0_copyFrom_98 : decode cX0_copyFrom 98 = .ok (.iconst 0, 1) := by decide +kernel
theorem dX0_copyFrom_99 : decode cX0_copyFrom 99 = .ok (.bipush 12, 2) := by decide +kernel
theorem dX0_copyFrom_101 : decode cX0_copyFrom 101 = .ok (.invokestatic 54, 3) := by decide +kernel
theorem dX0_copyFrom_104 : decode cX0_copyFrom 104 = .ok (.aload_n 0, 1) := by decide +kernel
theorem dX0_copyFrom_105 : decode cX0_copyFrom 105 = .ok (.aload_n 1, 1) := by decide +kernel
theorem dX0_copyFrom_106 : decode cX0_copyFrom 106 = .ok (.getfield 37, 3) := by decide +kernel
theorem dX0_copyFrom_109 : decode cX0_copyFrom 109 = .ok (.putfield 37, 3) := by decide +kernel
theorem dX0_copyFrom_112 : decode cX0_copyFrom 112 = .ok (.aload_n 0, 1) := by decide +kernel
theorem dX0_copyFrom_113 : decode cX0_copyFrom 113 = .ok (.aload_n 1, 1) := by decide +kernel
theorem dX0_copyFrom_114 : decode cX0_copyFrom 114 = .ok (.getfield 41, 3) := by decide +kernel
theorem dX0_copyFrom_117 : decode cX0_copyFrom 117 = .ok (.putfield 41, 3) := by decide +kernel
theorem dX0_copyFrom_120 : decode cX0_copyFrom 120 = .ok (.aload_n 0, 1) := by decide +kernel
theorem dX0_copyFrom_121 : decode cX0_copyFrom 121 = .ok (.aload_n 1, 1) := by decide +kernel
theorem dX0_copyFrom_122 : decode cX0_copyFrom 122 = .ok (.getfield 51, 3) := by decide +kernel
theorem dX0_copyFrom_125 : decode cX0_copyFrom 125 = .ok (.putfield 51, 3) := by decide +kernel
theorem dX0_copyFrom_128 : decode cX0_copyFrom 128 = .ok (.return_, 1) := by decide +kernel
theorem dX0_isNode_0 : decode cX0_isNode 0 = .ok (.iload_n 1, 1) := by decide +kernel
theorem dX0_isNode_1 : decode cX0_isNode 1 = .ok (.ifCond .lt 15, 3) := by decide +kernel
theorem dX0_isNode_4 : decode cX0_isNode 4 = .ok (.iload_n 1, 1) := by decide +kernel
theorem dX0_isNode_5 : decode cX0_isNode 5 = .ok (.aload_n 0, 1) := by decide +kernel
theorem dX0_isNode_6 : decode cX0_isNode 6 = .ok (.getfield 41, 3) := by decide +kernel
theorem dX0_isNode_9 : decode cX0_isNode 9 = .ok (.if_icmp .ge 7, 3) := by decide +kernel
theorem dX0_isNode_12 : decode cX0_isNode 12 = .ok (.iconst 1, 1) := by decide +kernel
theorem dX0_isNode_13 : decode cX0_isNode 13 = .ok (.goto 4, 3) := by decide +kernel
theorem dX0_isNode_16 : decode cX0_isNode 16 = .ok (.iconst 0, 1) := by decide +kernel
theorem dX0_isNode_17 : decode cX0_isNode 17 = .ok (.ireturn, 1) := by decide +kernel
theorem dX0_isGate_0 : decode cX0_isGate 0 = .ok (.iload_n 1, 1) := by decide +kernel
theorem dX0_isGate_1 : decode cX0_isGate 1 = .ok (.aload_n 0, 1) := by decide +kernel
theorem dX0_isGate_2 : decode cX0_isGate 2 = .ok (.getfield 37, 3) := by decide +kernel
theorem dX0_isGate_5 : decode cX0_isGate 5 = .ok (.if_icmp .le 15, 3) := by decide +kernel
theorem dX0_isGate_8 : decode cX0_isGate 8 = .ok (.iload_n 1, 1) := by decide +kernel
theorem dX0_isGate_9 : decode cX0_isGate 9 = .ok (.aload_n 0, 1) := by decide +kernel
theorem dX0_isGate_10 : decode cX0_isGate 10 = .ok (.getfield 41, 3) := by decide +kernel
theorem dX0_isGate_13 : decode cX0_isGate 13 = .ok (.if_icmp .ge 7, 3) := by decide +kernel
theorem dX0_isGate_16 : decode cX0_isGate 16 = .ok (.iconst 1, 1) := by decide +kernel
theorem dX0_isGate_17 : decode cX0_isGate 17 = .ok (.goto 4, 3) := by decide +kernel
theorem dX0_isGate_20 : decode cX0_isGate 20 = .ok (.iconst 0, 1) := by decide +kernel
theorem dX0_isGate_21 : decode cX0_isGate 21 = .ok (.ireturn, 1) := by decide +kernel
theorem dX0_isLiteral_0 : decode cX0_isLiteral 0 = .ok (.iload_n 1, 1) := by decide +kernel
theorem dX0_isLiteral_1 : decode cX0_isLiteral 1 = .ok (.ifCond .lt 17, 3) := by decide +kernel
theorem dX0_isLiteral_4 : decode cX0_isLiteral 4 = .ok (.iload_n 1, 1) := by decide +kernel
theorem dX0_isLiteral_5 : decode cX0_isLiteral 5 = .ok (.iconst 2, 1) := by decide +kernel
theorem dX0_isLiteral_6 : decode cX0_isLiteral 6 = .ok (.aload_n 0, 1) := by decide +kernel
theorem dX0_isLiteral_7 : decode cX0_isLiteral 7 = .ok (.getfield 41, 3) := by decide +kernel
theorem dX0_isLiteral_10 : decode cX0_isLiteral 10 = .ok (.imul, 1) := by decide +kernel
theorem dX0_isLiteral_11 : decode cX0_isLiteral 11 = .ok (.if_icmp .ge 7, 3) := by decide +kernel
theorem dX0_isLiteral_14 : decode cX0_isLiteral 14 = .ok (.iconst 1, 1) := by decide +kernel
theorem dX0_isLiteral_15 : decode cX0_isLiteral 15 = .ok (.goto 4, 3) := by decide +kernel
theorem dX0_isLiteral_18 : decode cX0_isLiteral 18 = .ok (.iconst 0, 1) := by decide +kernel
theorem dX0_isLiteral_19 : decode cX0_isLiteral 19 = .ok (.ireturn, 1) := by decide +kernel
theorem dX0_isSide_0 : decode cX0_isSide 0 = .ok (.iload_n 1, 1) := by decide +kernel
theorem dX0_isSide_1 : decode cX0_isSide 1 = .ok (.ifCond .lt 12, 3) := by decide +kernel
theorem dX0_isSide_4 : decode cX0_isSide 4 = .ok (.iload_n 1, 1) := by decide +kernel
theorem dX0_isSide_5 : decode cX0_isSide 5 = .ok (.iconst 2, 1) := by decide +kernel
theorem dX0_isSide_6 : decode cX0_isSide 6 = .ok (.if_icmp .ge 7, 3) := by decide +kernel
theorem dX0_isSide_9 : decode cX0_isSide 9 = .ok (.iconst 1, 1) := by decide +kernel
theorem dX0_isSide_10 : decode cX0_isSide 10 = .ok (.goto 4, 3) := by decide +kernel
theorem dX0_isSide_13 : decode cX0_isSide 13 = .ok (.iconst 0, 1) := by decide +kernel
theorem dX0_isSide_14 : decode cX0_isSide 14 = .ok (.ireturn, 1) := by decide +kernel
theorem dX0_isRow_0 : decode cX0_isRow 0 = .ok (.iload_n 1, 1) := by decide +kernel
theorem dX0_isRow_1 : decode cX0_isRow 1 = .ok (.ifCond .lt 17, 3) := by decide +kernel
theorem dX0_isRow_4 : decode cX0_isRow 4 = .ok (.iload_n 1, 1) := by decide +kernel
theorem dX0_isRow_5 : decode cX0_isRow 5 = .ok (.iconst 1, 1) := by decide +kernel
theorem dX0_isRow_6 : decode cX0_isRow 6 = .ok (.aload_n 0, 1) := by decide +kernel
theorem dX0_isRow_7 : decode cX0_isRow 7 = .ok (.getfield 37, 3) := by decide +kernel
theorem dX0_isRow_10 : decode cX0_isRow 10 = .ok (.ishl, 1) := by decide +kernel
theorem dX0_isRow_11 : decode cX0_isRow 11 = .ok (.if_icmp .ge 7, 3) := by decide +kernel
theorem dX0_isRow_14 : decode cX0_isRow 14 = .ok (.iconst 1, 1) := by decide +kernel
theorem dX0_isRow_15 : decode cX0_isRow 15 = .ok (.goto 4, 3) := by decide +kernel
theorem dX0_isRow_18 : decode cX0_isRow 18 = .ok (.iconst 0, 1) := by decide +kernel
theorem dX0_isRow_19 : decode cX0_isRow 19 = .ok (.ireturn, 1) := by decide +kernel
theorem dX0_hasOutPair_0 : decode cX0_hasOutPair 0 = .ok (.iload_n 1, 1) := by decide +kernel
theorem dX0_hasOutPair_1 : decode cX0_hasOutPair 1 = .ok (.ifCond .lt 27, 3) := by decide +kernel
theorem dX0_hasOutPair_4 : decode cX0_hasOutPair 4 = .ok (.iload_n 1, 1) := by decide +kernel
theorem dX0_hasOutPair_5 : decode cX0_hasOutPair 5 = .ok (.aload_n 0, 1) := by decide +kernel
theorem dX0_hasOutPair_6 : decode cX0_hasOutPair 6 = .ok (.getfield 27, 3) := by decide +kernel
theorem dX0_hasOutPair_9 : decode cX0_hasOutPair 9 = .ok (.iconst 0, 1) := by decide +kernel
theorem dX0_hasOutPair_10 : decode cX0_hasOutPair 10 = .ok (.iaload, 1) := by decide +kernel
theorem dX0_hasOutPair_11 : decode cX0_hasOutPair 11 = .ok (.if_icmp .ge 17, 3) := by decide +kernel
theorem dX0_hasOutPair_14 : decode cX0_hasOutPair 14 = .ok (.iload_n 1, 1) := by decide +kernel
theorem dX0_hasOutPair_15 : decode cX0_hasOutPair 15 = .ok (.aload_n 0, 1) := by decide +kernel
theorem dX0_hasOutPair_16 : decode cX0_hasOutPair 16 = .ok (.getfield 27, 3) := by decide +kernel
theorem dX0_hasOutPair_19 : decode cX0_hasOutPair 19 = .ok (.iconst 1, 1) := by decide +kernel
theorem dX0_hasOutPair_20 : decode cX0_hasOutPair 20 = .ok (.iaload, 1) := by decide +kernel
theorem dX0_hasOutPair_21 : decode cX0_hasOutPair 21 = .ok (.if_icmp .ge 7, 3) := by decide +kernel
theorem dX0_hasOutPair_24 : decode cX0_hasOutPair 24 = .ok (.iconst 1, 1) := by decide +kernel
theorem dX0_hasOutPair_25 : decode cX0_hasOutPair 25 = .ok (.goto 4, 3) := by decide +kernel
theorem dX0_hasOutPair_28 : decode cX0_hasOutPair 28 = .ok (.iconst 0, 1) := by decide +kernel
theorem dX0_hasOutPair_29 : decode cX0_hasOutPair 29 = .ok (.ireturn, 1) := by decide +kernel
theorem dX0_allRows_0 : decode cX0_allRows 0 = .ok (.aload_n 0, 1) := by decide +kernel
theorem dX0_allRows_1 : decode cX0_allRows 1 = .ok (.getfield 37, 3) := by decide +kernel
theorem dX0_allRows_4 : decode cX0_allRows 4 = .ok (.iconst 5, 1) := by decide +kernel
theorem dX0_allRows_5 : decode cX0_allRows 5 = .ok (.if_icmp .ne 7, 3) := by decide +kernel
theorem dX0_allRows_8 : decode cX0_allRows 8 = .ok (.iconst (-1), 1) := by decide +kernel
theorem dX0_allRows_9 : decode cX0_allRows 9 = .ok (.goto 13, 3) := by decide +kernel
theorem dX0_allRows_12 : decode cX0_allRows 12 = .ok (.iconst 1, 1) := by decide +kernel
theorem dX0_allRows_13 : decode cX0_allRows 13 = .ok (.iconst 1, 1) := by decide +kernel
theorem dX0_allRows_14 : decode cX0_allRows 14 = .ok (.aload_n 0, 1) := by decide +kernel
theorem dX0_allRows_15 : decode cX0_allRows 15 = .ok (.getfield 37, 3) := by decide +kernel
theorem dX0_allRows_18 : decode cX0_allRows 18 = .ok (.ishl, 1) := by decide +kernel
theorem dX0_allRows_19 : decode cX0_allRows 19 = .ok (.ishl, 1) := by decide +kernel
theorem dX0_allRows_20 : decode cX0_allRows 20 = .ok (.iconst 1, 1) := by decide +kernel
theorem dX0_allRows_21 : decode cX0_allRows 21 = .ok (.isub, 1) := by decide +kernel
theorem dX0_allRows_22 : decode cX0_allRows 22 = .ok (.ireturn, 1) := by decide +kernel
theorem dX0_truthOf_0 : decode cX0_truthOf 0 = .ok (.aload_n 0, 1) := by decide +kernel
theorem dX0_truthOf_1 : decode cX0_truthOf 1 = .ok (.getfield 18, 3) := by decide +kernel
theorem dX0_truthOf_4 : decode cX0_truthOf 4 = .ok (.iload_n 1, 1) := by decide +kernel
theorem dX0_truthOf_5 : decode cX0_truthOf 5 = .ok (.iconst 1, 1) := by decide +kernel
theorem dX0_truthOf_6 : decode cX0_truthOf 6 = .ok (.ishr, 1) := by decide +kernel
theorem dX0_truthOf_7 : decode cX0_truthOf 7 = .ok (.iaload, 1) := by decide +kernel
theorem dX0_truthOf_8 : decode cX0_truthOf 8 = .ok (.istore_n 2, 1) := by decide +kernel
theorem dX0_truthOf_9 : decode cX0_truthOf 9 = .ok (.iload_n 1, 1) := by decide +kernel
theorem dX0_truthOf_10 : decode cX0_truthOf 10 = .ok (.iconst 1, 1) := by decide +kernel
theorem dX0_truthOf_11 : decode cX0_truthOf 11 = .ok (.iand, 1) := by decide +kernel
theorem dX0_truthOf_12 : decode cX0_truthOf 12 = .ok (.ifCond .ne 7, 3) := by decide +kernel
theorem dX0_truthOf_15 : decode cX0_truthOf 15 = .ok (.iload_n 2, 1) := by decide +kernel
theorem dX0_truthOf_16 : decode cX0_truthOf 16 = .ok (.goto 11, 3) := by decide +kernel
theorem dX0_truthOf_19 : decode cX0_truthOf 19 = .ok (.iload_n 2, 1) := by decide +kernel
theorem dX0_truthOf_20 : decode cX0_truthOf 20 = .ok (.iconst (-1), 1) := by decide +kernel
theorem dX0_truthOf_21 : decode cX0_truthOf 21 = .ok (.ixor, 1) := by decide +kernel
theorem dX0_truthOf_22 : decode cX0_truthOf 22 = .ok (.aload_n 0, 1) := by decide +kernel
theorem dX0_truthOf_23 : decode cX0_truthOf 23 = .ok (.invokevirtual 47, 3) := by decide +kernel
theorem dX0_truthOf_26 : decode cX0_truthOf 26 = .ok (.iand, 1) := by decide +kernel
theorem dX0_truthOf_27 : decode cX0_truthOf 27 = .ok (.ireturn, 1) := by decide +kernel
theorem dX0_levelOf_0 : decode cX0_levelOf 0 = .ok (.aload_n 0, 1) := by decide +kernel
theorem dX0_levelOf_1 : decode cX0_levelOf 1 = .ok (.getfield 21, 3) := by decide +kernel
theorem dX0_levelOf_4 : decode cX0_levelOf 4 = .ok (.iload_n 1, 1) := by decide +kernel
theorem dX0_levelOf_5 : decode cX0_levelOf 5 = .ok (.iconst 1, 1) := by decide +kernel
theorem dX0_levelOf_6 : decode cX0_levelOf 6 = .ok (.ishr, 1) := by decide +kernel
theorem dX0_levelOf_7 : decode cX0_levelOf 7 = .ok (.iaload, 1) := by decide +kernel
theorem dX0_levelOf_8 : decode cX0_levelOf 8 = .ok (.ireturn, 1) := by decide +kernel
theorem dX0_outOf_0 : decode cX0_outOf 0 = .ok (.aload_n 0, 1) := by decide +kernel
theorem dX0_outOf_1 : decode cX0_outOf 1 = .ok (.getfield 24, 3) := by decide +kernel
theorem dX0_outOf_4 : decode cX0_outOf 4 = .ok (.iload_n 1, 1) := by decide +kernel
theorem dX0_outOf_5 : decode cX0_outOf 5 = .ok (.bipush 6, 2) := by decide +kernel
theorem dX0_outOf_7 : decode cX0_outOf 7 = .ok (.imul, 1) := by decide +kernel
theorem dX0_outOf_8 : decode cX0_outOf 8 = .ok (.iload_n 2, 1) := by decide +kernel
theorem dX0_outOf_9 : decode cX0_outOf 9 = .ok (.iadd, 1) := by decide +kernel
theorem dX0_outOf_10 : decode cX0_outOf 10 = .ok (.iaload, 1) := by decide +kernel
theorem dX0_outOf_11 : decode cX0_outOf 11 = .ok (.ireturn, 1) := by decide +kernel
theorem dX0_pairDifference_0 : decode cX0_pairDifference 0 = .ok (.aload_n 0, 1) := by decide +kernel
theorem dX0_pairDifference_1 : decode cX0_pairDifference 1 = .ok (.aload_n 0, 1) := by decide +kernel
theorem dX0_pairDifference_2 : decode cX0_pairDifference 2 = .ok (.iconst 0, 1) := by decide +kernel
theorem dX0_pairDifference_3 : decode cX0_pairDifference 3 = .ok (.iload_n 1, 1) := by decide +kernel
theorem dX0_pairDifference_4 : decode cX0_pairDifference 4 = .ok (.invokevirtual 60, 3) := by decide +kernel
theorem dX0_pairDifference_7 : decode cX0_pairDifference 7 = .ok (.invokevirtual 64, 3) := by decide +kernel
theorem dX0_pairDifference_10 : decode cX0_pairDifference 10 = .ok (.aload_n 0, 1) := by decide +kernel
theorem dX0_pairDifference_11 : decode cX0_pairDifference 11 = .ok (.aload_n 0, 1) := by decide +kernel
theorem dX0_pairDifference_12 : decode cX0_pairDifference 12 = .ok (.iconst 1, 1) := by decide +kernel
theorem dX0_pairDifference_13 : decode cX0_pairDifference 13 = .ok (.iload_n 1, 1) := by decide +kernel
theorem dX0_pairDifference_14 : decode cX0_pairDifference 14 = .ok (.invokevirtual 60, 3) := by decide +kernel
theorem dX0_pairDifference_17 : decode cX0_pairDifference 17 = .ok (.invokevirtual 64, 3) := by decide +kernel
theorem dX0_pairDifference_20 : decode cX0_pairDifference 20 = .ok (.ixor, 1) := by decide +kernel
theorem dX0_pairDifference_21 : decode cX0_pairDifference 21 = .ok (.ireturn, 1) := by decide +kernel
theorem dX0_pairIsAlikeBy_0 : decode cX0_pairIsAlikeBy 0 = .ok (.aload_n 1, 1) := by decide +kernel
theorem dX0_pairIsAlikeBy_1 : decode cX0_pairIsAlikeBy 1 = .ok (.aload_n 0, 1) := by decide +kernel
theorem dX0_pairIsAlikeBy_2 : decode cX0_pairIsAlikeBy 2 = .ok (.iconst 0, 1) := by decide +kernel
theorem dX0_pairIsAlikeBy_3 : decode cX0_pairIsAlikeBy 3 = .ok (.iload_n 2, 1) := by decide +kernel
theorem dX0_pairIsAlikeBy_4 : decode cX0_pairIsAlikeBy 4 = .ok (.invokevirtual 60, 3) := by decide +kernel
theorem dX0_pairIsAlikeBy_7 : decode cX0_pairIsAlikeBy 7 = .ok (.invokevirtual 68, 3) := by decide +kernel
theorem dX0_pairIsAlikeBy_10 : decode cX0_pairIsAlikeBy 10 = .ok (.aload_n 1, 1) := by decide +kernel
theorem dX0_pairIsAlikeBy_11 : decode cX0_pairIsAlikeBy 11 = .ok (.aload_n 0, 1) := by decide +kernel
theorem dX0_pairIsAlikeBy_12 : decode cX0_pairIsAlikeBy 12 = .ok (.iconst 1, 1) := by decide +kernel
theorem dX0_pairIsAlikeBy_13 : decode cX0_pairIsAlikeBy 13 = .ok (.iload_n 2, 1) := by decide +kernel
theorem dX0_pairIsAlikeBy_14 : decode cX0_pairIsAlikeBy 14 = .ok (.invokevirtual 60, 3) := by decide +kernel
theorem dX0_pairIsAlikeBy_17 : decode cX0_pairIsAlikeBy 17 = .ok (.invokevirtual 68, 3) := by decide +kernel
theorem dX0_pairIsAlikeBy_20 : decode cX0_pairIsAlikeBy 20 = .ok (.if_icmp .ne 7, 3) := by decide +kernel
theorem dX0_pairIsAlikeBy_23 : decode cX0_pairIsAlikeBy 23 = .ok (.iconst 1, 1) := by decide +kernel
theorem dX0_pairIsAlikeBy_24 : decode cX0_pairIsAlikeBy 24 = .ok (.goto 4, 3) := by decide +kernel
theorem dX0_pairIsAlikeBy_27 : decode cX0_pairIsAlikeBy 27 = .ok (.iconst 0, 1) := by decide +kernel
theorem dX0_pairIsAlikeBy_28 : decode cX0_pairIsAlikeBy 28 = .ok (.ireturn, 1) := by decide +kernel
theorem dX0_verdictBy_0 : decode cX0_verdictBy 0 = .ok (.aload_n 0, 1) := by decide +kernel
theorem dX0_verdictBy_1 : decode cX0_verdictBy 1 = .ok (.getfield 27, 3) := by decide +kernel
theorem dX0_verdictBy_4 : decode cX0_verdictBy 4 = .ok (.iconst 0, 1) := by decide +kernel
theorem dX0_verdictBy_5 : decode cX0_verdictBy 5 = .ok (.iaload, 1) := by decide +kernel
theorem dX0_verdictBy_6 : decode cX0_verdictBy 6 = .ok (.aload_n 0, 1) := by decide +kernel
theorem dX0_verdictBy_7 : decode cX0_verdictBy 7 = .ok (.getfield 27, 3) := by decide +kernel
theorem dX0_verdictBy_10 : decode cX0_verdictBy 10 = .ok (.iconst 1, 1) := by decide +kernel
theorem dX0_verdictBy_11 : decode cX0_verdictBy 11 = .ok (.iaload, 1) := by decide +kernel
theorem dX0_verdictBy_12 : decode cX0_verdictBy 12 = .ok (.if_icmp .eq 5, 3) := by decide +kernel
theorem dX0_verdictBy_15 : decode cX0_verdictBy 15 = .ok (.iconst (-1), 1) := by decide +kernel
theorem dX0_verdictBy_16 : decode cX0_verdictBy 16 = .ok (.ireturn, 1) := by decide +kernel
theorem dX0_verdictBy_17 : decode cX0_verdictBy 17 = .ok (.iconst 0, 1) := by decide +kernel
theorem dX0_verdictBy_18 : decode cX0_verdictBy 18 = .ok (.istore_n 2, 1) := by decide +kernel
theorem dX0_verdictBy_19 : decode cX0_verdictBy 19 = .ok (.iload_n 2, 1) := by decide +kernel
theorem dX0_verdictBy_20 : decode cX0_verdictBy 20 = .ok (.aload_n 0, 1) := by decide +kernel
theorem dX0_verdictBy_21 : decode cX0_verdictBy 21 = .ok (.getfield 27, 3) := by decide +kernel
theorem dX0_verdictBy_24 : decode cX0_verdictBy 24 = .ok (.iconst 0, 1) := by decide +kernel
theorem dX0_verdictBy_25 : decode cX0_verdictBy 25 = .ok (.iaload, 1) := by decide +kernel
theorem dX0_verdictBy_26 : decode cX0_verdictBy 26 = .ok (.if_icmp .ge 20, 3) := by decide +kernel
theorem dX0_verdictBy_29 : decode cX0_verdictBy 29 = .ok (.aload_n 0, 1) := by decide +kernel
theorem dX0_verdictBy_30 : decode cX0_verdictBy 30 = .ok (.aload_n 1, 1) := by decide +kernel
theorem dX0_verdictBy_31 : decode cX0_verdictBy 31 = .ok (.iload_n 2, 1) := by decide +kernel
theorem dX0_verdictBy_32 : decode cX0_verdictBy 32 = .ok (.invokevirtual 73, 3) := by decide +kernel
theorem dX0_verdictBy_35 : decode cX0_verdictBy 35 = .ok (.ifCond .ne 5, 3) := by decide +kernel
theorem dX0_verdictBy_38 : decode cX0_verdictBy 38 = .ok (.iconst 0, 1) := by decide +kernel
theorem dX0_verdictBy_39 : decode cX0_verdictBy 39 = .ok (.ireturn, 1) := by decide +kernel
theorem dX0_verdictBy_40 : decode cX0_verdictBy 40 = .ok (.iinc 2 1, 3) := by decide +kernel
theorem dX0_verdictBy_43 : decode cX0_verdictBy 43 = .ok (.goto (-24), 3) := by decide +kernel
theorem dX0_verdictBy_46 : decode cX0_verdictBy 46 = .ok (.iconst 1, 1) := by decide +kernel
theorem dX0_verdictBy_47 : decode cX0_verdictBy 47 = .ok (.ireturn, 1) := by decide +kernel
theorem dX0_countOf_0 : decode cX0_countOf 0 = .ok (.iload_n 1, 1) := by decide +kernel
theorem dX0_countOf_1 : decode cX0_countOf 1 = .ok (.tableswitch 55 0 3 #[31, 36, 41, 48], 31) := by decide +kernel
theorem dX0_countOf_32 : decode cX0_countOf 32 = .ok (.aload_n 0, 1) := by decide +kernel
theorem dX0_countOf_33 : decode cX0_countOf 33 = .ok (.getfield 37, 3) := by decide +kernel
theorem dX0_countOf_36 : decode cX0_countOf 36 = .ok (.ireturn, 1) := by decide +kernel
theorem dX0_countOf_37 : decode cX0_countOf 37 = .ok (.aload_n 0, 1) := by decide +kernel
theorem dX0_countOf_38 : decode cX0_countOf 38 = .ok (.getfield 41, 3) := by decide +kernel
theorem dX0_countOf_41 : decode cX0_countOf 41 = .ok (.ireturn, 1) := by decide +kernel
theorem dX0_countOf_42 : decode cX0_countOf 42 = .ok (.aload_n 0, 1) := by decide +kernel
theorem dX0_countOf_43 : decode cX0_countOf 43 = .ok (.getfield 27, 3) := by decide +kernel
theorem dX0_countOf_46 : decode cX0_countOf 46 = .ok (.iconst 0, 1) := by decide +kernel
theorem dX0_countOf_47 : decode cX0_countOf 47 = .ok (.iaload, 1) := by decide +kernel
theorem dX0_countOf_48 : decode cX0_countOf 48 = .ok (.ireturn, 1) := by decide +kernel
theorem dX0_countOf_49 : decode cX0_countOf 49 = .ok (.aload_n 0, 1) := by decide +kernel
theorem dX0_countOf_50 : decode cX0_countOf 50 = .ok (.getfield 27, 3) := by decide +kernel
theorem dX0_countOf_53 : decode cX0_countOf 53 = .ok (.iconst 1, 1) := by decide +kernel
theorem dX0_countOf_54 : decode cX0_countOf 54 = .ok (.iaload, 1) := by decide +kernel
theorem dX0_countOf_55 : decode cX0_countOf 55 = .ok (.ireturn, 1) := by decide +kernel
theorem dX0_countOf_56 : decode cX0_countOf 56 = .ok (.aload_n 0, 1) := by decide +kernel
theorem dX0_countOf_57 : decode cX0_countOf 57 = .ok (.getfield 51, 3) := by decide +kernel
theorem dX0_countOf_60 : decode cX0_countOf 60 = .ok (.ireturn, 1) := by decide +kernel
theorem dX0_signOf_0 : decode cX0_signOf 0 = .ok (.iconst 0, 1) := by decide +kernel
theorem dX0_signOf_1 : decode cX0_signOf 1 = .ok (.istore_n 2, 1) := by decide +kernel
theorem dX0_signOf_2 : decode cX0_signOf 2 = .ok (.iconst 0, 1) := by decide +kernel
theorem dX0_signOf_3 : decode cX0_signOf 3 = .ok (.istore_n 3, 1) := by decide +kernel
theorem dX0_signOf_4 : decode cX0_signOf 4 = .ok (.iload_n 3, 1) := by decide +kernel
theorem dX0_signOf_5 : decode cX0_signOf 5 = .ok (.aload_n 0, 1) := by decide +kernel
theorem dX0_signOf_6 : decode cX0_signOf 6 = .ok (.getfield 51, 3) := by decide +kernel
theorem dX0_signOf_9 : decode cX0_signOf 9 = .ok (.if_icmp .ge 29, 3) := by decide +kernel
theorem dX0_signOf_12 : decode cX0_signOf 12 = .ok (.iload_n 2, 1) := by decide +kernel
theorem dX0_signOf_13 : decode cX0_signOf 13 = .ok (.aload_n 0, 1) := by decide +kernel
theorem dX0_signOf_14 : decode cX0_signOf 14 = .ok (.getfield 18, 3) := by decide +kernel
theorem dX0_signOf_17 : decode cX0_signOf 17 = .ok (.iload_n 1, 1) := by decide +kernel
theorem dX0_signOf_18 : decode cX0_signOf 18 = .ok (.iaload, 1) := by decide +kernel
theorem dX0_signOf_19 : decode cX0_signOf 19 = .ok (.aload_n 0, 1) := by decide +kernel
theorem dX0_signOf_20 : decode cX0_signOf 20 = .ok (.getfield 30, 3) := by decide +kernel
theorem dX0_signOf_23 : decode cX0_signOf 23 = .ok (.iload_n 3, 1) := by decide +kernel
theorem dX0_signOf_24 : decode cX0_signOf 24 = .ok (.iaload, 1) := by decide +kernel
theorem dX0_signOf_25 : decode cX0_signOf 25 = .ok (.iushr, 1) := by decide +kernel
theorem dX0_signOf_26 : decode cX0_signOf 26 = .ok (.iconst 1, 1) := by decide +kernel
theorem dX0_signOf_27 : decode cX0_signOf 27 = .ok (.iand, 1) := by decide +kernel
theorem dX0_signOf_28 : decode cX0_signOf 28 = .ok (.iload_n 3, 1) := by decide +kernel
theorem dX0_signOf_29 : decode cX0_signOf 29 = .ok (.ishl, 1) := by decide +kernel
theorem dX0_signOf_30 : decode cX0_signOf 30 = .ok (.ior, 1) := by decide +kernel
theorem dX0_signOf_31 : decode cX0_signOf 31 = .ok (.istore_n 2, 1) := by decide +kernel
theorem dX0_signOf_32 : decode cX0_signOf 32 = .ok (.iinc 3 1, 3) := by decide +kernel
theorem dX0_signOf_35 : decode cX0_signOf 35 = .ok (.goto (-31), 3) := by decide +kernel
theorem dX0_signOf_38 : decode cX0_signOf 38 = .ok (.iload_n 2, 1) := by decide +kernel
theorem dX0_signOf_39 : decode cX0_signOf 39 = .ok (.ireturn, 1) := by decide +kernel
theorem dX0_gatesBehind_0 : decode cX0_gatesBehind 0 = .ok (.lconst 1, 1) := by decide +kernel
theorem dX0_gatesBehind_1 : decode cX0_gatesBehind 1 = .ok (.iload_n 1, 1) := by decide +kernel
theorem dX0_gatesBehind_2 : decode cX0_gatesBehind 2 = .ok (.iconst 1, 1) := by decide +kernel
theorem dX0_gatesBehind_3 : decode cX0_gatesBehind 3 = .ok (.ishr, 1) := by decide +kernel
theorem dX0_gatesBehind_4 : decode cX0_gatesBehind 4 = .ok (.lshl, 1) := by decide +kernel
theorem dX0_gatesBehind_5 : decode cX0_gatesBehind 5 = .ok (.lstore_n 2, 1) := by decide +kernel
theorem dX0_gatesBehind_6 : decode cX0_gatesBehind 6 = .ok (.iconst 0, 1) := by decide +kernel
theorem dX0_gatesBehind_7 : decode cX0_gatesBehind 7 = .ok (.istore 4, 2) := by decide +kernel
theorem dX0_gatesBehind_9 : decode cX0_gatesBehind 9 = .ok (.iload_n 1, 1) := by decide +kernel
theorem dX0_gatesBehind_10 : decode cX0_gatesBehind 10 = .ok (.iconst 1, 1) := by decide +kernel
theorem dX0_gatesBehind_11 : decode cX0_gatesBehind 11 = .ok (.ishr, 1) := by decide +kernel
theorem dX0_gatesBehind_12 : decode cX0_gatesBehind 12 = .ok (.istore 5, 2) := by decide +kernel
theorem dX0_gatesBehind_14 : decode cX0_gatesBehind 14 = .ok (.iload 5, 2) := by decide +kernel
theorem dX0_gatesBehind_16 : decode cX0_gatesBehind 16 = .ok (.aload_n 0, 1) := by decide +kernel
theorem dX0_gatesBehind_17 : decode cX0_gatesBehind 17 = .ok (.getfield 37, 3) := by decide +kernel
theorem dX0_gatesBehind_20 : decode cX0_gatesBehind 20 = .ok (.if_icmp .le 49, 3) := by decide +kernel
theorem dX0_gatesBehind_23 : decode cX0_gatesBehind 23 = .ok (.lload_n 2, 1) := by decide +kernel
theorem dX0_gatesBehind_24 : decode cX0_gatesBehind 24 = .ok (.iload 5, 2) := by decide +kernel
theorem dX0_gatesBehind_26 : decode cX0_gatesBehind 26 = .ok (.lushr, 1) := by decide +kernel
theorem dX0_gatesBehind_27 : decode cX0_gatesBehind 27 = .ok (.lconst 1, 1) := by decide +kernel
theorem dX0_gatesBehind_28 : decode cX0_gatesBehind 28 = .ok (.land, 1) := by decide +kernel
theorem dX0_gatesBehind_29 : decode cX0_gatesBehind 29 = .ok (.lconst 1, 1) := by decide +kernel
theorem dX0_gatesBehind_30 : decode cX0_gatesBehind 30 = .ok (.lcmp, 1) := by decide +kernel
theorem dX0_gatesBehind_31 : decode cX0_gatesBehind 31 = .ok (.ifCond .ne 32, 3) := by decide +kernel
theorem dX0_gatesBehind_34 : decode cX0_gatesBehind 34 = .ok (.iinc 4 1, 3) := by decide +kernel
theorem dX0_gatesBehind_37 : decode cX0_gatesBehind 37 = .ok (.lload_n 2, 1) := by decide +kernel
theorem dX0_gatesBehind_38 : decode cX0_gatesBehind 38 = .ok (.lconst 1, 1) := by decide +kernel
theorem dX0_gatesBehind_39 : decode cX0_gatesBehind 39 = .ok (.aload_n 0, 1) := by decide +kernel
theorem dX0_gatesBehind_40 : decode cX0_gatesBehind 40 = .ok (.getfield 9, 3) := by decide +kernel
theorem dX0_gatesBehind_43 : decode cX0_gatesBehind 43 = .ok (.iload 5, 2) := by decide +kernel
theorem dX0_gatesBehind_45 : decode cX0_gatesBehind 45 = .ok (.iaload, 1) := by decide +kernel
theorem dX0_gatesBehind_46 : decode cX0_gatesBehind 46 = .ok (.iconst 1, 1) := by decide +kernel
theorem dX0_gatesBehind_47 : decode cX0_gatesBehind 47 = .ok (.ishr, 1) := by decide +kernel
theorem dX0_gatesBehind_48 : decode cX0_gatesBehind 48 = .ok (.lshl, 1) := by decide +kernel
theorem dX0_gatesBehind_49 : decode cX0_gatesBehind 49 = .ok (.lconst 1, 1) := by decide +kernel
theorem dX0_gatesBehind_50 : decode cX0_gatesBehind 50 = .ok (.aload_n 0, 1) := by decide +kernel
theorem dX0_gatesBehind_51 : decode cX0_gatesBehind 51 = .ok (.getfield 15, 3) := by decide +kernel
theorem dX0_gatesBehind_54 : decode cX0_gatesBehind 54 = .ok (.iload 5, 2) := by decide +kernel
theorem dX0_gatesBehind_56 : decode cX0_gatesBehind 56 = .ok (.iaload, 1) := by decide +kernel
theorem dX0_gatesBehind_57 : decode cX0_gatesBehind 57 = .ok (.iconst 1, 1) := by decide +kernel
theorem dX0_gatesBehind_58 : decode cX0_gatesBehind 58 = .ok (.ishr, 1) := by decide +kernel
theorem dX0_gatesBehind_59 : decode cX0_gatesBehind 59 = .ok (.lshl, 1) := by decide +kernel
theorem dX0_gatesBehind_60 : decode cX0_gatesBehind 60 = .ok (.lor, 1) := by decide +kernel
theorem dX0_gatesBehind_61 : decode cX0_gatesBehind 61 = .ok (.lor, 1) := by decide +kernel
theorem dX0_gatesBehind_62 : decode cX0_gatesBehind 62 = .ok (.lstore_n 2, 1) := by decide +kernel
theorem dX0_gatesBehind_63 : decode cX0_gatesBehind 63 = .ok (.iinc 5 (-1), 3) := by decide +kernel
theorem dX0_gatesBehind_66 : decode cX0_gatesBehind 66 = .ok (.goto (-52), 3) := by decide +kernel
theorem dX0_gatesBehind_69 : decode cX0_gatesBehind 69 = .ok (.iload 4, 2) := by decide +kernel
theorem dX0_gatesBehind_71 : decode cX0_gatesBehind 71 = .ok (.ireturn, 1) := by decide +kernel
theorem dX0_refusalOf_0 : decode cX0_refusalOf 0 = .ok (.iload_n 1, 1) := by decide +kernel
theorem dX0_refusalOf_1 : decode cX0_refusalOf 1 = .ok (.tableswitch 179 0 4 #[35, 52, 79, 106, 142], 35) := by decide +kernel
theorem dX0_refusalOf_36 : decode cX0_refusalOf 36 = .ok (.iload_n 2, 1) := by decide +kernel
theorem dX0_refusalOf_37 : decode cX0_refusalOf 37 = .ok (.iconst 1, 1) := by decide +kernel
theorem dX0_refusalOf_38 : decode cX0_refusalOf 38 = .ok (.if_icmp .lt 12, 3) := by decide +kernel
theorem dX0_refusalOf_41 : decode cX0_refusalOf 41 = .ok (.iload_n 2, 1) := by decide +kernel
theorem dX0_refusalOf_42 : decode cX0_refusalOf 42 = .ok (.iconst 5, 1) := by decide +kernel
theorem dX0_refusalOf_43 : decode cX0_refusalOf 43 = .ok (.if_icmp .gt 7, 3) := by decide +kernel
theorem dX0_refusalOf_46 : decode cX0_refusalOf 46 = .ok (.iconst 0, 1) := by decide +kernel
theorem dX0_refusalOf_47 : decode cX0_refusalOf 47 = .ok (.goto 5, 3) := by decide +kernel
theorem dX0_refusalOf_50 : decode cX0_refusalOf 50 = .ok (.bipush (-2), 2) := by decide +kernel
theorem dX0_refusalOf_52 : decode cX0_refusalOf 52 = .ok (.ireturn, 1) := by decide +kernel
theorem dX0_refusalOf_53 : decode cX0_refusalOf 53 = .ok (.aload_n 0, 1) := by decide +kernel
theorem dX0_refusalOf_54 : decode cX0_refusalOf 54 = .ok (.iload_n 2, 1) := by decide +kernel
theorem dX0_refusalOf_55 : decode cX0_refusalOf 55 = .ok (.invokevirtual 77, 3) := by decide +kernel
theorem dX0_refusalOf_58 : decode cX0_refusalOf 58 = .ok (.ifCond .eq 19, 3) := by decide +kernel
theorem dX0_refusalOf_61 : decode cX0_refusalOf 61 = .ok (.aload_n 0, 1) := by decide +kernel
theorem dX0_refusalOf_62 : decode cX0_refusalOf 62 = .ok (.iload_n 3, 1) := by decide +kernel
theorem dX0_refusalOf_63 : decode cX0_refusalOf 63 = .ok (.invokevirtual 77, 3) := by decide +kernel
theorem dX0_refusalOf_66 : decode cX0_refusalOf 66 = .ok (.ifCond .eq 11, 3) := by decide +kernel
theorem dX0_refusalOf_69 : decode cX0_refusalOf 69 = .ok (.aload_n 0, 1) := by decide +kernel
theorem dX0_refusalOf_70 : decode cX0_refusalOf 70 = .ok (.iconst 1, 1) := by decide +kernel
theorem dX0_refusalOf_71 : decode cX0_refusalOf 71 = .ok (.invokevirtual 81, 3) := by decide +kernel
theorem dX0_refusalOf_74 : decode cX0_refusalOf 74 = .ok (.goto 5, 3) := by decide +kernel
theorem dX0_refusalOf_77 : decode cX0_refusalOf 77 = .ok (.bipush (-2), 2) := by decide +kernel
theorem dX0_refusalOf_79 : decode cX0_refusalOf 79 = .ok (.ireturn, 1) := by decide +kernel
theorem dX0_refusalOf_80 : decode cX0_refusalOf 80 = .ok (.aload_n 0, 1) := by decide +kernel
theorem dX0_refusalOf_81 : decode cX0_refusalOf 81 = .ok (.iload_n 2, 1) := by decide +kernel
theorem dX0_refusalOf_82 : decode cX0_refusalOf 82 = .ok (.invokevirtual 77, 3) := by decide +kernel
theorem dX0_refusalOf_85 : decode cX0_refusalOf 85 = .ok (.ifCond .eq 19, 3) := by decide +kernel
theorem dX0_refusalOf_88 : decode cX0_refusalOf 88 = .ok (.aload_n 0, 1) := by decide +kernel
theorem dX0_refusalOf_89 : decode cX0_refusalOf 89 = .ok (.iload_n 3, 1) := by decide +kernel
theorem dX0_refusalOf_90 : decode cX0_refusalOf 90 = .ok (.invokevirtual 77, 3) := by decide +kernel
theorem dX0_refusalOf_93 : decode cX0_refusalOf 93 = .ok (.ifCond .eq 11, 3) := by decide +kernel
theorem dX0_refusalOf_96 : decode cX0_refusalOf 96 = .ok (.aload_n 0, 1) := by decide +kernel
theorem dX0_refusalOf_97 : decode cX0_refusalOf 97 = .ok (.iconst 3, 1) := by decide +kernel
theorem dX0_refusalOf_98 : decode cX0_refusalOf 98 = .ok (.invokevirtual 81, 3) := by decide +kernel
theorem dX0_refusalOf_101 : decode cX0_refusalOf 101 = .ok (.goto 5, 3) := by decide +kernel
theorem dX0_refusalOf_104 : decode cX0_refusalOf 104 = .ok (.bipush (-2), 2) := by decide +kernel
theorem dX0_refusalOf_106 : decode cX0_refusalOf 106 = .ok (.ireturn, 1) := by decide +kernel
theorem dX0_refusalOf_107 : decode cX0_refusalOf 107 = .ok (.aload_n 0, 1) := by decide +kernel
theorem dX0_refusalOf_108 : decode cX0_refusalOf 108 = .ok (.iload_n 2, 1) := by decide +kernel
theorem dX0_refusalOf_109 : decode cX0_refusalOf 109 = .ok (.invokevirtual 77, 3) := by decide +kernel
theorem dX0_refusalOf_112 : decode cX0_refusalOf 112 = .ok (.ifCond .eq 28, 3) := by decide +kernel
theorem dX0_refusalOf_115 : decode cX0_refusalOf 115 = .ok (.aload_n 0, 1) := by decide +kernel
theorem dX0_refusalOf_116 : decode cX0_refusalOf 116 = .ok (.iload_n 3, 1) := by decide +kernel
theorem dX0_refusalOf_117 : decode cX0_refusalOf 117 = .ok (.invokevirtual 77, 3) := by decide +kernel
theorem dX0_refusalOf_120 : decode cX0_refusalOf 120 = .ok (.ifCond .eq 20, 3) := by decide +kernel
theorem dX0_refusalOf_123 : decode cX0_refusalOf 123 = .ok (.aload_n 0, 1) := by decide +kernel
theorem dX0_refusalOf_124 : decode cX0_refusalOf 124 = .ok (.iload 4, 2) := by decide +kernel
theorem dX0_refusalOf_126 : decode cX0_refusalOf 126 = .ok (.invokevirtual 77, 3) := by decide +kernel
theorem dX0_refusalOf_129 : decode cX0_refusalOf 129 = .ok (.ifCond .eq 11, 3) := by decide +kernel
theorem dX0_refusalOf_132 : decode cX0_refusalOf 132 = .ok (.aload_n 0, 1) := by decide +kernel
theorem dX0_refusalOf_133 : decode cX0_refusalOf 133 = .ok (.iconst 3, 1) := by decide +kernel
theorem dX0_refusalOf_134 : decode cX0_refusalOf 134 = .ok (.invokevirtual 81, 3) := by decide +kernel
theorem dX0_refusalOf_137 : decode cX0_refusalOf 137 = .ok (.goto 5, 3) := by decide +kernel
theorem dX0_refusalOf_140 : decode cX0_refusalOf 140 = .ok (.bipush (-2), 2) := by decide +kernel
theorem dX0_refusalOf_142 : decode cX0_refusalOf 142 = .ok (.ireturn, 1) := by decide +kernel
theorem dX0_refusalOf_143 : decode cX0_refusalOf 143 = .ok (.aload_n 0, 1) := by decide +kernel
theorem dX0_refusalOf_144 : decode cX0_refusalOf 144 = .ok (.iload_n 2, 1) := by decide +kernel
theorem dX0_refusalOf_145 : decode cX0_refusalOf 145 = .ok (.invokevirtual 84, 3) := by decide +kernel
theorem dX0_refusalOf_148 : decode cX0_refusalOf 148 = .ok (.ifCond .eq 11, 3) := by decide +kernel
theorem dX0_refusalOf_151 : decode cX0_refusalOf 151 = .ok (.aload_n 0, 1) := by decide +kernel
theorem dX0_refusalOf_152 : decode cX0_refusalOf 152 = .ok (.iload_n 3, 1) := by decide +kernel
theorem dX0_refusalOf_153 : decode cX0_refusalOf 153 = .ok (.invokevirtual 77, 3) := by decide +kernel
theorem dX0_refusalOf_156 : decode cX0_refusalOf 156 = .ok (.ifCond .ne 6, 3) := by decide +kernel
theorem dX0_refusalOf_159 : decode cX0_refusalOf 159 = .ok (.bipush (-2), 2) := by decide +kernel
theorem dX0_refusalOf_161 : decode cX0_refusalOf 161 = .ok (.ireturn, 1) := by decide +kernel
theorem dX0_refusalOf_162 : decode cX0_refusalOf 162 = .ok (.aload_n 0, 1) := by decide +kernel
theorem dX0_refusalOf_163 : decode cX0_refusalOf 163 = .ok (.getfield 27, 3) := by decide +kernel
theorem dX0_refusalOf_166 : decode cX0_refusalOf 166 = .ok (.iload_n 2, 1) := by decide +kernel
theorem dX0_refusalOf_167 : decode cX0_refusalOf 167 = .ok (.iaload, 1) := by decide +kernel
theorem dX0_refusalOf_168 : decode cX0_refusalOf 168 = .ok (.bipush 6, 2) := by decide +kernel
theorem dX0_refusalOf_170 : decode cX0_refusalOf 170 = .ok (.if_icmp .ge 7, 3) := by decide +kernel
theorem dX0_refusalOf_173 : decode cX0_refusalOf 173 = .ok (.iconst 0, 1) := by decide +kernel
theorem dX0_refusalOf_174 : decode cX0_refusalOf 174 = .ok (.goto 5, 3) := by decide +kernel
theorem dX0_refusalOf_177 : decode cX0_refusalOf 177 = .ok (.bipush (-4), 2) := by decide +kernel
theorem dX0_refusalOf_179 : decode cX0_refusalOf 179 = .ok (.ireturn, 1) := by decide +kernel
theorem dX0_refusalOf_180 : decode cX0_refusalOf 180 = .ok (.aload_n 0, 1) := by decide +kernel
theorem dX0_refusalOf_181 : decode cX0_refusalOf 181 = .ok (.iload_n 2, 1) := by decide +kernel
theorem dX0_refusalOf_182 : decode cX0_refusalOf 182 = .ok (.invokevirtual 87, 3) := by decide +kernel
theorem dX0_refusalOf_185 : decode cX0_refusalOf 185 = .ok (.ifCond .ne 6, 3) := by decide +kernel
theorem dX0_refusalOf_188 : decode cX0_refusalOf 188 = .ok (.bipush (-2), 2) := by decide +kernel
theorem dX0_refusalOf_190 : decode cX0_refusalOf 190 = .ok (.ireturn, 1) := by decide +kernel
theorem dX0_refusalOf_191 : decode cX0_refusalOf 191 = .ok (.aload_n 0, 1) := by decide +kernel
theorem dX0_refusalOf_192 : decode cX0_refusalOf 192 = .ok (.getfield 51, 3) := by decide +kernel
theorem dX0_refusalOf_195 : decode cX0_refusalOf 195 = .ok (.bipush 12, 2) := by decide +kernel
theorem dX0_refusalOf_197 : decode cX0_refusalOf 197 = .ok (.if_icmp .ge 7, 3) := by decide +kernel
theorem dX0_refusalOf_200 : decode cX0_refusalOf 200 = .ok (.iconst 0, 1) := by decide +kernel
theorem dX0_refusalOf_201 : decode cX0_refusalOf 201 = .ok (.goto 5, 3) := by decide +kernel
theorem dX0_refusalOf_204 : decode cX0_refusalOf 204 = .ok (.bipush (-4), 2) := by decide +kernel
theorem dX0_refusalOf_206 : decode cX0_refusalOf 206 = .ok (.ireturn, 1) := by decide +kernel
theorem dX0_roomFor_0 : decode cX0_roomFor 0 = .ok (.aload_n 0, 1) := by decide +kernel
theorem dX0_roomFor_1 : decode cX0_roomFor 1 = .ok (.getfield 41, 3) := by decide +kernel
theorem dX0_roomFor_4 : decode cX0_roomFor 4 = .ok (.iload_n 1, 1) := by decide +kernel
theorem dX0_roomFor_5 : decode cX0_roomFor 5 = .ok (.iadd, 1) := by decide +kernel
theorem dX0_roomFor_6 : decode cX0_roomFor 6 = .ok (.bipush 48, 2) := by decide +kernel
theorem dX0_roomFor_8 : decode cX0_roomFor 8 = .ok (.if_icmp .gt 7, 3) := by decide +kernel
theorem dX0_roomFor_11 : decode cX0_roomFor 11 = .ok (.iconst 0, 1) := by decide +kernel
theorem dX0_roomFor_12 : decode cX0_roomFor 12 = .ok (.goto 5, 3) := by decide +kernel
theorem dX0_roomFor_15 : decode cX0_roomFor 15 = .ok (.bipush (-4), 2) := by decide +kernel
theorem dX0_roomFor_17 : decode cX0_roomFor 17 = .ok (.ireturn, 1) := by decide +kernel
theorem dX0_perform_0 : decode cX0_perform 0 = .ok (.iload_n 1, 1) := by decide +kernel
theorem dX0_perform_1 : decode cX0_perform 1 = .ok (.tableswitch 80 0 4 #[35, 41, 48, 61, 73], 35) := by decide +kernel
theorem dX0_perform_36 : decode cX0_perform 36 = .ok (.aload_n 0, 1) := by decide +kernel
theorem dX0_perform_37 : decode cX0_perform 37 = .ok (.iload_n 2, 1) := by decide +kernel
theorem dX0_perform_38 : decode cX0_perform 38 = .ok (.invokevirtual 90, 3) := by decide +kernel
theorem dX0_perform_41 : decode cX0_perform 41 = .ok (.ireturn, 1) := by decide +kernel
theorem dX0_perform_42 : decode cX0_perform 42 = .ok (.aload_n 0, 1) := by decide +kernel
theorem dX0_perform_43 : decode cX0_perform 43 = .ok (.iload_n 2, 1) := by decide +kernel
theorem dX0_perform_44 : decode cX0_perform 44 = .ok (.iload_n 3, 1) := by decide +kernel
theorem dX0_perform_45 : decode cX0_perform 45 = .ok (.invokevirtual 93, 3) := by decide +kernel
theorem dX0_perform_48 : decode cX0_perform 48 = .ok (.ireturn, 1) := by decide +kernel
theorem dX0_perform_49 : decode cX0_perform 49 = .ok (.aload_n 0, 1) := by decide +kernel
theorem dX0_perform_50 : decode cX0_perform 50 = .ok (.iload_n 2, 1) := by decide +kernel
theorem dX0_perform_51 : decode cX0_perform 51 = .ok (.iload_n 3, 1) := by decide +kernel
theorem dX0_perform_52 : decode cX0_perform 52 = .ok (.iconst 1, 1) := by decide +kernel
theorem dX0_perform_53 : decode cX0_perform 53 = .ok (.ixor, 1) := by decide +kernel
theorem dX0_perform_54 : decode cX0_perform 54 = .ok (.iload_n 2, 1) := by decide +kernel
theorem dX0_perform_55 : decode cX0_perform 55 = .ok (.iconst 1, 1) := by decide +kernel
theorem dX0_perform_56 : decode cX0_perform 56 = .ok (.ixor, 1) := by decide +kernel
theorem dX0_perform_57 : decode cX0_perform 57 = .ok (.iload_n 3, 1) := by decide +kernel
theorem dX0_perform_58 : decode cX0_perform 58 = .ok (.invokevirtual 96, 3) := by decide +kernel
theorem dX0_perform_61 : decode cX0_perform 61 = .ok (.ireturn, 1) := by decide +kernel
theorem dX0_perform_62 : decode cX0_perform 62 = .ok (.aload_n 0, 1) := by decide +kernel
theorem dX0_perform_63 : decode cX0_perform 63 = .ok (.iload_n 2, 1) := by decide +kernel
theorem dX0_perform_64 : decode cX0_perform 64 = .ok (.iload_n 3, 1) := by decide +kernel
theorem dX0_perform_65 : decode cX0_perform 65 = .ok (.iload_n 2, 1) := by decide +kernel
theorem dX0_perform_66 : decode cX0_perform 66 = .ok (.iconst 1, 1) := by decide +kernel
theorem dX0_perform_67 : decode cX0_perform 67 = .ok (.ixor, 1) := by decide +kernel
theorem dX0_perform_68 : decode cX0_perform 68 = .ok (.iload 4, 2) := by decide +kernel
theorem dX0_perform_70 : decode cX0_perform 70 = .ok (.invokevirtual 96, 3) := by decide +kernel
theorem dX0_perform_73 : decode cX0_perform 73 = .ok (.ireturn, 1) := by decide +kernel
theorem dX0_perform_74 : decode cX0_perform 74 = .ok (.aload_n 0, 1) := by decide +kernel
theorem dX0_perform_75 : decode cX0_perform 75 = .ok (.iload_n 2, 1) := by decide +kernel
theorem dX0_perform_76 : decode cX0_perform 76 = .ok (.iload_n 3, 1) := by decide +kernel
theorem dX0_perform_77 : decode cX0_perform 77 = .ok (.invokevirtual 100, 3) := by decide +kernel
theorem dX0_perform_80 : decode cX0_perform 80 = .ok (.ireturn, 1) := by decide +kernel
theorem dX0_perform_81 : decode cX0_perform 81 = .ok (.aload_n 0, 1) := by decide +kernel
theorem dX0_perform_82 : decode cX0_perform 82 = .ok (.iload_n 2, 1) := by decide +kernel
theorem dX0_perform_83 : decode cX0_perform 83 = .ok (.invokevirtual 103, 3) := by decide +kernel
theorem dX0_perform_86 : decode cX0_perform 86 = .ok (.ireturn, 1) := by decide +kernel
theorem dX0_changeInputs_0 : decode cX0_changeInputs 0 = .ok (.aload_n 0, 1) := by decide +kernel
theorem dX0_changeInputs_1 : decode cX0_changeInputs 1 = .ok (.getfield 37, 3) := by decide +kernel
theorem dX0_changeInputs_4 : decode cX0_changeInputs 4 = .ok (.istore_n 2, 1) := by decide +kernel
theorem dX0_changeInputs_5 : decode cX0_changeInputs 5 = .ok (.aload_n 0, 1) := by decide +kernel
theorem dX0_changeInputs_6 : decode cX0_changeInputs 6 = .ok (.iload_n 1, 1) := by decide +kernel
theorem dX0_changeInputs_7 : decode cX0_changeInputs 7 = .ok (.invokevirtual 33, 3) := by decide +kernel
theorem dX0_changeInputs_10 : decode cX0_changeInputs 10 = .ok (.iload_n 2, 1) := by decide +kernel
theorem dX0_changeInputs_11 : decode cX0_changeInputs 11 = .ok (.ireturn, 1) := by decide +kernel
theorem dX0_addGate_0 : decode cX0_addGate 0 = .ok (.aload_n 0, 1) := by decide +kernel
theorem dX0_addGate_1 : decode cX0_addGate 1 = .ok (.getfield 41, 3) := by decide +kernel
theorem dX0_addGate_4 : decode cX0_addGate 4 = .ok (.istore_n 3, 1) := by decide +kernel
theorem dX0_addGate_5 : decode cX0_addGate 5 = .ok (.aload_n 0, 1) := by decide +kernel
theorem dX0_addGate_6 : decode cX0_addGate 6 = .ok (.getfield 9, 3) := by decide +kernel
theorem dX0_addGate_9 : decode cX0_addGate 9 = .ok (.iload_n 3, 1) := by decide +kernel
theorem dX0_addGate_10 : decode cX0_addGate 10 = .ok (.iload_n 1, 1) := by decide +kernel
theorem dX0_addGate_11 : decode cX0_addGate 11 = .ok (.iastore, 1) := by decide +kernel
theorem dX0_addGate_12 : decode cX0_addGate 12 = .ok (.aload_n 0, 1) := by decide +kernel
theorem dX0_addGate_13 : decode cX0_addGate 13 = .ok (.getfield 15, 3) := by decide +kernel
theorem dX0_addGate_16 : decode cX0_addGate 16 = .ok (.iload_n 3, 1) := by decide +kernel
theorem dX0_addGate_17 : decode cX0_addGate 17 = .ok (.iload_n 2, 1) := by decide +kernel
theorem dX0_addGate_18 : decode cX0_addGate 18 = .ok (.iastore, 1) := by decide +kernel
theorem dX0_addGate_19 : decode cX0_addGate 19 = .ok (.aload_n 0, 1) := by decide +kernel
theorem dX0_addGate_20 : decode cX0_addGate 20 = .ok (.getfield 18, 3) := by decide +kernel
theorem dX0_addGate_23 : decode cX0_addGate 23 = .ok (.iload_n 3, 1) := by decide +kernel
theorem dX0_addGate_24 : decode cX0_addGate 24 = .ok (.aload_n 0, 1) := by decide +kernel
theorem dX0_addGate_25 : decode cX0_addGate 25 = .ok (.iload_n 1, 1) := by decide +kernel
theorem dX0_addGate_26 : decode cX0_addGate 26 = .ok (.invokevirtual 64, 3) := by decide +kernel
theorem dX0_addGate_29 : decode cX0_addGate 29 = .ok (.aload_n 0, 1) := by decide +kernel
theorem dX0_addGate_30 : decode cX0_addGate 30 = .ok (.iload_n 2, 1) := by decide +kernel
theorem dX0_addGate_31 : decode cX0_addGate 31 = .ok (.invokevirtual 64, 3) := by decide +kernel
theorem dX0_addGate_34 : decode cX0_addGate 34 = .ok (.iand, 1) := by decide +kernel
theorem dX0_addGate_35 : decode cX0_addGate 35 = .ok (.iastore, 1) := by decide +kernel
theorem dX0_addGate_36 : decode cX0_addGate 36 = .ok (.aload_n 0, 1) := by decide +kernel
theorem dX0_addGate_37 : decode cX0_addGate 37 = .ok (.getfield 21, 3) := by decide +kernel
theorem dX0_addGate_40 : decode cX0_addGate 40 = .ok (.iload_n 3, 1) := by decide +kernel
theorem dX0_addGate_41 : decode cX0_addGate 41 = .ok (.iconst 1, 1) := by decide +kernel
theorem dX0_addGate_42 : decode cX0_addGate 42 = .ok (.aload_n 0, 1) := by decide +kernel
theorem dX0_addGate_43 : decode cX0_addGate 43 = .ok (.iload_n 1, 1) := by decide +kernel
theorem dX0_addGate_44 : decode cX0_addGate 44 = .ok (.invokevirtual 106, 3) := by decide +kernel
theorem dX0_addGate_47 : decode cX0_addGate 47 = .ok (.aload_n 0, 1) := by decide +kernel
theorem dX0_addGate_48 : decode cX0_addGate 48 = .ok (.iload_n 2, 1) := by decide +kernel
theorem dX0_addGate_49 : decode cX0_addGate 49 = .ok (.invokevirtual 106, 3) := by decide +kernel
theorem dX0_addGate_52 : decode cX0_addGate 52 = .ok (.invokestatic 109, 3) := by decide +kernel
theorem dX0_addGate_55 : decode cX0_addGate 55 = .ok (.iadd, 1) := by decide +kernel
theorem dX0_addGate_56 : decode cX0_addGate 56 = .ok (.iastore, 1) := by decide +kernel
theorem dX0_addGate_57 : decode cX0_addGate 57 = .ok (.aload_n 0, 1) := by decide +kernel
theorem dX0_addGate_58 : decode cX0_addGate 58 = .ok (.iload_n 3, 1) := by decide +kernel
theorem dX0_addGate_59 : decode cX0_addGate 59 = .ok (.iconst 1, 1) := by decide +kernel
theorem dX0_addGate_60 : decode cX0_addGate 60 = .ok (.iadd, 1) := by decide +kernel
theorem dX0_addGate_61 : decode cX0_addGate 61 = .ok (.putfield 41, 3) := by decide +kernel
theorem dX0_addGate_64 : decode cX0_addGate 64 = .ok (.iconst 2, 1) := by decide +kernel
theorem dX0_addGate_65 : decode cX0_addGate 65 = .ok (.iload_n 3, 1) := by decide +kernel
theorem dX0_addGate_66 : decode cX0_addGate 66 = .ok (.imul, 1) := by decide +kernel
theorem dX0_addGate_67 : decode cX0_addGate 67 = .ok (.ireturn, 1) := by decide +kernel
theorem dX0_addEither_0 : decode cX0_addEither 0 = .ok (.aload_n 0, 1) := by decide +kernel
theorem dX0_addEither_1 : decode cX0_addEither 1 = .ok (.iload_n 1, 1) := by decide +kernel
theorem dX0_addEither_2 : decode cX0_addEither 2 = .ok (.iload_n 2, 1) := by decide +kernel
theorem dX0_addEither_3 : decode cX0_addEither 3 = .ok (.invokevirtual 93, 3) := by decide +kernel
theorem dX0_addEither_6 : decode cX0_addEither 6 = .ok (.istore 5, 2) := by decide +kernel
theorem dX0_addEither_8 : decode cX0_addEither 8 = .ok (.aload_n 0, 1) := by decide +kernel
theorem dX0_addEither_9 : decode cX0_addEither 9 = .ok (.iload_n 3, 1) := by decide +kernel
theorem dX0_addEither_10 : decode cX0_addEither 10 = .ok (.iload 4, 2) := by decide +kernel
theorem dX0_addEither_12 : decode cX0_addEither 12 = .ok (.invokevirtual 93, 3) := by decide +kernel
theorem dX0_addEither_15 : decode cX0_addEither 15 = .ok (.istore 6, 2) := by decide +kernel
theorem dX0_addEither_17 : decode cX0_addEither 17 = .ok (.aload_n 0, 1) := by decide +kernel
theorem dX0_addEither_18 : decode cX0_addEither 18 = .ok (.iload 5, 2) := by decide +kernel
theorem dX0_addEither_20 : decode cX0_addEither 20 = .ok (.iconst 1, 1) := by decide +kernel
theorem dX0_addEither_21 : decode cX0_addEither 21 = .ok (.ixor, 1) := by decide +kernel
theorem dX0_addEither_22 : decode cX0_addEither 22 = .ok (.iload 6, 2) := by decide +kernel
theorem dX0_addEither_24 : decode cX0_addEither 24 = .ok (.iconst 1, 1) := by decide +kernel
theorem dX0_addEither_25 : decode cX0_addEither 25 = .ok (.ixor, 1) := by decide +kernel
theorem dX0_addEither_26 : decode cX0_addEither 26 = .ok (.invokevirtual 93, 3) := by decide +kernel
theorem dX0_addEither_29 : decode cX0_addEither 29 = .ok (.iconst 1, 1) := by decide +kernel
theorem dX0_addEither_30 : decode cX0_addEither 30 = .ok (.ixor, 1) := by decide +kernel
theorem dX0_addEither_31 : decode cX0_addEither 31 = .ok (.ireturn, 1) := by decide +kernel
theorem dX0_addOut_0 : decode cX0_addOut 0 = .ok (.aload_n 0, 1) := by decide +kernel
theorem dX0_addOut_1 : decode cX0_addOut 1 = .ok (.getfield 27, 3) := by decide +kernel
theorem dX0_addOut_4 : decode cX0_addOut 4 = .ok (.iload_n 1, 1) := by decide +kernel
theorem dX0_addOut_5 : decode cX0_addOut 5 = .ok (.iaload, 1) := by decide +kernel
theorem dX0_addOut_6 : decode cX0_addOut 6 = .ok (.istore_n 3, 1) := by decide +kernel
theorem dX0_addOut_7 : decode cX0_addOut 7 = .ok (.aload_n 0, 1) := by decide +kernel
theorem dX0_addOut_8 : decode cX0_addOut 8 = .ok (.getfield 24, 3) := by decide +kernel
theorem dX0_addOut_11 : decode cX0_addOut 11 = .ok (.iload_n 1, 1) := by decide +kernel
theorem dX0_addOut_12 : decode cX0_addOut 12 = .ok (.bipush 6, 2) := by decide +kernel
theorem dX0_addOut_14 : decode cX0_addOut 14 = .ok (.imul, 1) := by decide +kernel
theorem dX0_addOut_15 : decode cX0_addOut 15 = .ok (.iload_n 3, 1) := by decide +kernel
theorem dX0_addOut_16 : decode cX0_addOut 16 = .ok (.iadd, 1) := by decide +kernel
theorem dX0_addOut_17 : decode cX0_addOut 17 = .ok (.iload_n 2, 1) := by decide +kernel
theorem dX0_addOut_18 : decode cX0_addOut 18 = .ok (.iastore, 1) := by decide +kernel
theorem dX0_addOut_19 : decode cX0_addOut 19 = .ok (.aload_n 0, 1) := by decide +kernel
theorem dX0_addOut_20 : decode cX0_addOut 20 = .ok (.getfield 27, 3) := by decide +kernel
theorem dX0_addOut_23 : decode cX0_addOut 23 = .ok (.iload_n 1, 1) := by decide +kernel
theorem dX0_addOut_24 : decode cX0_addOut 24 = .ok (.iload_n 3, 1) := by decide +kernel
theorem dX0_addOut_25 : decode cX0_addOut 25 = .ok (.iconst 1, 1) := by decide +kernel
theorem dX0_addOut_26 : decode cX0_addOut 26 = .ok (.iadd, 1) := by decide +kernel
theorem dX0_addOut_27 : decode cX0_addOut 27 = .ok (.iastore, 1) := by decide +kernel
theorem dX0_addOut_28 : decode cX0_addOut 28 = .ok (.iload_n 3, 1) := by decide +kernel
theorem dX0_addOut_29 : decode cX0_addOut 29 = .ok (.ireturn, 1) := by decide +kernel
theorem dX0_addPattern_0 : decode cX0_addPattern 0 = .ok (.aload_n 0, 1) := by decide +kernel
theorem dX0_addPattern_1 : decode cX0_addPattern 1 = .ok (.getfield 30, 3) := by decide +kernel
theorem dX0_addPattern_4 : decode cX0_addPattern 4 = .ok (.aload_n 0, 1) := by decide +kernel
theorem dX0_addPattern_5 : decode cX0_addPattern 5 = .ok (.getfield 51, 3) := by decide +kernel
theorem dX0_addPattern_8 : decode cX0_addPattern 8 = .ok (.iload_n 1, 1) := by decide +kernel
theorem dX0_addPattern_9 : decode cX0_addPattern 9 = .ok (.iastore, 1) := by decide +kernel
theorem dX0_addPattern_10 : decode cX0_addPattern 10 = .ok (.aload_n 0, 1) := by decide +kernel
theorem dX0_addPattern_11 : decode cX0_addPattern 11 = .ok (.dup, 1) := by decide +kernel
theorem dX0_addPattern_12 : decode cX0_addPattern 12 = .ok (.getfield 51, 3) := by decide +kernel
theorem dX0_addPattern_15 : decode cX0_addPattern 15 = .ok (.iconst 1, 1) := by decide +kernel
theorem dX0_addPattern_16 : decode cX0_addPattern 16 = .ok (.iadd, 1) := by decide +kernel
theorem dX0_addPattern_17 : decode cX0_addPattern 17 = .ok (.putfield 51, 3) := by decide +kernel
theorem dX0_addPattern_20 : decode cX0_addPattern 20 = .ok (.aload_n 0, 1) := by decide +kernel
theorem dX0_addPattern_21 : decode cX0_addPattern 21 = .ok (.getfield 51, 3) := by decide +kernel
theorem dX0_addPattern_24 : decode cX0_addPattern 24 = .ok (.ireturn, 1) := by decide +kernel
theorem dX0_settleBy_0 : decode cX0_settleBy 0 = .ok (.aload_n 0, 1) := by decide +kernel
theorem dX0_settleBy_1 : decode cX0_settleBy 1 = .ok (.getfield 41, 3) := by decide +kernel
theorem dX0_settleBy_4 : decode cX0_settleBy 4 = .ok (.istore_n 2, 1) := by decide +kernel
theorem dX0_settleBy_5 : decode cX0_settleBy 5 = .ok (.aload_n 1, 1) := by decide +kernel
theorem dX0_settleBy_6 : decode cX0_settleBy 6 = .ok (.iload_n 2, 1) := by decide +kernel
theorem dX0_settleBy_7 : decode cX0_settleBy 7 = .ok (.invokevirtual 114, 3) := by decide +kernel
theorem dX0_settleBy_10 : decode cX0_settleBy 10 = .ok (.aload_n 0, 1) := by decide +kernel
theorem dX0_settleBy_11 : decode cX0_settleBy 11 = .ok (.aload_n 0, 1) := by decide +kernel
theorem dX0_settleBy_12 : decode cX0_settleBy 12 = .ok (.getfield 37, 3) := by decide +kernel
theorem dX0_settleBy_15 : decode cX0_settleBy 15 = .ok (.iconst 1, 1) := by decide +kernel
theorem dX0_settleBy_16 : decode cX0_settleBy 16 = .ok (.iadd, 1) := by decide +kernel
theorem dX0_settleBy_17 : decode cX0_settleBy 17 = .ok (.putfield 41, 3) := by decide +kernel
theorem dX0_settleBy_20 : decode cX0_settleBy 20 = .ok (.aload_n 0, 1) := by decide +kernel
theorem dX0_settleBy_21 : decode cX0_settleBy 21 = .ok (.getfield 37, 3) := by decide +kernel
theorem dX0_settleBy_24 : decode cX0_settleBy 24 = .ok (.iconst 1, 1) := by decide +kernel
theorem dX0_settleBy_25 : decode cX0_settleBy 25 = .ok (.iadd, 1) := by decide +kernel
theorem dX0_settleBy_26 : decode cX0_settleBy 26 = .ok (.istore_n 3, 1) := by decide +kernel
theorem dX0_settleBy_27 : decode cX0_settleBy 27 = .ok (.iload_n 3, 1) := by decide +kernel
theorem dX0_settleBy_28 : decode cX0_settleBy 28 = .ok (.iload_n 2, 1) := by decide +kernel
theorem dX0_settleBy_29 : decode cX0_settleBy 29 = .ok (.if_icmp .ge 43, 3) := by decide +kernel
theorem dX0_settleBy_32 : decode cX0_settleBy 32 = .ok (.aload_n 1, 1) := by decide +kernel
theorem dX0_settleBy_33 : decode cX0_settleBy 33 = .ok (.getfield 117, 3) := by decide +kernel
theorem dX0_settleBy_36 : decode cX0_settleBy 36 = .ok (.iload_n 3, 1) := by decide +kernel
theorem dX0_settleBy_37 : decode cX0_settleBy 37 = .ok (.iaload, 1) := by decide +kernel
theorem dX0_settleBy_38 : decode cX0_settleBy 38 = .ok (.ifCond .ne 28, 3) := by decide +kernel
theorem dX0_settleBy_41 : decode cX0_settleBy 41 = .ok (.aload_n 0, 1) := by decide +kernel
theorem dX0_settleBy_42 : decode cX0_settleBy 42 = .ok (.aload_n 1, 1) := by decide +kernel
theorem dX0_settleBy_43 : decode cX0_settleBy 43 = .ok (.aload_n 1, 1) := by decide +kernel
theorem dX0_settleBy_44 : decode cX0_settleBy 44 = .ok (.getfield 120, 3) := by decide +kernel
theorem dX0_settleBy_47 : decode cX0_settleBy 47 = .ok (.iload_n 3, 1) := by decide +kernel
theorem dX0_settleBy_48 : decode cX0_settleBy 48 = .ok (.iaload, 1) := by decide +kernel
theorem dX0_settleBy_49 : decode cX0_settleBy 49 = .ok (.invokevirtual 123, 3) := by decide +kernel
theorem dX0_settleBy_52 : decode cX0_settleBy 52 = .ok (.aload_n 1, 1) := by decide +kernel
theorem dX0_settleBy_53 : decode cX0_settleBy 53 = .ok (.aload_n 1, 1) := by decide +kernel
theorem dX0_settleBy_54 : decode cX0_settleBy 54 = .ok (.getfield 126, 3) := by decide +kernel
theorem dX0_settleBy_57 : decode cX0_settleBy 57 = .ok (.iload_n 3, 1) := by decide +kernel
theorem dX0_settleBy_58 : decode cX0_settleBy 58 = .ok (.iaload, 1) := by decide +kernel
theorem dX0_settleBy_59 : decode cX0_settleBy 59 = .ok (.invokevirtual 123, 3) := by decide +kernel
theorem dX0_settleBy_62 : decode cX0_settleBy 62 = .ok (.invokevirtual 93, 3) := by decide +kernel
theorem dX0_settleBy_65 : decode cX0_settleBy 65 = .ok (.pop, 1) := by decide +kernel
theorem dX0_settleBy_66 : decode cX0_settleBy 66 = .ok (.iinc 3 1, 3) := by decide +kernel
theorem dX0_settleBy_69 : decode cX0_settleBy 69 = .ok (.goto (-42), 3) := by decide +kernel
theorem dX0_settleBy_72 : decode cX0_settleBy 72 = .ok (.iconst 0, 1) := by decide +kernel
theorem dX0_settleBy_73 : decode cX0_settleBy 73 = .ok (.istore_n 3, 1) := by decide +kernel
theorem dX0_settleBy_74 : decode cX0_settleBy 74 = .ok (.iload_n 3, 1) := by decide +kernel
theorem dX0_settleBy_75 : decode cX0_settleBy 75 = .ok (.iconst 2, 1) := by decide +kernel
theorem dX0_settleBy_76 : decode cX0_settleBy 76 = .ok (.if_icmp .ge 15, 3) := by decide +kernel
theorem dX0_settleBy_79 : decode cX0_settleBy 79 = .ok (.aload_n 0, 1) := by decide +kernel
theorem dX0_settleBy_80 : decode cX0_settleBy 80 = .ok (.iload_n 3, 1) := by decide +kernel
theorem dX0_settleBy_81 : decode cX0_settleBy 81 = .ok (.aload_n 1, 1) := by decide +kernel
theorem dX0_settleBy_82 : decode cX0_settleBy 82 = .ok (.invokevirtual 129, 3) := by decide +kernel
theorem dX0_settleBy_85 : decode cX0_settleBy 85 = .ok (.iinc 3 1, 3) := by decide +kernel
theorem dX0_settleBy_88 : decode cX0_settleBy 88 = .ok (.goto (-14), 3) := by decide +kernel
theorem dX0_settleBy_91 : decode cX0_settleBy 91 = .ok (.iload_n 2, 1) := by decide +kernel
theorem dX0_settleBy_92 : decode cX0_settleBy 92 = .ok (.aload_n 0, 1) := by decide +kernel
theorem dX0_settleBy_93 : decode cX0_settleBy 93 = .ok (.getfield 41, 3) := by decide +kernel
theorem dX0_settleBy_96 : decode cX0_settleBy 96 = .ok (.isub, 1) := by decide +kernel
theorem dX0_settleBy_97 : decode cX0_settleBy 97 = .ok (.ireturn, 1) := by decide +kernel
theorem dX0_settleOuts_0 : decode cX0_settleOuts 0 = .ok (.iconst 0, 1) := by decide +kernel
theorem dX0_settleOuts_1 : decode cX0_settleOuts 1 = .ok (.istore_n 3, 1) := by decide +kernel
theorem dX0_settleOuts_2 : decode cX0_settleOuts 2 = .ok (.iload_n 3, 1) := by decide +kernel
theorem dX0_settleOuts_3 : decode cX0_settleOuts 3 = .ok (.aload_n 0, 1) := by decide +kernel
theorem dX0_settleOuts_4 : decode cX0_settleOuts 4 = .ok (.getfield 27, 3) := by decide +kernel
theorem dX0_settleOuts_7 : decode cX0_settleOuts 7 = .ok (.iload_n 1, 1) := by decide +kernel
theorem dX0_settleOuts_8 : decode cX0_settleOuts 8 = .ok (.iaload, 1) := by decide +kernel
theorem dX0_settleOuts_9 : decode cX0_settleOuts 9 = .ok (.if_icmp .ge 34, 3) := by decide +kernel
theorem dX0_settleOuts_12 : decode cX0_settleOuts 12 = .ok (.aload_n 0, 1) := by decide +kernel
theorem dX0_settleOuts_13 : decode cX0_settleOuts 13 = .ok (.getfield 24, 3) := by decide +kernel
theorem dX0_settleOuts_16 : decode cX0_settleOuts 16 = .ok (.iload_n 1, 1) := by decide +kernel
theorem dX0_settleOuts_17 : decode cX0_settleOuts 17 = .ok (.bipush 6, 2) := by decide +kernel
theorem dX0_settleOuts_19 : decode cX0_settleOuts 19 = .ok (.imul, 1) := by decide +kernel
theorem dX0_settleOuts_20 : decode cX0_settleOuts 20 = .ok (.iload_n 3, 1) := by decide +kernel
theorem dX0_settleOuts_21 : decode cX0_settleOuts 21 = .ok (.iadd, 1) := by decide +kernel
theorem dX0_settleOuts_22 : decode cX0_settleOuts 22 = .ok (.aload_n 2, 1) := by decide +kernel
theorem dX0_settleOuts_23 : decode cX0_settleOuts 23 = .ok (.aload_n 2, 1) := by decide +kernel
theorem dX0_settleOuts_24 : decode cX0_settleOuts 24 = .ok (.aload_n 0, 1) := by decide +kernel
theorem dX0_settleOuts_25 : decode cX0_settleOuts 25 = .ok (.iload_n 1, 1) := by decide +kernel
theorem dX0_settleOuts_26 : decode cX0_settleOuts 26 = .ok (.iload_n 3, 1) := by decide +kernel
theorem dX0_settleOuts_27 : decode cX0_settleOuts 27 = .ok (.invokevirtual 60, 3) := by decide +kernel
theorem dX0_settleOuts_30 : decode cX0_settleOuts 30 = .ok (.invokevirtual 68, 3) := by decide +kernel
theorem dX0_settleOuts_33 : decode cX0_settleOuts 33 = .ok (.invokevirtual 123, 3) := by decide +kernel
theorem dX0_settleOuts_36 : decode cX0_settleOuts 36 = .ok (.iastore, 1) := by decide +kernel
theorem dX0_settleOuts_37 : decode cX0_settleOuts 37 = .ok (.iinc 3 1, 3) := by decide +kernel
theorem dX0_settleOuts_40 : decode cX0_settleOuts 40 = .ok (.goto (-38), 3) := by decide +kernel
theorem dX0_settleOuts_43 : decode cX0_settleOuts 43 = .ok (.return_, 1) := by decide +kernel
theorem dX0_digestCounts_0 : decode cX0_digestCounts 0 = .ok (.iconst 0, 1) := by decide +kernel
theorem dX0_digestCounts_1 : decode cX0_digestCounts 1 = .ok (.istore_n 3, 1) := by decide +kernel
theorem dX0_digestCounts_2 : decode cX0_digestCounts 2 = .ok (.iload_n 3, 1) := by decide +kernel
theorem dX0_digestCounts_3 : decode cX0_digestCounts 3 = .ok (.iconst 4, 1) := by decide +kernel
theorem dX0_digestCounts_4 : decode cX0_digestCounts 4 = .ok (.if_icmp .gt 22, 3) := by decide +kernel
theorem dX0_digestCounts_7 : decode cX0_digestCounts 7 = .ok (.ldc2_w 133, 3) := by decide +kernel
theorem dX0_digestCounts_10 : decode cX0_digestCounts 10 = .ok (.lload_n 1, 1) := by decide +kernel
theorem dX0_digestCounts_11 : decode cX0_digestCounts 11 = .ok (.lmul, 1) := by decide +kernel
theorem dX0_digestCounts_12 : decode cX0_digestCounts 12 = .ok (.aload_n 0, 1) := by decide +kernel
theorem dX0_digestCounts_13 : decode cX0_digestCounts 13 = .ok (.iload_n 3, 1) := by decide +kernel
theorem dX0_digestCounts_14 : decode cX0_digestCounts 14 = .ok (.invokevirtual 135, 3) := by decide +kernel
theorem dX0_digestCounts_17 : decode cX0_digestCounts 17 = .ok (.i2l, 1) := by decide +kernel
theorem dX0_digestCounts_18 : decode cX0_digestCounts 18 = .ok (.ladd, 1) := by decide +kernel
theorem dX0_digestCounts_19 : decode cX0_digestCounts 19 = .ok (.lstore_n 1, 1) := by decide +kernel
theorem dX0_digestCounts_20 : decode cX0_digestCounts 20 = .ok (.iinc 3 1, 3) := by decide +kernel
theorem dX0_digestCounts_23 : decode cX0_digestCounts 23 = .ok (.goto (-21), 3) := by decide +kernel
theorem dX0_digestCounts_26 : decode cX0_digestCounts 26 = .ok (.lload_n 1, 1) := by decide +kernel
theorem dX0_digestCounts_27 : decode cX0_digestCounts 27 = .ok (.lreturn, 1) := by decide +kernel
theorem dX0_digestNode_0 : decode cX0_digestNode 0 = .ok (.aload_n 0, 1) := by decide +kernel
theorem dX0_digestNode_1 : decode cX0_digestNode 1 = .ok (.iload_n 3, 1) := by decide +kernel
theorem dX0_digestNode_2 : decode cX0_digestNode 2 = .ok (.invokevirtual 138, 3) := by decide +kernel
theorem dX0_digestNode_5 : decode cX0_digestNode 5 = .ok (.ifCond .eq 31, 3) := by decide +kernel
theorem dX0_digestNode_8 : decode cX0_digestNode 8 = .ok (.ldc2_w 133, 3) := by decide +kernel
theorem dX0_digestNode_11 : decode cX0_digestNode 11 = .ok (.lload_n 1, 1) := by decide +kernel
theorem dX0_digestNode_12 : decode cX0_digestNode 12 = .ok (.lmul, 1) := by decide +kernel
theorem dX0_digestNode_13 : decode cX0_digestNode 13 = .ok (.aload_n 0, 1) := by decide +kernel
theorem dX0_digestNode_14 : decode cX0_digestNode 14 = .ok (.getfield 9, 3) := by decide +kernel
theorem dX0_digestNode_17 : decode cX0_digestNode 17 = .ok (.iload_n 3, 1) := by decide +kernel
theorem dX0_digestNode_18 : decode cX0_digestNode 18 = .ok (.iaload, 1) := by decide +kernel
theorem dX0_digestNode_19 : decode cX0_digestNode 19 = .ok (.i2l, 1) := by decide +kernel
theorem dX0_digestNode_20 : decode cX0_digestNode 20 = .ok (.ladd, 1) := by decide +kernel
theorem dX0_digestNode_21 : decode cX0_digestNode 21 = .ok (.lstore_n 1, 1) := by decide +kernel
theorem dX0_digestNode_22 : decode cX0_digestNode 22 = .ok (.ldc2_w 133, 3) := by decide +kernel
theorem dX0_digestNode_25 : decode cX0_digestNode 25 = .ok (.lload_n 1, 1) := by decide +kernel
theorem dX0_digestNode_26 : decode cX0_digestNode 26 = .ok (.lmul, 1) := by decide +kernel
theorem dX0_digestNode_27 : decode cX0_digestNode 27 = .ok (.aload_n 0, 1) := by decide +kernel
theorem dX0_digestNode_28 : decode cX0_digestNode 28 = .ok (.getfield 15, 3) := by decide +kernel
theorem dX0_digestNode_31 : decode cX0_digestNode 31 = .ok (.iload_n 3, 1) := by decide +kernel
theorem dX0_digestNode_32 : decode cX0_digestNode 32 = .ok (.iaload, 1) := by decide +kernel
theorem dX0_digestNode_33 : decode cX0_digestNode 33 = .ok (.i2l, 1) := by decide +kernel
theorem dX0_digestNode_34 : decode cX0_digestNode 34 = .ok (.ladd, 1) := by decide +kernel
theorem dX0_digestNode_35 : decode cX0_digestNode 35 = .ok (.lstore_n 1, 1) := by decide +kernel
theorem dX0_digestNode_36 : decode cX0_digestNode 36 = .ok (.ldc2_w 133, 3) := by decide +kernel
theorem dX0_digestNode_39 : decode cX0_digestNode 39 = .ok (.lload_n 1, 1) := by decide +kernel
theorem dX0_digestNode_40 : decode cX0_digestNode 40 = .ok (.lmul, 1) := by decide +kernel
theorem dX0_digestNode_41 : decode cX0_digestNode 41 = .ok (.aload_n 0, 1) := by decide +kernel
theorem dX0_digestNode_42 : decode cX0_digestNode 42 = .ok (.getfield 18, 3) := by decide +kernel
theorem dX0_digestNode_45 : decode cX0_digestNode 45 = .ok (.iload_n 3, 1) := by decide +kernel
theorem dX0_digestNode_46 : decode cX0_digestNode 46 = .ok (.iaload, 1) := by decide +kernel
theorem dX0_digestNode_47 : decode cX0_digestNode 47 = .ok (.i2l, 1) := by decide +kernel
theorem dX0_digestNode_48 : decode cX0_digestNode 48 = .ok (.ladd, 1) := by decide +kernel
theorem dX0_digestNode_49 : decode cX0_digestNode 49 = .ok (.lstore_n 1, 1) := by decide +kernel
theorem dX0_digestNode_50 : decode cX0_digestNode 50 = .ok (.ldc2_w 133, 3) := by decide +kernel
theorem dX0_digestNode_53 : decode cX0_digestNode 53 = .ok (.lload_n 1, 1) := by decide +kernel
theorem dX0_digestNode_54 : decode cX0_digestNode 54 = .ok (.lmul, 1) := by decide +kernel
theorem dX0_digestNode_55 : decode cX0_digestNode 55 = .ok (.aload_n 0, 1) := by decide +kernel
theorem dX0_digestNode_56 : decode cX0_digestNode 56 = .ok (.iload_n 3, 1) := by decide +kernel
theorem dX0_digestNode_57 : decode cX0_digestNode 57 = .ok (.invokevirtual 141, 3) := by decide +kernel
theorem dX0_digestNode_60 : decode cX0_digestNode 60 = .ok (.i2l, 1) := by decide +kernel
theorem dX0_digestNode_61 : decode cX0_digestNode 61 = .ok (.ladd, 1) := by decide +kernel
theorem dX0_digestNode_62 : decode cX0_digestNode 62 = .ok (.lreturn, 1) := by decide +kernel
theorem dX0_digestOuts_0 : decode cX0_digestOuts 0 = .ok (.iconst 0, 1) := by decide +kernel
theorem dX0_digestOuts_1 : decode cX0_digestOuts 1 = .ok (.istore_n 3, 1) := by decide +kernel
theorem dX0_digestOuts_2 : decode cX0_digestOuts 2 = .ok (.iload_n 3, 1) := by decide +kernel
theorem dX0_digestOuts_3 : decode cX0_digestOuts 3 = .ok (.iconst 2, 1) := by decide +kernel
theorem dX0_digestOuts_4 : decode cX0_digestOuts 4 = .ok (.if_icmp .ge 44, 3) := by decide +kernel
theorem dX0_digestOuts_7 : decode cX0_digestOuts 7 = .ok (.iconst 0, 1) := by decide +kernel
theorem dX0_digestOuts_8 : decode cX0_digestOuts 8 = .ok (.istore 4, 2) := by decide +kernel
theorem dX0_digestOuts_10 : decode cX0_digestOuts 10 = .ok (.iload 4, 2) := by decide +kernel
theorem dX0_digestOuts_12 : decode cX0_digestOuts 12 = .ok (.aload_n 0, 1) := by decide +kernel
theorem dX0_digestOuts_13 : decode cX0_digestOuts 13 = .ok (.getfield 27, 3) := by decide +kernel
theorem dX0_digestOuts_16 : decode cX0_digestOuts 16 = .ok (.iload_n 3, 1) := by decide +kernel
theorem dX0_digestOuts_17 : decode cX0_digestOuts 17 = .ok (.iaload, 1) := by decide +kernel
theorem dX0_digestOuts_18 : decode cX0_digestOuts 18 = .ok (.if_icmp .ge 24, 3) := by decide +kernel
theorem dX0_digestOuts_21 : decode cX0_digestOuts 21 = .ok (.ldc2_w 133, 3) := by decide +kernel
theorem dX0_digestOuts_24 : decode cX0_digestOuts 24 = .ok (.lload_n 1, 1) := by decide +kernel
theorem dX0_digestOuts_25 : decode cX0_digestOuts 25 = .ok (.lmul, 1) := by decide +kernel
theorem dX0_digestOuts_26 : decode cX0_digestOuts 26 = .ok (.aload_n 0, 1) := by decide +kernel
theorem dX0_digestOuts_27 : decode cX0_digestOuts 27 = .ok (.iload_n 3, 1) := by decide +kernel
theorem dX0_digestOuts_28 : decode cX0_digestOuts 28 = .ok (.iload 4, 2) := by decide +kernel
theorem dX0_digestOuts_30 : decode cX0_digestOuts 30 = .ok (.invokevirtual 60, 3) := by decide +kernel
theorem dX0_digestOuts_33 : decode cX0_digestOuts 33 = .ok (.i2l, 1) := by decide +kernel
theorem dX0_digestOuts_34 : decode cX0_digestOuts 34 = .ok (.ladd, 1) := by decide +kernel
theorem dX0_digestOuts_35 : decode cX0_digestOuts 35 = .ok (.lstore_n 1, 1) := by decide +kernel
theorem dX0_digestOuts_36 : decode cX0_digestOuts 36 = .ok (.iinc 4 1, 3) := by decide +kernel
theorem dX0_digestOuts_39 : decode cX0_digestOuts 39 = .ok (.goto (-29), 3) := by decide +kernel
theorem dX0_digestOuts_42 : decode cX0_digestOuts 42 = .ok (.iinc 3 1, 3) := by decide +kernel
theorem dX0_digestOuts_45 : decode cX0_digestOuts 45 = .ok (.goto (-43), 3) := by decide +kernel
theorem dX0_digestOuts_48 : decode cX0_digestOuts 48 = .ok (.lload_n 1, 1) := by decide +kernel
theorem dX0_digestOuts_49 : decode cX0_digestOuts 49 = .ok (.lreturn, 1) := by decide +kernel
theorem dX1_init_0 : decode cX1_init 0 = .ok (.aload_n 0, 1) := by decide +kernel
theorem dX1_init_1 : decode cX1_init 1 = .ok (.invokespecial 3, 3) := by decide +kernel
theorem dX1_init_4 : decode cX1_init 4 = .ok (.aload_n 0, 1) := by decide +kernel
theorem dX1_init_5 : decode cX1_init 5 = .ok (.iconst 5, 1) := by decide +kernel
theorem dX1_init_6 : decode cX1_init 6 = .ok (.anewarray 9, 3) := by decide +kernel
theorem dX1_init_9 : decode cX1_init 9 = .ok (.putfield 11, 3) := by decide +kernel
theorem dX1_init_12 : decode cX1_init 12 = .ok (.iconst 0, 1) := by decide +kernel
theorem dX1_init_13 : decode cX1_init 13 = .ok (.istore_n 1, 1) := by decide +kernel
theorem dX1_init_14 : decode cX1_init 14 = .ok (.iload_n 1, 1) := by decide +kernel
theorem dX1_init_15 : decode cX1_init 15 = .ok (.iconst 5, 1) := by decide +kernel
theorem dX1_init_16 : decode cX1_init 16 = .ok (.if_icmp .ge 22, 3) := by decide +kernel
theorem dX1_init_19 : decode cX1_init 19 = .ok (.aload_n 0, 1) := by decide +kernel
theorem dX1_init_20 : decode cX1_init 20 = .ok (.getfield 11, 3) := by decide +kernel
theorem dX1_init_23 : decode cX1_init 23 = .ok (.iload_n 1, 1) := by decide +kernel
theorem dX1_init_24 : decode cX1_init 24 = .ok (.new 9, 3) := by decide +kernel
theorem dX1_init_27 : decode cX1_init 27 = .ok (.dup, 1) := by decide +kernel
theorem dX1_init_28 : decode cX1_init 28 = .ok (.invokespecial 17, 3) := by decide +kernel
theorem dX1_init_31 : decode cX1_init 31 = .ok (.aastore, 1) := by decide +kernel
theorem dX1_init_32 : decode cX1_init 32 = .ok (.iinc 1 1, 3) := by decide +kernel
theorem dX1_init_35 : decode cX1_init 35 = .ok (.goto (-21), 3) := by decide +kernel
theorem dX1_init_38 : decode cX1_init 38 = .ok (.return_, 1) := by decide +kernel
theorem dX1_keep_0 : decode cX1_keep 0 = .ok (.aload_n 0, 1) := by decide +kernel
theorem dX1_keep_1 : decode cX1_keep 1 = .ok (.aload_n 0, 1) := by decide +kernel
theorem dX1_keep_2 : decode cX1_keep 2 = .ok (.getfield 18, 3) := by decide +kernel
theorem dX1_keep_5 : decode cX1_keep 5 = .ok (.iconst 4, 1) := by decide +kernel
theorem dX1_keep_6 : decode cX1_keep 6 = .ok (.if_icmp .ne 7, 3) := by decide +kernel
theorem dX1_keep_9 : decode cX1_keep 9 = .ok (.iconst 0, 1) := by decide +kernel
theorem dX1_keep_10 : decode cX1_keep 10 = .ok (.goto 9, 3) := by decide +kernel
theorem dX1_keep_13 : decode cX1_keep 13 = .ok (.aload_n 0, 1) := by decide +kernel
theorem dX1_keep_14 : decode cX1_keep 14 = .ok (.getfield 18, 3) := by decide +kernel
theorem dX1_keep_17 : decode cX1_keep 17 = .ok (.iconst 1, 1) := by decide +kernel
theorem dX1_keep_18 : decode cX1_keep 18 = .ok (.iadd, 1) := by decide +kernel
theorem dX1_keep_19 : decode cX1_keep 19 = .ok (.putfield 18, 3) := by decide +kernel
theorem dX1_keep_22 : decode cX1_keep 22 = .ok (.aload_n 0, 1) := by decide +kernel
theorem dX1_keep_23 : decode cX1_keep 23 = .ok (.getfield 11, 3) := by decide +kernel
theorem dX1_keep_26 : decode cX1_keep 26 = .ok (.aload_n 0, 1) := by decide +kernel
theorem dX1_keep_27 : decode cX1_keep 27 = .ok (.getfield 18, 3) := by decide +kernel
theorem dX1_keep_30 : decode cX1_keep 30 = .ok (.aaload, 1) := by decide +kernel
theorem dX1_keep_31 : decode cX1_keep 31 = .ok (.aload_n 1, 1) := by decide +kernel
theorem dX1_keep_32 : decode cX1_keep 32 = .ok (.invokevirtual 22, 3) := by decide +kernel
theorem dX1_keep_35 : decode cX1_keep 35 = .ok (.aload_n 0, 1) := by decide +kernel
theorem dX1_keep_36 : decode cX1_keep 36 = .ok (.aload_n 0, 1) := by decide +kernel
theorem dX1_keep_37 : decode cX1_keep 37 = .ok (.getfield 26, 3) := by decide +kernel
theorem dX1_keep_40 : decode cX1_keep 40 = .ok (.iconst 1, 1) := by decide +kernel
theorem dX1_keep_41 : decode cX1_keep 41 = .ok (.iadd, 1) := by decide +kernel
theorem dX1_keep_42 : decode cX1_keep 42 = .ok (.iconst 5, 1) := by decide +kernel
theorem dX1_keep_43 : decode cX1_keep 43 = .ok (.invokestatic 29, 3) := by decide +kernel
theorem dX1_keep_46 : decode cX1_keep 46 = .ok (.putfield 26, 3) := by decide +kernel
theorem dX1_keep_49 : decode cX1_keep 49 = .ok (.return_, 1) := by decide +kernel
theorem dX1_restore_0 : decode cX1_restore 0 = .ok (.aload_n 1, 1) := by decide +kernel
theorem dX1_restore_1 : decode cX1_restore 1 = .ok (.aload_n 0, 1) := by decide +kernel
theorem dX1_restore_2 : decode cX1_restore 2 = .ok (.getfield 11, 3) := by decide +kernel
theorem dX1_restore_5 : decode cX1_restore 5 = .ok (.aload_n 0, 1) := by decide +kernel
theorem dX1_restore_6 : decode cX1_restore 6 = .ok (.getfield 18, 3) := by decide +kernel
theorem dX1_restore_9 : decode cX1_restore 9 = .ok (.aaload, 1) := by decide +kernel
theorem dX1_restore_10 : decode cX1_restore 10 = .ok (.invokevirtual 22, 3) := by decide +kernel
theorem dX1_restore_13 : decode cX1_restore 13 = .ok (.aload_n 0, 1) := by decide +kernel
theorem dX1_restore_14 : decode cX1_restore 14 = .ok (.aload_n 0, 1) := by decide +kernel
theorem dX1_restore_15 : decode cX1_restore 15 = .ok (.getfield 18, 3) := by decide +kernel
theorem dX1_restore_18 : decode cX1_restore 18 = .ok (.ifCond .ne 7, 3) := by decide +kernel
theorem dX1_restore_21 : decode cX1_restore 21 = .ok (.iconst 4, 1) := by decide +kernel
theorem dX1_restore_22 : decode cX1_restore 22 = .ok (.goto 9, 3) := by decide +kernel
theorem dX1_restore_25 : decode cX1_restore 25 = .ok (.aload_n 0, 1) := by decide +kernel
theorem dX1_restore_26 : decode cX1_restore 26 = .ok (.getfield 18, 3) := by decide +kernel
theorem dX1_restore_29 : decode cX1_restore 29 = .ok (.iconst 1, 1) := by decide +kernel
theorem dX1_restore_30 : decode cX1_restore 30 = .ok (.isub, 1) := by decide +kernel
theorem dX1_restore_31 : decode cX1_restore 31 = .ok (.putfield 18, 3) := by decide +kernel
theorem dX1_restore_34 : decode cX1_restore 34 = .ok (.aload_n 0, 1) := by decide +kernel
theorem dX1_restore_35 : decode cX1_restore 35 = .ok (.dup, 1) := by decide +kernel
theorem dX1_restore_36 : decode cX1_restore 36 = .ok (.getfield 26, 3) := by decide +kernel
theorem dX1_restore_39 : decode cX1_restore 39 = .ok (.iconst 1, 1) := by decide +kernel
theorem dX1_restore_40 : decode cX1_restore 40 = .ok (.isub, 1) := by decide +kernel
theorem dX1_restore_41 : decode cX1_restore 41 = .ok (.putfield 26, 3) := by decide +kernel
theorem dX1_restore_44 : decode cX1_restore 44 = .ok (.return_, 1) := by decide +kernel
theorem dX2_init_0 : decode cX2_init 0 = .ok (.aload_n 0, 1) := by decide +kernel
theorem dX2_init_1 : decode cX2_init 1 = .ok (.invokespecial 3, 3) := by decide +kernel
theorem dX2_init_4 : decode cX2_init 4 = .ok (.aload_n 0, 1) := by decide +kernel
theorem dX2_init_5 : decode cX2_init 5 = .ok (.sipush 150, 3) := by decide +kernel
theorem dX2_init_8 : decode cX2_init 8 = .ok (.newarray .int, 2) := by decide +kernel
theorem dX2_init_10 : decode cX2_init 10 = .ok (.putfield 9, 3) := by decide +kernel
theorem dX2_init_13 : decode cX2_init 13 = .ok (.aload_n 0, 1) := by decide +kernel
theorem dX2_init_14 : decode cX2_init 14 = .ok (.bipush 50, 2) := by decide +kernel
theorem dX2_init_16 : decode cX2_init 16 = .ok (.newarray .int, 2) := by decide +kernel
theorem dX2_init_18 : decode cX2_init 18 = .ok (.putfield 15, 3) := by decide +kernel
theorem dX2_init_21 : decode cX2_init 21 = .ok (.aload_n 0, 1) := by decide +kernel
theorem dX2_init_22 : decode cX2_init 22 = .ok (.sipush 150, 3) := by decide +kernel
theorem dX2_init_25 : decode cX2_init 25 = .ok (.newarray .int, 2) := by decide +kernel
theorem dX2_init_27 : decode cX2_init 27 = .ok (.putfield 18, 3) := by decide +kernel
theorem dX2_init_30 : decode cX2_init 30 = .ok (.return_, 1) := by decide +kernel
theorem dX2_append_0 : decode cX2_append 0 = .ok (.aload_n 0, 1) := by decide +kernel
theorem dX2_append_1 : decode cX2_append 1 = .ok (.getfield 9, 3) := by decide +kernel
theorem dX2_append_4 : decode cX2_append 4 = .ok (.aload_n 0, 1) := by decide +kernel
theorem dX2_append_5 : decode cX2_append 5 = .ok (.getfield 21, 3) := by decide +kernel
theorem dX2_append_8 : decode cX2_append 8 = .ok (.iload_n 1, 1) := by decide +kernel
theorem dX2_append_9 : decode cX2_append 9 = .ok (.iastore, 1) := by decide +kernel
theorem dX2_append_10 : decode cX2_append 10 = .ok (.aload_n 0, 1) := by decide +kernel
theorem dX2_append_11 : decode cX2_append 11 = .ok (.dup, 1) := by decide +kernel
theorem dX2_append_12 : decode cX2_append 12 = .ok (.getfield 21, 3) := by decide +kernel
theorem dX2_append_15 : decode cX2_append 15 = .ok (.iconst 1, 1) := by decide +kernel
theorem dX2_append_16 : decode cX2_append 16 = .ok (.iadd, 1) := by decide +kernel
theorem dX2_append_17 : decode cX2_append 17 = .ok (.putfield 21, 3) := by decide +kernel
theorem dX2_append_20 : decode cX2_append 20 = .ok (.aload_n 0, 1) := by decide +kernel
theorem dX2_append_21 : decode cX2_append 21 = .ok (.getfield 21, 3) := by decide +kernel
theorem dX2_append_24 : decode cX2_append 24 = .ok (.ireturn, 1) := by decide +kernel
theorem dX2_numberOf_0 : decode cX2_numberOf 0 = .ok (.aload_n 0, 1) := by decide +kernel
theorem dX2_numberOf_1 : decode cX2_numberOf 1 = .ok (.getfield 18, 3) := by decide +kernel
theorem dX2_numberOf_4 : decode cX2_numberOf 4 = .ok (.iload_n 1, 1) := by decide +kernel
theorem dX2_numberOf_5 : decode cX2_numberOf 5 = .ok (.iconst 3, 1) := by decide +kernel
theorem dX2_numberOf_6 : decode cX2_numberOf 6 = .ok (.imul, 1) := by decide +kernel
theorem dX2_numberOf_7 : decode cX2_numberOf 7 = .ok (.iload_n 2, 1) := by decide +kernel
theorem dX2_numberOf_8 : decode cX2_numberOf 8 = .ok (.iadd, 1) := by decide +kernel
theorem dX2_numberOf_9 : decode cX2_numberOf 9 = .ok (.iaload, 1) := by decide +kernel
theorem dX2_numberOf_10 : decode cX2_numberOf 10 = .ok (.ireturn, 1) := by decide +kernel
theorem dX2_readFault_0 : decode cX2_readFault 0 = .ok (.aload_n 0, 1) := by decide +kernel
theorem dX2_readFault_1 : decode cX2_readFault 1 = .ok (.iconst 0, 1) := by decide +kernel
theorem dX2_readFault_2 : decode cX2_readFault 2 = .ok (.putfield 25, 3) := by decide +kernel
theorem dX2_readFault_5 : decode cX2_readFault 5 = .ok (.aload_n 0, 1) := by decide +kernel
theorem dX2_readFault_6 : decode cX2_readFault 6 = .ok (.iconst (-1), 1) := by decide +kernel
theorem dX2_readFault_7 : decode cX2_readFault 7 = .ok (.putfield 28, 3) := by decide +kernel
theorem dX2_readFault_10 : decode cX2_readFault 10 = .ok (.iconst 0, 1) := by decide +kernel
theorem dX2_readFault_11 : decode cX2_readFault 11 = .ok (.istore_n 1, 1) := by decide +kernel
theorem dX2_readFault_12 : decode cX2_readFault 12 = .ok (.iload_n 1, 1) := by decide +kernel
theorem dX2_readFault_13 : decode cX2_readFault 13 = .ok (.aload_n 0, 1) := by decide +kernel
theorem dX2_readFault_14 : decode cX2_readFault 14 = .ok (.getfield 21, 3) := by decide +kernel
theorem dX2_readFault_17 : decode cX2_readFault 17 = .ok (.if_icmp .ge 24, 3) := by decide +kernel
theorem dX2_readFault_20 : decode cX2_readFault 20 = .ok (.aload_n 0, 1) := by decide +kernel
theorem dX2_readFault_21 : decode cX2_readFault 21 = .ok (.aload_n 0, 1) := by decide +kernel
theorem dX2_readFault_22 : decode cX2_readFault 22 = .ok (.getfield 9, 3) := by decide +kernel
theorem dX2_readFault_25 : decode cX2_readFault 25 = .ok (.iload_n 1, 1) := by decide +kernel
theorem dX2_readFault_26 : decode cX2_readFault 26 = .ok (.iaload, 1) := by decide +kernel
theorem dX2_readFault_27 : decode cX2_readFault 27 = .ok (.invokevirtual 31, 3) := by decide +kernel
theorem dX2_readFault_30 : decode cX2_readFault 30 = .ok (.ifCond .ne 5, 3) := by decide +kernel
theorem dX2_readFault_33 : decode cX2_readFault 33 = .ok (.iload_n 1, 1) := by decide +kernel
theorem dX2_readFault_34 : decode cX2_readFault 34 = .ok (.ireturn, 1) := by decide +kernel
theorem dX2_readFault_35 : decode cX2_readFault 35 = .ok (.iinc 1 1, 3) := by decide +kernel
theorem dX2_readFault_38 : decode cX2_readFault 38 = .ok (.goto (-26), 3) := by decide +kernel
theorem dX2_readFault_41 : decode cX2_readFault 41 = .ok (.aload_n 0, 1) := by decide +kernel
theorem dX2_readFault_42 : decode cX2_readFault 42 = .ok (.getfield 28, 3) := by decide +kernel
theorem dX2_readFault_45 : decode cX2_readFault 45 = .ok (.iconst (-1), 1) := by decide +kernel
theorem dX2_readFault_46 : decode cX2_readFault 46 = .ok (.if_icmp .ne 14, 3) := by decide +kernel
theorem dX2_readFault_49 : decode cX2_readFault 49 = .ok (.aload_n 0, 1) := by decide +kernel
theorem dX2_readFault_50 : decode cX2_readFault 50 = .ok (.getfield 25, 3) := by decide +kernel
theorem dX2_readFault_53 : decode cX2_readFault 53 = .ok (.ifCond .le 7, 3) := by decide +kernel
theorem dX2_readFault_56 : decode cX2_readFault 56 = .ok (.iconst (-1), 1) := by decide +kernel
theorem dX2_readFault_57 : decode cX2_readFault 57 = .ok (.goto 7, 3) := by decide +kernel
theorem dX2_readFault_60 : decode cX2_readFault 60 = .ok (.aload_n 0, 1) := by decide +kernel
theorem dX2_readFault_61 : decode cX2_readFault 61 = .ok (.getfield 21, 3) := by decide +kernel
theorem dX2_readFault_64 : decode cX2_readFault 64 = .ok (.ireturn, 1) := by decide +kernel
theorem dX2_takes_0 : decode cX2_takes 0 = .ok (.iload_n 1, 1) := by decide +kernel
theorem dX2_takes_1 : decode cX2_takes 1 = .ok (.bipush 32, 2) := by decide +kernel
theorem dX2_takes_3 : decode cX2_takes 3 = .ok (.if_icmp .ne 10, 3) := by decide +kernel
theorem dX2_takes_6 : decode cX2_takes 6 = .ok (.aload_n 0, 1) := by decide +kernel
theorem dX2_takes_7 : decode cX2_takes 7 = .ok (.iconst 0, 1) := by decide +kernel
theorem dX2_takes_8 : decode cX2_takes 8 = .ok (.putfield 35, 3) := by decide +kernel
theorem dX2_takes_11 : decode cX2_takes 11 = .ok (.iconst 1, 1) := by decide +kernel
theorem dX2_takes_12 : decode cX2_takes 12 = .ok (.ireturn, 1) := by decide +kernel
theorem dX2_takes_13 : decode cX2_takes 13 = .ok (.aload_n 0, 1) := by decide +kernel
theorem dX2_takes_14 : decode cX2_takes 14 = .ok (.getfield 28, 3) := by decide +kernel
theorem dX2_takes_17 : decode cX2_takes 17 = .ok (.iconst (-1), 1) := by decide +kernel
theorem dX2_takes_18 : decode cX2_takes 18 = .ok (.if_icmp .ne 9, 3) := by decide +kernel
theorem dX2_takes_21 : decode cX2_takes 21 = .ok (.aload_n 0, 1) := by decide +kernel
theorem dX2_takes_22 : decode cX2_takes 22 = .ok (.iload_n 1, 1) := by decide +kernel
theorem dX2_takes_23 : decode cX2_takes 23 = .ok (.invokevirtual 38, 3) := by decide +kernel
theorem dX2_takes_26 : decode cX2_takes 26 = .ok (.ireturn, 1) := by decide +kernel
theorem dX2_takes_27 : decode cX2_takes 27 = .ok (.iload_n 1, 1) := by decide +kernel
theorem dX2_takes_28 : decode cX2_takes 28 = .ok (.bipush 59, 2) := by decide +kernel
theorem dX2_takes_30 : decode cX2_takes 30 = .ok (.if_icmp .ne 8, 3) := by decide +kernel
theorem dX2_takes_33 : decode cX2_takes 33 = .ok (.aload_n 0, 1) := by decide +kernel
theorem dX2_takes_34 : decode cX2_takes 34 = .ok (.invokevirtual 41, 3) := by decide +kernel
theorem dX2_takes_37 : decode cX2_takes 37 = .ok (.ireturn, 1) := by decide +kernel
theorem dX2_takes_38 : decode cX2_takes 38 = .ok (.iload_n 1, 1) := by decide +kernel
theorem dX2_takes_39 : decode cX2_takes 39 = .ok (.bipush 48, 2) := by decide +kernel
theorem dX2_takes_41 : decode cX2_takes 41 = .ok (.if_icmp .lt 24, 3) := by decide +kernel
theorem dX2_takes_44 : decode cX2_takes 44 = .ok (.iload_n 1, 1) := by decide +kernel
theorem dX2_takes_45 : decode cX2_takes 45 = .ok (.bipush 57, 2) := by decide +kernel
theorem dX2_takes_47 : decode cX2_takes 47 = .ok (.if_icmp .gt 18, 3) := by decide +kernel
theorem dX2_takes_50 : decode cX2_takes 50 = .ok (.aload_n 0, 1) := by decide +kernel
theorem dX2_takes_51 : decode cX2_takes 51 = .ok (.iload_n 1, 1) := by decide +kernel
theorem dX2_takes_52 : decode cX2_takes 52 = .ok (.bipush 48, 2) := by decide +kernel
theorem dX2_takes_54 : decode cX2_takes 54 = .ok (.isub, 1) := by decide +kernel
theorem dX2_takes_55 : decode cX2_takes 55 = .ok (.invokevirtual 45, 3) := by decide +kernel
theorem dX2_takes_58 : decode cX2_takes 58 = .ok (.ifCond .eq 7, 3) := by decide +kernel
theorem dX2_takes_61 : decode cX2_takes 61 = .ok (.iconst 1, 1) := by decide +kernel
theorem dX2_takes_62 : decode cX2_takes 62 = .ok (.goto 4, 3) := by decide +kernel
theorem dX2_takes_65 : decode cX2_takes 65 = .ok (.iconst 0, 1) := by decide +kernel
theorem dX2_takes_66 : decode cX2_takes 66 = .ok (.ireturn, 1) := by decide +kernel
theorem dX2_opensOrder_0 : decode cX2_opensOrder 0 = .ok (.ldc 48, 2) := by decide +kernel
theorem dX2_opensOrder_2 : decode cX2_opensOrder 2 = .ok (.iload_n 1, 1) := by decide +kernel
theorem dX2_opensOrder_3 : decode cX2_opensOrder 3 = .ok (.i2c, 1) := by decide +kernel
theorem dX2_opensOrder_4 : decode cX2_opensOrder 4 = .ok (.invokevirtual 50, 3) := by decide +kernel
theorem dX2_opensOrder_7 : decode cX2_opensOrder 7 = .ok (.istore_n 2, 1) := by decide +kernel
theorem dX2_opensOrder_8 : decode cX2_opensOrder 8 = .ok (.iload_n 2, 1) := by decide +kernel
theorem dX2_opensOrder_9 : decode cX2_opensOrder 9 = .ok (.ifCond .lt 12, 3) := by decide +kernel
theorem dX2_opensOrder_12 : decode cX2_opensOrder 12 = .ok (.aload_n 0, 1) := by decide +kernel
theorem dX2_opensOrder_13 : decode cX2_opensOrder 13 = .ok (.getfield 25, 3) := by decide +kernel
theorem dX2_opensOrder_16 : decode cX2_opensOrder 16 = .ok (.bipush 50, 2) := by decide +kernel
theorem dX2_opensOrder_18 : decode cX2_opensOrder 18 = .ok (.if_icmp .lt 5, 3) := by decide +kernel
theorem dX2_opensOrder_21 : decode cX2_opensOrder 21 = .ok (.iconst 0, 1) := by decide +kernel
theorem dX2_opensOrder_22 : decode cX2_opensOrder 22 = .ok (.ireturn, 1) := by decide +kernel
theorem dX2_opensOrder_23 : decode cX2_opensOrder 23 = .ok (.aload_n 0, 1) := by decide +kernel
theorem dX2_opensOrder_24 : decode cX2_opensOrder 24 = .ok (.iload_n 2, 1) := by decide +kernel
theorem dX2_opensOrder_25 : decode cX2_opensOrder 25 = .ok (.putfield 28, 3) := by decide +kernel
theorem dX2_opensOrder_28 : decode cX2_opensOrder 28 = .ok (.aload_n 0, 1) := by decide +kernel
theorem dX2_opensOrder_29 : decode cX2_opensOrder 29 = .ok (.iconst 0, 1) := by decide +kernel
theorem dX2_opensOrder_30 : decode cX2_opensOrder 30 = .ok (.putfield 56, 3) := by decide +kernel
theorem dX2_opensOrder_33 : decode cX2_opensOrder 33 = .ok (.aload_n 0, 1) := by decide +kernel
theorem dX2_opensOrder_34 : decode cX2_opensOrder 34 = .ok (.iconst 0, 1) := by decide +kernel
theorem dX2_opensOrder_35 : decode cX2_opensOrder 35 = .ok (.putfield 35, 3) := by decide +kernel
theorem dX2_opensOrder_38 : decode cX2_opensOrder 38 = .ok (.iconst 1, 1) := by decide +kernel
theorem dX2_opensOrder_39 : decode cX2_opensOrder 39 = .ok (.ireturn, 1) := by decide +kernel
theorem dX2_endsOrder_0 : decode cX2_endsOrder 0 = .ok (.aload_n 0, 1) := by decide +kernel
theorem dX2_endsOrder_1 : decode cX2_endsOrder 1 = .ok (.getfield 56, 3) := by decide +kernel
theorem dX2_endsOrder_4 : decode cX2_endsOrder 4 = .ok (.getstatic 59, 3) := by decide +kernel
theorem dX2_endsOrder_7 : decode cX2_endsOrder 7 = .ok (.aload_n 0, 1) := by decide +kernel
theorem dX2_endsOrder_8 : decode cX2_endsOrder 8 = .ok (.getfield 28, 3) := by decide +kernel
theorem dX2_endsOrder_11 : decode cX2_endsOrder 11 = .ok (.iaload, 1) := by decide +kernel
theorem dX2_endsOrder_12 : decode cX2_endsOrder 12 = .ok (.if_icmp .ge 5, 3) := by decide +kernel
theorem dX2_endsOrder_15 : decode cX2_endsOrder 15 = .ok (.iconst 0, 1) := by decide +kernel
theorem dX2_endsOrder_16 : decode cX2_endsOrder 16 = .ok (.ireturn, 1) := by decide +kernel
theorem dX2_endsOrder_17 : decode cX2_endsOrder 17 = .ok (.aload_n 0, 1) := by decide +kernel
theorem dX2_endsOrder_18 : decode cX2_endsOrder 18 = .ok (.getfield 15, 3) := by decide +kernel
theorem dX2_endsOrder_21 : decode cX2_endsOrder 21 = .ok (.aload_n 0, 1) := by decide +kernel
theorem dX2_endsOrder_22 : decode cX2_endsOrder 22 = .ok (.getfield 25, 3) := by decide +kernel
theorem dX2_endsOrder_25 : decode cX2_endsOrder 25 = .ok (.aload_n 0, 1) := by decide +kernel
theorem dX2_endsOrder_26 : decode cX2_endsOrder 26 = .ok (.getfield 28, 3) := by decide +kernel
theorem dX2_endsOrder_29 : decode cX2_endsOrder 29 = .ok (.iastore, 1) := by decide +kernel
theorem dX2_endsOrder_30 : decode cX2_endsOrder 30 = .ok (.aload_n 0, 1) := by decide +kernel
theorem dX2_endsOrder_31 : decode cX2_endsOrder 31 = .ok (.dup, 1) := by decide +kernel
theorem dX2_endsOrder_32 : decode cX2_endsOrder 32 = .ok (.getfield 25, 3) := by decide +kernel
theorem dX2_endsOrder_35 : decode cX2_endsOrder 35 = .ok (.iconst 1, 1) := by decide +kernel
theorem dX2_endsOrder_36 : decode cX2_endsOrder 36 = .ok (.iadd, 1) := by decide +kernel
theorem dX2_endsOrder_37 : decode cX2_endsOrder 37 = .ok (.putfield 25, 3) := by decide +kernel
theorem dX2_endsOrder_40 : decode cX2_endsOrder 40 = .ok (.aload_n 0, 1) := by decide +kernel
theorem dX2_endsOrder_41 : decode cX2_endsOrder 41 = .ok (.iconst (-1), 1) := by decide +kernel
theorem dX2_endsOrder_42 : decode cX2_endsOrder 42 = .ok (.putfield 28, 3) := by decide +kernel
theorem dX2_endsOrder_45 : decode cX2_endsOrder 45 = .ok (.iconst 1, 1) := by decide +kernel
theorem dX2_endsOrder_46 : decode cX2_endsOrder 46 = .ok (.ireturn, 1) := by decide +kernel
theorem dX2_takesFigure_0 : decode cX2_takesFigure 0 = .ok (.aload_n 0, 1) := by decide +kernel
theorem dX2_takesFigure_1 : decode cX2_takesFigure 1 = .ok (.getfield 25, 3) := by decide +kernel
theorem dX2_takesFigure_4 : decode cX2_takesFigure 4 = .ok (.iconst 3, 1) := by decide +kernel
theorem dX2_takesFigure_5 : decode cX2_takesFigure 5 = .ok (.imul, 1) := by decide +kernel
theorem dX2_takesFigure_6 : decode cX2_takesFigure 6 = .ok (.aload_n 0, 1) := by decide +kernel
theorem dX2_takesFigure_7 : decode cX2_takesFigure 7 = .ok (.getfield 56, 3) := by decide +kernel
theorem dX2_takesFigure_10 : decode cX2_takesFigure 10 = .ok (.iadd, 1) := by decide +kernel
theorem dX2_takesFigure_11 : decode cX2_takesFigure 11 = .ok (.istore_n 2, 1) := by decide +kernel
theorem dX2_takesFigure_12 : decode cX2_takesFigure 12 = .ok (.aload_n 0, 1) := by decide +kernel
theorem dX2_takesFigure_13 : decode cX2_takesFigure 13 = .ok (.getfield 35, 3) := by decide +kernel
theorem dX2_takesFigure_16 : decode cX2_takesFigure 16 = .ok (.ifCond .ne 42, 3) := by decide +kernel
theorem dX2_takesFigure_19 : decode cX2_takesFigure 19 = .ok (.aload_n 0, 1) := by decide +kernel
theorem dX2_takesFigure_20 : decode cX2_takesFigure 20 = .ok (.getfield 56, 3) := by decide +kernel
theorem dX2_takesFigure_23 : decode cX2_takesFigure 23 = .ok (.getstatic 59, 3) := by decide +kernel
theorem dX2_takesFigure_26 : decode cX2_takesFigure 26 = .ok (.aload_n 0, 1) := by decide +kernel
theorem dX2_takesFigure_27 : decode cX2_takesFigure 27 = .ok (.getfield 28, 3) := by decide +kernel
theorem dX2_takesFigure_30 : decode cX2_takesFigure 30 = .ok (.iaload, 1) := by decide +kernel
theorem dX2_takesFigure_31 : decode cX2_takesFigure 31 = .ok (.if_icmp .ge 27, 3) := by decide +kernel
theorem dX2_takesFigure_34 : decode cX2_takesFigure 34 = .ok (.aload_n 0, 1) := by decide +kernel
theorem dX2_takesFigure_35 : decode cX2_takesFigure 35 = .ok (.getfield 18, 3) := by decide +kernel
theorem dX2_takesFigure_38 : decode cX2_takesFigure 38 = .ok (.iload_n 2, 1) := by decide +kernel
theorem dX2_takesFigure_39 : decode cX2_takesFigure 39 = .ok (.iload_n 1, 1) := by decide +kernel
theorem dX2_takesFigure_40 : decode cX2_takesFigure 40 = .ok (.iastore, 1) := by decide +kernel
theorem dX2_takesFigure_41 : decode cX2_takesFigure 41 = .ok (.aload_n 0, 1) := by decide +kernel
theorem dX2_takesFigure_42 : decode cX2_takesFigure 42 = .ok (.dup, 1) := by decide +kernel
theorem dX2_takesFigure_43 : decode cX2_takesFigure 43 = .ok (.getfield 56, 3) := by decide +kernel
theorem dX2_takesFigure_46 : decode cX2_takesFigure 46 = .ok (.iconst 1, 1) := by decide +kernel
theorem dX2_takesFigure_47 : decode cX2_takesFigure 47 = .ok (.iadd, 1) := by decide +kernel
theorem dX2_takesFigure_48 : decode cX2_takesFigure 48 = .ok (.putfield 56, 3) := by decide +kernel
theorem dX2_takesFigure_51 : decode cX2_takesFigure 51 = .ok (.aload_n 0, 1) := by decide +kernel
theorem dX2_takesFigure_52 : decode cX2_takesFigure 52 = .ok (.iconst 1, 1) := by decide +kernel
theorem dX2_takesFigure_53 : decode cX2_takesFigure 53 = .ok (.putfield 35, 3) := by decide +kernel
theorem dX2_takesFigure_56 : decode cX2_takesFigure 56 = .ok (.iconst 1, 1) := by decide +kernel
theorem dX2_takesFigure_57 : decode cX2_takesFigure 57 = .ok (.ireturn, 1) := by decide +kernel
theorem dX2_takesFigure_58 : decode cX2_takesFigure 58 = .ok (.aload_n 0, 1) := by decide +kernel
theorem dX2_takesFigure_59 : decode cX2_takesFigure 59 = .ok (.getfield 35, 3) := by decide +kernel
theorem dX2_takesFigure_62 : decode cX2_takesFigure 62 = .ok (.iconst 1, 1) := by decide +kernel
theorem dX2_takesFigure_63 : decode cX2_takesFigure 63 = .ok (.if_icmp .ne 31, 3) := by decide +kernel
theorem dX2_takesFigure_66 : decode cX2_takesFigure 66 = .ok (.aload_n 0, 1) := by decide +kernel
theorem dX2_takesFigure_67 : decode cX2_takesFigure 67 = .ok (.getfield 18, 3) := by decide +kernel
theorem dX2_takesFigure_70 : decode cX2_takesFigure 70 = .ok (.iload_n 2, 1) := by decide +kernel
theorem dX2_takesFigure_71 : decode cX2_takesFigure 71 = .ok (.iconst 1, 1) := by decide +kernel
theorem dX2_takesFigure_72 : decode cX2_takesFigure 72 = .ok (.isub, 1) := by decide +kernel
theorem dX2_takesFigure_73 : decode cX2_takesFigure 73 = .ok (.bipush 10, 2) := by decide +kernel
theorem dX2_takesFigure_75 : decode cX2_takesFigure 75 = .ok (.aload_n 0, 1) := by decide +kernel
theorem dX2_takesFigure_76 : decode cX2_takesFigure 76 = .ok (.getfield 18, 3) := by decide +kernel
theorem dX2_takesFigure_79 : decode cX2_takesFigure 79 = .ok (.iload_n 2, 1) := by decide +kernel
theorem dX2_takesFigure_80 : decode cX2_takesFigure 80 = .ok (.iconst 1, 1) := by decide +kernel
theorem dX2_takesFigure_81 : decode cX2_takesFigure 81 = .ok (.isub, 1) := by decide +kernel
theorem dX2_takesFigure_82 : decode cX2_takesFigure 82 = .ok (.iaload, 1) := by decide +kernel
theorem dX2_takesFigure_83 : decode cX2_takesFigure 83 = .ok (.imul, 1) := by decide +kernel
theorem dX2_takesFigure_84 : decode cX2_takesFigure 84 = .ok (.iload_n 1, 1) := by decide +kernel
theorem dX2_takesFigure_85 : decode cX2_takesFigure 85 = .ok (.iadd, 1) := by decide +kernel
theorem dX2_takesFigure_86 : decode cX2_takesFigure 86 = .ok (.iastore, 1) := by decide +kernel
theorem dX2_takesFigure_87 : decode cX2_takesFigure 87 = .ok (.aload_n 0, 1) := by decide +kernel
theorem dX2_takesFigure_88 : decode cX2_takesFigure 88 = .ok (.iconst 2, 1) := by decide +kernel
theorem dX2_takesFigure_89 : decode cX2_takesFigure 89 = .ok (.putfield 35, 3) := by decide +kernel
theorem dX2_takesFigure_92 : decode cX2_takesFigure 92 = .ok (.iconst 1, 1) := by decide +kernel
theorem dX2_takesFigure_93 : decode cX2_takesFigure 93 = .ok (.ireturn, 1) := by decide +kernel
theorem dX2_takesFigure_94 : decode cX2_takesFigure 94 = .ok (.iconst 0, 1) := by decide +kernel
theorem dX2_takesFigure_95 : decode cX2_takesFigure 95 = .ok (.ireturn, 1) := by decide +kernel
theorem dX3_init_0 : decode cX3_init 0 = .ok (.aload_n 0, 1) := by decide +kernel
theorem dX3_init_1 : decode cX3_init 1 = .ok (.invokespecial 3, 3) := by decide +kernel
theorem dX3_init_4 : decode cX3_init 4 = .ok (.aload_n 0, 1) := by decide +kernel
theorem dX3_init_5 : decode cX3_init 5 = .ok (.bipush 48, 2) := by decide +kernel
theorem dX3_init_7 : decode cX3_init 7 = .ok (.newarray .int, 2) := by decide +kernel
theorem dX3_init_9 : decode cX3_init 9 = .ok (.putfield 9, 3) := by decide +kernel
theorem dX3_init_12 : decode cX3_init 12 = .ok (.aload_n 0, 1) := by decide +kernel
theorem dX3_init_13 : decode cX3_init 13 = .ok (.bipush 48, 2) := by decide +kernel
theorem dX3_init_15 : decode cX3_init 15 = .ok (.newarray .int, 2) := by decide +kernel
theorem dX3_init_17 : decode cX3_init 17 = .ok (.putfield 15, 3) := by decide +kernel
theorem dX3_init_20 : decode cX3_init 20 = .ok (.aload_n 0, 1) := by decide +kernel
theorem dX3_init_21 : decode cX3_init 21 = .ok (.bipush 48, 2) := by decide +kernel
theorem dX3_init_23 : decode cX3_init 23 = .ok (.newarray .int, 2) := by decide +kernel
theorem dX3_init_25 : decode cX3_init 25 = .ok (.putfield 18, 3) := by decide +kernel
theorem dX3_init_28 : decode cX3_init 28 = .ok (.aload_n 0, 1) := by decide +kernel
theorem dX3_init_29 : decode cX3_init 29 = .ok (.bipush 48, 2) := by decide +kernel
theorem dX3_init_31 : decode cX3_init 31 = .ok (.newarray .int, 2) := by decide +kernel
theorem dX3_init_33 : decode cX3_init 33 = .ok (.putfield 21, 3) := by decide +kernel
theorem dX3_init_36 : decode cX3_init 36 = .ok (.aload_n 0, 1) := by decide +kernel
theorem dX3_init_37 : decode cX3_init 37 = .ok (.bipush 48, 2) := by decide +kernel
theorem dX3_init_39 : decode cX3_init 39 = .ok (.newarray .int, 2) := by decide +kernel
theorem dX3_init_41 : decode cX3_init 41 = .ok (.putfield 24, 3) := by decide +kernel
theorem dX3_init_44 : decode cX3_init 44 = .ok (.aload_n 0, 1) := by decide +kernel
theorem dX3_init_45 : decode cX3_init 45 = .ok (.bipush 48, 2) := by decide +kernel
theorem dX3_init_47 : decode cX3_init 47 = .ok (.newarray .int, 2) := by decide +kernel
theorem dX3_init_49 : decode cX3_init 49 = .ok (.putfield 27, 3) := by decide +kernel
theorem dX3_init_52 : decode cX3_init 52 = .ok (.aload_n 0, 1) := by decide +kernel
theorem dX3_init_53 : decode cX3_init 53 = .ok (.bipush 12, 2) := by decide +kernel
theorem dX3_init_55 : decode cX3_init 55 = .ok (.newarray .int, 2) := by decide +kernel
theorem dX3_init_57 : decode cX3_init 57 = .ok (.putfield 30, 3) := by decide +kernel
theorem dX3_init_60 : decode cX3_init 60 = .ok (.aload_n 0, 1) := by decide +kernel
theorem dX3_init_61 : decode cX3_init 61 = .ok (.iconst 4, 1) := by decide +kernel
theorem dX3_init_62 : decode cX3_init 62 = .ok (.newarray .int, 2) := by decide +kernel
theorem dX3_init_64 : decode cX3_init 64 = .ok (.putfield 33, 3) := by decide +kernel
theorem dX3_init_67 : decode cX3_init 67 = .ok (.return_, 1) := by decide +kernel
theorem dX3_run_0 : decode cX3_run 0 = .ok (.aload_n 0, 1) := by decide +kernel
theorem dX3_run_1 : decode cX3_run 1 = .ok (.aload_n 1, 1) := by decide +kernel
theorem dX3_run_2 : decode cX3_run 2 = .ok (.invokevirtual 36, 3) := by decide +kernel
theorem dX3_run_5 : decode cX3_run 5 = .ok (.aload_n 1, 1) := by decide +kernel
theorem dX3_run_6 : decode cX3_run 6 = .ok (.getfield 40, 3) := by decide +kernel
theorem dX3_run_9 : decode cX3_run 9 = .ok (.iconst 1, 1) := by decide +kernel
theorem dX3_run_10 : decode cX3_run 10 = .ok (.iadd, 1) := by decide +kernel
theorem dX3_run_11 : decode cX3_run 11 = .ok (.istore_n 2, 1) := by decide +kernel
theorem dX3_run_12 : decode cX3_run 12 = .ok (.iload_n 2, 1) := by decide +kernel
theorem dX3_run_13 : decode cX3_run 13 = .ok (.aload_n 1, 1) := by decide +kernel
theorem dX3_run_14 : decode cX3_run 14 = .ok (.getfield 46, 3) := by decide +kernel
theorem dX3_run_17 : decode cX3_run 17 = .ok (.if_icmp .ge 106, 3) := by decide +kernel
theorem dX3_run_20 : decode cX3_run 20 = .ok (.aload_n 0, 1) := by decide +kernel
theorem dX3_run_21 : decode cX3_run 21 = .ok (.aload_n 1, 1) := by decide +kernel
theorem dX3_run_22 : decode cX3_run 22 = .ok (.getfield 49, 3) := by decide +kernel
theorem dX3_run_25 : decode cX3_run 25 = .ok (.iload_n 2, 1) := by decide +kernel
theorem dX3_run_26 : decode cX3_run 26 = .ok (.iaload, 1) := by decide +kernel
theorem dX3_run_27 : decode cX3_run 27 = .ok (.invokevirtual 52, 3) := by decide +kernel
theorem dX3_run_30 : decode cX3_run 30 = .ok (.istore_n 3, 1) := by decide +kernel
theorem dX3_run_31 : decode cX3_run 31 = .ok (.aload_n 0, 1) := by decide +kernel
theorem dX3_run_32 : decode cX3_run 32 = .ok (.aload_n 1, 1) := by decide +kernel
theorem dX3_run_33 : decode cX3_run 33 = .ok (.getfield 56, 3) := by decide +kernel
theorem dX3_run_36 : decode cX3_run 36 = .ok (.iload_n 2, 1) := by decide +kernel
theorem dX3_run_37 : decode cX3_run 37 = .ok (.iaload, 1) := by decide +kernel
theorem dX3_run_38 : decode cX3_run 38 = .ok (.invokevirtual 52, 3) := by decide +kernel
theorem dX3_run_41 : decode cX3_run 41 = .ok (.istore 4, 2) := by decide +kernel
theorem dX3_run_43 : decode cX3_run 43 = .ok (.aload_n 0, 1) := by decide +kernel
theorem dX3_run_44 : decode cX3_run 44 = .ok (.getfield 18, 3) := by decide +kernel
theorem dX3_run_47 : decode cX3_run 47 = .ok (.iload_n 2, 1) := by decide +kernel
theorem dX3_run_48 : decode cX3_run 48 = .ok (.iload_n 3, 1) := by decide +kernel
theorem dX3_run_49 : decode cX3_run 49 = .ok (.iload 4, 2) := by decide +kernel
theorem dX3_run_51 : decode cX3_run 51 = .ok (.invokestatic 59, 3) := by decide +kernel
theorem dX3_run_54 : decode cX3_run 54 = .ok (.iastore, 1) := by decide +kernel
theorem dX3_run_55 : decode cX3_run 55 = .ok (.aload_n 0, 1) := by decide +kernel
theorem dX3_run_56 : decode cX3_run 56 = .ok (.getfield 21, 3) := by decide +kernel
theorem dX3_run_59 : decode cX3_run 59 = .ok (.iload_n 2, 1) := by decide +kernel
theorem dX3_run_60 : decode cX3_run 60 = .ok (.iload_n 3, 1) := by decide +kernel
theorem dX3_run_61 : decode cX3_run 61 = .ok (.iload 4, 2) := by decide +kernel
theorem dX3_run_63 : decode cX3_run 63 = .ok (.invokestatic 65, 3) := by decide +kernel
theorem dX3_run_66 : decode cX3_run 66 = .ok (.iastore, 1) := by decide +kernel
theorem dX3_run_67 : decode cX3_run 67 = .ok (.aload_n 0, 1) := by decide +kernel
theorem dX3_run_68 : decode cX3_run 68 = .ok (.iload_n 2, 1) := by decide +kernel
theorem dX3_run_69 : decode cX3_run 69 = .ok (.aload_n 1, 1) := by decide +kernel
theorem dX3_run_70 : decode cX3_run 70 = .ok (.invokevirtual 68, 3) := by decide +kernel
theorem dX3_run_73 : decode cX3_run 73 = .ok (.aload_n 0, 1) := by decide +kernel
theorem dX3_run_74 : decode cX3_run 74 = .ok (.getfield 33, 3) := by decide +kernel
theorem dX3_run_77 : decode cX3_run 77 = .ok (.aload_n 0, 1) := by decide +kernel
theorem dX3_run_78 : decode cX3_run 78 = .ok (.getfield 15, 3) := by decide +kernel
theorem dX3_run_81 : decode cX3_run 81 = .ok (.iload_n 2, 1) := by decide +kernel
theorem dX3_run_82 : decode cX3_run 82 = .ok (.iaload, 1) := by decide +kernel
theorem dX3_run_83 : decode cX3_run 83 = .ok (.dup2, 1) := by decide +kernel
theorem dX3_run_84 : decode cX3_run 84 = .ok (.iaload, 1) := by decide +kernel
theorem dX3_run_85 : decode cX3_run 85 = .ok (.iconst 1, 1) := by decide +kernel
theorem dX3_run_86 : decode cX3_run 86 = .ok (.iadd, 1) := by decide +kernel
theorem dX3_run_87 : decode cX3_run 87 = .ok (.iastore, 1) := by decide +kernel
theorem dX3_run_88 : decode cX3_run 88 = .ok (.aload_n 0, 1) := by decide +kernel
theorem dX3_run_89 : decode cX3_run 89 = .ok (.getfield 15, 3) := by decide +kernel
theorem dX3_run_92 : decode cX3_run 92 = .ok (.iload_n 2, 1) := by decide +kernel
theorem dX3_run_93 : decode cX3_run 93 = .ok (.iaload, 1) := by decide +kernel
theorem dX3_run_94 : decode cX3_run 94 = .ok (.ifCond .eq 23, 3) := by decide +kernel
theorem dX3_run_97 : decode cX3_run 97 = .ok (.aload_n 0, 1) := by decide +kernel
theorem dX3_run_98 : decode cX3_run 98 = .ok (.getfield 24, 3) := by decide +kernel
theorem dX3_run_101 : decode cX3_run 101 = .ok (.aload_n 0, 1) := by decide +kernel
theorem dX3_run_102 : decode cX3_run 102 = .ok (.getfield 72, 3) := by decide +kernel
theorem dX3_run_105 : decode cX3_run 105 = .ok (.iload_n 2, 1) := by decide +kernel
theorem dX3_run_106 : decode cX3_run 106 = .ok (.iastore, 1) := by decide +kernel
theorem dX3_run_107 : decode cX3_run 107 = .ok (.aload_n 0, 1) := by decide +kernel
theorem dX3_run_108 : decode cX3_run 108 = .ok (.dup, 1) := by decide +kernel
theorem dX3_run_109 : decode cX3_run 109 = .ok (.getfield 72, 3) := by decide +kernel
theorem dX3_run_112 : decode cX3_run 112 = .ok (.iconst 1, 1) := by decide +kernel
theorem dX3_run_113 : decode cX3_run 113 = .ok (.iadd, 1) := by decide +kernel
theorem dX3_run_114 : decode cX3_run 114 = .ok (.putfield 72, 3) := by decide +kernel
theorem dX3_run_117 : decode cX3_run 117 = .ok (.iinc 2 1, 3) := by decide +kernel
theorem dX3_run_120 : decode cX3_run 120 = .ok (.goto (-108), 3) := by decide +kernel
theorem dX3_run_123 : decode cX3_run 123 = .ok (.return_, 1) := by decide +kernel
theorem dX3_begin_0 : decode cX3_begin 0 = .ok (.aload_n 0, 1) := by decide +kernel
theorem dX3_begin_1 : decode cX3_begin 1 = .ok (.iconst 0, 1) := by decide +kernel
theorem dX3_begin_2 : decode cX3_begin 2 = .ok (.putfield 72, 3) := by decide +kernel
theorem dX3_begin_5 : decode cX3_begin 5 = .ok (.aload_n 0, 1) := by decide +kernel
theorem dX3_begin_6 : decode cX3_begin 6 = .ok (.iconst 0, 1) := by decide +kernel
theorem dX3_begin_7 : decode cX3_begin 7 = .ok (.putfield 75, 3) := by decide +kernel
theorem dX3_begin_10 : decode cX3_begin 10 = .ok (.aload_n 0, 1) := by decide +kernel
theorem dX3_begin_11 : decode cX3_begin 11 = .ok (.aload_n 1, 1) := by decide +kernel
theorem dX3_begin_12 : decode cX3_begin 12 = .ok (.invokevirtual 78, 3) := by decide +kernel
theorem dX3_begin_15 : decode cX3_begin 15 = .ok (.putfield 82, 3) := by decide +kernel
theorem dX3_begin_18 : decode cX3_begin 18 = .ok (.iconst 0, 1) := by decide +kernel
theorem dX3_begin_19 : decode cX3_begin 19 = .ok (.istore_n 2, 1) := by decide +kernel
theorem dX3_begin_20 : decode cX3_begin 20 = .ok (.iload_n 2, 1) := by decide +kernel
theorem dX3_begin_21 : decode cX3_begin 21 = .ok (.iconst 3, 1) := by decide +kernel
theorem dX3_begin_22 : decode cX3_begin 22 = .ok (.if_icmp .gt 16, 3) := by decide +kernel
theorem dX3_begin_25 : decode cX3_begin 25 = .ok (.aload_n 0, 1) := by decide +kernel
theorem dX3_begin_26 : decode cX3_begin 26 = .ok (.getfield 33, 3) := by decide +kernel
theorem dX3_begin_29 : decode cX3_begin 29 = .ok (.iload_n 2, 1) := by decide +kernel
theorem dX3_begin_30 : decode cX3_begin 30 = .ok (.iconst 0, 1) := by decide +kernel
theorem dX3_begin_31 : decode cX3_begin 31 = .ok (.iastore, 1) := by decide +kernel
theorem dX3_begin_32 : decode cX3_begin 32 = .ok (.iinc 2 1, 3) := by decide +kernel
theorem dX3_begin_35 : decode cX3_begin 35 = .ok (.goto (-15), 3) := by decide +kernel
theorem dX3_begin_38 : decode cX3_begin 38 = .ok (.iconst 0, 1) := by decide +kernel
theorem dX3_begin_39 : decode cX3_begin 39 = .ok (.istore_n 2, 1) := by decide +kernel
theorem dX3_begin_40 : decode cX3_begin 40 = .ok (.iload_n 2, 1) := by decide +kernel
theorem dX3_begin_41 : decode cX3_begin 41 = .ok (.aload_n 1, 1) := by decide +kernel
theorem dX3_begin_42 : decode cX3_begin 42 = .ok (.getfield 40, 3) := by decide +kernel
theorem dX3_begin_45 : decode cX3_begin 45 = .ok (.if_icmp .gt 18, 3) := by decide +kernel
theorem dX3_begin_48 : decode cX3_begin 48 = .ok (.aload_n 0, 1) := by decide +kernel
theorem dX3_begin_49 : decode cX3_begin 49 = .ok (.iload_n 2, 1) := by decide +kernel
theorem dX3_begin_50 : decode cX3_begin 50 = .ok (.iconst 2, 1) := by decide +kernel
theorem dX3_begin_51 : decode cX3_begin 51 = .ok (.iload_n 2, 1) := by decide +kernel
theorem dX3_begin_52 : decode cX3_begin 52 = .ok (.imul, 1) := by decide +kernel
theorem dX3_begin_53 : decode cX3_begin 53 = .ok (.iconst 0, 1) := by decide +kernel
theorem dX3_begin_54 : decode cX3_begin 54 = .ok (.invokevirtual 84, 3) := by decide +kernel
theorem dX3_begin_57 : decode cX3_begin 57 = .ok (.iinc 2 1, 3) := by decide +kernel
theorem dX3_begin_60 : decode cX3_begin 60 = .ok (.goto (-20), 3) := by decide +kernel
theorem dX3_begin_63 : decode cX3_begin 63 = .ok (.aload_n 0, 1) := by decide +kernel
theorem dX3_begin_64 : decode cX3_begin 64 = .ok (.iconst 0, 1) := by decide +kernel
theorem dX3_begin_65 : decode cX3_begin 65 = .ok (.putfield 88, 3) := by decide +kernel
theorem dX3_begin_68 : decode cX3_begin 68 = .ok (.aload_n 0, 1) := by decide +kernel
theorem dX3_begin_69 : decode cX3_begin 69 = .ok (.iconst 0, 1) := by decide +kernel
theorem dX3_begin_70 : decode cX3_begin 70 = .ok (.putfield 91, 3) := by decide +kernel
theorem dX3_begin_73 : decode cX3_begin 73 = .ok (.iconst 0, 1) := by decide +kernel
theorem dX3_begin_74 : decode cX3_begin 74 = .ok (.istore_n 2, 1) := by decide +kernel
theorem dX3_begin_75 : decode cX3_begin 75 = .ok (.iload_n 2, 1) := by decide +kernel
theorem dX3_begin_76 : decode cX3_begin 76 = .ok (.aload_n 1, 1) := by decide +kernel
theorem dX3_begin_77 : decode cX3_begin 77 = .ok (.getfield 94, 3) := by decide +kernel
theorem dX3_begin_80 : decode cX3_begin 80 = .ok (.if_icmp .ge 19, 3) := by decide +kernel
theorem dX3_begin_83 : decode cX3_begin 83 = .ok (.aload_n 0, 1) := by decide +kernel
theorem dX3_begin_84 : decode cX3_begin 84 = .ok (.aload_n 1, 1) := by decide +kernel
theorem dX3_begin_85 : decode cX3_begin 85 = .ok (.getfield 97, 3) := by decide +kernel
theorem dX3_begin_88 : decode cX3_begin 88 = .ok (.iload_n 2, 1) := by decide +kernel
theorem dX3_begin_89 : decode cX3_begin 89 = .ok (.iaload, 1) := by decide +kernel
theorem dX3_begin_90 : decode cX3_begin 90 = .ok (.invokevirtual 100, 3) := by decide +kernel
theorem dX3_begin_93 : decode cX3_begin 93 = .ok (.iinc 2 1, 3) := by decide +kernel
theorem dX3_begin_96 : decode cX3_begin 96 = .ok (.goto (-21), 3) := by decide +kernel
theorem dX3_begin_99 : decode cX3_begin 99 = .ok (.return_, 1) := by decide +kernel
theorem dX3_merge_0 : decode cX3_merge 0 = .ok (.aload_n 0, 1) := by decide +kernel
theorem dX3_merge_1 : decode cX3_merge 1 = .ok (.getfield 9, 3) := by decide +kernel
theorem dX3_merge_4 : decode cX3_merge 4 = .ok (.iload_n 1, 1) := by decide +kernel
theorem dX3_merge_5 : decode cX3_merge 5 = .ok (.iload_n 2, 1) := by decide +kernel
theorem dX3_merge_6 : decode cX3_merge 6 = .ok (.iastore, 1) := by decide +kernel
theorem dX3_merge_7 : decode cX3_merge 7 = .ok (.aload_n 0, 1) := by decide +kernel
theorem dX3_merge_8 : decode cX3_merge 8 = .ok (.getfield 15, 3) := by decide +kernel
theorem dX3_merge_11 : decode cX3_merge 11 = .ok (.iload_n 1, 1) := by decide +kernel
theorem dX3_merge_12 : decode cX3_merge 12 = .ok (.iload_n 3, 1) := by decide +kernel
theorem dX3_merge_13 : decode cX3_merge 13 = .ok (.iastore, 1) := by decide +kernel
theorem dX3_merge_14 : decode cX3_merge 14 = .ok (.return_, 1) := by decide +kernel
theorem dX3_addRow_0 : decode cX3_addRow 0 = .ok (.aload_n 0, 1) := by decide +kernel
theorem dX3_addRow_1 : decode cX3_addRow 1 = .ok (.getfield 88, 3) := by decide +kernel
theorem dX3_addRow_4 : decode cX3_addRow 4 = .ok (.bipush 12, 2) := by decide +kernel
theorem dX3_addRow_6 : decode cX3_addRow 6 = .ok (.if_icmp .ge 35, 3) := by decide +kernel
theorem dX3_addRow_9 : decode cX3_addRow 9 = .ok (.aload_n 0, 1) := by decide +kernel
theorem dX3_addRow_10 : decode cX3_addRow 10 = .ok (.getfield 30, 3) := by decide +kernel
theorem dX3_addRow_13 : decode cX3_addRow 13 = .ok (.aload_n 0, 1) := by decide +kernel
theorem dX3_addRow_14 : decode cX3_addRow 14 = .ok (.getfield 88, 3) := by decide +kernel
theorem dX3_addRow_17 : decode cX3_addRow 17 = .ok (.iload_n 1, 1) := by decide +kernel
theorem dX3_addRow_18 : decode cX3_addRow 18 = .ok (.iastore, 1) := by decide +kernel
theorem dX3_addRow_19 : decode cX3_addRow 19 = .ok (.aload_n 0, 1) := by decide +kernel
theorem dX3_addRow_20 : decode cX3_addRow 20 = .ok (.dup, 1) := by decide +kernel
theorem dX3_addRow_21 : decode cX3_addRow 21 = .ok (.getfield 88, 3) := by decide +kernel
theorem dX3_addRow_24 : decode cX3_addRow 24 = .ok (.iconst 1, 1) := by decide +kernel
theorem dX3_addRow_25 : decode cX3_addRow 25 = .ok (.iadd, 1) := by decide +kernel
theorem dX3_addRow_26 : decode cX3_addRow 26 = .ok (.putfield 88, 3) := by decide +kernel
theorem dX3_addRow_29 : decode cX3_addRow 29 = .ok (.aload_n 0, 1) := by decide +kernel
theorem dX3_addRow_30 : decode cX3_addRow 30 = .ok (.dup, 1) := by decide +kernel
theorem dX3_addRow_31 : decode cX3_addRow 31 = .ok (.getfield 91, 3) := by decide +kernel
theorem dX3_addRow_34 : decode cX3_addRow 34 = .ok (.iconst 1, 1) := by decide +kernel
theorem dX3_addRow_35 : decode cX3_addRow 35 = .ok (.iload_n 1, 1) := by decide +kernel
theorem dX3_addRow_36 : decode cX3_addRow 36 = .ok (.ishl, 1) := by decide +kernel
theorem dX3_addRow_37 : decode cX3_addRow 37 = .ok (.ior, 1) := by decide +kernel
theorem dX3_addRow_38 : decode cX3_addRow 38 = .ok (.putfield 91, 3) := by decide +kernel
theorem dX3_addRow_41 : decode cX3_addRow 41 = .ok (.return_, 1) := by decide +kernel
theorem dX3_sweepGate_0 : decode cX3_sweepGate 0 = .ok (.aload_n 0, 1) := by decide +kernel
theorem dX3_sweepGate_1 : decode cX3_sweepGate 1 = .ok (.aload_n 0, 1) := by decide +kernel
theorem dX3_sweepGate_2 : decode cX3_sweepGate 2 = .ok (.getfield 18, 3) := by decide +kernel
theorem dX3_sweepGate_5 : decode cX3_sweepGate 5 = .ok (.iload_n 1, 1) := by decide +kernel
theorem dX3_sweepGate_6 : decode cX3_sweepGate 6 = .ok (.iaload, 1) := by decide +kernel
theorem dX3_sweepGate_7 : decode cX3_sweepGate 7 = .ok (.aload_n 0, 1) := by decide +kernel
theorem dX3_sweepGate_8 : decode cX3_sweepGate 8 = .ok (.getfield 21, 3) := by decide +kernel
theorem dX3_sweepGate_11 : decode cX3_sweepGate 11 = .ok (.iload_n 1, 1) := by decide +kernel
theorem dX3_sweepGate_12 : decode cX3_sweepGate 12 = .ok (.iaload, 1) := by decide +kernel
theorem dX3_sweepGate_13 : decode cX3_sweepGate 13 = .ok (.invokevirtual 104, 3) := by decide +kernel
theorem dX3_sweepGate_16 : decode cX3_sweepGate 16 = .ok (.istore_n 3, 1) := by decide +kernel
theorem dX3_sweepGate_17 : decode cX3_sweepGate 17 = .ok (.iload_n 3, 1) := by decide +kernel
theorem dX3_sweepGate_18 : decode cX3_sweepGate 18 = .ok (.iconst (-1), 1) := by decide +kernel
theorem dX3_sweepGate_19 : decode cX3_sweepGate 19 = .ok (.if_icmp .eq 11, 3) := by decide +kernel
theorem dX3_sweepGate_22 : decode cX3_sweepGate 22 = .ok (.aload_n 0, 1) := by decide +kernel
theorem dX3_sweepGate_23 : decode cX3_sweepGate 23 = .ok (.iload_n 1, 1) := by decide +kernel
theorem dX3_sweepGate_24 : decode cX3_sweepGate 24 = .ok (.iload_n 3, 1) := by decide +kernel
theorem dX3_sweepGate_25 : decode cX3_sweepGate 25 = .ok (.iconst 1, 1) := by decide +kernel
theorem dX3_sweepGate_26 : decode cX3_sweepGate 26 = .ok (.invokevirtual 84, 3) := by decide +kernel
theorem dX3_sweepGate_29 : decode cX3_sweepGate 29 = .ok (.return_, 1) := by decide +kernel
theorem dX3_sweepGate_30 : decode cX3_sweepGate 30 = .ok (.aload_n 0, 1) := by decide +kernel
theorem dX3_sweepGate_31 : decode cX3_sweepGate 31 = .ok (.iload_n 1, 1) := by decide +kernel
theorem dX3_sweepGate_32 : decode cX3_sweepGate 32 = .ok (.aload_n 2, 1) := by decide +kernel
theorem dX3_sweepGate_33 : decode cX3_sweepGate 33 = .ok (.getfield 40, 3) := by decide +kernel
theorem dX3_sweepGate_36 : decode cX3_sweepGate 36 = .ok (.invokevirtual 107, 3) := by decide +kernel
theorem dX3_sweepGate_39 : decode cX3_sweepGate 39 = .ok (.istore 4, 2) := by decide +kernel
theorem dX3_sweepGate_41 : decode cX3_sweepGate 41 = .ok (.iload 4, 2) := by decide +kernel
theorem dX3_sweepGate_43 : decode cX3_sweepGate 43 = .ok (.iconst (-1), 1) := by decide +kernel
theorem dX3_sweepGate_44 : decode cX3_sweepGate 44 = .ok (.if_icmp .eq 14, 3) := by decide +kernel
theorem dX3_sweepGate_47 : decode cX3_sweepGate 47 = .ok (.aload_n 0, 1) := by decide +kernel
theorem dX3_sweepGate_48 : decode cX3_sweepGate 48 = .ok (.iload_n 1, 1) := by decide +kernel
theorem dX3_sweepGate_49 : decode cX3_sweepGate 49 = .ok (.iconst 2, 1) := by decide +kernel
theorem dX3_sweepGate_50 : decode cX3_sweepGate 50 = .ok (.iload 4, 2) := by decide +kernel
theorem dX3_sweepGate_52 : decode cX3_sweepGate 52 = .ok (.imul, 1) := by decide +kernel
theorem dX3_sweepGate_53 : decode cX3_sweepGate 53 = .ok (.iconst 2, 1) := by decide +kernel
theorem dX3_sweepGate_54 : decode cX3_sweepGate 54 = .ok (.invokevirtual 84, 3) := by decide +kernel
theorem dX3_sweepGate_57 : decode cX3_sweepGate 57 = .ok (.return_, 1) := by decide +kernel
theorem dX3_sweepGate_58 : decode cX3_sweepGate 58 = .ok (.aload_n 0, 1) := by decide +kernel
theorem dX3_sweepGate_59 : decode cX3_sweepGate 59 = .ok (.iload_n 1, 1) := by decide +kernel
theorem dX3_sweepGate_60 : decode cX3_sweepGate 60 = .ok (.aload_n 2, 1) := by decide +kernel
theorem dX3_sweepGate_61 : decode cX3_sweepGate 61 = .ok (.invokevirtual 110, 3) := by decide +kernel
theorem dX3_sweepGate_64 : decode cX3_sweepGate 64 = .ok (.istore 5, 2) := by decide +kernel
theorem dX3_sweepGate_66 : decode cX3_sweepGate 66 = .ok (.iload 5, 2) := by decide +kernel
theorem dX3_sweepGate_68 : decode cX3_sweepGate 68 = .ok (.iconst (-1), 1) := by decide +kernel
theorem dX3_sweepGate_69 : decode cX3_sweepGate 69 = .ok (.if_icmp .eq 12, 3) := by decide +kernel
theorem dX3_sweepGate_72 : decode cX3_sweepGate 72 = .ok (.aload_n 0, 1) := by decide +kernel
theorem dX3_sweepGate_73 : decode cX3_sweepGate 73 = .ok (.iload_n 1, 1) := by decide +kernel
theorem dX3_sweepGate_74 : decode cX3_sweepGate 74 = .ok (.iload 5, 2) := by decide +kernel
theorem dX3_sweepGate_76 : decode cX3_sweepGate 76 = .ok (.iconst 3, 1) := by decide +kernel
theorem dX3_sweepGate_77 : decode cX3_sweepGate 77 = .ok (.invokevirtual 84, 3) := by decide +kernel
theorem dX3_sweepGate_80 : decode cX3_sweepGate 80 = .ok (.return_, 1) := by decide +kernel
theorem dX3_sweepGate_81 : decode cX3_sweepGate 81 = .ok (.aload_n 0, 1) := by decide +kernel
theorem dX3_sweepGate_82 : decode cX3_sweepGate 82 = .ok (.iload_n 1, 1) := by decide +kernel
theorem dX3_sweepGate_83 : decode cX3_sweepGate 83 = .ok (.iconst 2, 1) := by decide +kernel
theorem dX3_sweepGate_84 : decode cX3_sweepGate 84 = .ok (.iload_n 1, 1) := by decide +kernel
theorem dX3_sweepGate_85 : decode cX3_sweepGate 85 = .ok (.imul, 1) := by decide +kernel
theorem dX3_sweepGate_86 : decode cX3_sweepGate 86 = .ok (.iconst 0, 1) := by decide +kernel
theorem dX3_sweepGate_87 : decode cX3_sweepGate 87 = .ok (.invokevirtual 84, 3) := by decide +kernel
theorem dX3_sweepGate_90 : decode cX3_sweepGate 90 = .ok (.return_, 1) := by decide +kernel
theorem dX3_formByRule_0 : decode cX3_formByRule 0 = .ok (.iload_n 1, 1) := by decide +kernel
theorem dX3_formByRule_1 : decode cX3_formByRule 1 = .ok (.ifCond .ne 5, 3) := by decide +kernel
theorem dX3_formByRule_4 : decode cX3_formByRule 4 = .ok (.iconst 0, 1) := by decide +kernel
theorem dX3_formByRule_5 : decode cX3_formByRule 5 = .ok (.ireturn, 1) := by decide +kernel
theorem dX3_formByRule_6 : decode cX3_formByRule 6 = .ok (.iload_n 1, 1) := by decide +kernel
theorem dX3_formByRule_7 : decode cX3_formByRule 7 = .ok (.iconst 1, 1) := by decide +kernel
theorem dX3_formByRule_8 : decode cX3_formByRule 8 = .ok (.if_icmp .ne 5, 3) := by decide +kernel
theorem dX3_formByRule_11 : decode cX3_formByRule 11 = .ok (.iload_n 2, 1) := by decide +kernel
theorem dX3_formByRule_12 : decode cX3_formByRule 12 = .ok (.ireturn, 1) := by decide +kernel
theorem dX3_formByRule_13 : decode cX3_formByRule 13 = .ok (.iload_n 1, 1) := by decide +kernel
theorem dX3_formByRule_14 : decode cX3_formByRule 14 = .ok (.iload_n 2, 1) := by decide +kernel
theorem dX3_formByRule_15 : decode cX3_formByRule 15 = .ok (.if_icmp .ne 5, 3) := by decide +kernel
theorem dX3_formByRule_18 : decode cX3_formByRule 18 = .ok (.iload_n 1, 1) := by decide +kernel
theorem dX3_formByRule_19 : decode cX3_formByRule 19 = .ok (.ireturn, 1) := by decide +kernel
theorem dX3_formByRule_20 : decode cX3_formByRule 20 = .ok (.iload_n 2, 1) := by decide +kernel
theorem dX3_formByRule_21 : decode cX3_formByRule 21 = .ok (.iload_n 1, 1) := by decide +kernel
theorem dX3_formByRule_22 : decode cX3_formByRule 22 = .ok (.iconst 1, 1) := by decide +kernel
theorem dX3_formByRule_23 : decode cX3_formByRule 23 = .ok (.ixor, 1) := by decide +kernel
theorem dX3_formByRule_24 : decode cX3_formByRule 24 = .ok (.if_icmp .ne 7, 3) := by decide +kernel
theorem dX3_formByRule_27 : decode cX3_formByRule 27 = .ok (.iconst 0, 1) := by decide +kernel
theorem dX3_formByRule_28 : decode cX3_formByRule 28 = .ok (.goto 4, 3) := by decide +kernel
theorem dX3_formByRule_31 : decode cX3_formByRule 31 = .ok (.iconst (-1), 1) := by decide +kernel
theorem dX3_formByRule_32 : decode cX3_formByRule 32 = .ok (.ireturn, 1) := by decide +kernel
theorem dX3_sameGate_0 : decode cX3_sameGate 0 = .ok (.iload_n 2, 1) := by decide +kernel
theorem dX3_sameGate_1 : decode cX3_sameGate 1 = .ok (.iconst 1, 1) := by decide +kernel
theorem dX3_sameGate_2 : decode cX3_sameGate 2 = .ok (.iadd, 1) := by decide +kernel
theorem dX3_sameGate_3 : decode cX3_sameGate 3 = .ok (.istore_n 3, 1) := by decide +kernel
theorem dX3_sameGate_4 : decode cX3_sameGate 4 = .ok (.iload_n 3, 1) := by decide +kernel
theorem dX3_sameGate_5 : decode cX3_sameGate 5 = .ok (.iload_n 1, 1) := by decide +kernel
theorem dX3_sameGate_6 : decode cX3_sameGate 6 = .ok (.if_icmp .ge 50, 3) := by decide +kernel
theorem dX3_sameGate_9 : decode cX3_sameGate 9 = .ok (.aload_n 0, 1) := by decide +kernel
theorem dX3_sameGate_10 : decode cX3_sameGate 10 = .ok (.getfield 15, 3) := by decide +kernel
theorem dX3_sameGate_13 : decode cX3_sameGate 13 = .ok (.iload_n 3, 1) := by decide +kernel
theorem dX3_sameGate_14 : decode cX3_sameGate 14 = .ok (.iaload, 1) := by decide +kernel
theorem dX3_sameGate_15 : decode cX3_sameGate 15 = .ok (.ifCond .ne 35, 3) := by decide +kernel
theorem dX3_sameGate_18 : decode cX3_sameGate 18 = .ok (.aload_n 0, 1) := by decide +kernel
theorem dX3_sameGate_19 : decode cX3_sameGate 19 = .ok (.getfield 18, 3) := by decide +kernel
theorem dX3_sameGate_22 : decode cX3_sameGate 22 = .ok (.iload_n 3, 1) := by decide +kernel
theorem dX3_sameGate_23 : decode cX3_sameGate 23 = .ok (.iaload, 1) := by decide +kernel
theorem dX3_sameGate_24 : decode cX3_sameGate 24 = .ok (.aload_n 0, 1) := by decide +kernel
theorem dX3_sameGate_25 : decode cX3_sameGate 25 = .ok (.getfield 18, 3) := by decide +kernel
theorem dX3_sameGate_28 : decode cX3_sameGate 28 = .ok (.iload_n 1, 1) := by decide +kernel
theorem dX3_sameGate_29 : decode cX3_sameGate 29 = .ok (.iaload, 1) := by decide +kernel
theorem dX3_sameGate_30 : decode cX3_sameGate 30 = .ok (.if_icmp .ne 20, 3) := by decide +kernel
theorem dX3_sameGate_33 : decode cX3_sameGate 33 = .ok (.aload_n 0, 1) := by decide +kernel
theorem dX3_sameGate_34 : decode cX3_sameGate 34 = .ok (.getfield 21, 3) := by decide +kernel
theorem dX3_sameGate_37 : decode cX3_sameGate 37 = .ok (.iload_n 3, 1) := by decide +kernel
theorem dX3_sameGate_38 : decode cX3_sameGate 38 = .ok (.iaload, 1) := by decide +kernel
theorem dX3_sameGate_39 : decode cX3_sameGate 39 = .ok (.aload_n 0, 1) := by decide +kernel
theorem dX3_sameGate_40 : decode cX3_sameGate 40 = .ok (.getfield 21, 3) := by decide +kernel
theorem dX3_sameGate_43 : decode cX3_sameGate 43 = .ok (.iload_n 1, 1) := by decide +kernel
theorem dX3_sameGate_44 : decode cX3_sameGate 44 = .ok (.iaload, 1) := by decide +kernel
theorem dX3_sameGate_45 : decode cX3_sameGate 45 = .ok (.if_icmp .ne 5, 3) := by decide +kernel
theorem dX3_sameGate_48 : decode cX3_sameGate 48 = .ok (.iload_n 3, 1) := by decide +kernel
theorem dX3_sameGate_49 : decode cX3_sameGate 49 = .ok (.ireturn, 1) := by decide +kernel
theorem dX3_sameGate_50 : decode cX3_sameGate 50 = .ok (.iinc 3 1, 3) := by decide +kernel
theorem dX3_sameGate_53 : decode cX3_sameGate 53 = .ok (.goto (-49), 3) := by decide +kernel
theorem dX3_sameGate_56 : decode cX3_sameGate 56 = .ok (.iconst (-1), 1) := by decide +kernel
theorem dX3_sameGate_57 : decode cX3_sameGate 57 = .ok (.ireturn, 1) := by decide +kernel
theorem dX3_formByChecks_0 : decode cX3_formByChecks 0 = .ok (.iconst 0, 1) := by decide +kernel
theorem dX3_formByChecks_1 : decode cX3_formByChecks 1 = .ok (.istore_n 3, 1) := by decide +kernel
theorem dX3_formByChecks_2 : decode cX3_formByChecks 2 = .ok (.iload_n 3, 1) := by decide +kernel
theorem dX3_formByChecks_3 : decode cX3_formByChecks 3 = .ok (.iload_n 1, 1) := by decide +kernel
theorem dX3_formByChecks_4 : decode cX3_formByChecks 4 = .ok (.if_icmp .ge 95, 3) := by decide +kernel
theorem dX3_formByChecks_7 : decode cX3_formByChecks 7 = .ok (.aload_n 0, 1) := by decide +kernel
theorem dX3_formByChecks_8 : decode cX3_formByChecks 8 = .ok (.getfield 15, 3) := by decide +kernel
theorem dX3_formByChecks_11 : decode cX3_formByChecks 11 = .ok (.iload_n 3, 1) := by decide +kernel
theorem dX3_formByChecks_12 : decode cX3_formByChecks 12 = .ok (.iaload, 1) := by decide +kernel
theorem dX3_formByChecks_13 : decode cX3_formByChecks 13 = .ok (.ifCond .eq 6, 3) := by decide +kernel
theorem dX3_formByChecks_16 : decode cX3_formByChecks 16 = .ok (.goto 77, 3) := by decide +kernel
theorem dX3_formByChecks_19 : decode cX3_formByChecks 19 = .ok (.aload_n 2, 1) := by decide +kernel
theorem dX3_formByChecks_20 : decode cX3_formByChecks 20 = .ok (.getfield 114, 3) := by decide +kernel
theorem dX3_formByChecks_23 : decode cX3_formByChecks 23 = .ok (.iload_n 1, 1) := by decide +kernel
theorem dX3_formByChecks_24 : decode cX3_formByChecks 24 = .ok (.iaload, 1) := by decide +kernel
theorem dX3_formByChecks_25 : decode cX3_formByChecks 25 = .ok (.aload_n 2, 1) := by decide +kernel
theorem dX3_formByChecks_26 : decode cX3_formByChecks 26 = .ok (.getfield 114, 3) := by decide +kernel
theorem dX3_formByChecks_29 : decode cX3_formByChecks 29 = .ok (.iload_n 3, 1) := by decide +kernel
theorem dX3_formByChecks_30 : decode cX3_formByChecks 30 = .ok (.iaload, 1) := by decide +kernel
theorem dX3_formByChecks_31 : decode cX3_formByChecks 31 = .ok (.ixor, 1) := by decide +kernel
theorem dX3_formByChecks_32 : decode cX3_formByChecks 32 = .ok (.istore 4, 2) := by decide +kernel
theorem dX3_formByChecks_34 : decode cX3_formByChecks 34 = .ok (.iload 4, 2) := by decide +kernel
theorem dX3_formByChecks_36 : decode cX3_formByChecks 36 = .ok (.aload_n 0, 1) := by decide +kernel
theorem dX3_formByChecks_37 : decode cX3_formByChecks 37 = .ok (.getfield 91, 3) := by decide +kernel
theorem dX3_formByChecks_40 : decode cX3_formByChecks 40 = .ok (.iand, 1) := by decide +kernel
theorem dX3_formByChecks_41 : decode cX3_formByChecks 41 = .ok (.ifCond .ne 16, 3) := by decide +kernel
theorem dX3_formByChecks_44 : decode cX3_formByChecks 44 = .ok (.aload_n 0, 1) := by decide +kernel
theorem dX3_formByChecks_45 : decode cX3_formByChecks 45 = .ok (.iload 4, 2) := by decide +kernel
theorem dX3_formByChecks_47 : decode cX3_formByChecks 47 = .ok (.invokevirtual 117, 3) := by decide +kernel
theorem dX3_formByChecks_50 : decode cX3_formByChecks 50 = .ok (.ifCond .eq 7, 3) := by decide +kernel
theorem dX3_formByChecks_53 : decode cX3_formByChecks 53 = .ok (.iconst 2, 1) := by decide +kernel
theorem dX3_formByChecks_54 : decode cX3_formByChecks 54 = .ok (.iload_n 3, 1) := by decide +kernel
theorem dX3_formByChecks_55 : decode cX3_formByChecks 55 = .ok (.imul, 1) := by decide +kernel
theorem dX3_formByChecks_56 : decode cX3_formByChecks 56 = .ok (.ireturn, 1) := by decide +kernel
theorem dX3_formByChecks_57 : decode cX3_formByChecks 57 = .ok (.iload 4, 2) := by decide +kernel
theorem dX3_formByChecks_59 : decode cX3_formByChecks 59 = .ok (.aload_n 0, 1) := by decide +kernel
theorem dX3_formByChecks_60 : decode cX3_formByChecks 60 = .ok (.getfield 91, 3) := by decide +kernel
theorem dX3_formByChecks_63 : decode cX3_formByChecks 63 = .ok (.iand, 1) := by decide +kernel
theorem dX3_formByChecks_64 : decode cX3_formByChecks 64 = .ok (.aload_n 0, 1) := by decide +kernel
theorem dX3_formByChecks_65 : decode cX3_formByChecks 65 = .ok (.getfield 91, 3) := by decide +kernel
theorem dX3_formByChecks_68 : decode cX3_formByChecks 68 = .ok (.if_icmp .ne 25, 3) := by decide +kernel
theorem dX3_formByChecks_71 : decode cX3_formByChecks 71 = .ok (.aload_n 0, 1) := by decide +kernel
theorem dX3_formByChecks_72 : decode cX3_formByChecks 72 = .ok (.iload 4, 2) := by decide +kernel
theorem dX3_formByChecks_74 : decode cX3_formByChecks 74 = .ok (.iconst (-1), 1) := by decide +kernel
theorem dX3_formByChecks_75 : decode cX3_formByChecks 75 = .ok (.ixor, 1) := by decide +kernel
theorem dX3_formByChecks_76 : decode cX3_formByChecks 76 = .ok (.aload_n 0, 1) := by decide +kernel
theorem dX3_formByChecks_77 : decode cX3_formByChecks 77 = .ok (.getfield 82, 3) := by decide +kernel
theorem dX3_formByChecks_80 : decode cX3_formByChecks 80 = .ok (.iand, 1) := by decide +kernel
theorem dX3_formByChecks_81 : decode cX3_formByChecks 81 = .ok (.invokevirtual 117, 3) := by decide +kernel
theorem dX3_formByChecks_84 : decode cX3_formByChecks 84 = .ok (.ifCond .eq 9, 3) := by decide +kernel
theorem dX3_formByChecks_87 : decode cX3_formByChecks 87 = .ok (.iconst 2, 1) := by decide +kernel
theorem dX3_formByChecks_88 : decode cX3_formByChecks 88 = .ok (.iload_n 3, 1) := by decide +kernel
theorem dX3_formByChecks_89 : decode cX3_formByChecks 89 = .ok (.imul, 1) := by decide +kernel
theorem dX3_formByChecks_90 : decode cX3_formByChecks 90 = .ok (.iconst 1, 1) := by decide +kernel
theorem dX3_formByChecks_91 : decode cX3_formByChecks 91 = .ok (.iadd, 1) := by decide +kernel
theorem dX3_formByChecks_92 : decode cX3_formByChecks 92 = .ok (.ireturn, 1) := by decide +kernel
theorem dX3_formByChecks_93 : decode cX3_formByChecks 93 = .ok (.iinc 3 1, 3) := by decide +kernel
theorem dX3_formByChecks_96 : decode cX3_formByChecks 96 = .ok (.goto (-94), 3) := by decide +kernel
theorem dX3_formByChecks_99 : decode cX3_formByChecks 99 = .ok (.iconst (-1), 1) := by decide +kernel
theorem dX3_formByChecks_100 : decode cX3_formByChecks 100 = .ok (.ireturn, 1) := by decide +kernel
theorem dX3_checkHolds_0 : decode cX3_checkHolds 0 = .ok (.aload_n 0, 1) := by decide +kernel
theorem dX3_checkHolds_1 : decode cX3_checkHolds 1 = .ok (.dup, 1) := by decide +kernel
theorem dX3_checkHolds_2 : decode cX3_checkHolds 2 = .ok (.getfield 75, 3) := by decide +kernel
theorem dX3_checkHolds_5 : decode cX3_checkHolds 5 = .ok (.iconst 1, 1) := by decide +kernel
theorem dX3_checkHolds_6 : decode cX3_checkHolds 6 = .ok (.iadd, 1) := by decide +kernel
theorem dX3_checkHolds_7 : decode cX3_checkHolds 7 = .ok (.putfield 75, 3) := by decide +kernel
theorem dX3_checkHolds_10 : decode cX3_checkHolds 10 = .ok (.iload_n 1, 1) := by decide +kernel
theorem dX3_checkHolds_11 : decode cX3_checkHolds 11 = .ok (.ifCond .ne 5, 3) := by decide +kernel
theorem dX3_checkHolds_14 : decode cX3_checkHolds 14 = .ok (.iconst 1, 1) := by decide +kernel
theorem dX3_checkHolds_15 : decode cX3_checkHolds 15 = .ok (.ireturn, 1) := by decide +kernel
theorem dX3_checkHolds_16 : decode cX3_checkHolds 16 = .ok (.aload_n 0, 1) := by decide +kernel
theorem dX3_checkHolds_17 : decode cX3_checkHolds 17 = .ok (.iload_n 1, 1) := by decide +kernel
theorem dX3_checkHolds_18 : decode cX3_checkHolds 18 = .ok (.invokestatic 121, 3) := by decide +kernel
theorem dX3_checkHolds_21 : decode cX3_checkHolds 21 = .ok (.invokevirtual 100, 3) := by decide +kernel
theorem dX3_checkHolds_24 : decode cX3_checkHolds 24 = .ok (.iconst 0, 1) := by decide +kernel
theorem dX3_checkHolds_25 : decode cX3_checkHolds 25 = .ok (.ireturn, 1) := by decide +kernel
theorem dX3_formOf_0 : decode cX3_formOf 0 = .ok (.aload_n 0, 1) := by decide +kernel
theorem dX3_formOf_1 : decode cX3_formOf 1 = .ok (.getfield 9, 3) := by decide +kernel
theorem dX3_formOf_4 : decode cX3_formOf 4 = .ok (.iload_n 1, 1) := by decide +kernel
theorem dX3_formOf_5 : decode cX3_formOf 5 = .ok (.iconst 1, 1) := by decide +kernel
theorem dX3_formOf_6 : decode cX3_formOf 6 = .ok (.ishr, 1) := by decide +kernel
theorem dX3_formOf_7 : decode cX3_formOf 7 = .ok (.iaload, 1) := by decide +kernel
theorem dX3_formOf_8 : decode cX3_formOf 8 = .ok (.iload_n 1, 1) := by decide +kernel
theorem dX3_formOf_9 : decode cX3_formOf 9 = .ok (.iconst 1, 1) := by decide +kernel
theorem dX3_formOf_10 : decode cX3_formOf 10 = .ok (.iand, 1) := by decide +kernel
theorem dX3_formOf_11 : decode cX3_formOf 11 = .ok (.ixor, 1) := by decide +kernel
theorem dX3_formOf_12 : decode cX3_formOf 12 = .ok (.ireturn, 1) := by decide +kernel
theorem dX3_lineOf_0 : decode cX3_lineOf 0 = .ok (.aload_n 0, 1) := by decide +kernel
theorem dX3_lineOf_1 : decode cX3_lineOf 1 = .ok (.getfield 24, 3) := by decide +kernel
theorem dX3_lineOf_4 : decode cX3_lineOf 4 = .ok (.iload_n 1, 1) := by decide +kernel
theorem dX3_lineOf_5 : decode cX3_lineOf 5 = .ok (.iaload, 1) := by decide +kernel
theorem dX3_lineOf_6 : decode cX3_lineOf 6 = .ok (.istore_n 3, 1) := by decide +kernel
theorem dX3_lineOf_7 : decode cX3_lineOf 7 = .ok (.iload_n 2, 1) := by decide +kernel
theorem dX3_lineOf_8 : decode cX3_lineOf 8 = .ok (.lookupswitch 37 #[(0, 28), (1, 30)], 28) := by decide +kernel
theorem dX3_lineOf_36 : decode cX3_lineOf 36 = .ok (.iload_n 3, 1) := by decide +kernel
theorem dX3_lineOf_37 : decode cX3_lineOf 37 = .ok (.ireturn, 1) := by decide +kernel
theorem dX3_lineOf_38 : decode cX3_lineOf 38 = .ok (.aload_n 0, 1) := by decide +kernel
theorem dX3_lineOf_39 : decode cX3_lineOf 39 = .ok (.getfield 9, 3) := by decide +kernel
theorem dX3_lineOf_42 : decode cX3_lineOf 42 = .ok (.iload_n 3, 1) := by decide +kernel
theorem dX3_lineOf_43 : decode cX3_lineOf 43 = .ok (.iaload, 1) := by decide +kernel
theorem dX3_lineOf_44 : decode cX3_lineOf 44 = .ok (.ireturn, 1) := by decide +kernel
theorem dX3_lineOf_45 : decode cX3_lineOf 45 = .ok (.aload_n 0, 1) := by decide +kernel
theorem dX3_lineOf_46 : decode cX3_lineOf 46 = .ok (.getfield 15, 3) := by decide +kernel
theorem dX3_lineOf_49 : decode cX3_lineOf 49 = .ok (.iload_n 3, 1) := by decide +kernel
theorem dX3_lineOf_50 : decode cX3_lineOf 50 = .ok (.iaload, 1) := by decide +kernel
theorem dX3_lineOf_51 : decode cX3_lineOf 51 = .ok (.ireturn, 1) := by decide +kernel
theorem dX3_tallyOf_0 : decode cX3_tallyOf 0 = .ok (.iload_n 1, 1) := by decide +kernel
theorem dX3_tallyOf_1 : decode cX3_tallyOf 1 = .ok (.lookupswitch 37 #[(4, 27), (5, 32)], 27) := by decide +kernel
theorem dX3_tallyOf_28 : decode cX3_tallyOf 28 = .ok (.aload_n 0, 1) := by decide +kernel
theorem dX3_tallyOf_29 : decode cX3_tallyOf 29 = .ok (.getfield 75, 3) := by decide +kernel
theorem dX3_tallyOf_32 : decode cX3_tallyOf 32 = .ok (.ireturn, 1) := by decide +kernel
theorem dX3_tallyOf_33 : decode cX3_tallyOf 33 = .ok (.aload_n 0, 1) := by decide +kernel
theorem dX3_tallyOf_34 : decode cX3_tallyOf 34 = .ok (.getfield 88, 3) := by decide +kernel
theorem dX3_tallyOf_37 : decode cX3_tallyOf 37 = .ok (.ireturn, 1) := by decide +kernel
theorem dX3_tallyOf_38 : decode cX3_tallyOf 38 = .ok (.aload_n 0, 1) := by decide +kernel
theorem dX3_tallyOf_39 : decode cX3_tallyOf 39 = .ok (.getfield 33, 3) := by decide +kernel
theorem dX3_tallyOf_42 : decode cX3_tallyOf 42 = .ok (.iload_n 1, 1) := by decide +kernel
theorem dX3_tallyOf_43 : decode cX3_tallyOf 43 = .ok (.iaload, 1) := by decide +kernel
theorem dX3_tallyOf_44 : decode cX3_tallyOf 44 = .ok (.ireturn, 1) := by decide +kernel
theorem dX3_numberKept_0 : decode cX3_numberKept 0 = .ok (.iconst 0, 1) := by decide +kernel
theorem dX3_numberKept_1 : decode cX3_numberKept 1 = .ok (.istore_n 2, 1) := by decide +kernel
theorem dX3_numberKept_2 : decode cX3_numberKept 2 = .ok (.iconst 0, 1) := by decide +kernel
theorem dX3_numberKept_3 : decode cX3_numberKept 3 = .ok (.istore_n 3, 1) := by decide +kernel
theorem dX3_numberKept_4 : decode cX3_numberKept 4 = .ok (.iload_n 3, 1) := by decide +kernel
theorem dX3_numberKept_5 : decode cX3_numberKept 5 = .ok (.iload_n 1, 1) := by decide +kernel
theorem dX3_numberKept_6 : decode cX3_numberKept 6 = .ok (.if_icmp .ge 28, 3) := by decide +kernel
theorem dX3_numberKept_9 : decode cX3_numberKept 9 = .ok (.aload_n 0, 1) := by decide +kernel
theorem dX3_numberKept_10 : decode cX3_numberKept 10 = .ok (.getfield 15, 3) := by decide +kernel
theorem dX3_numberKept_13 : decode cX3_numberKept 13 = .ok (.iload_n 3, 1) := by decide +kernel
theorem dX3_numberKept_14 : decode cX3_numberKept 14 = .ok (.iaload, 1) := by decide +kernel
theorem dX3_numberKept_15 : decode cX3_numberKept 15 = .ok (.ifCond .ne 13, 3) := by decide +kernel
theorem dX3_numberKept_18 : decode cX3_numberKept 18 = .ok (.aload_n 0, 1) := by decide +kernel
theorem dX3_numberKept_19 : decode cX3_numberKept 19 = .ok (.getfield 27, 3) := by decide +kernel
theorem dX3_numberKept_22 : decode cX3_numberKept 22 = .ok (.iload_n 3, 1) := by decide +kernel
theorem dX3_numberKept_23 : decode cX3_numberKept 23 = .ok (.iload_n 2, 1) := by decide +kernel
theorem dX3_numberKept_24 : decode cX3_numberKept 24 = .ok (.iastore, 1) := by decide +kernel
theorem dX3_numberKept_25 : decode cX3_numberKept 25 = .ok (.iinc 2 1, 3) := by decide +kernel
theorem dX3_numberKept_28 : decode cX3_numberKept 28 = .ok (.iinc 3 1, 3) := by decide +kernel
theorem dX3_numberKept_31 : decode cX3_numberKept 31 = .ok (.goto (-27), 3) := by decide +kernel
theorem dX3_numberKept_34 : decode cX3_numberKept 34 = .ok (.return_, 1) := by decide +kernel
theorem dX3_numbered_0 : decode cX3_numbered 0 = .ok (.iconst 2, 1) := by decide +kernel
theorem dX3_numbered_1 : decode cX3_numbered 1 = .ok (.aload_n 0, 1) := by decide +kernel
theorem dX3_numbered_2 : decode cX3_numbered 2 = .ok (.getfield 27, 3) := by decide +kernel
theorem dX3_numbered_5 : decode cX3_numbered 5 = .ok (.iload_n 1, 1) := by decide +kernel
theorem dX3_numbered_6 : decode cX3_numbered 6 = .ok (.iconst 1, 1) := by decide +kernel
theorem dX3_numbered_7 : decode cX3_numbered 7 = .ok (.ishr, 1) := by decide +kernel
theorem dX3_numbered_8 : decode cX3_numbered 8 = .ok (.iaload, 1) := by decide +kernel
theorem dX3_numbered_9 : decode cX3_numbered 9 = .ok (.imul, 1) := by decide +kernel
theorem dX3_numbered_10 : decode cX3_numbered 10 = .ok (.iload_n 1, 1) := by decide +kernel
theorem dX3_numbered_11 : decode cX3_numbered 11 = .ok (.iconst 1, 1) := by decide +kernel
theorem dX3_numbered_12 : decode cX3_numbered 12 = .ok (.iand, 1) := by decide +kernel
theorem dX3_numbered_13 : decode cX3_numbered 13 = .ok (.iadd, 1) := by decide +kernel
theorem dX3_numbered_14 : decode cX3_numbered 14 = .ok (.ireturn, 1) := by decide +kernel
theorem dX3_digestOn_0 : decode cX3_digestOn 0 = .ok (.iconst 0, 1) := by decide +kernel
theorem dX3_digestOn_1 : decode cX3_digestOn 1 = .ok (.istore_n 3, 1) := by decide +kernel
theorem dX3_digestOn_2 : decode cX3_digestOn 2 = .ok (.iload_n 3, 1) := by decide +kernel
theorem dX3_digestOn_3 : decode cX3_digestOn 3 = .ok (.aload_n 0, 1) := by decide +kernel
theorem dX3_digestOn_4 : decode cX3_digestOn 4 = .ok (.getfield 88, 3) := by decide +kernel
theorem dX3_digestOn_7 : decode cX3_digestOn 7 = .ok (.if_icmp .ge 23, 3) := by decide +kernel
theorem dX3_digestOn_10 : decode cX3_digestOn 10 = .ok (.ldc2_w 124, 3) := by decide +kernel
theorem dX3_digestOn_13 : decode cX3_digestOn 13 = .ok (.lload_n 1, 1) := by decide +kernel
theorem dX3_digestOn_14 : decode cX3_digestOn 14 = .ok (.lmul, 1) := by decide +kernel
theorem dX3_digestOn_15 : decode cX3_digestOn 15 = .ok (.aload_n 0, 1) := by decide +kernel
theorem dX3_digestOn_16 : decode cX3_digestOn 16 = .ok (.getfield 30, 3) := by decide +kernel
theorem dX3_digestOn_19 : decode cX3_digestOn 19 = .ok (.iload_n 3, 1) := by decide +kernel
theorem dX3_digestOn_20 : decode cX3_digestOn 20 = .ok (.iaload, 1) := by decide +kernel
theorem dX3_digestOn_21 : decode cX3_digestOn 21 = .ok (.i2l, 1) := by decide +kernel
theorem dX3_digestOn_22 : decode cX3_digestOn 22 = .ok (.ladd, 1) := by decide +kernel
theorem dX3_digestOn_23 : decode cX3_digestOn 23 = .ok (.lstore_n 1, 1) := by decide +kernel
theorem dX3_digestOn_24 : decode cX3_digestOn 24 = .ok (.iinc 3 1, 3) := by decide +kernel
theorem dX3_digestOn_27 : decode cX3_digestOn 27 = .ok (.goto (-25), 3) := by decide +kernel
theorem dX3_digestOn_30 : decode cX3_digestOn 30 = .ok (.iconst 0, 1) := by decide +kernel
theorem dX3_digestOn_31 : decode cX3_digestOn 31 = .ok (.istore_n 3, 1) := by decide +kernel
theorem dX3_digestOn_32 : decode cX3_digestOn 32 = .ok (.iload_n 3, 1) := by decide +kernel
theorem dX3_digestOn_33 : decode cX3_digestOn 33 = .ok (.iconst 5, 1) := by decide +kernel
theorem dX3_digestOn_34 : decode cX3_digestOn 34 = .ok (.if_icmp .gt 22, 3) := by decide +kernel
theorem dX3_digestOn_37 : decode cX3_digestOn 37 = .ok (.ldc2_w 124, 3) := by decide +kernel
theorem dX3_digestOn_40 : decode cX3_digestOn 40 = .ok (.lload_n 1, 1) := by decide +kernel
theorem dX3_digestOn_41 : decode cX3_digestOn 41 = .ok (.lmul, 1) := by decide +kernel
theorem dX3_digestOn_42 : decode cX3_digestOn 42 = .ok (.aload_n 0, 1) := by decide +kernel
theorem dX3_digestOn_43 : decode cX3_digestOn 43 = .ok (.iload_n 3, 1) := by decide +kernel
theorem dX3_digestOn_44 : decode cX3_digestOn 44 = .ok (.invokevirtual 126, 3) := by decide +kernel
theorem dX3_digestOn_47 : decode cX3_digestOn 47 = .ok (.i2l, 1) := by decide +kernel
theorem dX3_digestOn_48 : decode cX3_digestOn 48 = .ok (.ladd, 1) := by decide +kernel
theorem dX3_digestOn_49 : decode cX3_digestOn 49 = .ok (.lstore_n 1, 1) := by decide +kernel
theorem dX3_digestOn_50 : decode cX3_digestOn 50 = .ok (.iinc 3 1, 3) := by decide +kernel
theorem dX3_digestOn_53 : decode cX3_digestOn 53 = .ok (.goto (-21), 3) := by decide +kernel
theorem dX3_digestOn_56 : decode cX3_digestOn 56 = .ok (.iconst 0, 1) := by decide +kernel
theorem dX3_digestOn_57 : decode cX3_digestOn 57 = .ok (.istore_n 3, 1) := by decide +kernel
theorem dX3_digestOn_58 : decode cX3_digestOn 58 = .ok (.iload_n 3, 1) := by decide +kernel
theorem dX3_digestOn_59 : decode cX3_digestOn 59 = .ok (.aload_n 0, 1) := by decide +kernel
theorem dX3_digestOn_60 : decode cX3_digestOn 60 = .ok (.getfield 72, 3) := by decide +kernel
theorem dX3_digestOn_63 : decode cX3_digestOn 63 = .ok (.if_icmp .ge 39, 3) := by decide +kernel
theorem dX3_digestOn_66 : decode cX3_digestOn 66 = .ok (.iconst 0, 1) := by decide +kernel
theorem dX3_digestOn_67 : decode cX3_digestOn 67 = .ok (.istore 4, 2) := by decide +kernel
theorem dX3_digestOn_69 : decode cX3_digestOn 69 = .ok (.iload 4, 2) := by decide +kernel
theorem dX3_digestOn_71 : decode cX3_digestOn 71 = .ok (.iconst 2, 1) := by decide +kernel
theorem dX3_digestOn_72 : decode cX3_digestOn 72 = .ok (.if_icmp .gt 24, 3) := by decide +kernel
theorem dX3_digestOn_75 : decode cX3_digestOn 75 = .ok (.ldc2_w 124, 3) := by decide +kernel
theorem dX3_digestOn_78 : decode cX3_digestOn 78 = .ok (.lload_n 1, 1) := by decide +kernel
theorem dX3_digestOn_79 : decode cX3_digestOn 79 = .ok (.lmul, 1) := by decide +kernel
theorem dX3_digestOn_80 : decode cX3_digestOn 80 = .ok (.aload_n 0, 1) := by decide +kernel
theorem dX3_digestOn_81 : decode cX3_digestOn 81 = .ok (.iload_n 3, 1) := by decide +kernel
theorem dX3_digestOn_82 : decode cX3_digestOn 82 = .ok (.iload 4, 2) := by decide +kernel
theorem dX3_digestOn_84 : decode cX3_digestOn 84 = .ok (.invokevirtual 129, 3) := by decide +kernel
theorem dX3_digestOn_87 : decode cX3_digestOn 87 = .ok (.i2l, 1) := by decide +kernel
theorem dX3_digestOn_88 : decode cX3_digestOn 88 = .ok (.ladd, 1) := by decide +kernel
theorem dX3_digestOn_89 : decode cX3_digestOn 89 = .ok (.lstore_n 1, 1) := by decide +kernel
theorem dX3_digestOn_90 : decode cX3_digestOn 90 = .ok (.iinc 4 1, 3) := by decide +kernel
theorem dX3_digestOn_93 : decode cX3_digestOn 93 = .ok (.goto (-24), 3) := by decide +kernel
theorem dX3_digestOn_96 : decode cX3_digestOn 96 = .ok (.iinc 3 1, 3) := by decide +kernel
theorem dX3_digestOn_99 : decode cX3_digestOn 99 = .ok (.goto (-41), 3) := by decide +kernel
theorem dX3_digestOn_102 : decode cX3_digestOn 102 = .ok (.lload_n 1, 1) := by decide +kernel
theorem dX3_digestOn_103 : decode cX3_digestOn 103 = .ok (.lreturn, 1) := by decide +kernel
theorem dX4_init_0 : decode cX4_init 0 = .ok (.aload_n 0, 1) := by decide +kernel
theorem dX4_init_1 : decode cX4_init 1 = .ok (.invokespecial 3, 3) := by decide +kernel
theorem dX4_init_4 : decode cX4_init 4 = .ok (.aload_n 0, 1) := by decide +kernel
theorem dX4_init_5 : decode cX4_init 5 = .ok (.new 9, 3) := by decide +kernel
theorem dX4_init_8 : decode cX4_init 8 = .ok (.dup, 1) := by decide +kernel
theorem dX4_init_9 : decode cX4_init 9 = .ok (.invokespecial 11, 3) := by decide +kernel
theorem dX4_init_12 : decode cX4_init 12 = .ok (.putfield 12, 3) := by decide +kernel
theorem dX4_init_15 : decode cX4_init 15 = .ok (.aload_n 0, 1) := by decide +kernel
theorem dX4_init_16 : decode cX4_init 16 = .ok (.new 9, 3) := by decide +kernel
theorem dX4_init_19 : decode cX4_init 19 = .ok (.dup, 1) := by decide +kernel
theorem dX4_init_20 : decode cX4_init 20 = .ok (.invokespecial 11, 3) := by decide +kernel
theorem dX4_init_23 : decode cX4_init 23 = .ok (.putfield 16, 3) := by decide +kernel
theorem dX4_init_26 : decode cX4_init 26 = .ok (.aload_n 0, 1) := by decide +kernel
theorem dX4_init_27 : decode cX4_init 27 = .ok (.new 19, 3) := by decide +kernel
theorem dX4_init_30 : decode cX4_init 30 = .ok (.dup, 1) := by decide +kernel
theorem dX4_init_31 : decode cX4_init 31 = .ok (.invokespecial 21, 3) := by decide +kernel
theorem dX4_init_34 : decode cX4_init 34 = .ok (.putfield 22, 3) := by decide +kernel
theorem dX4_init_37 : decode cX4_init 37 = .ok (.aload_n 0, 1) := by decide +kernel
theorem dX4_init_38 : decode cX4_init 38 = .ok (.new 26, 3) := by decide +kernel
theorem dX4_init_41 : decode cX4_init 41 = .ok (.dup, 1) := by decide +kernel
theorem dX4_init_42 : decode cX4_init 42 = .ok (.invokespecial 28, 3) := by decide +kernel
theorem dX4_init_45 : decode cX4_init 45 = .ok (.putfield 29, 3) := by decide +kernel
theorem dX4_init_48 : decode cX4_init 48 = .ok (.aload_n 0, 1) := by decide +kernel
theorem dX4_init_49 : decode cX4_init 49 = .ok (.new 33, 3) := by decide +kernel
theorem dX4_init_52 : decode cX4_init 52 = .ok (.dup, 1) := by decide +kernel
theorem dX4_init_53 : decode cX4_init 53 = .ok (.invokespecial 35, 3) := by decide +kernel
theorem dX4_init_56 : decode cX4_init 56 = .ok (.putfield 36, 3) := by decide +kernel
theorem dX4_init_59 : decode cX4_init 59 = .ok (.aload_n 0, 1) := by decide +kernel
theorem dX4_init_60 : decode cX4_init 60 = .ok (.iconst 1, 1) := by decide +kernel
theorem dX4_init_61 : decode cX4_init 61 = .ok (.putfield 40, 3) := by decide +kernel
theorem dX4_init_64 : decode cX4_init 64 = .ok (.return_, 1) := by decide +kernel
theorem dX4_inputs_0 : decode cX4_inputs 0 = .ok (.aload_n 0, 1) := by decide +kernel
theorem dX4_inputs_1 : decode cX4_inputs 1 = .ok (.iconst 0, 1) := by decide +kernel
theorem dX4_inputs_2 : decode cX4_inputs 2 = .ok (.iload_n 1, 1) := by decide +kernel
theorem dX4_inputs_3 : decode cX4_inputs 3 = .ok (.iconst 0, 1) := by decide +kernel
theorem dX4_inputs_4 : decode cX4_inputs 4 = .ok (.iconst 0, 1) := by decide +kernel
theorem dX4_inputs_5 : decode cX4_inputs 5 = .ok (.invokevirtual 44, 3) := by decide +kernel
theorem dX4_inputs_8 : decode cX4_inputs 8 = .ok (.ireturn, 1) := by decide +kernel
theorem dX4_gate_0 : decode cX4_gate 0 = .ok (.aload_n 0, 1) := by decide +kernel
theorem dX4_gate_1 : decode cX4_gate 1 = .ok (.iconst 1, 1) := by decide +kernel
theorem dX4_gate_2 : decode cX4_gate 2 = .ok (.iload_n 1, 1) := by decide +kernel
theorem dX4_gate_3 : decode cX4_gate 3 = .ok (.iload_n 2, 1) := by decide +kernel
theorem dX4_gate_4 : decode cX4_gate 4 = .ok (.iconst 0, 1) := by decide +kernel
theorem dX4_gate_5 : decode cX4_gate 5 = .ok (.invokevirtual 44, 3) := by decide +kernel
theorem dX4_gate_8 : decode cX4_gate 8 = .ok (.ireturn, 1) := by decide +kernel
theorem dX4_xor_0 : decode cX4_xor 0 = .ok (.aload_n 0, 1) := by decide +kernel
theorem dX4_xor_1 : decode cX4_xor 1 = .ok (.iconst 2, 1) := by decide +kernel
theorem dX4_xor_2 : decode cX4_xor 2 = .ok (.iload_n 1, 1) := by decide +kernel
theorem dX4_xor_3 : decode cX4_xor 3 = .ok (.iload_n 2, 1) := by decide +kernel
theorem dX4_xor_4 : decode cX4_xor 4 = .ok (.iconst 0, 1) := by decide +kernel
theorem dX4_xor_5 : decode cX4_xor 5 = .ok (.invokevirtual 44, 3) := by decide +kernel
theorem dX4_xor_8 : decode cX4_xor 8 = .ok (.ireturn, 1) := by decide +kernel
theorem dX4_mux_0 : decode cX4_mux 0 = .ok (.aload_n 0, 1) := by decide +kernel
theorem dX4_mux_1 : decode cX4_mux 1 = .ok (.iconst 3, 1) := by decide +kernel
theorem dX4_mux_2 : decode cX4_mux 2 = .ok (.iload_n 1, 1) := by decide +kernel
theorem dX4_mux_3 : decode cX4_mux 3 = .ok (.iload_n 2, 1) := by decide +kernel
theorem dX4_mux_4 : decode cX4_mux 4 = .ok (.iload_n 3, 1) := by decide +kernel
theorem dX4_mux_5 : decode cX4_mux 5 = .ok (.invokevirtual 44, 3) := by decide +kernel
theorem dX4_mux_8 : decode cX4_mux 8 = .ok (.ireturn, 1) := by decide +kernel
theorem dX4_out_0 : decode cX4_out 0 = .ok (.aload_n 0, 1) := by decide +kernel
theorem dX4_out_1 : decode cX4_out 1 = .ok (.iconst 4, 1) := by decide +kernel
theorem dX4_out_2 : decode cX4_out 2 = .ok (.iload_n 1, 1) := by decide +kernel
theorem dX4_out_3 : decode cX4_out 3 = .ok (.iload_n 2, 1) := by decide +kernel
theorem dX4_out_4 : decode cX4_out 4 = .ok (.iconst 0, 1) := by decide +kernel
theorem dX4_out_5 : decode cX4_out 5 = .ok (.invokevirtual 44, 3) := by decide +kernel
theorem dX4_out_8 : decode cX4_out 8 = .ok (.ireturn, 1) := by decide +kernel
theorem dX4_pattern_0 : decode cX4_pattern 0 = .ok (.aload_n 0, 1) := by decide +kernel
theorem dX4_pattern_1 : decode cX4_pattern 1 = .ok (.iconst 5, 1) := by decide +kernel
theorem dX4_pattern_2 : decode cX4_pattern 2 = .ok (.iload_n 1, 1) := by decide +kernel
theorem dX4_pattern_3 : decode cX4_pattern 3 = .ok (.iconst 0, 1) := by decide +kernel
theorem dX4_pattern_4 : decode cX4_pattern 4 = .ok (.iconst 0, 1) := by decide +kernel
theorem dX4_pattern_5 : decode cX4_pattern 5 = .ok (.invokevirtual 44, 3) := by decide +kernel
theorem dX4_pattern_8 : decode cX4_pattern 8 = .ok (.ireturn, 1) := by decide +kernel
theorem dX4_settles_0 : decode cX4_settles 0 = .ok (.aload_n 0, 1) := by decide +kernel
theorem dX4_settles_1 : decode cX4_settles 1 = .ok (.invokevirtual 48, 3) := by decide +kernel
theorem dX4_settles_4 : decode cX4_settles 4 = .ok (.astore_n 1, 1) := by decide +kernel
theorem dX4_settles_5 : decode cX4_settles 5 = .ok (.aload_n 0, 1) := by decide +kernel
theorem dX4_settles_6 : decode cX4_settles 6 = .ok (.getfield 29, 3) := by decide +kernel
theorem dX4_settles_9 : decode cX4_settles 9 = .ok (.aload_n 0, 1) := by decide +kernel
theorem dX4_settles_10 : decode cX4_settles 10 = .ok (.getfield 12, 3) := by decide +kernel
theorem dX4_settles_13 : decode cX4_settles 13 = .ok (.invokevirtual 52, 3) := by decide +kernel
theorem dX4_settles_16 : decode cX4_settles 16 = .ok (.aload_n 0, 1) := by decide +kernel
theorem dX4_settles_17 : decode cX4_settles 17 = .ok (.iconst 1, 1) := by decide +kernel
theorem dX4_settles_18 : decode cX4_settles 18 = .ok (.putfield 40, 3) := by decide +kernel
theorem dX4_settles_21 : decode cX4_settles 21 = .ok (.aload_n 0, 1) := by decide +kernel
theorem dX4_settles_22 : decode cX4_settles 22 = .ok (.getfield 12, 3) := by decide +kernel
theorem dX4_settles_25 : decode cX4_settles 25 = .ok (.aload_n 1, 1) := by decide +kernel
theorem dX4_settles_26 : decode cX4_settles 26 = .ok (.invokevirtual 56, 3) := by decide +kernel
theorem dX4_settles_29 : decode cX4_settles 29 = .ok (.ireturn, 1) := by decide +kernel
theorem dX4_of_0 : decode cX4_of 0 = .ok (.aload_n 0, 1) := by decide +kernel
theorem dX4_of_1 : decode cX4_of 1 = .ok (.getfield 12, 3) := by decide +kernel
theorem dX4_of_4 : decode cX4_of 4 = .ok (.iload_n 1, 1) := by decide +kernel
theorem dX4_of_5 : decode cX4_of 5 = .ok (.invokevirtual 60, 3) := by decide +kernel
theorem dX4_of_8 : decode cX4_of 8 = .ok (.ifCond .eq 12, 3) := by decide +kernel
theorem dX4_of_11 : decode cX4_of 11 = .ok (.iload_n 2, 1) := by decide +kernel
theorem dX4_of_12 : decode cX4_of 12 = .ok (.ifCond .lt 8, 3) := by decide +kernel
theorem dX4_of_15 : decode cX4_of 15 = .ok (.iload_n 2, 1) := by decide +kernel
theorem dX4_of_16 : decode cX4_of 16 = .ok (.iconst 1, 1) := by decide +kernel
theorem dX4_of_17 : decode cX4_of 17 = .ok (.if_icmp .le 10, 3) := by decide +kernel
theorem dX4_of_20 : decode cX4_of 20 = .ok (.aload_n 0, 1) := by decide +kernel
theorem dX4_of_21 : decode cX4_of 21 = .ok (.bipush (-2), 2) := by decide +kernel
theorem dX4_of_23 : decode cX4_of 23 = .ok (.invokevirtual 64, 3) := by decide +kernel
theorem dX4_of_26 : decode cX4_of 26 = .ok (.ireturn, 1) := by decide +kernel
theorem dX4_of_27 : decode cX4_of 27 = .ok (.iload_n 2, 1) := by decide +kernel
theorem dX4_of_28 : decode cX4_of 28 = .ok (.ifCond .ne 15, 3) := by decide +kernel
theorem dX4_of_31 : decode cX4_of 31 = .ok (.aload_n 0, 1) := by decide +kernel
theorem dX4_of_32 : decode cX4_of 32 = .ok (.getfield 12, 3) := by decide +kernel
theorem dX4_of_35 : decode cX4_of 35 = .ok (.getfield 68, 3) := by decide +kernel
theorem dX4_of_38 : decode cX4_of 38 = .ok (.iload_n 1, 1) := by decide +kernel
theorem dX4_of_39 : decode cX4_of 39 = .ok (.iaload, 1) := by decide +kernel
theorem dX4_of_40 : decode cX4_of 40 = .ok (.goto 12, 3) := by decide +kernel
theorem dX4_of_43 : decode cX4_of 43 = .ok (.aload_n 0, 1) := by decide +kernel
theorem dX4_of_44 : decode cX4_of 44 = .ok (.getfield 12, 3) := by decide +kernel
theorem dX4_of_47 : decode cX4_of 47 = .ok (.getfield 72, 3) := by decide +kernel
theorem dX4_of_50 : decode cX4_of 50 = .ok (.iload_n 1, 1) := by decide +kernel
theorem dX4_of_51 : decode cX4_of 51 = .ok (.iaload, 1) := by decide +kernel
theorem dX4_of_52 : decode cX4_of 52 = .ok (.ireturn, 1) := by decide +kernel
theorem dX4_table_0 : decode cX4_table 0 = .ok (.aload_n 0, 1) := by decide +kernel
theorem dX4_table_1 : decode cX4_table 1 = .ok (.getfield 12, 3) := by decide +kernel
theorem dX4_table_4 : decode cX4_table 4 = .ok (.iload_n 1, 1) := by decide +kernel
theorem dX4_table_5 : decode cX4_table 5 = .ok (.invokevirtual 75, 3) := by decide +kernel
theorem dX4_table_8 : decode cX4_table 8 = .ok (.ifCond .eq 14, 3) := by decide +kernel
theorem dX4_table_11 : decode cX4_table 11 = .ok (.aload_n 0, 1) := by decide +kernel
theorem dX4_table_12 : decode cX4_table 12 = .ok (.getfield 12, 3) := by decide +kernel
theorem dX4_table_15 : decode cX4_table 15 = .ok (.iload_n 1, 1) := by decide +kernel
theorem dX4_table_16 : decode cX4_table 16 = .ok (.invokevirtual 78, 3) := by decide +kernel
theorem dX4_table_19 : decode cX4_table 19 = .ok (.goto 9, 3) := by decide +kernel
theorem dX4_table_22 : decode cX4_table 22 = .ok (.aload_n 0, 1) := by decide +kernel
theorem dX4_table_23 : decode cX4_table 23 = .ok (.bipush (-2), 2) := by decide +kernel
theorem dX4_table_25 : decode cX4_table 25 = .ok (.invokevirtual 64, 3) := by decide +kernel
theorem dX4_table_28 : decode cX4_table 28 = .ok (.ireturn, 1) := by decide +kernel
theorem dX4_at_0 : decode cX4_at 0 = .ok (.aload_n 0, 1) := by decide +kernel
theorem dX4_at_1 : decode cX4_at 1 = .ok (.getfield 12, 3) := by decide +kernel
theorem dX4_at_4 : decode cX4_at 4 = .ok (.iload_n 1, 1) := by decide +kernel
theorem dX4_at_5 : decode cX4_at 5 = .ok (.invokevirtual 75, 3) := by decide +kernel
theorem dX4_at_8 : decode cX4_at 8 = .ok (.ifCond .eq 14, 3) := by decide +kernel
theorem dX4_at_11 : decode cX4_at 11 = .ok (.aload_n 0, 1) := by decide +kernel
theorem dX4_at_12 : decode cX4_at 12 = .ok (.getfield 12, 3) := by decide +kernel
theorem dX4_at_15 : decode cX4_at 15 = .ok (.iload_n 2, 1) := by decide +kernel
theorem dX4_at_16 : decode cX4_at 16 = .ok (.invokevirtual 81, 3) := by decide +kernel
theorem dX4_at_19 : decode cX4_at 19 = .ok (.ifCond .ne 10, 3) := by decide +kernel
theorem dX4_at_22 : decode cX4_at 22 = .ok (.aload_n 0, 1) := by decide +kernel
theorem dX4_at_23 : decode cX4_at 23 = .ok (.bipush (-2), 2) := by decide +kernel
theorem dX4_at_25 : decode cX4_at 25 = .ok (.invokevirtual 64, 3) := by decide +kernel
theorem dX4_at_28 : decode cX4_at 28 = .ok (.ireturn, 1) := by decide +kernel
theorem dX4_at_29 : decode cX4_at 29 = .ok (.aload_n 0, 1) := by decide +kernel
theorem dX4_at_30 : decode cX4_at 30 = .ok (.getfield 12, 3) := by decide +kernel
theorem dX4_at_33 : decode cX4_at 33 = .ok (.iload_n 1, 1) := by decide +kernel
theorem dX4_at_34 : decode cX4_at 34 = .ok (.invokevirtual 78, 3) := by decide +kernel
theorem dX4_at_37 : decode cX4_at 37 = .ok (.iload_n 2, 1) := by decide +kernel
theorem dX4_at_38 : decode cX4_at 38 = .ok (.iushr, 1) := by decide +kernel
theorem dX4_at_39 : decode cX4_at 39 = .ok (.iconst 1, 1) := by decide +kernel
theorem dX4_at_40 : decode cX4_at 40 = .ok (.iand, 1) := by decide +kernel
theorem dX4_at_41 : decode cX4_at 41 = .ok (.ireturn, 1) := by decide +kernel
theorem dX4_depth_0 : decode cX4_depth 0 = .ok (.aload_n 0, 1) := by decide +kernel
theorem dX4_depth_1 : decode cX4_depth 1 = .ok (.getfield 12, 3) := by decide +kernel
theorem dX4_depth_4 : decode cX4_depth 4 = .ok (.iload_n 1, 1) := by decide +kernel
theorem dX4_depth_5 : decode cX4_depth 5 = .ok (.invokevirtual 75, 3) := by decide +kernel
theorem dX4_depth_8 : decode cX4_depth 8 = .ok (.ifCond .eq 14, 3) := by decide +kernel
theorem dX4_depth_11 : decode cX4_depth 11 = .ok (.aload_n 0, 1) := by decide +kernel
theorem dX4_depth_12 : decode cX4_depth 12 = .ok (.getfield 12, 3) := by decide +kernel
theorem dX4_depth_15 : decode cX4_depth 15 = .ok (.iload_n 1, 1) := by decide +kernel
theorem dX4_depth_16 : decode cX4_depth 16 = .ok (.invokevirtual 84, 3) := by decide +kernel
theorem dX4_depth_19 : decode cX4_depth 19 = .ok (.goto 9, 3) := by decide +kernel
theorem dX4_depth_22 : decode cX4_depth 22 = .ok (.aload_n 0, 1) := by decide +kernel
theorem dX4_depth_23 : decode cX4_depth 23 = .ok (.bipush (-2), 2) := by decide +kernel
theorem dX4_depth_25 : decode cX4_depth 25 = .ok (.invokevirtual 64, 3) := by decide +kernel
theorem dX4_depth_28 : decode cX4_depth 28 = .ok (.ireturn, 1) := by decide +kernel
theorem dX4_cone_0 : decode cX4_cone 0 = .ok (.aload_n 0, 1) := by decide +kernel
theorem dX4_cone_1 : decode cX4_cone 1 = .ok (.getfield 12, 3) := by decide +kernel
theorem dX4_cone_4 : decode cX4_cone 4 = .ok (.iload_n 1, 1) := by decide +kernel
theorem dX4_cone_5 : decode cX4_cone 5 = .ok (.invokevirtual 75, 3) := by decide +kernel
theorem dX4_cone_8 : decode cX4_cone 8 = .ok (.ifCond .eq 14, 3) := by decide +kernel
theorem dX4_cone_11 : decode cX4_cone 11 = .ok (.aload_n 0, 1) := by decide +kernel
theorem dX4_cone_12 : decode cX4_cone 12 = .ok (.getfield 12, 3) := by decide +kernel
theorem dX4_cone_15 : decode cX4_cone 15 = .ok (.iload_n 1, 1) := by decide +kernel
theorem dX4_cone_16 : decode cX4_cone 16 = .ok (.invokevirtual 87, 3) := by decide +kernel
theorem dX4_cone_19 : decode cX4_cone 19 = .ok (.goto 9, 3) := by decide +kernel
theorem dX4_cone_22 : decode cX4_cone 22 = .ok (.aload_n 0, 1) := by decide +kernel
theorem dX4_cone_23 : decode cX4_cone 23 = .ok (.bipush (-2), 2) := by decide +kernel
theorem dX4_cone_25 : decode cX4_cone 25 = .ok (.invokevirtual 64, 3) := by decide +kernel
theorem dX4_cone_28 : decode cX4_cone 28 = .ok (.ireturn, 1) := by decide +kernel
theorem dX4_outs_0 : decode cX4_outs 0 = .ok (.aload_n 0, 1) := by decide +kernel
theorem dX4_outs_1 : decode cX4_outs 1 = .ok (.getfield 12, 3) := by decide +kernel
theorem dX4_outs_4 : decode cX4_outs 4 = .ok (.iload_n 1, 1) := by decide +kernel
theorem dX4_outs_5 : decode cX4_outs 5 = .ok (.invokevirtual 90, 3) := by decide +kernel
theorem dX4_outs_8 : decode cX4_outs 8 = .ok (.ifCond .eq 7, 3) := by decide +kernel
theorem dX4_outs_11 : decode cX4_outs 11 = .ok (.iload_n 2, 1) := by decide +kernel
theorem dX4_outs_12 : decode cX4_outs 12 = .ok (.ifCond .ge 10, 3) := by decide +kernel
theorem dX4_outs_15 : decode cX4_outs 15 = .ok (.aload_n 0, 1) := by decide +kernel
theorem dX4_outs_16 : decode cX4_outs 16 = .ok (.bipush (-2), 2) := by decide +kernel
theorem dX4_outs_18 : decode cX4_outs 18 = .ok (.invokevirtual 64, 3) := by decide +kernel
theorem dX4_outs_21 : decode cX4_outs 21 = .ok (.ireturn, 1) := by decide +kernel
theorem dX4_outs_22 : decode cX4_outs 22 = .ok (.iload_n 2, 1) := by decide +kernel
theorem dX4_outs_23 : decode cX4_outs 23 = .ok (.aload_n 0, 1) := by decide +kernel
theorem dX4_outs_24 : decode cX4_outs 24 = .ok (.getfield 12, 3) := by decide +kernel
theorem dX4_outs_27 : decode cX4_outs 27 = .ok (.getfield 93, 3) := by decide +kernel
theorem dX4_outs_30 : decode cX4_outs 30 = .ok (.iload_n 1, 1) := by decide +kernel
theorem dX4_outs_31 : decode cX4_outs 31 = .ok (.iaload, 1) := by decide +kernel
theorem dX4_outs_32 : decode cX4_outs 32 = .ok (.if_icmp .ge 15, 3) := by decide +kernel
theorem dX4_outs_35 : decode cX4_outs 35 = .ok (.aload_n 0, 1) := by decide +kernel
theorem dX4_outs_36 : decode cX4_outs 36 = .ok (.getfield 12, 3) := by decide +kernel
theorem dX4_outs_39 : decode cX4_outs 39 = .ok (.iload_n 1, 1) := by decide +kernel
theorem dX4_outs_40 : decode cX4_outs 40 = .ok (.iload_n 2, 1) := by decide +kernel
theorem dX4_outs_41 : decode cX4_outs 41 = .ok (.invokevirtual 96, 3) := by decide +kernel
theorem dX4_outs_44 : decode cX4_outs 44 = .ok (.goto 4, 3) := by decide +kernel
theorem dX4_outs_47 : decode cX4_outs 47 = .ok (.iconst (-1), 1) := by decide +kernel
theorem dX4_outs_48 : decode cX4_outs 48 = .ok (.ireturn, 1) := by decide +kernel
theorem dX4_count_0 : decode cX4_count 0 = .ok (.iload_n 1, 1) := by decide +kernel
theorem dX4_count_1 : decode cX4_count 1 = .ok (.ifCond .lt 8, 3) := by decide +kernel
theorem dX4_count_4 : decode cX4_count 4 = .ok (.iload_n 1, 1) := by decide +kernel
theorem dX4_count_5 : decode cX4_count 5 = .ok (.iconst 4, 1) := by decide +kernel
theorem dX4_count_6 : decode cX4_count 6 = .ok (.if_icmp .le 12, 3) := by decide +kernel
theorem dX4_count_9 : decode cX4_count 9 = .ok (.aload_n 0, 1) := by decide +kernel
theorem dX4_count_10 : decode cX4_count 10 = .ok (.bipush (-2), 2) := by decide +kernel
theorem dX4_count_12 : decode cX4_count 12 = .ok (.invokevirtual 64, 3) := by decide +kernel
theorem dX4_count_15 : decode cX4_count 15 = .ok (.goto 11, 3) := by decide +kernel
theorem dX4_count_18 : decode cX4_count 18 = .ok (.aload_n 0, 1) := by decide +kernel
theorem dX4_count_19 : decode cX4_count 19 = .ok (.getfield 12, 3) := by decide +kernel
theorem dX4_count_22 : decode cX4_count 22 = .ok (.iload_n 1, 1) := by decide +kernel
theorem dX4_count_23 : decode cX4_count 23 = .ok (.invokevirtual 100, 3) := by decide +kernel
theorem dX4_count_26 : decode cX4_count 26 = .ok (.ireturn, 1) := by decide +kernel
theorem dX4_sign_0 : decode cX4_sign 0 = .ok (.aload_n 0, 1) := by decide +kernel
theorem dX4_sign_1 : decode cX4_sign 1 = .ok (.getfield 12, 3) := by decide +kernel
theorem dX4_sign_4 : decode cX4_sign 4 = .ok (.iload_n 1, 1) := by decide +kernel
theorem dX4_sign_5 : decode cX4_sign 5 = .ok (.invokevirtual 103, 3) := by decide +kernel
theorem dX4_sign_8 : decode cX4_sign 8 = .ok (.ifCond .eq 14, 3) := by decide +kernel
theorem dX4_sign_11 : decode cX4_sign 11 = .ok (.aload_n 0, 1) := by decide +kernel
theorem dX4_sign_12 : decode cX4_sign 12 = .ok (.getfield 12, 3) := by decide +kernel
theorem dX4_sign_15 : decode cX4_sign 15 = .ok (.iload_n 1, 1) := by decide +kernel
theorem dX4_sign_16 : decode cX4_sign 16 = .ok (.invokevirtual 106, 3) := by decide +kernel
theorem dX4_sign_19 : decode cX4_sign 19 = .ok (.goto 9, 3) := by decide +kernel
theorem dX4_sign_22 : decode cX4_sign 22 = .ok (.aload_n 0, 1) := by decide +kernel
theorem dX4_sign_23 : decode cX4_sign 23 = .ok (.bipush (-2), 2) := by decide +kernel
theorem dX4_sign_25 : decode cX4_sign 25 = .ok (.invokevirtual 64, 3) := by decide +kernel
theorem dX4_sign_28 : decode cX4_sign 28 = .ok (.ireturn, 1) := by decide +kernel
theorem dX4_form_0 : decode cX4_form 0 = .ok (.aload_n 0, 1) := by decide +kernel
theorem dX4_form_1 : decode cX4_form 1 = .ok (.getfield 12, 3) := by decide +kernel
theorem dX4_form_4 : decode cX4_form 4 = .ok (.iload_n 1, 1) := by decide +kernel
theorem dX4_form_5 : decode cX4_form 5 = .ok (.invokevirtual 103, 3) := by decide +kernel
theorem dX4_form_8 : decode cX4_form 8 = .ok (.ifCond .eq 15, 3) := by decide +kernel
theorem dX4_form_11 : decode cX4_form 11 = .ok (.aload_n 0, 1) := by decide +kernel
theorem dX4_form_12 : decode cX4_form 12 = .ok (.invokevirtual 48, 3) := by decide +kernel
theorem dX4_form_15 : decode cX4_form 15 = .ok (.getfield 109, 3) := by decide +kernel
theorem dX4_form_18 : decode cX4_form 18 = .ok (.iload_n 1, 1) := by decide +kernel
theorem dX4_form_19 : decode cX4_form 19 = .ok (.iaload, 1) := by decide +kernel
theorem dX4_form_20 : decode cX4_form 20 = .ok (.goto 9, 3) := by decide +kernel
theorem dX4_form_23 : decode cX4_form 23 = .ok (.aload_n 0, 1) := by decide +kernel
theorem dX4_form_24 : decode cX4_form 24 = .ok (.bipush (-2), 2) := by decide +kernel
theorem dX4_form_26 : decode cX4_form 26 = .ok (.invokevirtual 64, 3) := by decide +kernel
theorem dX4_form_29 : decode cX4_form 29 = .ok (.ireturn, 1) := by decide +kernel
theorem dX4_lines_0 : decode cX4_lines 0 = .ok (.iload_n 1, 1) := by decide +kernel
theorem dX4_lines_1 : decode cX4_lines 1 = .ok (.iconst (-1), 1) := by decide +kernel
theorem dX4_lines_2 : decode cX4_lines 2 = .ok (.if_icmp .lt 21, 3) := by decide +kernel
theorem dX4_lines_5 : decode cX4_lines 5 = .ok (.iload_n 2, 1) := by decide +kernel
theorem dX4_lines_6 : decode cX4_lines 6 = .ok (.ifCond .lt 17, 3) := by decide +kernel
theorem dX4_lines_9 : decode cX4_lines 9 = .ok (.iload_n 2, 1) := by decide +kernel
theorem dX4_lines_10 : decode cX4_lines 10 = .ok (.iconst 2, 1) := by decide +kernel
theorem dX4_lines_11 : decode cX4_lines 11 = .ok (.if_icmp .gt 12, 3) := by decide +kernel
theorem dX4_lines_14 : decode cX4_lines 14 = .ok (.iload_n 1, 1) := by decide +kernel
theorem dX4_lines_15 : decode cX4_lines 15 = .ok (.iconst (-1), 1) := by decide +kernel
theorem dX4_lines_16 : decode cX4_lines 16 = .ok (.if_icmp .ne 14, 3) := by decide +kernel
theorem dX4_lines_19 : decode cX4_lines 19 = .ok (.iload_n 2, 1) := by decide +kernel
theorem dX4_lines_20 : decode cX4_lines 20 = .ok (.ifCond .eq 10, 3) := by decide +kernel
theorem dX4_lines_23 : decode cX4_lines 23 = .ok (.aload_n 0, 1) := by decide +kernel
theorem dX4_lines_24 : decode cX4_lines 24 = .ok (.bipush (-2), 2) := by decide +kernel
theorem dX4_lines_26 : decode cX4_lines 26 = .ok (.invokevirtual 64, 3) := by decide +kernel
theorem dX4_lines_29 : decode cX4_lines 29 = .ok (.ireturn, 1) := by decide +kernel
theorem dX4_lines_30 : decode cX4_lines 30 = .ok (.aload_n 0, 1) := by decide +kernel
theorem dX4_lines_31 : decode cX4_lines 31 = .ok (.invokevirtual 48, 3) := by decide +kernel
theorem dX4_lines_34 : decode cX4_lines 34 = .ok (.astore_n 3, 1) := by decide +kernel
theorem dX4_lines_35 : decode cX4_lines 35 = .ok (.iload_n 1, 1) := by decide +kernel
theorem dX4_lines_36 : decode cX4_lines 36 = .ok (.iconst (-1), 1) := by decide +kernel
theorem dX4_lines_37 : decode cX4_lines 37 = .ok (.if_icmp .ne 8, 3) := by decide +kernel
theorem dX4_lines_40 : decode cX4_lines 40 = .ok (.aload_n 3, 1) := by decide +kernel
theorem dX4_lines_41 : decode cX4_lines 41 = .ok (.getfield 112, 3) := by decide +kernel
theorem dX4_lines_44 : decode cX4_lines 44 = .ok (.ireturn, 1) := by decide +kernel
theorem dX4_lines_45 : decode cX4_lines 45 = .ok (.iload_n 1, 1) := by decide +kernel
theorem dX4_lines_46 : decode cX4_lines 46 = .ok (.aload_n 3, 1) := by decide +kernel
theorem dX4_lines_47 : decode cX4_lines 47 = .ok (.getfield 112, 3) := by decide +kernel
theorem dX4_lines_50 : decode cX4_lines 50 = .ok (.if_icmp .ge 12, 3) := by decide +kernel
theorem dX4_lines_53 : decode cX4_lines 53 = .ok (.aload_n 3, 1) := by decide +kernel
theorem dX4_lines_54 : decode cX4_lines 54 = .ok (.iload_n 1, 1) := by decide +kernel
theorem dX4_lines_55 : decode cX4_lines 55 = .ok (.iload_n 2, 1) := by decide +kernel
theorem dX4_lines_56 : decode cX4_lines 56 = .ok (.invokevirtual 116, 3) := by decide +kernel
theorem dX4_lines_59 : decode cX4_lines 59 = .ok (.goto 5, 3) := by decide +kernel
theorem dX4_lines_62 : decode cX4_lines 62 = .ok (.bipush (-5), 2) := by decide +kernel
theorem dX4_lines_64 : decode cX4_lines 64 = .ok (.ireturn, 1) := by decide +kernel
theorem dX4_swept_0 : decode cX4_swept 0 = .ok (.iload_n 1, 1) := by decide +kernel
theorem dX4_swept_1 : decode cX4_swept 1 = .ok (.ifCond .lt 8, 3) := by decide +kernel
theorem dX4_swept_4 : decode cX4_swept 4 = .ok (.iload_n 1, 1) := by decide +kernel
theorem dX4_swept_5 : decode cX4_swept 5 = .ok (.iconst 5, 1) := by decide +kernel
theorem dX4_swept_6 : decode cX4_swept 6 = .ok (.if_icmp .le 12, 3) := by decide +kernel
theorem dX4_swept_9 : decode cX4_swept 9 = .ok (.aload_n 0, 1) := by decide +kernel
theorem dX4_swept_10 : decode cX4_swept 10 = .ok (.bipush (-2), 2) := by decide +kernel
theorem dX4_swept_12 : decode cX4_swept 12 = .ok (.invokevirtual 64, 3) := by decide +kernel
theorem dX4_swept_15 : decode cX4_swept 15 = .ok (.goto 11, 3) := by decide +kernel
theorem dX4_swept_18 : decode cX4_swept 18 = .ok (.aload_n 0, 1) := by decide +kernel
theorem dX4_swept_19 : decode cX4_swept 19 = .ok (.invokevirtual 48, 3) := by decide +kernel
theorem dX4_swept_22 : decode cX4_swept 22 = .ok (.iload_n 1, 1) := by decide +kernel
theorem dX4_swept_23 : decode cX4_swept 23 = .ok (.invokevirtual 119, 3) := by decide +kernel
theorem dX4_swept_26 : decode cX4_swept 26 = .ok (.ireturn, 1) := by decide +kernel
theorem dX4_row_0 : decode cX4_row 0 = .ok (.iload_n 1, 1) := by decide +kernel
theorem dX4_row_1 : decode cX4_row 1 = .ok (.ifCond .ge 10, 3) := by decide +kernel
theorem dX4_row_4 : decode cX4_row 4 = .ok (.aload_n 0, 1) := by decide +kernel
theorem dX4_row_5 : decode cX4_row 5 = .ok (.bipush (-2), 2) := by decide +kernel
theorem dX4_row_7 : decode cX4_row 7 = .ok (.invokevirtual 64, 3) := by decide +kernel
theorem dX4_row_10 : decode cX4_row 10 = .ok (.ireturn, 1) := by decide +kernel
theorem dX4_row_11 : decode cX4_row 11 = .ok (.aload_n 0, 1) := by decide +kernel
theorem dX4_row_12 : decode cX4_row 12 = .ok (.invokevirtual 48, 3) := by decide +kernel
theorem dX4_row_15 : decode cX4_row 15 = .ok (.astore_n 2, 1) := by decide +kernel
theorem dX4_row_16 : decode cX4_row 16 = .ok (.iload_n 1, 1) := by decide +kernel
theorem dX4_row_17 : decode cX4_row 17 = .ok (.aload_n 2, 1) := by decide +kernel
theorem dX4_row_18 : decode cX4_row 18 = .ok (.getfield 122, 3) := by decide +kernel
theorem dX4_row_21 : decode cX4_row 21 = .ok (.if_icmp .ge 12, 3) := by decide +kernel
theorem dX4_row_24 : decode cX4_row 24 = .ok (.aload_n 2, 1) := by decide +kernel
theorem dX4_row_25 : decode cX4_row 25 = .ok (.getfield 125, 3) := by decide +kernel
theorem dX4_row_28 : decode cX4_row 28 = .ok (.iload_n 1, 1) := by decide +kernel
theorem dX4_row_29 : decode cX4_row 29 = .ok (.iaload, 1) := by decide +kernel
theorem dX4_row_30 : decode cX4_row 30 = .ok (.goto 4, 3) := by decide +kernel
theorem dX4_row_33 : decode cX4_row 33 = .ok (.iconst (-1), 1) := by decide +kernel
theorem dX4_row_34 : decode cX4_row 34 = .ok (.ireturn, 1) := by decide +kernel
theorem dX4_alike_0 : decode cX4_alike 0 = .ok (.aload_n 0, 1) := by decide +kernel
theorem dX4_alike_1 : decode cX4_alike 1 = .ok (.getfield 12, 3) := by decide +kernel
theorem dX4_alike_4 : decode cX4_alike 4 = .ok (.iload_n 1, 1) := by decide +kernel
theorem dX4_alike_5 : decode cX4_alike 5 = .ok (.invokevirtual 128, 3) := by decide +kernel
theorem dX4_alike_8 : decode cX4_alike 8 = .ok (.ifCond .ne 10, 3) := by decide +kernel
theorem dX4_alike_11 : decode cX4_alike 11 = .ok (.aload_n 0, 1) := by decide +kernel
theorem dX4_alike_12 : decode cX4_alike 12 = .ok (.bipush (-2), 2) := by decide +kernel
theorem dX4_alike_14 : decode cX4_alike 14 = .ok (.invokevirtual 64, 3) := by decide +kernel
theorem dX4_alike_17 : decode cX4_alike 17 = .ok (.ireturn, 1) := by decide +kernel
theorem dX4_alike_18 : decode cX4_alike 18 = .ok (.aload_n 0, 1) := by decide +kernel
theorem dX4_alike_19 : decode cX4_alike 19 = .ok (.getfield 12, 3) := by decide +kernel
theorem dX4_alike_22 : decode cX4_alike 22 = .ok (.aload_n 0, 1) := by decide +kernel
theorem dX4_alike_23 : decode cX4_alike 23 = .ok (.invokevirtual 48, 3) := by decide +kernel
theorem dX4_alike_26 : decode cX4_alike 26 = .ok (.iload_n 1, 1) := by decide +kernel
theorem dX4_alike_27 : decode cX4_alike 27 = .ok (.invokevirtual 131, 3) := by decide +kernel
theorem dX4_alike_30 : decode cX4_alike 30 = .ok (.ifCond .eq 7, 3) := by decide +kernel
theorem dX4_alike_33 : decode cX4_alike 33 = .ok (.iconst 1, 1) := by decide +kernel
theorem dX4_alike_34 : decode cX4_alike 34 = .ok (.goto 4, 3) := by decide +kernel
theorem dX4_alike_37 : decode cX4_alike 37 = .ok (.iconst 0, 1) := by decide +kernel
theorem dX4_alike_38 : decode cX4_alike 38 = .ok (.ireturn, 1) := by decide +kernel
theorem dX4_witness_0 : decode cX4_witness 0 = .ok (.aload_n 0, 1) := by decide +kernel
theorem dX4_witness_1 : decode cX4_witness 1 = .ok (.getfield 12, 3) := by decide +kernel
theorem dX4_witness_4 : decode cX4_witness 4 = .ok (.iload_n 1, 1) := by decide +kernel
theorem dX4_witness_5 : decode cX4_witness 5 = .ok (.invokevirtual 128, 3) := by decide +kernel
theorem dX4_witness_8 : decode cX4_witness 8 = .ok (.ifCond .ne 10, 3) := by decide +kernel
theorem dX4_witness_11 : decode cX4_witness 11 = .ok (.aload_n 0, 1) := by decide +kernel
theorem dX4_witness_12 : decode cX4_witness 12 = .ok (.bipush (-2), 2) := by decide +kernel
theorem dX4_witness_14 : decode cX4_witness 14 = .ok (.invokevirtual 64, 3) := by decide +kernel
theorem dX4_witness_17 : decode cX4_witness 17 = .ok (.ireturn, 1) := by decide +kernel
theorem dX4_witness_18 : decode cX4_witness 18 = .ok (.aload_n 0, 1) := by decide +kernel
theorem dX4_witness_19 : decode cX4_witness 19 = .ok (.getfield 12, 3) := by decide +kernel
theorem dX4_witness_22 : decode cX4_witness 22 = .ok (.aload_n 0, 1) := by decide +kernel
theorem dX4_witness_23 : decode cX4_witness 23 = .ok (.invokevirtual 48, 3) := by decide +kernel
theorem dX4_witness_26 : decode cX4_witness 26 = .ok (.iload_n 1, 1) := by decide +kernel
theorem dX4_witness_27 : decode cX4_witness 27 = .ok (.invokevirtual 131, 3) := by decide +kernel
theorem dX4_witness_30 : decode cX4_witness 30 = .ok (.ifCond .eq 7, 3) := by decide +kernel
theorem dX4_witness_33 : decode cX4_witness 33 = .ok (.iconst (-1), 1) := by decide +kernel
theorem dX4_witness_34 : decode cX4_witness 34 = .ok (.goto 14, 3) := by decide +kernel
theorem dX4_witness_37 : decode cX4_witness 37 = .ok (.aload_n 0, 1) := by decide +kernel
theorem dX4_witness_38 : decode cX4_witness 38 = .ok (.getfield 12, 3) := by decide +kernel
theorem dX4_witness_41 : decode cX4_witness 41 = .ok (.iload_n 1, 1) := by decide +kernel
theorem dX4_witness_42 : decode cX4_witness 42 = .ok (.invokevirtual 135, 3) := by decide +kernel
theorem dX4_witness_45 : decode cX4_witness 45 = .ok (.invokestatic 138, 3) := by decide +kernel
theorem dX4_witness_48 : decode cX4_witness 48 = .ok (.ireturn, 1) := by decide +kernel
theorem dX4_verdict_0 : decode cX4_verdict 0 = .ok (.aload_n 0, 1) := by decide +kernel
theorem dX4_verdict_1 : decode cX4_verdict 1 = .ok (.getfield 12, 3) := by decide +kernel
theorem dX4_verdict_4 : decode cX4_verdict 4 = .ok (.aload_n 0, 1) := by decide +kernel
theorem dX4_verdict_5 : decode cX4_verdict 5 = .ok (.invokevirtual 48, 3) := by decide +kernel
theorem dX4_verdict_8 : decode cX4_verdict 8 = .ok (.invokevirtual 141, 3) := by decide +kernel
theorem dX4_verdict_11 : decode cX4_verdict 11 = .ok (.ireturn, 1) := by decide +kernel
theorem dX4_type_0 : decode cX4_type 0 = .ok (.iload_n 1, 1) := by decide +kernel
theorem dX4_type_1 : decode cX4_type 1 = .ok (.ifCond .lt 10, 3) := by decide +kernel
theorem dX4_type_4 : decode cX4_type 4 = .ok (.iload_n 1, 1) := by decide +kernel
theorem dX4_type_5 : decode cX4_type 5 = .ok (.sipush 128, 3) := by decide +kernel
theorem dX4_type_8 : decode cX4_type 8 = .ok (.if_icmp .lt 10, 3) := by decide +kernel
theorem dX4_type_11 : decode cX4_type 11 = .ok (.aload_n 0, 1) := by decide +kernel
theorem dX4_type_12 : decode cX4_type 12 = .ok (.bipush (-2), 2) := by decide +kernel
theorem dX4_type_14 : decode cX4_type 14 = .ok (.invokevirtual 64, 3) := by decide +kernel
theorem dX4_type_17 : decode cX4_type 17 = .ok (.ireturn, 1) := by decide +kernel
theorem dX4_type_18 : decode cX4_type 18 = .ok (.aload_n 0, 1) := by decide +kernel
theorem dX4_type_19 : decode cX4_type 19 = .ok (.getfield 36, 3) := by decide +kernel
theorem dX4_type_22 : decode cX4_type 22 = .ok (.getfield 144, 3) := by decide +kernel
theorem dX4_type_25 : decode cX4_type 25 = .ok (.sipush 150, 3) := by decide +kernel
theorem dX4_type_28 : decode cX4_type 28 = .ok (.if_icmp .ge 14, 3) := by decide +kernel
theorem dX4_type_31 : decode cX4_type 31 = .ok (.aload_n 0, 1) := by decide +kernel
theorem dX4_type_32 : decode cX4_type 32 = .ok (.getfield 36, 3) := by decide +kernel
theorem dX4_type_35 : decode cX4_type 35 = .ok (.iload_n 1, 1) := by decide +kernel
theorem dX4_type_36 : decode cX4_type 36 = .ok (.invokevirtual 147, 3) := by decide +kernel
theorem dX4_type_39 : decode cX4_type 39 = .ok (.goto 9, 3) := by decide +kernel
theorem dX4_type_42 : decode cX4_type 42 = .ok (.aload_n 0, 1) := by decide +kernel
theorem dX4_type_43 : decode cX4_type 43 = .ok (.bipush (-4), 2) := by decide +kernel
theorem dX4_type_45 : decode cX4_type 45 = .ok (.invokevirtual 64, 3) := by decide +kernel
theorem dX4_type_48 : decode cX4_type 48 = .ok (.ireturn, 1) := by decide +kernel
theorem dX4_clear_0 : decode cX4_clear 0 = .ok (.aload_n 0, 1) := by decide +kernel
theorem dX4_clear_1 : decode cX4_clear 1 = .ok (.getfield 36, 3) := by decide +kernel
theorem dX4_clear_4 : decode cX4_clear 4 = .ok (.getfield 144, 3) := by decide +kernel
theorem dX4_clear_7 : decode cX4_clear 7 = .ok (.istore_n 1, 1) := by decide +kernel
theorem dX4_clear_8 : decode cX4_clear 8 = .ok (.aload_n 0, 1) := by decide +kernel
theorem dX4_clear_9 : decode cX4_clear 9 = .ok (.getfield 36, 3) := by decide +kernel
theorem dX4_clear_12 : decode cX4_clear 12 = .ok (.iconst 0, 1) := by decide +kernel
theorem dX4_clear_13 : decode cX4_clear 13 = .ok (.putfield 144, 3) := by decide +kernel
theorem dX4_clear_16 : decode cX4_clear 16 = .ok (.iload_n 1, 1) := by decide +kernel
theorem dX4_clear_17 : decode cX4_clear 17 = .ok (.ireturn, 1) := by decide +kernel
theorem dX4_does_0 : decode cX4_does 0 = .ok (.aload_n 0, 1) := by decide +kernel
theorem dX4_does_1 : decode cX4_does 1 = .ok (.getfield 36, 3) := by decide +kernel
theorem dX4_does_4 : decode cX4_does 4 = .ok (.invokevirtual 150, 3) := by decide +kernel
theorem dX4_does_7 : decode cX4_does 7 = .ok (.istore_n 1, 1) := by decide +kernel
theorem dX4_does_8 : decode cX4_does 8 = .ok (.iload_n 1, 1) := by decide +kernel
theorem dX4_does_9 : decode cX4_does 9 = .ok (.iconst (-1), 1) := by decide +kernel
theorem dX4_does_10 : decode cX4_does 10 = .ok (.if_icmp .eq 8, 3) := by decide +kernel
theorem dX4_does_13 : decode cX4_does 13 = .ok (.bipush (-10), 2) := by decide +kernel
theorem dX4_does_15 : decode cX4_does 15 = .ok (.iload_n 1, 1) := by decide +kernel
theorem dX4_does_16 : decode cX4_does 16 = .ok (.isub, 1) := by decide +kernel
theorem dX4_does_17 : decode cX4_does 17 = .ok (.ireturn, 1) := by decide +kernel
theorem dX4_does_18 : decode cX4_does 18 = .ok (.aload_n 0, 1) := by decide +kernel
theorem dX4_does_19 : decode cX4_does 19 = .ok (.getfield 16, 3) := by decide +kernel
theorem dX4_does_22 : decode cX4_does 22 = .ok (.aload_n 0, 1) := by decide +kernel
theorem dX4_does_23 : decode cX4_does 23 = .ok (.getfield 12, 3) := by decide +kernel
theorem dX4_does_26 : decode cX4_does 26 = .ok (.invokevirtual 154, 3) := by decide +kernel
theorem dX4_does_29 : decode cX4_does 29 = .ok (.iconst 0, 1) := by decide +kernel
theorem dX4_does_30 : decode cX4_does 30 = .ok (.istore_n 2, 1) := by decide +kernel
theorem dX4_does_31 : decode cX4_does 31 = .ok (.iload_n 2, 1) := by decide +kernel
theorem dX4_does_32 : decode cX4_does 32 = .ok (.aload_n 0, 1) := by decide +kernel
theorem dX4_does_33 : decode cX4_does 33 = .ok (.getfield 36, 3) := by decide +kernel
theorem dX4_does_36 : decode cX4_does 36 = .ok (.getfield 157, 3) := by decide +kernel
theorem dX4_does_39 : decode cX4_does 39 = .ok (.if_icmp .ge 34, 3) := by decide +kernel
theorem dX4_does_42 : decode cX4_does 42 = .ok (.aload_n 0, 1) := by decide +kernel
theorem dX4_does_43 : decode cX4_does 43 = .ok (.iload_n 2, 1) := by decide +kernel
theorem dX4_does_44 : decode cX4_does 44 = .ok (.invokevirtual 160, 3) := by decide +kernel
theorem dX4_does_47 : decode cX4_does 47 = .ok (.ifCond .ne 20, 3) := by decide +kernel
theorem dX4_does_50 : decode cX4_does 50 = .ok (.aload_n 0, 1) := by decide +kernel
theorem dX4_does_51 : decode cX4_does 51 = .ok (.getfield 12, 3) := by decide +kernel
theorem dX4_does_54 : decode cX4_does 54 = .ok (.aload_n 0, 1) := by decide +kernel
theorem dX4_does_55 : decode cX4_does 55 = .ok (.getfield 16, 3) := by decide +kernel
theorem dX4_does_58 : decode cX4_does 58 = .ok (.invokevirtual 154, 3) := by decide +kernel
theorem dX4_does_61 : decode cX4_does 61 = .ok (.sipush (-1000), 3) := by decide +kernel
theorem dX4_does_64 : decode cX4_does 64 = .ok (.iload_n 2, 1) := by decide +kernel
theorem dX4_does_65 : decode cX4_does 65 = .ok (.isub, 1) := by decide +kernel
theorem dX4_does_66 : decode cX4_does 66 = .ok (.ireturn, 1) := by decide +kernel
theorem dX4_does_67 : decode cX4_does 67 = .ok (.iinc 2 1, 3) := by decide +kernel
theorem dX4_does_70 : decode cX4_does 70 = .ok (.goto (-39), 3) := by decide +kernel
theorem dX4_does_73 : decode cX4_does 73 = .ok (.aload_n 0, 1) := by decide +kernel
theorem dX4_does_74 : decode cX4_does 74 = .ok (.getfield 29, 3) := by decide +kernel
theorem dX4_does_77 : decode cX4_does 77 = .ok (.aload_n 0, 1) := by decide +kernel
theorem dX4_does_78 : decode cX4_does 78 = .ok (.getfield 16, 3) := by decide +kernel
theorem dX4_does_81 : decode cX4_does 81 = .ok (.invokevirtual 52, 3) := by decide +kernel
theorem dX4_does_84 : decode cX4_does 84 = .ok (.aload_n 0, 1) := by decide +kernel
theorem dX4_does_85 : decode cX4_does 85 = .ok (.iconst 1, 1) := by decide +kernel
theorem dX4_does_86 : decode cX4_does 86 = .ok (.putfield 40, 3) := by decide +kernel
theorem dX4_does_89 : decode cX4_does 89 = .ok (.aload_n 0, 1) := by decide +kernel
theorem dX4_does_90 : decode cX4_does 90 = .ok (.getfield 36, 3) := by decide +kernel
theorem dX4_does_93 : decode cX4_does 93 = .ok (.getfield 157, 3) := by decide +kernel
theorem dX4_does_96 : decode cX4_does 96 = .ok (.ireturn, 1) := by decide +kernel
theorem dX4_back_0 : decode cX4_back 0 = .ok (.aload_n 0, 1) := by decide +kernel
theorem dX4_back_1 : decode cX4_back 1 = .ok (.getfield 29, 3) := by decide +kernel
theorem dX4_back_4 : decode cX4_back 4 = .ok (.getfield 163, 3) := by decide +kernel
theorem dX4_back_7 : decode cX4_back 7 = .ok (.ifCond .ne 10, 3) := by decide +kernel
theorem dX4_back_10 : decode cX4_back 10 = .ok (.aload_n 0, 1) := by decide +kernel
theorem dX4_back_11 : decode cX4_back 11 = .ok (.bipush (-3), 2) := by decide +kernel
theorem dX4_back_13 : decode cX4_back 13 = .ok (.invokevirtual 64, 3) := by decide +kernel
theorem dX4_back_16 : decode cX4_back 16 = .ok (.ireturn, 1) := by decide +kernel
theorem dX4_back_17 : decode cX4_back 17 = .ok (.aload_n 0, 1) := by decide +kernel
theorem dX4_back_18 : decode cX4_back 18 = .ok (.getfield 29, 3) := by decide +kernel
theorem dX4_back_21 : decode cX4_back 21 = .ok (.aload_n 0, 1) := by decide +kernel
theorem dX4_back_22 : decode cX4_back 22 = .ok (.getfield 12, 3) := by decide +kernel
theorem dX4_back_25 : decode cX4_back 25 = .ok (.invokevirtual 166, 3) := by decide +kernel
theorem dX4_back_28 : decode cX4_back 28 = .ok (.aload_n 0, 1) := by decide +kernel
theorem dX4_back_29 : decode cX4_back 29 = .ok (.iconst 1, 1) := by decide +kernel
theorem dX4_back_30 : decode cX4_back 30 = .ok (.putfield 40, 3) := by decide +kernel
theorem dX4_back_33 : decode cX4_back 33 = .ok (.aload_n 0, 1) := by decide +kernel
theorem dX4_back_34 : decode cX4_back 34 = .ok (.getfield 29, 3) := by decide +kernel
theorem dX4_back_37 : decode cX4_back 37 = .ok (.getfield 163, 3) := by decide +kernel
theorem dX4_back_40 : decode cX4_back 40 = .ok (.ireturn, 1) := by decide +kernel
theorem dX4_told_0 : decode cX4_told 0 = .ok (.iload_n 1, 1) := by decide +kernel
theorem dX4_told_1 : decode cX4_told 1 = .ok (.ifCond .lt 8, 3) := by decide +kernel
theorem dX4_told_4 : decode cX4_told 4 = .ok (.iload_n 1, 1) := by decide +kernel
theorem dX4_told_5 : decode cX4_told 5 = .ok (.iconst 4, 1) := by decide +kernel
theorem dX4_told_6 : decode cX4_told 6 = .ok (.if_icmp .le 12, 3) := by decide +kernel
theorem dX4_told_9 : decode cX4_told 9 = .ok (.aload_n 0, 1) := by decide +kernel
theorem dX4_told_10 : decode cX4_told 10 = .ok (.bipush (-2), 2) := by decide +kernel
theorem dX4_told_12 : decode cX4_told 12 = .ok (.invokevirtual 64, 3) := by decide +kernel
theorem dX4_told_15 : decode cX4_told 15 = .ok (.goto 8, 3) := by decide +kernel
theorem dX4_told_18 : decode cX4_told 18 = .ok (.aload_n 0, 1) := by decide +kernel
theorem dX4_told_19 : decode cX4_told 19 = .ok (.iload_n 1, 1) := by decide +kernel
theorem dX4_told_20 : decode cX4_told 20 = .ok (.invokevirtual 169, 3) := by decide +kernel
theorem dX4_told_23 : decode cX4_told 23 = .ok (.ireturn, 1) := by decide +kernel
theorem dX4_digest_0 : decode cX4_digest 0 = .ok (.aload_n 0, 1) := by decide +kernel
theorem dX4_digest_1 : decode cX4_digest 1 = .ok (.invokevirtual 48, 3) := by decide +kernel
theorem dX4_digest_4 : decode cX4_digest 4 = .ok (.astore_n 1, 1) := by decide +kernel
theorem dX4_digest_5 : decode cX4_digest 5 = .ok (.ldc2_w 172, 3) := by decide +kernel
theorem dX4_digest_8 : decode cX4_digest 8 = .ok (.lstore_n 2, 1) := by decide +kernel
theorem dX4_digest_9 : decode cX4_digest 9 = .ok (.iconst 0, 1) := by decide +kernel
theorem dX4_digest_10 : decode cX4_digest 10 = .ok (.istore 4, 2) := by decide +kernel
theorem dX4_digest_12 : decode cX4_digest 12 = .ok (.iload 4, 2) := by decide +kernel
theorem dX4_digest_14 : decode cX4_digest 14 = .ok (.iconst 4, 1) := by decide +kernel
theorem dX4_digest_15 : decode cX4_digest 15 = .ok (.if_icmp .gt 23, 3) := by decide +kernel
theorem dX4_digest_18 : decode cX4_digest 18 = .ok (.ldc2_w 174, 3) := by decide +kernel
theorem dX4_digest_21 : decode cX4_digest 21 = .ok (.lload_n 2, 1) := by decide +kernel
theorem dX4_digest_22 : decode cX4_digest 22 = .ok (.lmul, 1) := by decide +kernel
theorem dX4_digest_23 : decode cX4_digest 23 = .ok (.aload_n 0, 1) := by decide +kernel
theorem dX4_digest_24 : decode cX4_digest 24 = .ok (.iload 4, 2) := by decide +kernel
theorem dX4_digest_26 : decode cX4_digest 26 = .ok (.invokevirtual 169, 3) := by decide +kernel
theorem dX4_digest_29 : decode cX4_digest 29 = .ok (.i2l, 1) := by decide +kernel
theorem dX4_digest_30 : decode cX4_digest 30 = .ok (.ladd, 1) := by decide +kernel
theorem dX4_digest_31 : decode cX4_digest 31 = .ok (.lstore_n 2, 1) := by decide +kernel
theorem dX4_digest_32 : decode cX4_digest 32 = .ok (.iinc 4 1, 3) := by decide +kernel
theorem dX4_digest_35 : decode cX4_digest 35 = .ok (.goto (-23), 3) := by decide +kernel
theorem dX4_digest_38 : decode cX4_digest 38 = .ok (.aload_n 0, 1) := by decide +kernel
theorem dX4_digest_39 : decode cX4_digest 39 = .ok (.getfield 12, 3) := by decide +kernel
theorem dX4_digest_42 : decode cX4_digest 42 = .ok (.lload_n 2, 1) := by decide +kernel
theorem dX4_digest_43 : decode cX4_digest 43 = .ok (.invokevirtual 176, 3) := by decide +kernel
theorem dX4_digest_46 : decode cX4_digest 46 = .ok (.lstore_n 2, 1) := by decide +kernel
theorem dX4_digest_47 : decode cX4_digest 47 = .ok (.iconst 0, 1) := by decide +kernel
theorem dX4_digest_48 : decode cX4_digest 48 = .ok (.istore 4, 2) := by decide +kernel
theorem dX4_digest_50 : decode cX4_digest 50 = .ok (.iload 4, 2) := by decide +kernel
theorem dX4_digest_52 : decode cX4_digest 52 = .ok (.aload_n 0, 1) := by decide +kernel
theorem dX4_digest_53 : decode cX4_digest 53 = .ok (.getfield 12, 3) := by decide +kernel
theorem dX4_digest_56 : decode cX4_digest 56 = .ok (.getfield 180, 3) := by decide +kernel
theorem dX4_digest_59 : decode cX4_digest 59 = .ok (.if_icmp .ge 33, 3) := by decide +kernel
theorem dX4_digest_62 : decode cX4_digest 62 = .ok (.ldc2_w 174, 3) := by decide +kernel
theorem dX4_digest_65 : decode cX4_digest 65 = .ok (.aload_n 0, 1) := by decide +kernel
theorem dX4_digest_66 : decode cX4_digest 66 = .ok (.getfield 12, 3) := by decide +kernel
theorem dX4_digest_69 : decode cX4_digest 69 = .ok (.lload_n 2, 1) := by decide +kernel
theorem dX4_digest_70 : decode cX4_digest 70 = .ok (.iload 4, 2) := by decide +kernel
theorem dX4_digest_72 : decode cX4_digest 72 = .ok (.invokevirtual 183, 3) := by decide +kernel
theorem dX4_digest_75 : decode cX4_digest 75 = .ok (.lmul, 1) := by decide +kernel
theorem dX4_digest_76 : decode cX4_digest 76 = .ok (.aload_n 1, 1) := by decide +kernel
theorem dX4_digest_77 : decode cX4_digest 77 = .ok (.getfield 109, 3) := by decide +kernel
theorem dX4_digest_80 : decode cX4_digest 80 = .ok (.iload 4, 2) := by decide +kernel
theorem dX4_digest_82 : decode cX4_digest 82 = .ok (.iaload, 1) := by decide +kernel
theorem dX4_digest_83 : decode cX4_digest 83 = .ok (.i2l, 1) := by decide +kernel
theorem dX4_digest_84 : decode cX4_digest 84 = .ok (.ladd, 1) := by decide +kernel
theorem dX4_digest_85 : decode cX4_digest 85 = .ok (.lstore_n 2, 1) := by decide +kernel
theorem dX4_digest_86 : decode cX4_digest 86 = .ok (.iinc 4 1, 3) := by decide +kernel
theorem dX4_digest_89 : decode cX4_digest 89 = .ok (.goto (-39), 3) := by decide +kernel
theorem dX4_digest_92 : decode cX4_digest 92 = .ok (.aload_n 0, 1) := by decide +kernel
theorem dX4_digest_93 : decode cX4_digest 93 = .ok (.getfield 12, 3) := by decide +kernel
theorem dX4_digest_96 : decode cX4_digest 96 = .ok (.lload_n 2, 1) := by decide +kernel
theorem dX4_digest_97 : decode cX4_digest 97 = .ok (.invokevirtual 187, 3) := by decide +kernel
theorem dX4_digest_100 : decode cX4_digest 100 = .ok (.lstore_n 2, 1) := by decide +kernel
theorem dX4_digest_101 : decode cX4_digest 101 = .ok (.ldc2_w 174, 3) := by decide +kernel
theorem dX4_digest_104 : decode cX4_digest 104 = .ok (.aload_n 1, 1) := by decide +kernel
theorem dX4_digest_105 : decode cX4_digest 105 = .ok (.lload_n 2, 1) := by decide +kernel
theorem dX4_digest_106 : decode cX4_digest 106 = .ok (.invokevirtual 190, 3) := by decide +kernel
theorem dX4_digest_109 : decode cX4_digest 109 = .ok (.lmul, 1) := by decide +kernel
theorem dX4_digest_110 : decode cX4_digest 110 = .ok (.aload_n 0, 1) := by decide +kernel
theorem dX4_digest_111 : decode cX4_digest 111 = .ok (.getfield 12, 3) := by decide +kernel
theorem dX4_digest_114 : decode cX4_digest 114 = .ok (.aload_n 1, 1) := by decide +kernel
theorem dX4_digest_115 : decode cX4_digest 115 = .ok (.invokevirtual 141, 3) := by decide +kernel
theorem dX4_digest_118 : decode cX4_digest 118 = .ok (.i2l, 1) := by decide +kernel
theorem dX4_digest_119 : decode cX4_digest 119 = .ok (.ladd, 1) := by decide +kernel
theorem dX4_digest_120 : decode cX4_digest 120 = .ok (.lreturn, 1) := by decide +kernel
theorem dX4_refuse_0 : decode cX4_refuse 0 = .ok (.iload_n 1, 1) := by decide +kernel
theorem dX4_refuse_1 : decode cX4_refuse 1 = .ok (.bipush (-2), 2) := by decide +kernel
theorem dX4_refuse_3 : decode cX4_refuse 3 = .ok (.if_icmp .ne 16, 3) := by decide +kernel
theorem dX4_refuse_6 : decode cX4_refuse 6 = .ok (.aload_n 0, 1) := by decide +kernel
theorem dX4_refuse_7 : decode cX4_refuse 7 = .ok (.dup, 1) := by decide +kernel
theorem dX4_refuse_8 : decode cX4_refuse 8 = .ok (.getfield 193, 3) := by decide +kernel
theorem dX4_refuse_11 : decode cX4_refuse 11 = .ok (.iconst 1, 1) := by decide +kernel
theorem dX4_refuse_12 : decode cX4_refuse 12 = .ok (.iadd, 1) := by decide +kernel
theorem dX4_refuse_13 : decode cX4_refuse 13 = .ok (.putfield 193, 3) := by decide +kernel
theorem dX4_refuse_16 : decode cX4_refuse 16 = .ok (.goto 32, 3) := by decide +kernel
theorem dX4_refuse_19 : decode cX4_refuse 19 = .ok (.iload_n 1, 1) := by decide +kernel
theorem dX4_refuse_20 : decode cX4_refuse 20 = .ok (.bipush (-3), 2) := by decide +kernel
theorem dX4_refuse_22 : decode cX4_refuse 22 = .ok (.if_icmp .ne 16, 3) := by decide +kernel
theorem dX4_refuse_25 : decode cX4_refuse 25 = .ok (.aload_n 0, 1) := by decide +kernel
theorem dX4_refuse_26 : decode cX4_refuse 26 = .ok (.dup, 1) := by decide +kernel
theorem dX4_refuse_27 : decode cX4_refuse 27 = .ok (.getfield 196, 3) := by decide +kernel
theorem dX4_refuse_30 : decode cX4_refuse 30 = .ok (.iconst 1, 1) := by decide +kernel
theorem dX4_refuse_31 : decode cX4_refuse 31 = .ok (.iadd, 1) := by decide +kernel
theorem dX4_refuse_32 : decode cX4_refuse 32 = .ok (.putfield 196, 3) := by decide +kernel
theorem dX4_refuse_35 : decode cX4_refuse 35 = .ok (.goto 13, 3) := by decide +kernel
theorem dX4_refuse_38 : decode cX4_refuse 38 = .ok (.aload_n 0, 1) := by decide +kernel
theorem dX4_refuse_39 : decode cX4_refuse 39 = .ok (.dup, 1) := by decide +kernel
theorem dX4_refuse_40 : decode cX4_refuse 40 = .ok (.getfield 199, 3) := by decide +kernel
theorem dX4_refuse_43 : decode cX4_refuse 43 = .ok (.iconst 1, 1) := by decide +kernel
theorem dX4_refuse_44 : decode cX4_refuse 44 = .ok (.iadd, 1) := by decide +kernel
theorem dX4_refuse_45 : decode cX4_refuse 45 = .ok (.putfield 199, 3) := by decide +kernel
theorem dX4_refuse_48 : decode cX4_refuse 48 = .ok (.iload_n 1, 1) := by decide +kernel
theorem dX4_refuse_49 : decode cX4_refuse 49 = .ok (.ireturn, 1) := by decide +kernel
theorem dX4_order_0 : decode cX4_order 0 = .ok (.aload_n 0, 1) := by decide +kernel
theorem dX4_order_1 : decode cX4_order 1 = .ok (.getfield 12, 3) := by decide +kernel
theorem dX4_order_4 : decode cX4_order 4 = .ok (.iload_n 1, 1) := by decide +kernel
theorem dX4_order_5 : decode cX4_order 5 = .ok (.iload_n 2, 1) := by decide +kernel
theorem dX4_order_6 : decode cX4_order 6 = .ok (.iload_n 3, 1) := by decide +kernel
theorem dX4_order_7 : decode cX4_order 7 = .ok (.iload 4, 2) := by decide +kernel
theorem dX4_order_9 : decode cX4_order 9 = .ok (.invokevirtual 202, 3) := by decide +kernel
theorem dX4_order_12 : decode cX4_order 12 = .ok (.istore 5, 2) := by decide +kernel
theorem dX4_order_14 : decode cX4_order 14 = .ok (.iload 5, 2) := by decide +kernel
theorem dX4_order_16 : decode cX4_order 16 = .ok (.ifCond .eq 10, 3) := by decide +kernel
theorem dX4_order_19 : decode cX4_order 19 = .ok (.aload_n 0, 1) := by decide +kernel
theorem dX4_order_20 : decode cX4_order 20 = .ok (.iload 5, 2) := by decide +kernel
theorem dX4_order_22 : decode cX4_order 22 = .ok (.invokevirtual 64, 3) := by decide +kernel
theorem dX4_order_25 : decode cX4_order 25 = .ok (.ireturn, 1) := by decide +kernel
theorem dX4_order_26 : decode cX4_order 26 = .ok (.aload_n 0, 1) := by decide +kernel
theorem dX4_order_27 : decode cX4_order 27 = .ok (.getfield 29, 3) := by decide +kernel
theorem dX4_order_30 : decode cX4_order 30 = .ok (.aload_n 0, 1) := by decide +kernel
theorem dX4_order_31 : decode cX4_order 31 = .ok (.getfield 12, 3) := by decide +kernel
theorem dX4_order_34 : decode cX4_order 34 = .ok (.invokevirtual 52, 3) := by decide +kernel
theorem dX4_order_37 : decode cX4_order 37 = .ok (.aload_n 0, 1) := by decide +kernel
theorem dX4_order_38 : decode cX4_order 38 = .ok (.iconst 1, 1) := by decide +kernel
theorem dX4_order_39 : decode cX4_order 39 = .ok (.putfield 40, 3) := by decide +kernel
theorem dX4_order_42 : decode cX4_order 42 = .ok (.aload_n 0, 1) := by decide +kernel
theorem dX4_order_43 : decode cX4_order 43 = .ok (.getfield 12, 3) := by decide +kernel
theorem dX4_order_46 : decode cX4_order 46 = .ok (.iload_n 1, 1) := by decide +kernel
theorem dX4_order_47 : decode cX4_order 47 = .ok (.iload_n 2, 1) := by decide +kernel
theorem dX4_order_48 : decode cX4_order 48 = .ok (.iload_n 3, 1) := by decide +kernel
theorem dX4_order_49 : decode cX4_order 49 = .ok (.iload 4, 2) := by decide +kernel
theorem dX4_order_51 : decode cX4_order 51 = .ok (.invokevirtual 205, 3) := by decide +kernel
theorem dX4_order_54 : decode cX4_order 54 = .ok (.ireturn, 1) := by decide +kernel
theorem dX4_orderIsDone_0 : decode cX4_orderIsDone 0 = .ok (.aload_n 0, 1) := by decide +kernel
theorem dX4_orderIsDone_1 : decode cX4_orderIsDone 1 = .ok (.getfield 36, 3) := by decide +kernel
theorem dX4_orderIsDone_4 : decode cX4_orderIsDone 4 = .ok (.getfield 208, 3) := by decide +kernel
theorem dX4_orderIsDone_7 : decode cX4_orderIsDone 7 = .ok (.iload_n 1, 1) := by decide +kernel
theorem dX4_orderIsDone_8 : decode cX4_orderIsDone 8 = .ok (.iaload, 1) := by decide +kernel
theorem dX4_orderIsDone_9 : decode cX4_orderIsDone 9 = .ok (.istore_n 2, 1) := by decide +kernel
theorem dX4_orderIsDone_10 : decode cX4_orderIsDone 10 = .ok (.aload_n 0, 1) := by decide +kernel
theorem dX4_orderIsDone_11 : decode cX4_orderIsDone 11 = .ok (.getfield 36, 3) := by decide +kernel
theorem dX4_orderIsDone_14 : decode cX4_orderIsDone 14 = .ok (.iload_n 1, 1) := by decide +kernel
theorem dX4_orderIsDone_15 : decode cX4_orderIsDone 15 = .ok (.iconst 0, 1) := by decide +kernel
theorem dX4_orderIsDone_16 : decode cX4_orderIsDone 16 = .ok (.invokevirtual 211, 3) := by decide +kernel
theorem dX4_orderIsDone_19 : decode cX4_orderIsDone 19 = .ok (.istore_n 3, 1) := by decide +kernel
theorem dX4_orderIsDone_20 : decode cX4_orderIsDone 20 = .ok (.aload_n 0, 1) := by decide +kernel
theorem dX4_orderIsDone_21 : decode cX4_orderIsDone 21 = .ok (.getfield 36, 3) := by decide +kernel
theorem dX4_orderIsDone_24 : decode cX4_orderIsDone 24 = .ok (.iload_n 1, 1) := by decide +kernel
theorem dX4_orderIsDone_25 : decode cX4_orderIsDone 25 = .ok (.iconst 1, 1) := by decide +kernel
theorem dX4_orderIsDone_26 : decode cX4_orderIsDone 26 = .ok (.invokevirtual 211, 3) := by decide +kernel
theorem dX4_orderIsDone_29 : decode cX4_orderIsDone 29 = .ok (.istore 4, 2) := by decide +kernel
theorem dX4_orderIsDone_31 : decode cX4_orderIsDone 31 = .ok (.aload_n 0, 1) := by decide +kernel
theorem dX4_orderIsDone_32 : decode cX4_orderIsDone 32 = .ok (.getfield 36, 3) := by decide +kernel
theorem dX4_orderIsDone_35 : decode cX4_orderIsDone 35 = .ok (.iload_n 1, 1) := by decide +kernel
theorem dX4_orderIsDone_36 : decode cX4_orderIsDone 36 = .ok (.iconst 2, 1) := by decide +kernel
theorem dX4_orderIsDone_37 : decode cX4_orderIsDone 37 = .ok (.invokevirtual 211, 3) := by decide +kernel
theorem dX4_orderIsDone_40 : decode cX4_orderIsDone 40 = .ok (.istore 5, 2) := by decide +kernel
theorem dX4_orderIsDone_42 : decode cX4_orderIsDone 42 = .ok (.aload_n 0, 1) := by decide +kernel
theorem dX4_orderIsDone_43 : decode cX4_orderIsDone 43 = .ok (.getfield 12, 3) := by decide +kernel
theorem dX4_orderIsDone_46 : decode cX4_orderIsDone 46 = .ok (.iload_n 2, 1) := by decide +kernel
theorem dX4_orderIsDone_47 : decode cX4_orderIsDone 47 = .ok (.iload_n 3, 1) := by decide +kernel
theorem dX4_orderIsDone_48 : decode cX4_orderIsDone 48 = .ok (.iload 4, 2) := by decide +kernel
theorem dX4_orderIsDone_50 : decode cX4_orderIsDone 50 = .ok (.iload 5, 2) := by decide +kernel
theorem dX4_orderIsDone_52 : decode cX4_orderIsDone 52 = .ok (.invokevirtual 202, 3) := by decide +kernel
theorem dX4_orderIsDone_55 : decode cX4_orderIsDone 55 = .ok (.ifCond .eq 5, 3) := by decide +kernel
theorem dX4_orderIsDone_58 : decode cX4_orderIsDone 58 = .ok (.iconst 0, 1) := by decide +kernel
theorem dX4_orderIsDone_59 : decode cX4_orderIsDone 59 = .ok (.ireturn, 1) := by decide +kernel
theorem dX4_orderIsDone_60 : decode cX4_orderIsDone 60 = .ok (.aload_n 0, 1) := by decide +kernel
theorem dX4_orderIsDone_61 : decode cX4_orderIsDone 61 = .ok (.getfield 12, 3) := by decide +kernel
theorem dX4_orderIsDone_64 : decode cX4_orderIsDone 64 = .ok (.iload_n 2, 1) := by decide +kernel
theorem dX4_orderIsDone_65 : decode cX4_orderIsDone 65 = .ok (.iload_n 3, 1) := by decide +kernel
theorem dX4_orderIsDone_66 : decode cX4_orderIsDone 66 = .ok (.iload 4, 2) := by decide +kernel
theorem dX4_orderIsDone_68 : decode cX4_orderIsDone 68 = .ok (.iload 5, 2) := by decide +kernel
theorem dX4_orderIsDone_70 : decode cX4_orderIsDone 70 = .ok (.invokevirtual 205, 3) := by decide +kernel
theorem dX4_orderIsDone_73 : decode cX4_orderIsDone 73 = .ok (.pop, 1) := by decide +kernel
theorem dX4_orderIsDone_74 : decode cX4_orderIsDone 74 = .ok (.iconst 1, 1) := by decide +kernel
theorem dX4_orderIsDone_75 : decode cX4_orderIsDone 75 = .ok (.ireturn, 1) := by decide +kernel
theorem dX4_sweepNow_0 : decode cX4_sweepNow 0 = .ok (.aload_n 0, 1) := by decide +kernel
theorem dX4_sweepNow_1 : decode cX4_sweepNow 1 = .ok (.getfield 40, 3) := by decide +kernel
theorem dX4_sweepNow_4 : decode cX4_sweepNow 4 = .ok (.ifCond .eq 19, 3) := by decide +kernel
theorem dX4_sweepNow_7 : decode cX4_sweepNow 7 = .ok (.aload_n 0, 1) := by decide +kernel
theorem dX4_sweepNow_8 : decode cX4_sweepNow 8 = .ok (.getfield 22, 3) := by decide +kernel
theorem dX4_sweepNow_11 : decode cX4_sweepNow 11 = .ok (.aload_n 0, 1) := by decide +kernel
theorem dX4_sweepNow_12 : decode cX4_sweepNow 12 = .ok (.getfield 12, 3) := by decide +kernel
theorem dX4_sweepNow_15 : decode cX4_sweepNow 15 = .ok (.invokevirtual 214, 3) := by decide +kernel
theorem dX4_sweepNow_18 : decode cX4_sweepNow 18 = .ok (.aload_n 0, 1) := by decide +kernel
theorem dX4_sweepNow_19 : decode cX4_sweepNow 19 = .ok (.iconst 0, 1) := by decide +kernel
theorem dX4_sweepNow_20 : decode cX4_sweepNow 20 = .ok (.putfield 40, 3) := by decide +kernel
theorem dX4_sweepNow_23 : decode cX4_sweepNow 23 = .ok (.aload_n 0, 1) := by decide +kernel
theorem dX4_sweepNow_24 : decode cX4_sweepNow 24 = .ok (.getfield 22, 3) := by decide +kernel
theorem dX4_sweepNow_27 : decode cX4_sweepNow 27 = .ok (.areturn, 1) := by decide +kernel
theorem dX4_toldOf_0 : decode cX4_toldOf 0 = .ok (.iload_n 1, 1) := by decide +kernel
theorem dX4_toldOf_1 : decode cX4_toldOf 1 = .ok (.tableswitch 54 0 3 #[31, 36, 41, 46], 31) := by decide +kernel
theorem dX4_toldOf_32 : decode cX4_toldOf 32 = .ok (.aload_n 0, 1) := by decide +kernel
theorem dX4_toldOf_33 : decode cX4_toldOf 33 = .ok (.getfield 193, 3) := by decide +kernel
theorem dX4_toldOf_36 : decode cX4_toldOf 36 = .ok (.ireturn, 1) := by decide +kernel
theorem dX4_toldOf_37 : decode cX4_toldOf 37 = .ok (.aload_n 0, 1) := by decide +kernel
theorem dX4_toldOf_38 : decode cX4_toldOf 38 = .ok (.getfield 196, 3) := by decide +kernel
theorem dX4_toldOf_41 : decode cX4_toldOf 41 = .ok (.ireturn, 1) := by decide +kernel
theorem dX4_toldOf_42 : decode cX4_toldOf 42 = .ok (.aload_n 0, 1) := by decide +kernel
theorem dX4_toldOf_43 : decode cX4_toldOf 43 = .ok (.getfield 199, 3) := by decide +kernel
theorem dX4_toldOf_46 : decode cX4_toldOf 46 = .ok (.ireturn, 1) := by decide +kernel
theorem dX4_toldOf_47 : decode cX4_toldOf 47 = .ok (.aload_n 0, 1) := by decide +kernel
theorem dX4_toldOf_48 : decode cX4_toldOf 48 = .ok (.getfield 36, 3) := by decide +kernel
theorem dX4_toldOf_51 : decode cX4_toldOf 51 = .ok (.getfield 144, 3) := by decide +kernel
theorem dX4_toldOf_54 : decode cX4_toldOf 54 = .ok (.ireturn, 1) := by decide +kernel
theorem dX4_toldOf_55 : decode cX4_toldOf 55 = .ok (.aload_n 0, 1) := by decide +kernel
theorem dX4_toldOf_56 : decode cX4_toldOf 56 = .ok (.getfield 29, 3) := by decide +kernel
theorem dX4_toldOf_59 : decode cX4_toldOf 59 = .ok (.getfield 163, 3) := by decide +kernel
theorem dX4_toldOf_62 : decode cX4_toldOf 62 = .ok (.ireturn, 1) := by decide +kernel
theorem dX4_leastRow_0 : decode cX4_leastRow 0 = .ok (.iconst 0, 1) := by decide +kernel
theorem dX4_leastRow_1 : decode cX4_leastRow 1 = .ok (.istore_n 1, 1) := by decide +kernel
theorem dX4_leastRow_2 : decode cX4_leastRow 2 = .ok (.iload_n 1, 1) := by decide +kernel
theorem dX4_leastRow_3 : decode cX4_leastRow 3 = .ok (.bipush 31, 2) := by decide +kernel
theorem dX4_leastRow_5 : decode cX4_leastRow 5 = .ok (.if_icmp .ge 20, 3) := by decide +kernel
theorem dX4_leastRow_8 : decode cX4_leastRow 8 = .ok (.iload_n 0, 1) := by decide +kernel
theorem dX4_leastRow_9 : decode cX4_leastRow 9 = .ok (.iload_n 1, 1) := by decide +kernel
theorem dX4_leastRow_10 : decode cX4_leastRow 10 = .ok (.iushr, 1) := by decide +kernel
theorem dX4_leastRow_11 : decode cX4_leastRow 11 = .ok (.iconst 1, 1) := by decide +kernel
theorem dX4_leastRow_12 : decode cX4_leastRow 12 = .ok (.iand, 1) := by decide +kernel
theorem dX4_leastRow_13 : decode cX4_leastRow 13 = .ok (.iconst 1, 1) := by decide +kernel
theorem dX4_leastRow_14 : decode cX4_leastRow 14 = .ok (.if_icmp .ne 5, 3) := by decide +kernel
theorem dX4_leastRow_17 : decode cX4_leastRow 17 = .ok (.iload_n 1, 1) := by decide +kernel
theorem dX4_leastRow_18 : decode cX4_leastRow 18 = .ok (.ireturn, 1) := by decide +kernel
theorem dX4_leastRow_19 : decode cX4_leastRow 19 = .ok (.iinc 1 1, 3) := by decide +kernel
theorem dX4_leastRow_22 : decode cX4_leastRow 22 = .ok (.goto (-20), 3) := by decide +kernel
theorem dX4_leastRow_25 : decode cX4_leastRow 25 = .ok (.bipush 31, 2) := by decide +kernel
theorem dX4_leastRow_27 : decode cX4_leastRow 27 = .ok (.ireturn, 1) := by decide +kernel
end
section
theorem dX5_init_0 : decode cX5_init 0 = .ok (.aload_n 0, 1) := by decide +kernel
theorem dX5_init_1 : decode cX5_init 1 = .ok (.invokespecial 1, 3) := by decide +kernel
theorem dX5_init_4 : decode cX5_init 4 = .ok (.aload_n 0, 1) := by decide +kernel
theorem dX5_init_5 : decode cX5_init 5 = .ok (.bipush 125, 2) := by decide +kernel
theorem dX5_init_7 : decode cX5_init 7 = .ok (.newarray .int, 2) := by decide +kernel
theorem dX5_init_9 : decode cX5_init 9 = .ok (.putfield 7, 3) := by decide +kernel
theorem dX5_init_12 : decode cX5_init 12 = .ok (.aload_n 0, 1) := by decide +kernel
theorem dX5_init_13 : decode cX5_init 13 = .ok (.bipush 125, 2) := by decide +kernel
theorem dX5_init_15 : decode cX5_init 15 = .ok (.newarray .int, 2) := by decide +kernel
theorem dX5_init_17 : decode cX5_init 17 = .ok (.putfield 13, 3) := by decide +kernel
theorem dX5_init_20 : decode cX5_init 20 = .ok (.aload_n 0, 1) := by decide +kernel
theorem dX5_init_21 : decode cX5_init 21 = .ok (.sipush 625, 3) := by decide +kernel
theorem dX5_init_24 : decode cX5_init 24 = .ok (.newarray .int, 2) := by decide +kernel
theorem dX5_init_26 : decode cX5_init 26 = .ok (.putfield 16, 3) := by decide +kernel
theorem dX5_init_29 : decode cX5_init 29 = .ok (.aload_n 0, 1) := by decide +kernel
theorem dX5_init_30 : decode cX5_init 30 = .ok (.iconst 3, 1) := by decide +kernel
theorem dX5_init_31 : decode cX5_init 31 = .ok (.newarray .int, 2) := by decide +kernel
theorem dX5_init_33 : decode cX5_init 33 = .ok (.putfield 19, 3) := by decide +kernel
theorem dX5_init_36 : decode cX5_init 36 = .ok (.aload_n 0, 1) := by decide +kernel
theorem dX5_init_37 : decode cX5_init 37 = .ok (.sipush 150, 3) := by decide +kernel
theorem dX5_init_40 : decode cX5_init 40 = .ok (.newarray .int, 2) := by decide +kernel
theorem dX5_init_42 : decode cX5_init 42 = .ok (.putfield 22, 3) := by decide +kernel
theorem dX5_init_45 : decode cX5_init 45 = .ok (.aload_n 0, 1) := by decide +kernel
theorem dX5_init_46 : decode cX5_init 46 = .ok (.bipush 48, 2) := by decide +kernel
theorem dX5_init_48 : decode cX5_init 48 = .ok (.newarray .int, 2) := by decide +kernel
theorem dX5_init_50 : decode cX5_init 50 = .ok (.putfield 25, 3) := by decide +kernel
theorem dX5_init_53 : decode cX5_init 53 = .ok (.aload_n 0, 1) := by decide +kernel
theorem dX5_init_54 : decode cX5_init 54 = .ok (.bipush 12, 2) := by decide +kernel
theorem dX5_init_56 : decode cX5_init 56 = .ok (.newarray .int, 2) := by decide +kernel
theorem dX5_init_58 : decode cX5_init 58 = .ok (.putfield 28, 3) := by decide +kernel
theorem dX5_init_61 : decode cX5_init 61 = .ok (.aload_n 0, 1) := by decide +kernel
theorem dX5_init_62 : decode cX5_init 62 = .ok (.bipush 48, 2) := by decide +kernel
theorem dX5_init_64 : decode cX5_init 64 = .ok (.newarray .int, 2) := by decide +kernel
theorem dX5_init_66 : decode cX5_init 66 = .ok (.putfield 31, 3) := by decide +kernel
theorem dX5_init_69 : decode cX5_init 69 = .ok (.aload_n 0, 1) := by decide +kernel
theorem dX5_init_70 : decode cX5_init 70 = .ok (.bipush 48, 2) := by decide +kernel
theorem dX5_init_72 : decode cX5_init 72 = .ok (.newarray .int, 2) := by decide +kernel
theorem dX5_init_74 : decode cX5_init 74 = .ok (.putfield 34, 3) := by decide +kernel
theorem dX5_init_77 : decode cX5_init 77 = .ok (.aload_n 0, 1) := by decide +kernel
theorem dX5_init_78 : decode cX5_init 78 = .ok (.bipush 48, 2) := by decide +kernel
theorem dX5_init_80 : decode cX5_init 80 = .ok (.newarray .int, 2) := by decide +kernel
theorem dX5_init_82 : decode cX5_init 82 = .ok (.putfield 37, 3) := by decide +kernel
theorem dX5_init_85 : decode cX5_init 85 = .ok (.aload_n 0, 1) := by decide +kernel
theorem dX5_init_86 : decode cX5_init 86 = .ok (.bipush 48, 2) := by decide +kernel
theorem dX5_init_88 : decode cX5_init 88 = .ok (.newarray .int, 2) := by decide +kernel
theorem dX5_init_90 : decode cX5_init 90 = .ok (.putfield 40, 3) := by decide +kernel
theorem dX5_init_93 : decode cX5_init 93 = .ok (.aload_n 0, 1) := by decide +kernel
theorem dX5_init_94 : decode cX5_init 94 = .ok (.bipush 48, 2) := by decide +kernel
theorem dX5_init_96 : decode cX5_init 96 = .ok (.newarray .int, 2) := by decide +kernel
theorem dX5_init_98 : decode cX5_init 98 = .ok (.putfield 43, 3) := by decide +kernel
theorem dX5_init_101 : decode cX5_init 101 = .ok (.aload_n 0, 1) := by decide +kernel
theorem dX5_init_102 : decode cX5_init 102 = .ok (.bipush 48, 2) := by decide +kernel
theorem dX5_init_104 : decode cX5_init 104 = .ok (.newarray .int, 2) := by decide +kernel
theorem dX5_init_106 : decode cX5_init 106 = .ok (.putfield 46, 3) := by decide +kernel
theorem dX5_init_109 : decode cX5_init 109 = .ok (.aload_n 0, 1) := by decide +kernel
theorem dX5_init_110 : decode cX5_init 110 = .ok (.bipush 51, 2) := by decide +kernel
theorem dX5_init_112 : decode cX5_init 112 = .ok (.newarray .int, 2) := by decide +kernel
theorem dX5_init_114 : decode cX5_init 114 = .ok (.putfield 49, 3) := by decide +kernel
theorem dX5_init_117 : decode cX5_init 117 = .ok (.aload_n 0, 1) := by decide +kernel
theorem dX5_init_118 : decode cX5_init 118 = .ok (.sipush 153, 3) := by decide +kernel
theorem dX5_init_121 : decode cX5_init 121 = .ok (.newarray .int, 2) := by decide +kernel
theorem dX5_init_123 : decode cX5_init 123 = .ok (.putfield 52, 3) := by decide +kernel
theorem dX5_init_126 : decode cX5_init 126 = .ok (.aload_n 0, 1) := by decide +kernel
theorem dX5_init_127 : decode cX5_init 127 = .ok (.getfield 7, 3) := by decide +kernel
theorem dX5_init_130 : decode cX5_init 130 = .ok (.iconst 0, 1) := by decide +kernel
theorem dX5_init_131 : decode cX5_init 131 = .ok (.iconst 3, 1) := by decide +kernel
theorem dX5_init_132 : decode cX5_init 132 = .ok (.iastore, 1) := by decide +kernel
theorem dX5_init_133 : decode cX5_init 133 = .ok (.aload_n 0, 1) := by decide +kernel
theorem dX5_init_134 : decode cX5_init 134 = .ok (.getfield 7, 3) := by decide +kernel
theorem dX5_init_137 : decode cX5_init 137 = .ok (.iconst 1, 1) := by decide +kernel
theorem dX5_init_138 : decode cX5_init 138 = .ok (.iconst 4, 1) := by decide +kernel
theorem dX5_init_139 : decode cX5_init 139 = .ok (.iastore, 1) := by decide +kernel
theorem dX5_init_140 : decode cX5_init 140 = .ok (.return_, 1) := by decide +kernel
theorem dX5_bad_0 : decode cX5_bad 0 = .ok (.aload_n 0, 1) := by decide +kernel
theorem dX5_bad_1 : decode cX5_bad 1 = .ok (.getfield 19, 3) := by decide +kernel
theorem dX5_bad_4 : decode cX5_bad 4 = .ok (.iconst 0, 1) := by decide +kernel
theorem dX5_bad_5 : decode cX5_bad 5 = .ok (.dup2, 1) := by decide +kernel
theorem dX5_bad_6 : decode cX5_bad 6 = .ok (.iaload, 1) := by decide +kernel
theorem dX5_bad_7 : decode cX5_bad 7 = .ok (.iconst 1, 1) := by decide +kernel
theorem dX5_bad_8 : decode cX5_bad 8 = .ok (.iadd, 1) := by decide +kernel
theorem dX5_bad_9 : decode cX5_bad 9 = .ok (.iastore, 1) := by decide +kernel
theorem dX5_bad_10 : decode cX5_bad 10 = .ok (.bipush (-2), 2) := by decide +kernel
theorem dX5_bad_12 : decode cX5_bad 12 = .ok (.ireturn, 1) := by decide +kernel
theorem dX5_no_0 : decode cX5_no 0 = .ok (.aload_n 0, 1) := by decide +kernel
theorem dX5_no_1 : decode cX5_no 1 = .ok (.getfield 19, 3) := by decide +kernel
theorem dX5_no_4 : decode cX5_no 4 = .ok (.iconst 1, 1) := by decide +kernel
theorem dX5_no_5 : decode cX5_no 5 = .ok (.dup2, 1) := by decide +kernel
theorem dX5_no_6 : decode cX5_no 6 = .ok (.iaload, 1) := by decide +kernel
theorem dX5_no_7 : decode cX5_no 7 = .ok (.iconst 1, 1) := by decide +kernel
theorem dX5_no_8 : decode cX5_no 8 = .ok (.iadd, 1) := by decide +kernel
theorem dX5_no_9 : decode cX5_no 9 = .ok (.iastore, 1) := by decide +kernel
theorem dX5_no_10 : decode cX5_no 10 = .ok (.bipush (-3), 2) := by decide +kernel
theorem dX5_no_12 : decode cX5_no 12 = .ok (.ireturn, 1) := by decide +kernel
theorem dX5_full_0 : decode cX5_full 0 = .ok (.aload_n 0, 1) := by decide +kernel
theorem dX5_full_1 : decode cX5_full 1 = .ok (.getfield 19, 3) := by decide +kernel
theorem dX5_full_4 : decode cX5_full 4 = .ok (.iconst 2, 1) := by decide +kernel
theorem dX5_full_5 : decode cX5_full 5 = .ok (.dup2, 1) := by decide +kernel
theorem dX5_full_6 : decode cX5_full 6 = .ok (.iaload, 1) := by decide +kernel
theorem dX5_full_7 : decode cX5_full 7 = .ok (.iconst 1, 1) := by decide +kernel
theorem dX5_full_8 : decode cX5_full 8 = .ok (.iadd, 1) := by decide +kernel
theorem dX5_full_9 : decode cX5_full 9 = .ok (.iastore, 1) := by decide +kernel
theorem dX5_full_10 : decode cX5_full 10 = .ok (.bipush (-4), 2) := by decide +kernel
theorem dX5_full_12 : decode cX5_full 12 = .ok (.ireturn, 1) := by decide +kernel
theorem dX5_within_0 : decode cX5_within 0 = .ok (.iload_n 0, 1) := by decide +kernel
theorem dX5_within_1 : decode cX5_within 1 = .ok (.iload_n 1, 1) := by decide +kernel
theorem dX5_within_2 : decode cX5_within 2 = .ok (.if_icmp .lt 12, 3) := by decide +kernel
theorem dX5_within_5 : decode cX5_within 5 = .ok (.iload_n 0, 1) := by decide +kernel
theorem dX5_within_6 : decode cX5_within 6 = .ok (.iload_n 2, 1) := by decide +kernel
theorem dX5_within_7 : decode cX5_within 7 = .ok (.if_icmp .gt 7, 3) := by decide +kernel
theorem dX5_within_10 : decode cX5_within 10 = .ok (.iconst 1, 1) := by decide +kernel
theorem dX5_within_11 : decode cX5_within 11 = .ok (.goto 4, 3) := by decide +kernel
theorem dX5_within_14 : decode cX5_within 14 = .ok (.iconst 0, 1) := by decide +kernel
theorem dX5_within_15 : decode cX5_within 15 = .ok (.ireturn, 1) := by decide +kernel
theorem dX5_isNode_0 : decode cX5_isNode 0 = .ok (.iload_n 1, 1) := by decide +kernel
theorem dX5_isNode_1 : decode cX5_isNode 1 = .ok (.iconst 0, 1) := by decide +kernel
theorem dX5_isNode_2 : decode cX5_isNode 2 = .ok (.aload_n 0, 1) := by decide +kernel
theorem dX5_isNode_3 : decode cX5_isNode 3 = .ok (.getfield 7, 3) := by decide +kernel
theorem dX5_isNode_6 : decode cX5_isNode 6 = .ok (.iconst 1, 1) := by decide +kernel
theorem dX5_isNode_7 : decode cX5_isNode 7 = .ok (.iaload, 1) := by decide +kernel
theorem dX5_isNode_8 : decode cX5_isNode 8 = .ok (.iconst 1, 1) := by decide +kernel
theorem dX5_isNode_9 : decode cX5_isNode 9 = .ok (.isub, 1) := by decide +kernel
theorem dX5_isNode_10 : decode cX5_isNode 10 = .ok (.invokestatic 55, 3) := by decide +kernel
theorem dX5_isNode_13 : decode cX5_isNode 13 = .ok (.ireturn, 1) := by decide +kernel
theorem dX5_isGate_0 : decode cX5_isGate 0 = .ok (.aload_n 0, 1) := by decide +kernel
theorem dX5_isGate_1 : decode cX5_isGate 1 = .ok (.iload_n 1, 1) := by decide +kernel
theorem dX5_isGate_2 : decode cX5_isGate 2 = .ok (.invokevirtual 59, 3) := by decide +kernel
theorem dX5_isGate_5 : decode cX5_isGate 5 = .ok (.ifCond .eq 17, 3) := by decide +kernel
theorem dX5_isGate_8 : decode cX5_isGate 8 = .ok (.iload_n 1, 1) := by decide +kernel
theorem dX5_isGate_9 : decode cX5_isGate 9 = .ok (.aload_n 0, 1) := by decide +kernel
theorem dX5_isGate_10 : decode cX5_isGate 10 = .ok (.getfield 7, 3) := by decide +kernel
theorem dX5_isGate_13 : decode cX5_isGate 13 = .ok (.iconst 0, 1) := by decide +kernel
theorem dX5_isGate_14 : decode cX5_isGate 14 = .ok (.iaload, 1) := by decide +kernel
theorem dX5_isGate_15 : decode cX5_isGate 15 = .ok (.if_icmp .le 7, 3) := by decide +kernel
theorem dX5_isGate_18 : decode cX5_isGate 18 = .ok (.iconst 1, 1) := by decide +kernel
theorem dX5_isGate_19 : decode cX5_isGate 19 = .ok (.goto 4, 3) := by decide +kernel
theorem dX5_isGate_22 : decode cX5_isGate 22 = .ok (.iconst 0, 1) := by decide +kernel
theorem dX5_isGate_23 : decode cX5_isGate 23 = .ok (.ireturn, 1) := by decide +kernel
theorem dX5_isLiteral_0 : decode cX5_isLiteral 0 = .ok (.iload_n 1, 1) := by decide +kernel
theorem dX5_isLiteral_1 : decode cX5_isLiteral 1 = .ok (.iconst 0, 1) := by decide +kernel
theorem dX5_isLiteral_2 : decode cX5_isLiteral 2 = .ok (.iconst 2, 1) := by decide +kernel
theorem dX5_isLiteral_3 : decode cX5_isLiteral 3 = .ok (.aload_n 0, 1) := by decide +kernel
theorem dX5_isLiteral_4 : decode cX5_isLiteral 4 = .ok (.getfield 7, 3) := by decide +kernel
theorem dX5_isLiteral_7 : decode cX5_isLiteral 7 = .ok (.iconst 1, 1) := by decide +kernel
theorem dX5_isLiteral_8 : decode cX5_isLiteral 8 = .ok (.iaload, 1) := by decide +kernel
theorem dX5_isLiteral_9 : decode cX5_isLiteral 9 = .ok (.imul, 1) := by decide +kernel
theorem dX5_isLiteral_10 : decode cX5_isLiteral 10 = .ok (.iconst 1, 1) := by decide +kernel
theorem dX5_isLiteral_11 : decode cX5_isLiteral 11 = .ok (.isub, 1) := by decide +kernel
theorem dX5_isLiteral_12 : decode cX5_isLiteral 12 = .ok (.invokestatic 55, 3) := by decide +kernel
theorem dX5_isLiteral_15 : decode cX5_isLiteral 15 = .ok (.ireturn, 1) := by decide +kernel
theorem dX5_rows_0 : decode cX5_rows 0 = .ok (.iconst 1, 1) := by decide +kernel
theorem dX5_rows_1 : decode cX5_rows 1 = .ok (.aload_n 0, 1) := by decide +kernel
theorem dX5_rows_2 : decode cX5_rows 2 = .ok (.getfield 7, 3) := by decide +kernel
theorem dX5_rows_5 : decode cX5_rows 5 = .ok (.iconst 0, 1) := by decide +kernel
theorem dX5_rows_6 : decode cX5_rows 6 = .ok (.iaload, 1) := by decide +kernel
theorem dX5_rows_7 : decode cX5_rows 7 = .ok (.ishl, 1) := by decide +kernel
theorem dX5_rows_8 : decode cX5_rows 8 = .ok (.ireturn, 1) := by decide +kernel
theorem dX5_isSide_0 : decode cX5_isSide 0 = .ok (.iload_n 0, 1) := by decide +kernel
theorem dX5_isSide_1 : decode cX5_isSide 1 = .ok (.ifCond .eq 8, 3) := by decide +kernel
theorem dX5_isSide_4 : decode cX5_isSide 4 = .ok (.iload_n 0, 1) := by decide +kernel
theorem dX5_isSide_5 : decode cX5_isSide 5 = .ok (.iconst 1, 1) := by decide +kernel
theorem dX5_isSide_6 : decode cX5_isSide 6 = .ok (.if_icmp .ne 7, 3) := by decide +kernel
theorem dX5_isSide_9 : decode cX5_isSide 9 = .ok (.iconst 1, 1) := by decide +kernel
theorem dX5_isSide_10 : decode cX5_isSide 10 = .ok (.goto 4, 3) := by decide +kernel
theorem dX5_isSide_13 : decode cX5_isSide 13 = .ok (.iconst 0, 1) := by decide +kernel
theorem dX5_isSide_14 : decode cX5_isSide 14 = .ok (.ireturn, 1) := by decide +kernel
theorem dX5_laysAside_0 : decode cX5_laysAside 0 = .ok (.iconst 0, 1) := by decide +kernel
theorem dX5_laysAside_1 : decode cX5_laysAside 1 = .ok (.istore_n 1, 1) := by decide +kernel
theorem dX5_laysAside_2 : decode cX5_laysAside 2 = .ok (.iload_n 1, 1) := by decide +kernel
theorem dX5_laysAside_3 : decode cX5_laysAside 3 = .ok (.bipush 125, 2) := by decide +kernel
theorem dX5_laysAside_5 : decode cX5_laysAside 5 = .ok (.if_icmp .ge 21, 3) := by decide +kernel
theorem dX5_laysAside_8 : decode cX5_laysAside 8 = .ok (.aload_n 0, 1) := by decide +kernel
theorem dX5_laysAside_9 : decode cX5_laysAside 9 = .ok (.getfield 13, 3) := by decide +kernel
theorem dX5_laysAside_12 : decode cX5_laysAside 12 = .ok (.iload_n 1, 1) := by decide +kernel
theorem dX5_laysAside_13 : decode cX5_laysAside 13 = .ok (.aload_n 0, 1) := by decide +kernel
theorem dX5_laysAside_14 : decode cX5_laysAside 14 = .ok (.getfield 7, 3) := by decide +kernel
theorem dX5_laysAside_17 : decode cX5_laysAside 17 = .ok (.iload_n 1, 1) := by decide +kernel
theorem dX5_laysAside_18 : decode cX5_laysAside 18 = .ok (.iaload, 1) := by decide +kernel
theorem dX5_laysAside_19 : decode cX5_laysAside 19 = .ok (.iastore, 1) := by decide +kernel
theorem dX5_laysAside_20 : decode cX5_laysAside 20 = .ok (.iinc 1 1, 3) := by decide +kernel
theorem dX5_laysAside_23 : decode cX5_laysAside 23 = .ok (.goto (-21), 3) := by decide +kernel
theorem dX5_laysAside_26 : decode cX5_laysAside 26 = .ok (.return_, 1) := by decide +kernel
theorem dX5_leaves_0 : decode cX5_leaves 0 = .ok (.aload_n 0, 1) := by decide +kernel
theorem dX5_leaves_1 : decode cX5_leaves 1 = .ok (.getfield 63, 3) := by decide +kernel
theorem dX5_leaves_4 : decode cX5_leaves 4 = .ok (.iconst 5, 1) := by decide +kernel
theorem dX5_leaves_5 : decode cX5_leaves 5 = .ok (.if_icmp .ne 43, 3) := by decide +kernel
theorem dX5_leaves_8 : decode cX5_leaves 8 = .ok (.iconst 0, 1) := by decide +kernel
theorem dX5_leaves_9 : decode cX5_leaves 9 = .ok (.istore_n 1, 1) := by decide +kernel
theorem dX5_leaves_10 : decode cX5_leaves 10 = .ok (.iload_n 1, 1) := by decide +kernel
theorem dX5_leaves_11 : decode cX5_leaves 11 = .ok (.sipush 500, 3) := by decide +kernel
theorem dX5_leaves_14 : decode cX5_leaves 14 = .ok (.if_icmp .ge 24, 3) := by decide +kernel
theorem dX5_leaves_17 : decode cX5_leaves 17 = .ok (.aload_n 0, 1) := by decide +kernel
theorem dX5_leaves_18 : decode cX5_leaves 18 = .ok (.getfield 16, 3) := by decide +kernel
theorem dX5_leaves_21 : decode cX5_leaves 21 = .ok (.iload_n 1, 1) := by decide +kernel
theorem dX5_leaves_22 : decode cX5_leaves 22 = .ok (.aload_n 0, 1) := by decide +kernel
theorem dX5_leaves_23 : decode cX5_leaves 23 = .ok (.getfield 16, 3) := by decide +kernel
theorem dX5_leaves_26 : decode cX5_leaves 26 = .ok (.iload_n 1, 1) := by decide +kernel
theorem dX5_leaves_27 : decode cX5_leaves 27 = .ok (.bipush 125, 2) := by decide +kernel
theorem dX5_leaves_29 : decode cX5_leaves 29 = .ok (.iadd, 1) := by decide +kernel
theorem dX5_leaves_30 : decode cX5_leaves 30 = .ok (.iaload, 1) := by decide +kernel
theorem dX5_leaves_31 : decode cX5_leaves 31 = .ok (.iastore, 1) := by decide +kernel
theorem dX5_leaves_32 : decode cX5_leaves 32 = .ok (.iinc 1 1, 3) := by decide +kernel
theorem dX5_leaves_35 : decode cX5_leaves 35 = .ok (.goto (-25), 3) := by decide +kernel
theorem dX5_leaves_38 : decode cX5_leaves 38 = .ok (.aload_n 0, 1) := by decide +kernel
theorem dX5_leaves_39 : decode cX5_leaves 39 = .ok (.dup, 1) := by decide +kernel
theorem dX5_leaves_40 : decode cX5_leaves 40 = .ok (.getfield 63, 3) := by decide +kernel
theorem dX5_leaves_43 : decode cX5_leaves 43 = .ok (.iconst 1, 1) := by decide +kernel
theorem dX5_leaves_44 : decode cX5_leaves 44 = .ok (.isub, 1) := by decide +kernel
theorem dX5_leaves_45 : decode cX5_leaves 45 = .ok (.putfield 63, 3) := by decide +kernel
theorem dX5_leaves_48 : decode cX5_leaves 48 = .ok (.iconst 0, 1) := by decide +kernel
theorem dX5_leaves_49 : decode cX5_leaves 49 = .ok (.istore_n 1, 1) := by decide +kernel
theorem dX5_leaves_50 : decode cX5_leaves 50 = .ok (.iload_n 1, 1) := by decide +kernel
theorem dX5_leaves_51 : decode cX5_leaves 51 = .ok (.bipush 125, 2) := by decide +kernel
theorem dX5_leaves_53 : decode cX5_leaves 53 = .ok (.if_icmp .ge 29, 3) := by decide +kernel
theorem dX5_leaves_56 : decode cX5_leaves 56 = .ok (.aload_n 0, 1) := by decide +kernel
theorem dX5_leaves_57 : decode cX5_leaves 57 = .ok (.getfield 16, 3) := by decide +kernel
theorem dX5_leaves_60 : decode cX5_leaves 60 = .ok (.bipush 125, 2) := by decide +kernel
theorem dX5_leaves_62 : decode cX5_leaves 62 = .ok (.aload_n 0, 1) := by decide +kernel
theorem dX5_leaves_63 : decode cX5_leaves 63 = .ok (.getfield 63, 3) := by decide +kernel
theorem dX5_leaves_66 : decode cX5_leaves 66 = .ok (.imul, 1) := by decide +kernel
theorem dX5_leaves_67 : decode cX5_leaves 67 = .ok (.iload_n 1, 1) := by decide +kernel
theorem dX5_leaves_68 : decode cX5_leaves 68 = .ok (.iadd, 1) := by decide +kernel
theorem dX5_leaves_69 : decode cX5_leaves 69 = .ok (.aload_n 0, 1) := by decide +kernel
theorem dX5_leaves_70 : decode cX5_leaves 70 = .ok (.getfield 13, 3) := by decide +kernel
theorem dX5_leaves_73 : decode cX5_leaves 73 = .ok (.iload_n 1, 1) := by decide +kernel
theorem dX5_leaves_74 : decode cX5_leaves 74 = .ok (.iaload, 1) := by decide +kernel
theorem dX5_leaves_75 : decode cX5_leaves 75 = .ok (.iastore, 1) := by decide +kernel
theorem dX5_leaves_76 : decode cX5_leaves 76 = .ok (.iinc 1 1, 3) := by decide +kernel
theorem dX5_leaves_79 : decode cX5_leaves 79 = .ok (.goto (-29), 3) := by decide +kernel
theorem dX5_leaves_82 : decode cX5_leaves 82 = .ok (.aload_n 0, 1) := by decide +kernel
theorem dX5_leaves_83 : decode cX5_leaves 83 = .ok (.dup, 1) := by decide +kernel
theorem dX5_leaves_84 : decode cX5_leaves 84 = .ok (.getfield 63, 3) := by decide +kernel
theorem dX5_leaves_87 : decode cX5_leaves 87 = .ok (.iconst 1, 1) := by decide +kernel
theorem dX5_leaves_88 : decode cX5_leaves 88 = .ok (.iadd, 1) := by decide +kernel
theorem dX5_leaves_89 : decode cX5_leaves 89 = .ok (.putfield 63, 3) := by decide +kernel
theorem dX5_leaves_92 : decode cX5_leaves 92 = .ok (.return_, 1) := by decide +kernel
theorem dX5_back_0 : decode cX5_back 0 = .ok (.aload_n 0, 1) := by decide +kernel
theorem dX5_back_1 : decode cX5_back 1 = .ok (.getfield 63, 3) := by decide +kernel
theorem dX5_back_4 : decode cX5_back 4 = .ok (.ifCond .ne 8, 3) := by decide +kernel
theorem dX5_back_7 : decode cX5_back 7 = .ok (.aload_n 0, 1) := by decide +kernel
theorem dX5_back_8 : decode cX5_back 8 = .ok (.invokevirtual 67, 3) := by decide +kernel
theorem dX5_back_11 : decode cX5_back 11 = .ok (.ireturn, 1) := by decide +kernel
theorem dX5_back_12 : decode cX5_back 12 = .ok (.aload_n 0, 1) := by decide +kernel
theorem dX5_back_13 : decode cX5_back 13 = .ok (.dup, 1) := by decide +kernel
theorem dX5_back_14 : decode cX5_back 14 = .ok (.getfield 63, 3) := by decide +kernel
theorem dX5_back_17 : decode cX5_back 17 = .ok (.iconst 1, 1) := by decide +kernel
theorem dX5_back_18 : decode cX5_back 18 = .ok (.isub, 1) := by decide +kernel
theorem dX5_back_19 : decode cX5_back 19 = .ok (.putfield 63, 3) := by decide +kernel
theorem dX5_back_22 : decode cX5_back 22 = .ok (.iconst 0, 1) := by decide +kernel
theorem dX5_back_23 : decode cX5_back 23 = .ok (.istore_n 1, 1) := by decide +kernel
theorem dX5_back_24 : decode cX5_back 24 = .ok (.iload_n 1, 1) := by decide +kernel
theorem dX5_back_25 : decode cX5_back 25 = .ok (.bipush 125, 2) := by decide +kernel
theorem dX5_back_27 : decode cX5_back 27 = .ok (.if_icmp .ge 29, 3) := by decide +kernel
theorem dX5_back_30 : decode cX5_back 30 = .ok (.aload_n 0, 1) := by decide +kernel
theorem dX5_back_31 : decode cX5_back 31 = .ok (.getfield 7, 3) := by decide +kernel
theorem dX5_back_34 : decode cX5_back 34 = .ok (.iload_n 1, 1) := by decide +kernel
theorem dX5_back_35 : decode cX5_back 35 = .ok (.aload_n 0, 1) := by decide +kernel
theorem dX5_back_36 : decode cX5_back 36 = .ok (.getfield 16, 3) := by decide +kernel
theorem dX5_back_39 : decode cX5_back 39 = .ok (.bipush 125, 2) := by decide +kernel
theorem dX5_back_41 : decode cX5_back 41 = .ok (.aload_n 0, 1) := by decide +kernel
theorem dX5_back_42 : decode cX5_back 42 = .ok (.getfield 63, 3) := by decide +kernel
theorem dX5_back_45 : decode cX5_back 45 = .ok (.imul, 1) := by decide +kernel
theorem dX5_back_46 : decode cX5_back 46 = .ok (.iload_n 1, 1) := by decide +kernel
theorem dX5_back_47 : decode cX5_back 47 = .ok (.iadd, 1) := by decide +kernel
theorem dX5_back_48 : decode cX5_back 48 = .ok (.iaload, 1) := by decide +kernel
theorem dX5_back_49 : decode cX5_back 49 = .ok (.iastore, 1) := by decide +kernel
theorem dX5_back_50 : decode cX5_back 50 = .ok (.iinc 1 1, 3) := by decide +kernel
theorem dX5_back_53 : decode cX5_back 53 = .ok (.goto (-29), 3) := by decide +kernel
theorem dX5_back_56 : decode cX5_back 56 = .ok (.aload_n 0, 1) := by decide +kernel
theorem dX5_back_57 : decode cX5_back 57 = .ok (.getfield 63, 3) := by decide +kernel
theorem dX5_back_60 : decode cX5_back 60 = .ok (.ireturn, 1) := by decide +kernel
theorem dX5_answers_0 : decode cX5_answers 0 = .ok (.iload_n 1, 1) := by decide +kernel
theorem dX5_answers_1 : decode cX5_answers 1 = .ok (.ifCond .lt 9, 3) := by decide +kernel
theorem dX5_answers_4 : decode cX5_answers 4 = .ok (.aload_n 0, 1) := by decide +kernel
theorem dX5_answers_5 : decode cX5_answers 5 = .ok (.invokevirtual 71, 3) := by decide +kernel
theorem dX5_answers_8 : decode cX5_answers 8 = .ok (.iload_n 1, 1) := by decide +kernel
theorem dX5_answers_9 : decode cX5_answers 9 = .ok (.ireturn, 1) := by decide +kernel
theorem dX5_answers_10 : decode cX5_answers 10 = .ok (.iload_n 1, 1) := by decide +kernel
theorem dX5_answers_11 : decode cX5_answers 11 = .ok (.bipush (-4), 2) := by decide +kernel
theorem dX5_answers_13 : decode cX5_answers 13 = .ok (.if_icmp .ne 10, 3) := by decide +kernel
theorem dX5_answers_16 : decode cX5_answers 16 = .ok (.aload_n 0, 1) := by decide +kernel
theorem dX5_answers_17 : decode cX5_answers 17 = .ok (.invokevirtual 74, 3) := by decide +kernel
theorem dX5_answers_20 : decode cX5_answers 20 = .ok (.goto 7, 3) := by decide +kernel
theorem dX5_answers_23 : decode cX5_answers 23 = .ok (.aload_n 0, 1) := by decide +kernel
theorem dX5_answers_24 : decode cX5_answers 24 = .ok (.invokevirtual 77, 3) := by decide +kernel
theorem dX5_answers_27 : decode cX5_answers 27 = .ok (.ireturn, 1) := by decide +kernel
theorem dX5_begins_0 : decode cX5_begins 0 = .ok (.iload_n 1, 1) := by decide +kernel
theorem dX5_begins_1 : decode cX5_begins 1 = .ok (.iconst 1, 1) := by decide +kernel
theorem dX5_begins_2 : decode cX5_begins 2 = .ok (.iconst 5, 1) := by decide +kernel
theorem dX5_begins_3 : decode cX5_begins 3 = .ok (.invokestatic 55, 3) := by decide +kernel
theorem dX5_begins_6 : decode cX5_begins 6 = .ok (.ifCond .ne 6, 3) := by decide +kernel
theorem dX5_begins_9 : decode cX5_begins 9 = .ok (.bipush (-2), 2) := by decide +kernel
theorem dX5_begins_11 : decode cX5_begins 11 = .ok (.ireturn, 1) := by decide +kernel
theorem dX5_begins_12 : decode cX5_begins 12 = .ok (.aload_n 0, 1) := by decide +kernel
theorem dX5_begins_13 : decode cX5_begins 13 = .ok (.getfield 7, 3) := by decide +kernel
theorem dX5_begins_16 : decode cX5_begins 16 = .ok (.iconst 0, 1) := by decide +kernel
theorem dX5_begins_17 : decode cX5_begins 17 = .ok (.iaload, 1) := by decide +kernel
theorem dX5_begins_18 : decode cX5_begins 18 = .ok (.istore_n 2, 1) := by decide +kernel
theorem dX5_begins_19 : decode cX5_begins 19 = .ok (.iconst 0, 1) := by decide +kernel
theorem dX5_begins_20 : decode cX5_begins 20 = .ok (.istore_n 3, 1) := by decide +kernel
theorem dX5_begins_21 : decode cX5_begins 21 = .ok (.iload_n 3, 1) := by decide +kernel
theorem dX5_begins_22 : decode cX5_begins 22 = .ok (.bipush 125, 2) := by decide +kernel
theorem dX5_begins_24 : decode cX5_begins 24 = .ok (.if_icmp .ge 16, 3) := by decide +kernel
theorem dX5_begins_27 : decode cX5_begins 27 = .ok (.aload_n 0, 1) := by decide +kernel
theorem dX5_begins_28 : decode cX5_begins 28 = .ok (.getfield 7, 3) := by decide +kernel
theorem dX5_begins_31 : decode cX5_begins 31 = .ok (.iload_n 3, 1) := by decide +kernel
theorem dX5_begins_32 : decode cX5_begins 32 = .ok (.iconst 0, 1) := by decide +kernel
theorem dX5_begins_33 : decode cX5_begins 33 = .ok (.iastore, 1) := by decide +kernel
theorem dX5_begins_34 : decode cX5_begins 34 = .ok (.iinc 3 1, 3) := by decide +kernel
theorem dX5_begins_37 : decode cX5_begins 37 = .ok (.goto (-16), 3) := by decide +kernel
theorem dX5_begins_40 : decode cX5_begins 40 = .ok (.aload_n 0, 1) := by decide +kernel
theorem dX5_begins_41 : decode cX5_begins 41 = .ok (.getfield 7, 3) := by decide +kernel
theorem dX5_begins_44 : decode cX5_begins 44 = .ok (.iconst 0, 1) := by decide +kernel
theorem dX5_begins_45 : decode cX5_begins 45 = .ok (.iload_n 1, 1) := by decide +kernel
theorem dX5_begins_46 : decode cX5_begins 46 = .ok (.iastore, 1) := by decide +kernel
theorem dX5_begins_47 : decode cX5_begins 47 = .ok (.aload_n 0, 1) := by decide +kernel
theorem dX5_begins_48 : decode cX5_begins 48 = .ok (.getfield 7, 3) := by decide +kernel
theorem dX5_begins_51 : decode cX5_begins 51 = .ok (.iconst 1, 1) := by decide +kernel
theorem dX5_begins_52 : decode cX5_begins 52 = .ok (.iload_n 1, 1) := by decide +kernel
theorem dX5_begins_53 : decode cX5_begins 53 = .ok (.iconst 1, 1) := by decide +kernel
theorem dX5_begins_54 : decode cX5_begins 54 = .ok (.iadd, 1) := by decide +kernel
theorem dX5_begins_55 : decode cX5_begins 55 = .ok (.iastore, 1) := by decide +kernel
theorem dX5_begins_56 : decode cX5_begins 56 = .ok (.iload_n 2, 1) := by decide +kernel
theorem dX5_begins_57 : decode cX5_begins 57 = .ok (.ireturn, 1) := by decide +kernel
theorem dX5_adds_0 : decode cX5_adds 0 = .ok (.aload_n 0, 1) := by decide +kernel
theorem dX5_adds_1 : decode cX5_adds 1 = .ok (.getfield 7, 3) := by decide +kernel
theorem dX5_adds_4 : decode cX5_adds 4 = .ok (.iconst 2, 1) := by decide +kernel
theorem dX5_adds_5 : decode cX5_adds 5 = .ok (.aload_n 0, 1) := by decide +kernel
theorem dX5_adds_6 : decode cX5_adds 6 = .ok (.getfield 7, 3) := by decide +kernel
theorem dX5_adds_9 : decode cX5_adds 9 = .ok (.iconst 1, 1) := by decide +kernel
theorem dX5_adds_10 : decode cX5_adds 10 = .ok (.iaload, 1) := by decide +kernel
theorem dX5_adds_11 : decode cX5_adds 11 = .ok (.iadd, 1) := by decide +kernel
theorem dX5_adds_12 : decode cX5_adds 12 = .ok (.iload_n 1, 1) := by decide +kernel
theorem dX5_adds_13 : decode cX5_adds 13 = .ok (.iastore, 1) := by decide +kernel
theorem dX5_adds_14 : decode cX5_adds 14 = .ok (.aload_n 0, 1) := by decide +kernel
theorem dX5_adds_15 : decode cX5_adds 15 = .ok (.getfield 7, 3) := by decide +kernel
theorem dX5_adds_18 : decode cX5_adds 18 = .ok (.bipush 50, 2) := by decide +kernel
theorem dX5_adds_20 : decode cX5_adds 20 = .ok (.aload_n 0, 1) := by decide +kernel
theorem dX5_adds_21 : decode cX5_adds 21 = .ok (.getfield 7, 3) := by decide +kernel
theorem dX5_adds_24 : decode cX5_adds 24 = .ok (.iconst 1, 1) := by decide +kernel
theorem dX5_adds_25 : decode cX5_adds 25 = .ok (.iaload, 1) := by decide +kernel
theorem dX5_adds_26 : decode cX5_adds 26 = .ok (.iadd, 1) := by decide +kernel
theorem dX5_adds_27 : decode cX5_adds 27 = .ok (.iload_n 2, 1) := by decide +kernel
theorem dX5_adds_28 : decode cX5_adds 28 = .ok (.iastore, 1) := by decide +kernel
theorem dX5_adds_29 : decode cX5_adds 29 = .ok (.aload_n 0, 1) := by decide +kernel
theorem dX5_adds_30 : decode cX5_adds 30 = .ok (.getfield 7, 3) := by decide +kernel
theorem dX5_adds_33 : decode cX5_adds 33 = .ok (.iconst 1, 1) := by decide +kernel
theorem dX5_adds_34 : decode cX5_adds 34 = .ok (.dup2, 1) := by decide +kernel
theorem dX5_adds_35 : decode cX5_adds 35 = .ok (.iaload, 1) := by decide +kernel
theorem dX5_adds_36 : decode cX5_adds 36 = .ok (.iconst 1, 1) := by decide +kernel
theorem dX5_adds_37 : decode cX5_adds 37 = .ok (.iadd, 1) := by decide +kernel
theorem dX5_adds_38 : decode cX5_adds 38 = .ok (.iastore, 1) := by decide +kernel
theorem dX5_adds_39 : decode cX5_adds 39 = .ok (.iconst 2, 1) := by decide +kernel
theorem dX5_adds_40 : decode cX5_adds 40 = .ok (.aload_n 0, 1) := by decide +kernel
theorem dX5_adds_41 : decode cX5_adds 41 = .ok (.getfield 7, 3) := by decide +kernel
theorem dX5_adds_44 : decode cX5_adds 44 = .ok (.iconst 1, 1) := by decide +kernel
theorem dX5_adds_45 : decode cX5_adds 45 = .ok (.iaload, 1) := by decide +kernel
theorem dX5_adds_46 : decode cX5_adds 46 = .ok (.imul, 1) := by decide +kernel
theorem dX5_adds_47 : decode cX5_adds 47 = .ok (.iconst 2, 1) := by decide +kernel
theorem dX5_adds_48 : decode cX5_adds 48 = .ok (.isub, 1) := by decide +kernel
theorem dX5_adds_49 : decode cX5_adds 49 = .ok (.ireturn, 1) := by decide +kernel
theorem dX5_addsGate_0 : decode cX5_addsGate 0 = .ok (.aload_n 0, 1) := by decide +kernel
theorem dX5_addsGate_1 : decode cX5_addsGate 1 = .ok (.iload_n 1, 1) := by decide +kernel
theorem dX5_addsGate_2 : decode cX5_addsGate 2 = .ok (.invokevirtual 80, 3) := by decide +kernel
theorem dX5_addsGate_5 : decode cX5_addsGate 5 = .ok (.ifCond .eq 11, 3) := by decide +kernel
theorem dX5_addsGate_8 : decode cX5_addsGate 8 = .ok (.aload_n 0, 1) := by decide +kernel
theorem dX5_addsGate_9 : decode cX5_addsGate 9 = .ok (.iload_n 2, 1) := by decide +kernel
theorem dX5_addsGate_10 : decode cX5_addsGate 10 = .ok (.invokevirtual 80, 3) := by decide +kernel
theorem dX5_addsGate_13 : decode cX5_addsGate 13 = .ok (.ifCond .ne 6, 3) := by decide +kernel
theorem dX5_addsGate_16 : decode cX5_addsGate 16 = .ok (.bipush (-2), 2) := by decide +kernel
theorem dX5_addsGate_18 : decode cX5_addsGate 18 = .ok (.ireturn, 1) := by decide +kernel
theorem dX5_addsGate_19 : decode cX5_addsGate 19 = .ok (.aload_n 0, 1) := by decide +kernel
theorem dX5_addsGate_20 : decode cX5_addsGate 20 = .ok (.getfield 7, 3) := by decide +kernel
theorem dX5_addsGate_23 : decode cX5_addsGate 23 = .ok (.iconst 1, 1) := by decide +kernel
theorem dX5_addsGate_24 : decode cX5_addsGate 24 = .ok (.iaload, 1) := by decide +kernel
theorem dX5_addsGate_25 : decode cX5_addsGate 25 = .ok (.bipush 48, 2) := by decide +kernel
theorem dX5_addsGate_27 : decode cX5_addsGate 27 = .ok (.if_icmp .ge 12, 3) := by decide +kernel
theorem dX5_addsGate_30 : decode cX5_addsGate 30 = .ok (.aload_n 0, 1) := by decide +kernel
theorem dX5_addsGate_31 : decode cX5_addsGate 31 = .ok (.iload_n 1, 1) := by decide +kernel
theorem dX5_addsGate_32 : decode cX5_addsGate 32 = .ok (.iload_n 2, 1) := by decide +kernel
theorem dX5_addsGate_33 : decode cX5_addsGate 33 = .ok (.invokevirtual 83, 3) := by decide +kernel
theorem dX5_addsGate_36 : decode cX5_addsGate 36 = .ok (.goto 5, 3) := by decide +kernel
theorem dX5_addsGate_39 : decode cX5_addsGate 39 = .ok (.bipush (-4), 2) := by decide +kernel
theorem dX5_addsGate_41 : decode cX5_addsGate 41 = .ok (.ireturn, 1) := by decide +kernel
theorem dX5_addsThree_0 : decode cX5_addsThree 0 = .ok (.aload_n 0, 1) := by decide +kernel
theorem dX5_addsThree_1 : decode cX5_addsThree 1 = .ok (.getfield 7, 3) := by decide +kernel
theorem dX5_addsThree_4 : decode cX5_addsThree 4 = .ok (.iconst 1, 1) := by decide +kernel
theorem dX5_addsThree_5 : decode cX5_addsThree 5 = .ok (.iaload, 1) := by decide +kernel
theorem dX5_addsThree_6 : decode cX5_addsThree 6 = .ok (.iconst 3, 1) := by decide +kernel
theorem dX5_addsThree_7 : decode cX5_addsThree 7 = .ok (.iadd, 1) := by decide +kernel
theorem dX5_addsThree_8 : decode cX5_addsThree 8 = .ok (.bipush 48, 2) := by decide +kernel
theorem dX5_addsThree_10 : decode cX5_addsThree 10 = .ok (.if_icmp .le 6, 3) := by decide +kernel
theorem dX5_addsThree_13 : decode cX5_addsThree 13 = .ok (.bipush (-4), 2) := by decide +kernel
theorem dX5_addsThree_15 : decode cX5_addsThree 15 = .ok (.ireturn, 1) := by decide +kernel
theorem dX5_addsThree_16 : decode cX5_addsThree 16 = .ok (.aload_n 0, 1) := by decide +kernel
theorem dX5_addsThree_17 : decode cX5_addsThree 17 = .ok (.iload_n 1, 1) := by decide +kernel
theorem dX5_addsThree_18 : decode cX5_addsThree 18 = .ok (.iload_n 2, 1) := by decide +kernel
theorem dX5_addsThree_19 : decode cX5_addsThree 19 = .ok (.invokevirtual 83, 3) := by decide +kernel
theorem dX5_addsThree_22 : decode cX5_addsThree 22 = .ok (.istore 5, 2) := by decide +kernel
theorem dX5_addsThree_24 : decode cX5_addsThree 24 = .ok (.aload_n 0, 1) := by decide +kernel
theorem dX5_addsThree_25 : decode cX5_addsThree 25 = .ok (.iload_n 3, 1) := by decide +kernel
theorem dX5_addsThree_26 : decode cX5_addsThree 26 = .ok (.iload 4, 2) := by decide +kernel
theorem dX5_addsThree_28 : decode cX5_addsThree 28 = .ok (.invokevirtual 83, 3) := by decide +kernel
theorem dX5_addsThree_31 : decode cX5_addsThree 31 = .ok (.istore 6, 2) := by decide +kernel
theorem dX5_addsThree_33 : decode cX5_addsThree 33 = .ok (.aload_n 0, 1) := by decide +kernel
theorem dX5_addsThree_34 : decode cX5_addsThree 34 = .ok (.iload 5, 2) := by decide +kernel
theorem dX5_addsThree_36 : decode cX5_addsThree 36 = .ok (.iconst 1, 1) := by decide +kernel
theorem dX5_addsThree_37 : decode cX5_addsThree 37 = .ok (.iadd, 1) := by decide +kernel
theorem dX5_addsThree_38 : decode cX5_addsThree 38 = .ok (.iload 6, 2) := by decide +kernel
theorem dX5_addsThree_40 : decode cX5_addsThree 40 = .ok (.iconst 1, 1) := by decide +kernel
theorem dX5_addsThree_41 : decode cX5_addsThree 41 = .ok (.iadd, 1) := by decide +kernel
theorem dX5_addsThree_42 : decode cX5_addsThree 42 = .ok (.invokevirtual 83, 3) := by decide +kernel
theorem dX5_addsThree_45 : decode cX5_addsThree 45 = .ok (.iconst 1, 1) := by decide +kernel
theorem dX5_addsThree_46 : decode cX5_addsThree 46 = .ok (.iadd, 1) := by decide +kernel
theorem dX5_addsThree_47 : decode cX5_addsThree 47 = .ok (.ireturn, 1) := by decide +kernel
theorem dX5_turned_0 : decode cX5_turned 0 = .ok (.iload_n 0, 1) := by decide +kernel
theorem dX5_turned_1 : decode cX5_turned 1 = .ok (.iconst 2, 1) := by decide +kernel
theorem dX5_turned_2 : decode cX5_turned 2 = .ok (.irem, 1) := by decide +kernel
theorem dX5_turned_3 : decode cX5_turned 3 = .ok (.ifCond .ne 9, 3) := by decide +kernel
theorem dX5_turned_6 : decode cX5_turned 6 = .ok (.iload_n 0, 1) := by decide +kernel
theorem dX5_turned_7 : decode cX5_turned 7 = .ok (.iconst 1, 1) := by decide +kernel
theorem dX5_turned_8 : decode cX5_turned 8 = .ok (.iadd, 1) := by decide +kernel
theorem dX5_turned_9 : decode cX5_turned 9 = .ok (.goto 6, 3) := by decide +kernel
theorem dX5_turned_12 : decode cX5_turned 12 = .ok (.iload_n 0, 1) := by decide +kernel
theorem dX5_turned_13 : decode cX5_turned 13 = .ok (.iconst 1, 1) := by decide +kernel
theorem dX5_turned_14 : decode cX5_turned 14 = .ok (.isub, 1) := by decide +kernel
theorem dX5_turned_15 : decode cX5_turned 15 = .ok (.ireturn, 1) := by decide +kernel
theorem dX5_addsXor_0 : decode cX5_addsXor 0 = .ok (.aload_n 0, 1) := by decide +kernel
theorem dX5_addsXor_1 : decode cX5_addsXor 1 = .ok (.iload_n 1, 1) := by decide +kernel
theorem dX5_addsXor_2 : decode cX5_addsXor 2 = .ok (.invokevirtual 80, 3) := by decide +kernel
theorem dX5_addsXor_5 : decode cX5_addsXor 5 = .ok (.ifCond .eq 28, 3) := by decide +kernel
theorem dX5_addsXor_8 : decode cX5_addsXor 8 = .ok (.aload_n 0, 1) := by decide +kernel
theorem dX5_addsXor_9 : decode cX5_addsXor 9 = .ok (.iload_n 2, 1) := by decide +kernel
theorem dX5_addsXor_10 : decode cX5_addsXor 10 = .ok (.invokevirtual 80, 3) := by decide +kernel
theorem dX5_addsXor_13 : decode cX5_addsXor 13 = .ok (.ifCond .eq 20, 3) := by decide +kernel
theorem dX5_addsXor_16 : decode cX5_addsXor 16 = .ok (.aload_n 0, 1) := by decide +kernel
theorem dX5_addsXor_17 : decode cX5_addsXor 17 = .ok (.iload_n 1, 1) := by decide +kernel
theorem dX5_addsXor_18 : decode cX5_addsXor 18 = .ok (.iload_n 2, 1) := by decide +kernel
theorem dX5_addsXor_19 : decode cX5_addsXor 19 = .ok (.invokestatic 87, 3) := by decide +kernel
theorem dX5_addsXor_22 : decode cX5_addsXor 22 = .ok (.iload_n 1, 1) := by decide +kernel
theorem dX5_addsXor_23 : decode cX5_addsXor 23 = .ok (.invokestatic 87, 3) := by decide +kernel
theorem dX5_addsXor_26 : decode cX5_addsXor 26 = .ok (.iload_n 2, 1) := by decide +kernel
theorem dX5_addsXor_27 : decode cX5_addsXor 27 = .ok (.invokevirtual 91, 3) := by decide +kernel
theorem dX5_addsXor_30 : decode cX5_addsXor 30 = .ok (.goto 5, 3) := by decide +kernel
theorem dX5_addsXor_33 : decode cX5_addsXor 33 = .ok (.bipush (-2), 2) := by decide +kernel
theorem dX5_addsXor_35 : decode cX5_addsXor 35 = .ok (.ireturn, 1) := by decide +kernel
theorem dX5_addsMux_0 : decode cX5_addsMux 0 = .ok (.aload_n 0, 1) := by decide +kernel
theorem dX5_addsMux_1 : decode cX5_addsMux 1 = .ok (.iload_n 1, 1) := by decide +kernel
theorem dX5_addsMux_2 : decode cX5_addsMux 2 = .ok (.invokevirtual 80, 3) := by decide +kernel
theorem dX5_addsMux_5 : decode cX5_addsMux 5 = .ok (.ifCond .eq 33, 3) := by decide +kernel
theorem dX5_addsMux_8 : decode cX5_addsMux 8 = .ok (.aload_n 0, 1) := by decide +kernel
theorem dX5_addsMux_9 : decode cX5_addsMux 9 = .ok (.iload_n 2, 1) := by decide +kernel
theorem dX5_addsMux_10 : decode cX5_addsMux 10 = .ok (.invokevirtual 80, 3) := by decide +kernel
theorem dX5_addsMux_13 : decode cX5_addsMux 13 = .ok (.ifCond .eq 25, 3) := by decide +kernel
theorem dX5_addsMux_16 : decode cX5_addsMux 16 = .ok (.aload_n 0, 1) := by decide +kernel
theorem dX5_addsMux_17 : decode cX5_addsMux 17 = .ok (.iload_n 3, 1) := by decide +kernel
theorem dX5_addsMux_18 : decode cX5_addsMux 18 = .ok (.invokevirtual 80, 3) := by decide +kernel
theorem dX5_addsMux_21 : decode cX5_addsMux 21 = .ok (.ifCond .eq 17, 3) := by decide +kernel
theorem dX5_addsMux_24 : decode cX5_addsMux 24 = .ok (.aload_n 0, 1) := by decide +kernel
theorem dX5_addsMux_25 : decode cX5_addsMux 25 = .ok (.iload_n 1, 1) := by decide +kernel
theorem dX5_addsMux_26 : decode cX5_addsMux 26 = .ok (.iload_n 2, 1) := by decide +kernel
theorem dX5_addsMux_27 : decode cX5_addsMux 27 = .ok (.iload_n 1, 1) := by decide +kernel
theorem dX5_addsMux_28 : decode cX5_addsMux 28 = .ok (.invokestatic 87, 3) := by decide +kernel
theorem dX5_addsMux_31 : decode cX5_addsMux 31 = .ok (.iload_n 3, 1) := by decide +kernel
theorem dX5_addsMux_32 : decode cX5_addsMux 32 = .ok (.invokevirtual 91, 3) := by decide +kernel
theorem dX5_addsMux_35 : decode cX5_addsMux 35 = .ok (.goto 5, 3) := by decide +kernel
theorem dX5_addsMux_38 : decode cX5_addsMux 38 = .ok (.bipush (-2), 2) := by decide +kernel
theorem dX5_addsMux_40 : decode cX5_addsMux 40 = .ok (.ireturn, 1) := by decide +kernel
theorem dX5_addsOut_0 : decode cX5_addsOut 0 = .ok (.iload_n 1, 1) := by decide +kernel
theorem dX5_addsOut_1 : decode cX5_addsOut 1 = .ok (.invokestatic 95, 3) := by decide +kernel
theorem dX5_addsOut_4 : decode cX5_addsOut 4 = .ok (.ifCond .eq 11, 3) := by decide +kernel
theorem dX5_addsOut_7 : decode cX5_addsOut 7 = .ok (.aload_n 0, 1) := by decide +kernel
theorem dX5_addsOut_8 : decode cX5_addsOut 8 = .ok (.iload_n 2, 1) := by decide +kernel
theorem dX5_addsOut_9 : decode cX5_addsOut 9 = .ok (.invokevirtual 80, 3) := by decide +kernel
theorem dX5_addsOut_12 : decode cX5_addsOut 12 = .ok (.ifCond .ne 6, 3) := by decide +kernel
theorem dX5_addsOut_15 : decode cX5_addsOut 15 = .ok (.bipush (-2), 2) := by decide +kernel
theorem dX5_addsOut_17 : decode cX5_addsOut 17 = .ok (.ireturn, 1) := by decide +kernel
theorem dX5_addsOut_18 : decode cX5_addsOut 18 = .ok (.aload_n 0, 1) := by decide +kernel
theorem dX5_addsOut_19 : decode cX5_addsOut 19 = .ok (.getfield 7, 3) := by decide +kernel
theorem dX5_addsOut_22 : decode cX5_addsOut 22 = .ok (.bipush 98, 2) := by decide +kernel
theorem dX5_addsOut_24 : decode cX5_addsOut 24 = .ok (.iload_n 1, 1) := by decide +kernel
theorem dX5_addsOut_25 : decode cX5_addsOut 25 = .ok (.iadd, 1) := by decide +kernel
theorem dX5_addsOut_26 : decode cX5_addsOut 26 = .ok (.iaload, 1) := by decide +kernel
theorem dX5_addsOut_27 : decode cX5_addsOut 27 = .ok (.istore_n 3, 1) := by decide +kernel
theorem dX5_addsOut_28 : decode cX5_addsOut 28 = .ok (.iload_n 3, 1) := by decide +kernel
theorem dX5_addsOut_29 : decode cX5_addsOut 29 = .ok (.bipush 6, 2) := by decide +kernel
theorem dX5_addsOut_31 : decode cX5_addsOut 31 = .ok (.if_icmp .ne 6, 3) := by decide +kernel
theorem dX5_addsOut_34 : decode cX5_addsOut 34 = .ok (.bipush (-4), 2) := by decide +kernel
theorem dX5_addsOut_36 : decode cX5_addsOut 36 = .ok (.ireturn, 1) := by decide +kernel
theorem dX5_addsOut_37 : decode cX5_addsOut 37 = .ok (.aload_n 0, 1) := by decide +kernel
theorem dX5_addsOut_38 : decode cX5_addsOut 38 = .ok (.getfield 7, 3) := by decide +kernel
theorem dX5_addsOut_41 : decode cX5_addsOut 41 = .ok (.bipush 100, 2) := by decide +kernel
theorem dX5_addsOut_43 : decode cX5_addsOut 43 = .ok (.bipush 6, 2) := by decide +kernel
theorem dX5_addsOut_45 : decode cX5_addsOut 45 = .ok (.iload_n 1, 1) := by decide +kernel
theorem dX5_addsOut_46 : decode cX5_addsOut 46 = .ok (.imul, 1) := by decide +kernel
theorem dX5_addsOut_47 : decode cX5_addsOut 47 = .ok (.iadd, 1) := by decide +kernel
theorem dX5_addsOut_48 : decode cX5_addsOut 48 = .ok (.iload_n 3, 1) := by decide +kernel
theorem dX5_addsOut_49 : decode cX5_addsOut 49 = .ok (.iadd, 1) := by decide +kernel
theorem dX5_addsOut_50 : decode cX5_addsOut 50 = .ok (.iload_n 2, 1) := by decide +kernel
theorem dX5_addsOut_51 : decode cX5_addsOut 51 = .ok (.iastore, 1) := by decide +kernel
theorem dX5_addsOut_52 : decode cX5_addsOut 52 = .ok (.aload_n 0, 1) := by decide +kernel
theorem dX5_addsOut_53 : decode cX5_addsOut 53 = .ok (.getfield 7, 3) := by decide +kernel
theorem dX5_addsOut_56 : decode cX5_addsOut 56 = .ok (.bipush 98, 2) := by decide +kernel
theorem dX5_addsOut_58 : decode cX5_addsOut 58 = .ok (.iload_n 1, 1) := by decide +kernel
theorem dX5_addsOut_59 : decode cX5_addsOut 59 = .ok (.iadd, 1) := by decide +kernel
theorem dX5_addsOut_60 : decode cX5_addsOut 60 = .ok (.dup2, 1) := by decide +kernel
theorem dX5_addsOut_61 : decode cX5_addsOut 61 = .ok (.iaload, 1) := by decide +kernel
theorem dX5_addsOut_62 : decode cX5_addsOut 62 = .ok (.iconst 1, 1) := by decide +kernel
theorem dX5_addsOut_63 : decode cX5_addsOut 63 = .ok (.iadd, 1) := by decide +kernel
theorem dX5_addsOut_64 : decode cX5_addsOut 64 = .ok (.iastore, 1) := by decide +kernel
theorem dX5_addsOut_65 : decode cX5_addsOut 65 = .ok (.iload_n 3, 1) := by decide +kernel
theorem dX5_addsOut_66 : decode cX5_addsOut 66 = .ok (.ireturn, 1) := by decide +kernel
theorem dX5_addsPattern_0 : decode cX5_addsPattern 0 = .ok (.iload_n 1, 1) := by decide +kernel
theorem dX5_addsPattern_1 : decode cX5_addsPattern 1 = .ok (.iconst 0, 1) := by decide +kernel
theorem dX5_addsPattern_2 : decode cX5_addsPattern 2 = .ok (.aload_n 0, 1) := by decide +kernel
theorem dX5_addsPattern_3 : decode cX5_addsPattern 3 = .ok (.invokevirtual 98, 3) := by decide +kernel
theorem dX5_addsPattern_6 : decode cX5_addsPattern 6 = .ok (.iconst 1, 1) := by decide +kernel
theorem dX5_addsPattern_7 : decode cX5_addsPattern 7 = .ok (.isub, 1) := by decide +kernel
theorem dX5_addsPattern_8 : decode cX5_addsPattern 8 = .ok (.invokestatic 55, 3) := by decide +kernel
theorem dX5_addsPattern_11 : decode cX5_addsPattern 11 = .ok (.ifCond .ne 6, 3) := by decide +kernel
theorem dX5_addsPattern_14 : decode cX5_addsPattern 14 = .ok (.bipush (-2), 2) := by decide +kernel
theorem dX5_addsPattern_16 : decode cX5_addsPattern 16 = .ok (.ireturn, 1) := by decide +kernel
theorem dX5_addsPattern_17 : decode cX5_addsPattern 17 = .ok (.aload_n 0, 1) := by decide +kernel
theorem dX5_addsPattern_18 : decode cX5_addsPattern 18 = .ok (.getfield 7, 3) := by decide +kernel
theorem dX5_addsPattern_21 : decode cX5_addsPattern 21 = .ok (.bipush 112, 2) := by decide +kernel
theorem dX5_addsPattern_23 : decode cX5_addsPattern 23 = .ok (.iaload, 1) := by decide +kernel
theorem dX5_addsPattern_24 : decode cX5_addsPattern 24 = .ok (.bipush 12, 2) := by decide +kernel
theorem dX5_addsPattern_26 : decode cX5_addsPattern 26 = .ok (.if_icmp .ne 6, 3) := by decide +kernel
theorem dX5_addsPattern_29 : decode cX5_addsPattern 29 = .ok (.bipush (-4), 2) := by decide +kernel
theorem dX5_addsPattern_31 : decode cX5_addsPattern 31 = .ok (.ireturn, 1) := by decide +kernel
theorem dX5_addsPattern_32 : decode cX5_addsPattern 32 = .ok (.aload_n 0, 1) := by decide +kernel
theorem dX5_addsPattern_33 : decode cX5_addsPattern 33 = .ok (.getfield 7, 3) := by decide +kernel
theorem dX5_addsPattern_36 : decode cX5_addsPattern 36 = .ok (.bipush 113, 2) := by decide +kernel
theorem dX5_addsPattern_38 : decode cX5_addsPattern 38 = .ok (.aload_n 0, 1) := by decide +kernel
theorem dX5_addsPattern_39 : decode cX5_addsPattern 39 = .ok (.getfield 7, 3) := by decide +kernel
theorem dX5_addsPattern_42 : decode cX5_addsPattern 42 = .ok (.bipush 112, 2) := by decide +kernel
theorem dX5_addsPattern_44 : decode cX5_addsPattern 44 = .ok (.iaload, 1) := by decide +kernel
theorem dX5_addsPattern_45 : decode cX5_addsPattern 45 = .ok (.iadd, 1) := by decide +kernel
theorem dX5_addsPattern_46 : decode cX5_addsPattern 46 = .ok (.iload_n 1, 1) := by decide +kernel
theorem dX5_addsPattern_47 : decode cX5_addsPattern 47 = .ok (.iastore, 1) := by decide +kernel
theorem dX5_addsPattern_48 : decode cX5_addsPattern 48 = .ok (.aload_n 0, 1) := by decide +kernel
theorem dX5_addsPattern_49 : decode cX5_addsPattern 49 = .ok (.getfield 7, 3) := by decide +kernel
theorem dX5_addsPattern_52 : decode cX5_addsPattern 52 = .ok (.bipush 112, 2) := by decide +kernel
theorem dX5_addsPattern_54 : decode cX5_addsPattern 54 = .ok (.dup2, 1) := by decide +kernel
theorem dX5_addsPattern_55 : decode cX5_addsPattern 55 = .ok (.iaload, 1) := by decide +kernel
theorem dX5_addsPattern_56 : decode cX5_addsPattern 56 = .ok (.iconst 1, 1) := by decide +kernel
theorem dX5_addsPattern_57 : decode cX5_addsPattern 57 = .ok (.iadd, 1) := by decide +kernel
theorem dX5_addsPattern_58 : decode cX5_addsPattern 58 = .ok (.iastore, 1) := by decide +kernel
theorem dX5_addsPattern_59 : decode cX5_addsPattern 59 = .ok (.aload_n 0, 1) := by decide +kernel
theorem dX5_addsPattern_60 : decode cX5_addsPattern 60 = .ok (.getfield 7, 3) := by decide +kernel
theorem dX5_addsPattern_63 : decode cX5_addsPattern 63 = .ok (.bipush 112, 2) := by decide +kernel
theorem dX5_addsPattern_65 : decode cX5_addsPattern 65 = .ok (.iaload, 1) := by decide +kernel
theorem dX5_addsPattern_66 : decode cX5_addsPattern 66 = .ok (.ireturn, 1) := by decide +kernel
theorem dX5_inputs_0 : decode cX5_inputs 0 = .ok (.aload_n 0, 1) := by decide +kernel
theorem dX5_inputs_1 : decode cX5_inputs 1 = .ok (.invokevirtual 101, 3) := by decide +kernel
theorem dX5_inputs_4 : decode cX5_inputs 4 = .ok (.aload_n 0, 1) := by decide +kernel
theorem dX5_inputs_5 : decode cX5_inputs 5 = .ok (.aload_n 0, 1) := by decide +kernel
theorem dX5_inputs_6 : decode cX5_inputs 6 = .ok (.iload_n 1, 1) := by decide +kernel
theorem dX5_inputs_7 : decode cX5_inputs 7 = .ok (.invokevirtual 104, 3) := by decide +kernel
theorem dX5_inputs_10 : decode cX5_inputs 10 = .ok (.invokevirtual 107, 3) := by decide +kernel
theorem dX5_inputs_13 : decode cX5_inputs 13 = .ok (.ireturn, 1) := by decide +kernel
theorem dX5_gate_0 : decode cX5_gate 0 = .ok (.aload_n 0, 1) := by decide +kernel
theorem dX5_gate_1 : decode cX5_gate 1 = .ok (.invokevirtual 101, 3) := by decide +kernel
theorem dX5_gate_4 : decode cX5_gate 4 = .ok (.aload_n 0, 1) := by decide +kernel
theorem dX5_gate_5 : decode cX5_gate 5 = .ok (.aload_n 0, 1) := by decide +kernel
theorem dX5_gate_6 : decode cX5_gate 6 = .ok (.iload_n 1, 1) := by decide +kernel
theorem dX5_gate_7 : decode cX5_gate 7 = .ok (.iload_n 2, 1) := by decide +kernel
theorem dX5_gate_8 : decode cX5_gate 8 = .ok (.invokevirtual 110, 3) := by decide +kernel
theorem dX5_gate_11 : decode cX5_gate 11 = .ok (.invokevirtual 107, 3) := by decide +kernel
theorem dX5_gate_14 : decode cX5_gate 14 = .ok (.ireturn, 1) := by decide +kernel
theorem dX5_xor_0 : decode cX5_xor 0 = .ok (.aload_n 0, 1) := by decide +kernel
theorem dX5_xor_1 : decode cX5_xor 1 = .ok (.invokevirtual 101, 3) := by decide +kernel
theorem dX5_xor_4 : decode cX5_xor 4 = .ok (.aload_n 0, 1) := by decide +kernel
theorem dX5_xor_5 : decode cX5_xor 5 = .ok (.aload_n 0, 1) := by decide +kernel
theorem dX5_xor_6 : decode cX5_xor 6 = .ok (.iload_n 1, 1) := by decide +kernel
theorem dX5_xor_7 : decode cX5_xor 7 = .ok (.iload_n 2, 1) := by decide +kernel
theorem dX5_xor_8 : decode cX5_xor 8 = .ok (.invokevirtual 113, 3) := by decide +kernel
theorem dX5_xor_11 : decode cX5_xor 11 = .ok (.invokevirtual 107, 3) := by decide +kernel
theorem dX5_xor_14 : decode cX5_xor 14 = .ok (.ireturn, 1) := by decide +kernel
theorem dX5_mux_0 : decode cX5_mux 0 = .ok (.aload_n 0, 1) := by decide +kernel
theorem dX5_mux_1 : decode cX5_mux 1 = .ok (.invokevirtual 101, 3) := by decide +kernel
theorem dX5_mux_4 : decode cX5_mux 4 = .ok (.aload_n 0, 1) := by decide +kernel
theorem dX5_mux_5 : decode cX5_mux 5 = .ok (.aload_n 0, 1) := by decide +kernel
theorem dX5_mux_6 : decode cX5_mux 6 = .ok (.iload_n 1, 1) := by decide +kernel
theorem dX5_mux_7 : decode cX5_mux 7 = .ok (.iload_n 2, 1) := by decide +kernel
theorem dX5_mux_8 : decode cX5_mux 8 = .ok (.iload_n 3, 1) := by decide +kernel
theorem dX5_mux_9 : decode cX5_mux 9 = .ok (.invokevirtual 116, 3) := by decide +kernel
theorem dX5_mux_12 : decode cX5_mux 12 = .ok (.invokevirtual 107, 3) := by decide +kernel
theorem dX5_mux_15 : decode cX5_mux 15 = .ok (.ireturn, 1) := by decide +kernel
theorem dX5_out_0 : decode cX5_out 0 = .ok (.aload_n 0, 1) := by decide +kernel
theorem dX5_out_1 : decode cX5_out 1 = .ok (.invokevirtual 101, 3) := by decide +kernel
theorem dX5_out_4 : decode cX5_out 4 = .ok (.aload_n 0, 1) := by decide +kernel
theorem dX5_out_5 : decode cX5_out 5 = .ok (.aload_n 0, 1) := by decide +kernel
theorem dX5_out_6 : decode cX5_out 6 = .ok (.iload_n 1, 1) := by decide +kernel
theorem dX5_out_7 : decode cX5_out 7 = .ok (.iload_n 2, 1) := by decide +kernel
theorem dX5_out_8 : decode cX5_out 8 = .ok (.invokevirtual 120, 3) := by decide +kernel
theorem dX5_out_11 : decode cX5_out 11 = .ok (.invokevirtual 107, 3) := by decide +kernel
theorem dX5_out_14 : decode cX5_out 14 = .ok (.ireturn, 1) := by decide +kernel
theorem dX5_pattern_0 : decode cX5_pattern 0 = .ok (.aload_n 0, 1) := by decide +kernel
theorem dX5_pattern_1 : decode cX5_pattern 1 = .ok (.invokevirtual 101, 3) := by decide +kernel
theorem dX5_pattern_4 : decode cX5_pattern 4 = .ok (.aload_n 0, 1) := by decide +kernel
theorem dX5_pattern_5 : decode cX5_pattern 5 = .ok (.aload_n 0, 1) := by decide +kernel
theorem dX5_pattern_6 : decode cX5_pattern 6 = .ok (.iload_n 1, 1) := by decide +kernel
theorem dX5_pattern_7 : decode cX5_pattern 7 = .ok (.invokevirtual 123, 3) := by decide +kernel
theorem dX5_pattern_10 : decode cX5_pattern 10 = .ok (.invokevirtual 107, 3) := by decide +kernel
theorem dX5_pattern_13 : decode cX5_pattern 13 = .ok (.ireturn, 1) := by decide +kernel
theorem dX5_tableOf_0 : decode cX5_tableOf 0 = .ok (.iload_n 1, 1) := by decide +kernel
theorem dX5_tableOf_1 : decode cX5_tableOf 1 = .ok (.iconst 2, 1) := by decide +kernel
theorem dX5_tableOf_2 : decode cX5_tableOf 2 = .ok (.irem, 1) := by decide +kernel
theorem dX5_tableOf_3 : decode cX5_tableOf 3 = .ok (.ifCond .ne 14, 3) := by decide +kernel
theorem dX5_tableOf_6 : decode cX5_tableOf 6 = .ok (.aload_n 0, 1) := by decide +kernel
theorem dX5_tableOf_7 : decode cX5_tableOf 7 = .ok (.getfield 25, 3) := by decide +kernel
theorem dX5_tableOf_10 : decode cX5_tableOf 10 = .ok (.iload_n 1, 1) := by decide +kernel
theorem dX5_tableOf_11 : decode cX5_tableOf 11 = .ok (.iconst 2, 1) := by decide +kernel
theorem dX5_tableOf_12 : decode cX5_tableOf 12 = .ok (.idiv, 1) := by decide +kernel
theorem dX5_tableOf_13 : decode cX5_tableOf 13 = .ok (.iaload, 1) := by decide +kernel
theorem dX5_tableOf_14 : decode cX5_tableOf 14 = .ok (.goto 18, 3) := by decide +kernel
theorem dX5_tableOf_17 : decode cX5_tableOf 17 = .ok (.aload_n 0, 1) := by decide +kernel
theorem dX5_tableOf_18 : decode cX5_tableOf 18 = .ok (.getfield 126, 3) := by decide +kernel
theorem dX5_tableOf_21 : decode cX5_tableOf 21 = .ok (.aload_n 0, 1) := by decide +kernel
theorem dX5_tableOf_22 : decode cX5_tableOf 22 = .ok (.getfield 25, 3) := by decide +kernel
theorem dX5_tableOf_25 : decode cX5_tableOf 25 = .ok (.iload_n 1, 1) := by decide +kernel
theorem dX5_tableOf_26 : decode cX5_tableOf 26 = .ok (.iconst 2, 1) := by decide +kernel
theorem dX5_tableOf_27 : decode cX5_tableOf 27 = .ok (.idiv, 1) := by decide +kernel
theorem dX5_tableOf_28 : decode cX5_tableOf 28 = .ok (.iaload, 1) := by decide +kernel
theorem dX5_tableOf_29 : decode cX5_tableOf 29 = .ok (.iconst (-1), 1) := by decide +kernel
theorem dX5_tableOf_30 : decode cX5_tableOf 30 = .ok (.ixor, 1) := by decide +kernel
theorem dX5_tableOf_31 : decode cX5_tableOf 31 = .ok (.iand, 1) := by decide +kernel
theorem dX5_tableOf_32 : decode cX5_tableOf 32 = .ok (.ireturn, 1) := by decide +kernel
theorem dX5_laysTables_0 : decode cX5_laysTables 0 = .ok (.aload_n 0, 1) := by decide +kernel
theorem dX5_laysTables_1 : decode cX5_laysTables 1 = .ok (.iconst 0, 1) := by decide +kernel
theorem dX5_laysTables_2 : decode cX5_laysTables 2 = .ok (.putfield 126, 3) := by decide +kernel
theorem dX5_laysTables_5 : decode cX5_laysTables 5 = .ok (.iconst 0, 1) := by decide +kernel
theorem dX5_laysTables_6 : decode cX5_laysTables 6 = .ok (.istore_n 1, 1) := by decide +kernel
theorem dX5_laysTables_7 : decode cX5_laysTables 7 = .ok (.iload_n 1, 1) := by decide +kernel
theorem dX5_laysTables_8 : decode cX5_laysTables 8 = .ok (.aload_n 0, 1) := by decide +kernel
theorem dX5_laysTables_9 : decode cX5_laysTables 9 = .ok (.invokevirtual 98, 3) := by decide +kernel
theorem dX5_laysTables_12 : decode cX5_laysTables 12 = .ok (.if_icmp .ge 21, 3) := by decide +kernel
theorem dX5_laysTables_15 : decode cX5_laysTables 15 = .ok (.aload_n 0, 1) := by decide +kernel
theorem dX5_laysTables_16 : decode cX5_laysTables 16 = .ok (.dup, 1) := by decide +kernel
theorem dX5_laysTables_17 : decode cX5_laysTables 17 = .ok (.getfield 126, 3) := by decide +kernel
theorem dX5_laysTables_20 : decode cX5_laysTables 20 = .ok (.iconst 1, 1) := by decide +kernel
theorem dX5_laysTables_21 : decode cX5_laysTables 21 = .ok (.iload_n 1, 1) := by decide +kernel
theorem dX5_laysTables_22 : decode cX5_laysTables 22 = .ok (.ishl, 1) := by decide +kernel
theorem dX5_laysTables_23 : decode cX5_laysTables 23 = .ok (.ior, 1) := by decide +kernel
theorem dX5_laysTables_24 : decode cX5_laysTables 24 = .ok (.putfield 126, 3) := by decide +kernel
theorem dX5_laysTables_27 : decode cX5_laysTables 27 = .ok (.iinc 1 1, 3) := by decide +kernel
theorem dX5_laysTables_30 : decode cX5_laysTables 30 = .ok (.goto (-23), 3) := by decide +kernel
theorem dX5_laysTables_33 : decode cX5_laysTables 33 = .ok (.iconst 0, 1) := by decide +kernel
theorem dX5_laysTables_34 : decode cX5_laysTables 34 = .ok (.istore_n 1, 1) := by decide +kernel
theorem dX5_laysTables_35 : decode cX5_laysTables 35 = .ok (.iload_n 1, 1) := by decide +kernel
theorem dX5_laysTables_36 : decode cX5_laysTables 36 = .ok (.aload_n 0, 1) := by decide +kernel
theorem dX5_laysTables_37 : decode cX5_laysTables 37 = .ok (.getfield 7, 3) := by decide +kernel
theorem dX5_laysTables_40 : decode cX5_laysTables 40 = .ok (.iconst 1, 1) := by decide +kernel
theorem dX5_laysTables_41 : decode cX5_laysTables 41 = .ok (.iaload, 1) := by decide +kernel
theorem dX5_laysTables_42 : decode cX5_laysTables 42 = .ok (.if_icmp .ge 115, 3) := by decide +kernel
theorem dX5_laysTables_45 : decode cX5_laysTables 45 = .ok (.aload_n 0, 1) := by decide +kernel
theorem dX5_laysTables_46 : decode cX5_laysTables 46 = .ok (.getfield 25, 3) := by decide +kernel
theorem dX5_laysTables_49 : decode cX5_laysTables 49 = .ok (.iload_n 1, 1) := by decide +kernel
theorem dX5_laysTables_50 : decode cX5_laysTables 50 = .ok (.iconst 0, 1) := by decide +kernel
theorem dX5_laysTables_51 : decode cX5_laysTables 51 = .ok (.iastore, 1) := by decide +kernel
theorem dX5_laysTables_52 : decode cX5_laysTables 52 = .ok (.iconst 0, 1) := by decide +kernel
theorem dX5_laysTables_53 : decode cX5_laysTables 53 = .ok (.istore_n 2, 1) := by decide +kernel
theorem dX5_laysTables_54 : decode cX5_laysTables 54 = .ok (.iload_n 2, 1) := by decide +kernel
theorem dX5_laysTables_55 : decode cX5_laysTables 55 = .ok (.aload_n 0, 1) := by decide +kernel
theorem dX5_laysTables_56 : decode cX5_laysTables 56 = .ok (.invokevirtual 98, 3) := by decide +kernel
theorem dX5_laysTables_59 : decode cX5_laysTables 59 = .ok (.if_icmp .ge 50, 3) := by decide +kernel
theorem dX5_laysTables_62 : decode cX5_laysTables 62 = .ok (.iload_n 1, 1) := by decide +kernel
theorem dX5_laysTables_63 : decode cX5_laysTables 63 = .ok (.aload_n 0, 1) := by decide +kernel
theorem dX5_laysTables_64 : decode cX5_laysTables 64 = .ok (.getfield 7, 3) := by decide +kernel
theorem dX5_laysTables_67 : decode cX5_laysTables 67 = .ok (.iconst 0, 1) := by decide +kernel
theorem dX5_laysTables_68 : decode cX5_laysTables 68 = .ok (.iaload, 1) := by decide +kernel
theorem dX5_laysTables_69 : decode cX5_laysTables 69 = .ok (.if_icmp .gt 40, 3) := by decide +kernel
theorem dX5_laysTables_72 : decode cX5_laysTables 72 = .ok (.aload_n 0, 1) := by decide +kernel
theorem dX5_laysTables_73 : decode cX5_laysTables 73 = .ok (.getfield 25, 3) := by decide +kernel
theorem dX5_laysTables_76 : decode cX5_laysTables 76 = .ok (.iload_n 1, 1) := by decide +kernel
theorem dX5_laysTables_77 : decode cX5_laysTables 77 = .ok (.dup2, 1) := by decide +kernel
theorem dX5_laysTables_78 : decode cX5_laysTables 78 = .ok (.iaload, 1) := by decide +kernel
theorem dX5_laysTables_79 : decode cX5_laysTables 79 = .ok (.iload_n 1, 1) := by decide +kernel
theorem dX5_laysTables_80 : decode cX5_laysTables 80 = .ok (.ifCond .le 20, 3) := by decide +kernel
theorem dX5_laysTables_83 : decode cX5_laysTables 83 = .ok (.iload_n 2, 1) := by decide +kernel
theorem dX5_laysTables_84 : decode cX5_laysTables 84 = .ok (.iload_n 1, 1) := by decide +kernel
theorem dX5_laysTables_85 : decode cX5_laysTables 85 = .ok (.iconst 1, 1) := by decide +kernel
theorem dX5_laysTables_86 : decode cX5_laysTables 86 = .ok (.isub, 1) := by decide +kernel
theorem dX5_laysTables_87 : decode cX5_laysTables 87 = .ok (.ishr, 1) := by decide +kernel
theorem dX5_laysTables_88 : decode cX5_laysTables 88 = .ok (.iconst 1, 1) := by decide +kernel
theorem dX5_laysTables_89 : decode cX5_laysTables 89 = .ok (.iand, 1) := by decide +kernel
theorem dX5_laysTables_90 : decode cX5_laysTables 90 = .ok (.iconst 1, 1) := by decide +kernel
theorem dX5_laysTables_91 : decode cX5_laysTables 91 = .ok (.if_icmp .ne 9, 3) := by decide +kernel
theorem dX5_laysTables_94 : decode cX5_laysTables 94 = .ok (.iconst 1, 1) := by decide +kernel
theorem dX5_laysTables_95 : decode cX5_laysTables 95 = .ok (.iload_n 2, 1) := by decide +kernel
theorem dX5_laysTables_96 : decode cX5_laysTables 96 = .ok (.ishl, 1) := by decide +kernel
theorem dX5_laysTables_97 : decode cX5_laysTables 97 = .ok (.goto 4, 3) := by decide +kernel
theorem dX5_laysTables_100 : decode cX5_laysTables 100 = .ok (.iconst 0, 1) := by decide +kernel
theorem dX5_laysTables_101 : decode cX5_laysTables 101 = .ok (.ior, 1) := by decide +kernel
theorem dX5_laysTables_102 : decode cX5_laysTables 102 = .ok (.iastore, 1) := by decide +kernel
theorem dX5_laysTables_103 : decode cX5_laysTables 103 = .ok (.iinc 2 1, 3) := by decide +kernel
theorem dX5_laysTables_106 : decode cX5_laysTables 106 = .ok (.goto (-52), 3) := by decide +kernel
theorem dX5_laysTables_109 : decode cX5_laysTables 109 = .ok (.iload_n 1, 1) := by decide +kernel
theorem dX5_laysTables_110 : decode cX5_laysTables 110 = .ok (.aload_n 0, 1) := by decide +kernel
theorem dX5_laysTables_111 : decode cX5_laysTables 111 = .ok (.getfield 7, 3) := by decide +kernel
theorem dX5_laysTables_114 : decode cX5_laysTables 114 = .ok (.iconst 0, 1) := by decide +kernel
theorem dX5_laysTables_115 : decode cX5_laysTables 115 = .ok (.iaload, 1) := by decide +kernel
theorem dX5_laysTables_116 : decode cX5_laysTables 116 = .ok (.if_icmp .le 35, 3) := by decide +kernel
theorem dX5_laysTables_119 : decode cX5_laysTables 119 = .ok (.aload_n 0, 1) := by decide +kernel
theorem dX5_laysTables_120 : decode cX5_laysTables 120 = .ok (.getfield 25, 3) := by decide +kernel
theorem dX5_laysTables_123 : decode cX5_laysTables 123 = .ok (.iload_n 1, 1) := by decide +kernel
theorem dX5_laysTables_124 : decode cX5_laysTables 124 = .ok (.aload_n 0, 1) := by decide +kernel
theorem dX5_laysTables_125 : decode cX5_laysTables 125 = .ok (.aload_n 0, 1) := by decide +kernel
theorem dX5_laysTables_126 : decode cX5_laysTables 126 = .ok (.getfield 7, 3) := by decide +kernel
theorem dX5_laysTables_129 : decode cX5_laysTables 129 = .ok (.iconst 2, 1) := by decide +kernel
theorem dX5_laysTables_130 : decode cX5_laysTables 130 = .ok (.iload_n 1, 1) := by decide +kernel
theorem dX5_laysTables_131 : decode cX5_laysTables 131 = .ok (.iadd, 1) := by decide +kernel
theorem dX5_laysTables_132 : decode cX5_laysTables 132 = .ok (.iaload, 1) := by decide +kernel
theorem dX5_laysTables_133 : decode cX5_laysTables 133 = .ok (.invokevirtual 129, 3) := by decide +kernel
theorem dX5_laysTables_136 : decode cX5_laysTables 136 = .ok (.aload_n 0, 1) := by decide +kernel
theorem dX5_laysTables_137 : decode cX5_laysTables 137 = .ok (.aload_n 0, 1) := by decide +kernel
theorem dX5_laysTables_138 : decode cX5_laysTables 138 = .ok (.getfield 7, 3) := by decide +kernel
theorem dX5_laysTables_141 : decode cX5_laysTables 141 = .ok (.bipush 50, 2) := by decide +kernel
theorem dX5_laysTables_143 : decode cX5_laysTables 143 = .ok (.iload_n 1, 1) := by decide +kernel
theorem dX5_laysTables_144 : decode cX5_laysTables 144 = .ok (.iadd, 1) := by decide +kernel
theorem dX5_laysTables_145 : decode cX5_laysTables 145 = .ok (.iaload, 1) := by decide +kernel
theorem dX5_laysTables_146 : decode cX5_laysTables 146 = .ok (.invokevirtual 129, 3) := by decide +kernel
theorem dX5_laysTables_149 : decode cX5_laysTables 149 = .ok (.iand, 1) := by decide +kernel
theorem dX5_laysTables_150 : decode cX5_laysTables 150 = .ok (.iastore, 1) := by decide +kernel
theorem dX5_laysTables_151 : decode cX5_laysTables 151 = .ok (.iinc 1 1, 3) := by decide +kernel
theorem dX5_laysTables_154 : decode cX5_laysTables 154 = .ok (.goto (-119), 3) := by decide +kernel
theorem dX5_laysTables_157 : decode cX5_laysTables 157 = .ok (.return_, 1) := by decide +kernel
theorem dX5_tellTable_0 : decode cX5_tellTable 0 = .ok (.aload_n 0, 1) := by decide +kernel
theorem dX5_tellTable_1 : decode cX5_tellTable 1 = .ok (.invokevirtual 132, 3) := by decide +kernel
theorem dX5_tellTable_4 : decode cX5_tellTable 4 = .ok (.aload_n 0, 1) := by decide +kernel
theorem dX5_tellTable_5 : decode cX5_tellTable 5 = .ok (.iload_n 1, 1) := by decide +kernel
theorem dX5_tellTable_6 : decode cX5_tellTable 6 = .ok (.invokevirtual 129, 3) := by decide +kernel
theorem dX5_tellTable_9 : decode cX5_tellTable 9 = .ok (.ireturn, 1) := by decide +kernel
theorem dX5_bitsOf_0 : decode cX5_bitsOf 0 = .ok (.iconst 0, 1) := by decide +kernel
theorem dX5_bitsOf_1 : decode cX5_bitsOf 1 = .ok (.istore 4, 2) := by decide +kernel
theorem dX5_bitsOf_3 : decode cX5_bitsOf 3 = .ok (.iconst 0, 1) := by decide +kernel
theorem dX5_bitsOf_4 : decode cX5_bitsOf 4 = .ok (.istore 5, 2) := by decide +kernel
theorem dX5_bitsOf_6 : decode cX5_bitsOf 6 = .ok (.iload 5, 2) := by decide +kernel
theorem dX5_bitsOf_8 : decode cX5_bitsOf 8 = .ok (.iload_n 1, 1) := by decide +kernel
theorem dX5_bitsOf_9 : decode cX5_bitsOf 9 = .ok (.if_icmp .ge 27, 3) := by decide +kernel
theorem dX5_bitsOf_12 : decode cX5_bitsOf 12 = .ok (.iload 4, 2) := by decide +kernel
theorem dX5_bitsOf_14 : decode cX5_bitsOf 14 = .ok (.iload_n 0, 1) := by decide +kernel
theorem dX5_bitsOf_15 : decode cX5_bitsOf 15 = .ok (.aload_n 3, 1) := by decide +kernel
theorem dX5_bitsOf_16 : decode cX5_bitsOf 16 = .ok (.iload_n 2, 1) := by decide +kernel
theorem dX5_bitsOf_17 : decode cX5_bitsOf 17 = .ok (.iload 5, 2) := by decide +kernel
theorem dX5_bitsOf_19 : decode cX5_bitsOf 19 = .ok (.iadd, 1) := by decide +kernel
theorem dX5_bitsOf_20 : decode cX5_bitsOf 20 = .ok (.iaload, 1) := by decide +kernel
theorem dX5_bitsOf_21 : decode cX5_bitsOf 21 = .ok (.ishr, 1) := by decide +kernel
theorem dX5_bitsOf_22 : decode cX5_bitsOf 22 = .ok (.iconst 1, 1) := by decide +kernel
theorem dX5_bitsOf_23 : decode cX5_bitsOf 23 = .ok (.iand, 1) := by decide +kernel
theorem dX5_bitsOf_24 : decode cX5_bitsOf 24 = .ok (.iload 5, 2) := by decide +kernel
theorem dX5_bitsOf_26 : decode cX5_bitsOf 26 = .ok (.ishl, 1) := by decide +kernel
theorem dX5_bitsOf_27 : decode cX5_bitsOf 27 = .ok (.ior, 1) := by decide +kernel
theorem dX5_bitsOf_28 : decode cX5_bitsOf 28 = .ok (.istore 4, 2) := by decide +kernel
theorem dX5_bitsOf_30 : decode cX5_bitsOf 30 = .ok (.iinc 5 1, 3) := by decide +kernel
theorem dX5_bitsOf_33 : decode cX5_bitsOf 33 = .ok (.goto (-27), 3) := by decide +kernel
theorem dX5_bitsOf_36 : decode cX5_bitsOf 36 = .ok (.iload 4, 2) := by decide +kernel
theorem dX5_bitsOf_38 : decode cX5_bitsOf 38 = .ok (.ireturn, 1) := by decide +kernel
theorem dX5_formOf_0 : decode cX5_formOf 0 = .ok (.aload_n 0, 1) := by decide +kernel
theorem dX5_formOf_1 : decode cX5_formOf 1 = .ok (.getfield 31, 3) := by decide +kernel
theorem dX5_formOf_4 : decode cX5_formOf 4 = .ok (.iload_n 1, 1) := by decide +kernel
theorem dX5_formOf_5 : decode cX5_formOf 5 = .ok (.iconst 2, 1) := by decide +kernel
theorem dX5_formOf_6 : decode cX5_formOf 6 = .ok (.idiv, 1) := by decide +kernel
theorem dX5_formOf_7 : decode cX5_formOf 7 = .ok (.iaload, 1) := by decide +kernel
theorem dX5_formOf_8 : decode cX5_formOf 8 = .ok (.istore_n 2, 1) := by decide +kernel
theorem dX5_formOf_9 : decode cX5_formOf 9 = .ok (.iload_n 1, 1) := by decide +kernel
theorem dX5_formOf_10 : decode cX5_formOf 10 = .ok (.iconst 2, 1) := by decide +kernel
theorem dX5_formOf_11 : decode cX5_formOf 11 = .ok (.irem, 1) := by decide +kernel
theorem dX5_formOf_12 : decode cX5_formOf 12 = .ok (.ifCond .ne 7, 3) := by decide +kernel
theorem dX5_formOf_15 : decode cX5_formOf 15 = .ok (.iload_n 2, 1) := by decide +kernel
theorem dX5_formOf_16 : decode cX5_formOf 16 = .ok (.goto 7, 3) := by decide +kernel
theorem dX5_formOf_19 : decode cX5_formOf 19 = .ok (.iload_n 2, 1) := by decide +kernel
theorem dX5_formOf_20 : decode cX5_formOf 20 = .ok (.invokestatic 87, 3) := by decide +kernel
theorem dX5_formOf_23 : decode cX5_formOf 23 = .ok (.ireturn, 1) := by decide +kernel
theorem dX5_merges_0 : decode cX5_merges 0 = .ok (.aload_n 0, 1) := by decide +kernel
theorem dX5_merges_1 : decode cX5_merges 1 = .ok (.getfield 31, 3) := by decide +kernel
theorem dX5_merges_4 : decode cX5_merges 4 = .ok (.iload_n 1, 1) := by decide +kernel
theorem dX5_merges_5 : decode cX5_merges 5 = .ok (.iload_n 2, 1) := by decide +kernel
theorem dX5_merges_6 : decode cX5_merges 6 = .ok (.iastore, 1) := by decide +kernel
theorem dX5_merges_7 : decode cX5_merges 7 = .ok (.aload_n 0, 1) := by decide +kernel
theorem dX5_merges_8 : decode cX5_merges 8 = .ok (.getfield 40, 3) := by decide +kernel
theorem dX5_merges_11 : decode cX5_merges 11 = .ok (.iload_n 1, 1) := by decide +kernel
theorem dX5_merges_12 : decode cX5_merges 12 = .ok (.iload_n 3, 1) := by decide +kernel
theorem dX5_merges_13 : decode cX5_merges 13 = .ok (.iastore, 1) := by decide +kernel
theorem dX5_merges_14 : decode cX5_merges 14 = .ok (.return_, 1) := by decide +kernel
theorem dX5_comes_0 : decode cX5_comes 0 = .ok (.aload_n 0, 1) := by decide +kernel
theorem dX5_comes_1 : decode cX5_comes 1 = .ok (.getfield 135, 3) := by decide +kernel
theorem dX5_comes_4 : decode cX5_comes 4 = .ok (.bipush 12, 2) := by decide +kernel
theorem dX5_comes_6 : decode cX5_comes 6 = .ok (.if_icmp .ge 39, 3) := by decide +kernel
theorem dX5_comes_9 : decode cX5_comes 9 = .ok (.iconst 0, 1) := by decide +kernel
theorem dX5_comes_10 : decode cX5_comes 10 = .ok (.istore_n 2, 1) := by decide +kernel
theorem dX5_comes_11 : decode cX5_comes 11 = .ok (.iload_n 1, 1) := by decide +kernel
theorem dX5_comes_12 : decode cX5_comes 12 = .ok (.iload_n 2, 1) := by decide +kernel
theorem dX5_comes_13 : decode cX5_comes 13 = .ok (.ishr, 1) := by decide +kernel
theorem dX5_comes_14 : decode cX5_comes 14 = .ok (.iconst 1, 1) := by decide +kernel
theorem dX5_comes_15 : decode cX5_comes 15 = .ok (.iand, 1) := by decide +kernel
theorem dX5_comes_16 : decode cX5_comes 16 = .ok (.ifCond .ne 9, 3) := by decide +kernel
theorem dX5_comes_19 : decode cX5_comes 19 = .ok (.iinc 2 1, 3) := by decide +kernel
theorem dX5_comes_22 : decode cX5_comes 22 = .ok (.goto (-11), 3) := by decide +kernel
theorem dX5_comes_25 : decode cX5_comes 25 = .ok (.aload_n 0, 1) := by decide +kernel
theorem dX5_comes_26 : decode cX5_comes 26 = .ok (.getfield 28, 3) := by decide +kernel
theorem dX5_comes_29 : decode cX5_comes 29 = .ok (.aload_n 0, 1) := by decide +kernel
theorem dX5_comes_30 : decode cX5_comes 30 = .ok (.getfield 135, 3) := by decide +kernel
theorem dX5_comes_33 : decode cX5_comes 33 = .ok (.iload_n 2, 1) := by decide +kernel
theorem dX5_comes_34 : decode cX5_comes 34 = .ok (.iastore, 1) := by decide +kernel
theorem dX5_comes_35 : decode cX5_comes 35 = .ok (.aload_n 0, 1) := by decide +kernel
theorem dX5_comes_36 : decode cX5_comes 36 = .ok (.dup, 1) := by decide +kernel
theorem dX5_comes_37 : decode cX5_comes 37 = .ok (.getfield 135, 3) := by decide +kernel
theorem dX5_comes_40 : decode cX5_comes 40 = .ok (.iconst 1, 1) := by decide +kernel
theorem dX5_comes_41 : decode cX5_comes 41 = .ok (.iadd, 1) := by decide +kernel
theorem dX5_comes_42 : decode cX5_comes 42 = .ok (.putfield 135, 3) := by decide +kernel
theorem dX5_comes_45 : decode cX5_comes 45 = .ok (.return_, 1) := by decide +kernel
theorem dX5_otherwise_0 : decode cX5_otherwise 0 = .ok (.aload_n 0, 1) := by decide +kernel
theorem dX5_otherwise_1 : decode cX5_otherwise 1 = .ok (.getfield 25, 3) := by decide +kernel
theorem dX5_otherwise_4 : decode cX5_otherwise 4 = .ok (.iload_n 1, 1) := by decide +kernel
theorem dX5_otherwise_5 : decode cX5_otherwise 5 = .ok (.iaload, 1) := by decide +kernel
theorem dX5_otherwise_6 : decode cX5_otherwise 6 = .ok (.aload_n 0, 1) := by decide +kernel
theorem dX5_otherwise_7 : decode cX5_otherwise 7 = .ok (.getfield 25, 3) := by decide +kernel
theorem dX5_otherwise_10 : decode cX5_otherwise 10 = .ok (.iload_n 2, 1) := by decide +kernel
theorem dX5_otherwise_11 : decode cX5_otherwise 11 = .ok (.iaload, 1) := by decide +kernel
theorem dX5_otherwise_12 : decode cX5_otherwise 12 = .ok (.ixor, 1) := by decide +kernel
theorem dX5_otherwise_13 : decode cX5_otherwise 13 = .ok (.aload_n 0, 1) := by decide +kernel
theorem dX5_otherwise_14 : decode cX5_otherwise 14 = .ok (.getfield 135, 3) := by decide +kernel
theorem dX5_otherwise_17 : decode cX5_otherwise 17 = .ok (.iconst 0, 1) := by decide +kernel
theorem dX5_otherwise_18 : decode cX5_otherwise 18 = .ok (.aload_n 0, 1) := by decide +kernel
theorem dX5_otherwise_19 : decode cX5_otherwise 19 = .ok (.getfield 28, 3) := by decide +kernel
theorem dX5_otherwise_22 : decode cX5_otherwise 22 = .ok (.invokestatic 138, 3) := by decide +kernel
theorem dX5_otherwise_25 : decode cX5_otherwise 25 = .ok (.ireturn, 1) := by decide +kernel
theorem dX5_checks_0 : decode cX5_checks 0 = .ok (.aload_n 0, 1) := by decide +kernel
theorem dX5_checks_1 : decode cX5_checks 1 = .ok (.dup, 1) := by decide +kernel
theorem dX5_checks_2 : decode cX5_checks 2 = .ok (.getfield 142, 3) := by decide +kernel
theorem dX5_checks_5 : decode cX5_checks 5 = .ok (.iconst 1, 1) := by decide +kernel
theorem dX5_checks_6 : decode cX5_checks 6 = .ok (.iadd, 1) := by decide +kernel
theorem dX5_checks_7 : decode cX5_checks 7 = .ok (.putfield 142, 3) := by decide +kernel
theorem dX5_checks_10 : decode cX5_checks 10 = .ok (.iload_n 3, 1) := by decide +kernel
theorem dX5_checks_11 : decode cX5_checks 11 = .ok (.ifCond .eq 21, 3) := by decide +kernel
theorem dX5_checks_14 : decode cX5_checks 14 = .ok (.aload_n 0, 1) := by decide +kernel
theorem dX5_checks_15 : decode cX5_checks 15 = .ok (.getfield 25, 3) := by decide +kernel
theorem dX5_checks_18 : decode cX5_checks 18 = .ok (.iload_n 1, 1) := by decide +kernel
theorem dX5_checks_19 : decode cX5_checks 19 = .ok (.iaload, 1) := by decide +kernel
theorem dX5_checks_20 : decode cX5_checks 20 = .ok (.aload_n 0, 1) := by decide +kernel
theorem dX5_checks_21 : decode cX5_checks 21 = .ok (.getfield 25, 3) := by decide +kernel
theorem dX5_checks_24 : decode cX5_checks 24 = .ok (.iload_n 2, 1) := by decide +kernel
theorem dX5_checks_25 : decode cX5_checks 25 = .ok (.iaload, 1) := by decide +kernel
theorem dX5_checks_26 : decode cX5_checks 26 = .ok (.ixor, 1) := by decide +kernel
theorem dX5_checks_27 : decode cX5_checks 27 = .ok (.iconst (-1), 1) := by decide +kernel
theorem dX5_checks_28 : decode cX5_checks 28 = .ok (.ixor, 1) := by decide +kernel
theorem dX5_checks_29 : decode cX5_checks 29 = .ok (.goto 16, 3) := by decide +kernel
theorem dX5_checks_32 : decode cX5_checks 32 = .ok (.aload_n 0, 1) := by decide +kernel
theorem dX5_checks_33 : decode cX5_checks 33 = .ok (.getfield 25, 3) := by decide +kernel
theorem dX5_checks_36 : decode cX5_checks 36 = .ok (.iload_n 1, 1) := by decide +kernel
theorem dX5_checks_37 : decode cX5_checks 37 = .ok (.iaload, 1) := by decide +kernel
theorem dX5_checks_38 : decode cX5_checks 38 = .ok (.aload_n 0, 1) := by decide +kernel
theorem dX5_checks_39 : decode cX5_checks 39 = .ok (.getfield 25, 3) := by decide +kernel
theorem dX5_checks_42 : decode cX5_checks 42 = .ok (.iload_n 2, 1) := by decide +kernel
theorem dX5_checks_43 : decode cX5_checks 43 = .ok (.iaload, 1) := by decide +kernel
theorem dX5_checks_44 : decode cX5_checks 44 = .ok (.ixor, 1) := by decide +kernel
theorem dX5_checks_45 : decode cX5_checks 45 = .ok (.aload_n 0, 1) := by decide +kernel
theorem dX5_checks_46 : decode cX5_checks 46 = .ok (.getfield 126, 3) := by decide +kernel
theorem dX5_checks_49 : decode cX5_checks 49 = .ok (.iand, 1) := by decide +kernel
theorem dX5_checks_50 : decode cX5_checks 50 = .ok (.istore 4, 2) := by decide +kernel
theorem dX5_checks_52 : decode cX5_checks 52 = .ok (.iload 4, 2) := by decide +kernel
theorem dX5_checks_54 : decode cX5_checks 54 = .ok (.ifCond .ne 26, 3) := by decide +kernel
theorem dX5_checks_57 : decode cX5_checks 57 = .ok (.aload_n 0, 1) := by decide +kernel
theorem dX5_checks_58 : decode cX5_checks 58 = .ok (.iload_n 1, 1) := by decide +kernel
theorem dX5_checks_59 : decode cX5_checks 59 = .ok (.iload_n 3, 1) := by decide +kernel
theorem dX5_checks_60 : decode cX5_checks 60 = .ok (.ifCond .eq 11, 3) := by decide +kernel
theorem dX5_checks_63 : decode cX5_checks 63 = .ok (.iconst 2, 1) := by decide +kernel
theorem dX5_checks_64 : decode cX5_checks 64 = .ok (.iload_n 2, 1) := by decide +kernel
theorem dX5_checks_65 : decode cX5_checks 65 = .ok (.imul, 1) := by decide +kernel
theorem dX5_checks_66 : decode cX5_checks 66 = .ok (.iconst 1, 1) := by decide +kernel
theorem dX5_checks_67 : decode cX5_checks 67 = .ok (.iadd, 1) := by decide +kernel
theorem dX5_checks_68 : decode cX5_checks 68 = .ok (.goto 6, 3) := by decide +kernel
theorem dX5_checks_71 : decode cX5_checks 71 = .ok (.iconst 2, 1) := by decide +kernel
theorem dX5_checks_72 : decode cX5_checks 72 = .ok (.iload_n 2, 1) := by decide +kernel
theorem dX5_checks_73 : decode cX5_checks 73 = .ok (.imul, 1) := by decide +kernel
theorem dX5_checks_74 : decode cX5_checks 74 = .ok (.iconst 3, 1) := by decide +kernel
theorem dX5_checks_75 : decode cX5_checks 75 = .ok (.invokevirtual 145, 3) := by decide +kernel
theorem dX5_checks_78 : decode cX5_checks 78 = .ok (.iconst 1, 1) := by decide +kernel
theorem dX5_checks_79 : decode cX5_checks 79 = .ok (.ireturn, 1) := by decide +kernel
theorem dX5_checks_80 : decode cX5_checks 80 = .ok (.aload_n 0, 1) := by decide +kernel
theorem dX5_checks_81 : decode cX5_checks 81 = .ok (.iload 4, 2) := by decide +kernel
theorem dX5_checks_83 : decode cX5_checks 83 = .ok (.invokevirtual 149, 3) := by decide +kernel
theorem dX5_checks_86 : decode cX5_checks 86 = .ok (.iconst 0, 1) := by decide +kernel
theorem dX5_checks_87 : decode cX5_checks 87 = .ok (.ireturn, 1) := by decide +kernel
theorem dX5_looksAt_0 : decode cX5_looksAt 0 = .ok (.aload_n 0, 1) := by decide +kernel
theorem dX5_looksAt_1 : decode cX5_looksAt 1 = .ok (.iload_n 1, 1) := by decide +kernel
theorem dX5_looksAt_2 : decode cX5_looksAt 2 = .ok (.iload_n 2, 1) := by decide +kernel
theorem dX5_looksAt_3 : decode cX5_looksAt 3 = .ok (.invokevirtual 153, 3) := by decide +kernel
theorem dX5_looksAt_6 : decode cX5_looksAt 6 = .ok (.istore_n 3, 1) := by decide +kernel
theorem dX5_looksAt_7 : decode cX5_looksAt 7 = .ok (.iload_n 3, 1) := by decide +kernel
theorem dX5_looksAt_8 : decode cX5_looksAt 8 = .ok (.ifCond .ne 7, 3) := by decide +kernel
theorem dX5_looksAt_11 : decode cX5_looksAt 11 = .ok (.iconst 1, 1) := by decide +kernel
theorem dX5_looksAt_12 : decode cX5_looksAt 12 = .ok (.goto 4, 3) := by decide +kernel
theorem dX5_looksAt_15 : decode cX5_looksAt 15 = .ok (.iconst 0, 1) := by decide +kernel
theorem dX5_looksAt_16 : decode cX5_looksAt 16 = .ok (.istore 4, 2) := by decide +kernel
theorem dX5_looksAt_18 : decode cX5_looksAt 18 = .ok (.iload 4, 2) := by decide +kernel
theorem dX5_looksAt_20 : decode cX5_looksAt 20 = .ok (.ifCond .ne 17, 3) := by decide +kernel
theorem dX5_looksAt_23 : decode cX5_looksAt 23 = .ok (.iload_n 3, 1) := by decide +kernel
theorem dX5_looksAt_24 : decode cX5_looksAt 24 = .ok (.iconst 1, 1) := by decide +kernel
theorem dX5_looksAt_25 : decode cX5_looksAt 25 = .ok (.aload_n 0, 1) := by decide +kernel
theorem dX5_looksAt_26 : decode cX5_looksAt 26 = .ok (.getfield 135, 3) := by decide +kernel
theorem dX5_looksAt_29 : decode cX5_looksAt 29 = .ok (.ishl, 1) := by decide +kernel
theorem dX5_looksAt_30 : decode cX5_looksAt 30 = .ok (.iconst 1, 1) := by decide +kernel
theorem dX5_looksAt_31 : decode cX5_looksAt 31 = .ok (.isub, 1) := by decide +kernel
theorem dX5_looksAt_32 : decode cX5_looksAt 32 = .ok (.if_icmp .eq 5, 3) := by decide +kernel
theorem dX5_looksAt_35 : decode cX5_looksAt 35 = .ok (.iconst 0, 1) := by decide +kernel
theorem dX5_looksAt_36 : decode cX5_looksAt 36 = .ok (.ireturn, 1) := by decide +kernel
theorem dX5_looksAt_37 : decode cX5_looksAt 37 = .ok (.aload_n 0, 1) := by decide +kernel
theorem dX5_looksAt_38 : decode cX5_looksAt 38 = .ok (.iload_n 1, 1) := by decide +kernel
theorem dX5_looksAt_39 : decode cX5_looksAt 39 = .ok (.iload_n 2, 1) := by decide +kernel
theorem dX5_looksAt_40 : decode cX5_looksAt 40 = .ok (.iload 4, 2) := by decide +kernel
theorem dX5_looksAt_42 : decode cX5_looksAt 42 = .ok (.ifCond .ne 7, 3) := by decide +kernel
theorem dX5_looksAt_45 : decode cX5_looksAt 45 = .ok (.iconst 1, 1) := by decide +kernel
theorem dX5_looksAt_46 : decode cX5_looksAt 46 = .ok (.goto 4, 3) := by decide +kernel
theorem dX5_looksAt_49 : decode cX5_looksAt 49 = .ok (.iconst 0, 1) := by decide +kernel
theorem dX5_looksAt_50 : decode cX5_looksAt 50 = .ok (.invokevirtual 156, 3) := by decide +kernel
theorem dX5_looksAt_53 : decode cX5_looksAt 53 = .ok (.ifCond .eq 5, 3) := by decide +kernel
theorem dX5_looksAt_56 : decode cX5_looksAt 56 = .ok (.iconst 1, 1) := by decide +kernel
theorem dX5_looksAt_57 : decode cX5_looksAt 57 = .ok (.ireturn, 1) := by decide +kernel
theorem dX5_looksAt_58 : decode cX5_looksAt 58 = .ok (.iload 4, 2) := by decide +kernel
theorem dX5_looksAt_60 : decode cX5_looksAt 60 = .ok (.ifCond .eq 34, 3) := by decide +kernel
theorem dX5_looksAt_63 : decode cX5_looksAt 63 = .ok (.aload_n 0, 1) := by decide +kernel
theorem dX5_looksAt_64 : decode cX5_looksAt 64 = .ok (.iload_n 1, 1) := by decide +kernel
theorem dX5_looksAt_65 : decode cX5_looksAt 65 = .ok (.iload_n 2, 1) := by decide +kernel
theorem dX5_looksAt_66 : decode cX5_looksAt 66 = .ok (.invokevirtual 153, 3) := by decide +kernel
theorem dX5_looksAt_69 : decode cX5_looksAt 69 = .ok (.iconst 1, 1) := by decide +kernel
theorem dX5_looksAt_70 : decode cX5_looksAt 70 = .ok (.aload_n 0, 1) := by decide +kernel
theorem dX5_looksAt_71 : decode cX5_looksAt 71 = .ok (.getfield 135, 3) := by decide +kernel
theorem dX5_looksAt_74 : decode cX5_looksAt 74 = .ok (.ishl, 1) := by decide +kernel
theorem dX5_looksAt_75 : decode cX5_looksAt 75 = .ok (.iconst 1, 1) := by decide +kernel
theorem dX5_looksAt_76 : decode cX5_looksAt 76 = .ok (.isub, 1) := by decide +kernel
theorem dX5_looksAt_77 : decode cX5_looksAt 77 = .ok (.if_icmp .ne 17, 3) := by decide +kernel
theorem dX5_looksAt_80 : decode cX5_looksAt 80 = .ok (.aload_n 0, 1) := by decide +kernel
theorem dX5_looksAt_81 : decode cX5_looksAt 81 = .ok (.iload_n 1, 1) := by decide +kernel
theorem dX5_looksAt_82 : decode cX5_looksAt 82 = .ok (.iload_n 2, 1) := by decide +kernel
theorem dX5_looksAt_83 : decode cX5_looksAt 83 = .ok (.iconst 1, 1) := by decide +kernel
theorem dX5_looksAt_84 : decode cX5_looksAt 84 = .ok (.invokevirtual 156, 3) := by decide +kernel
theorem dX5_looksAt_87 : decode cX5_looksAt 87 = .ok (.ifCond .eq 7, 3) := by decide +kernel
theorem dX5_looksAt_90 : decode cX5_looksAt 90 = .ok (.iconst 1, 1) := by decide +kernel
theorem dX5_looksAt_91 : decode cX5_looksAt 91 = .ok (.goto 4, 3) := by decide +kernel
theorem dX5_looksAt_94 : decode cX5_looksAt 94 = .ok (.iconst 0, 1) := by decide +kernel
theorem dX5_looksAt_95 : decode cX5_looksAt 95 = .ok (.ireturn, 1) := by decide +kernel
theorem dX5_isByRules_0 : decode cX5_isByRules 0 = .ok (.iload_n 2, 1) := by decide +kernel
theorem dX5_isByRules_1 : decode cX5_isByRules 1 = .ok (.ifCond .eq 16, 3) := by decide +kernel
theorem dX5_isByRules_4 : decode cX5_isByRules 4 = .ok (.iload_n 3, 1) := by decide +kernel
theorem dX5_isByRules_5 : decode cX5_isByRules 5 = .ok (.iload_n 2, 1) := by decide +kernel
theorem dX5_isByRules_6 : decode cX5_isByRules 6 = .ok (.iconst 1, 1) := by decide +kernel
theorem dX5_isByRules_7 : decode cX5_isByRules 7 = .ok (.iadd, 1) := by decide +kernel
theorem dX5_isByRules_8 : decode cX5_isByRules 8 = .ok (.if_icmp .ne 18, 3) := by decide +kernel
theorem dX5_isByRules_11 : decode cX5_isByRules 11 = .ok (.iload_n 2, 1) := by decide +kernel
theorem dX5_isByRules_12 : decode cX5_isByRules 12 = .ok (.iconst 2, 1) := by decide +kernel
theorem dX5_isByRules_13 : decode cX5_isByRules 13 = .ok (.irem, 1) := by decide +kernel
theorem dX5_isByRules_14 : decode cX5_isByRules 14 = .ok (.ifCond .ne 12, 3) := by decide +kernel
theorem dX5_isByRules_17 : decode cX5_isByRules 17 = .ok (.aload_n 0, 1) := by decide +kernel
theorem dX5_isByRules_18 : decode cX5_isByRules 18 = .ok (.iload_n 1, 1) := by decide +kernel
theorem dX5_isByRules_19 : decode cX5_isByRules 19 = .ok (.iconst 0, 1) := by decide +kernel
theorem dX5_isByRules_20 : decode cX5_isByRules 20 = .ok (.iconst 1, 1) := by decide +kernel
theorem dX5_isByRules_21 : decode cX5_isByRules 21 = .ok (.invokevirtual 145, 3) := by decide +kernel
theorem dX5_isByRules_24 : decode cX5_isByRules 24 = .ok (.iconst 1, 1) := by decide +kernel
theorem dX5_isByRules_25 : decode cX5_isByRules 25 = .ok (.ireturn, 1) := by decide +kernel
theorem dX5_isByRules_26 : decode cX5_isByRules 26 = .ok (.iload_n 2, 1) := by decide +kernel
theorem dX5_isByRules_27 : decode cX5_isByRules 27 = .ok (.iconst 1, 1) := by decide +kernel
theorem dX5_isByRules_28 : decode cX5_isByRules 28 = .ok (.if_icmp .eq 8, 3) := by decide +kernel
theorem dX5_isByRules_31 : decode cX5_isByRules 31 = .ok (.iload_n 2, 1) := by decide +kernel
theorem dX5_isByRules_32 : decode cX5_isByRules 32 = .ok (.iload_n 3, 1) := by decide +kernel
theorem dX5_isByRules_33 : decode cX5_isByRules 33 = .ok (.if_icmp .ne 12, 3) := by decide +kernel
theorem dX5_isByRules_36 : decode cX5_isByRules 36 = .ok (.aload_n 0, 1) := by decide +kernel
theorem dX5_isByRules_37 : decode cX5_isByRules 37 = .ok (.iload_n 1, 1) := by decide +kernel
theorem dX5_isByRules_38 : decode cX5_isByRules 38 = .ok (.iload_n 3, 1) := by decide +kernel
theorem dX5_isByRules_39 : decode cX5_isByRules 39 = .ok (.iconst 1, 1) := by decide +kernel
theorem dX5_isByRules_40 : decode cX5_isByRules 40 = .ok (.invokevirtual 145, 3) := by decide +kernel
theorem dX5_isByRules_43 : decode cX5_isByRules 43 = .ok (.iconst 1, 1) := by decide +kernel
theorem dX5_isByRules_44 : decode cX5_isByRules 44 = .ok (.ireturn, 1) := by decide +kernel
theorem dX5_isByRules_45 : decode cX5_isByRules 45 = .ok (.iconst 0, 1) := by decide +kernel
theorem dX5_isByRules_46 : decode cX5_isByRules 46 = .ok (.ireturn, 1) := by decide +kernel
theorem dX5_isThere_0 : decode cX5_isThere 0 = .ok (.aload_n 0, 1) := by decide +kernel
theorem dX5_isThere_1 : decode cX5_isThere 1 = .ok (.getfield 7, 3) := by decide +kernel
theorem dX5_isThere_4 : decode cX5_isThere 4 = .ok (.iconst 0, 1) := by decide +kernel
theorem dX5_isThere_5 : decode cX5_isThere 5 = .ok (.iaload, 1) := by decide +kernel
theorem dX5_isThere_6 : decode cX5_isThere 6 = .ok (.iconst 1, 1) := by decide +kernel
theorem dX5_isThere_7 : decode cX5_isThere 7 = .ok (.iadd, 1) := by decide +kernel
theorem dX5_isThere_8 : decode cX5_isThere 8 = .ok (.istore 4, 2) := by decide +kernel
theorem dX5_isThere_10 : decode cX5_isThere 10 = .ok (.iload 4, 2) := by decide +kernel
theorem dX5_isThere_12 : decode cX5_isThere 12 = .ok (.iload_n 1, 1) := by decide +kernel
theorem dX5_isThere_13 : decode cX5_isThere 13 = .ok (.if_icmp .ge 53, 3) := by decide +kernel
theorem dX5_isThere_16 : decode cX5_isThere 16 = .ok (.aload_n 0, 1) := by decide +kernel
theorem dX5_isThere_17 : decode cX5_isThere 17 = .ok (.getfield 40, 3) := by decide +kernel
theorem dX5_isThere_20 : decode cX5_isThere 20 = .ok (.iload 4, 2) := by decide +kernel
theorem dX5_isThere_22 : decode cX5_isThere 22 = .ok (.iaload, 1) := by decide +kernel
theorem dX5_isThere_23 : decode cX5_isThere 23 = .ok (.ifCond .ne 37, 3) := by decide +kernel
theorem dX5_isThere_26 : decode cX5_isThere 26 = .ok (.aload_n 0, 1) := by decide +kernel
theorem dX5_isThere_27 : decode cX5_isThere 27 = .ok (.getfield 34, 3) := by decide +kernel
theorem dX5_isThere_30 : decode cX5_isThere 30 = .ok (.iload 4, 2) := by decide +kernel
theorem dX5_isThere_32 : decode cX5_isThere 32 = .ok (.iaload, 1) := by decide +kernel
theorem dX5_isThere_33 : decode cX5_isThere 33 = .ok (.iload_n 2, 1) := by decide +kernel
theorem dX5_isThere_34 : decode cX5_isThere 34 = .ok (.if_icmp .ne 26, 3) := by decide +kernel
theorem dX5_isThere_37 : decode cX5_isThere 37 = .ok (.aload_n 0, 1) := by decide +kernel
theorem dX5_isThere_38 : decode cX5_isThere 38 = .ok (.getfield 37, 3) := by decide +kernel
theorem dX5_isThere_41 : decode cX5_isThere 41 = .ok (.iload 4, 2) := by decide +kernel
theorem dX5_isThere_43 : decode cX5_isThere 43 = .ok (.iaload, 1) := by decide +kernel
theorem dX5_isThere_44 : decode cX5_isThere 44 = .ok (.iload_n 3, 1) := by decide +kernel
theorem dX5_isThere_45 : decode cX5_isThere 45 = .ok (.if_icmp .ne 15, 3) := by decide +kernel
theorem dX5_isThere_48 : decode cX5_isThere 48 = .ok (.aload_n 0, 1) := by decide +kernel
theorem dX5_isThere_49 : decode cX5_isThere 49 = .ok (.iload_n 1, 1) := by decide +kernel
theorem dX5_isThere_50 : decode cX5_isThere 50 = .ok (.iconst 2, 1) := by decide +kernel
theorem dX5_isThere_51 : decode cX5_isThere 51 = .ok (.iload 4, 2) := by decide +kernel
theorem dX5_isThere_53 : decode cX5_isThere 53 = .ok (.imul, 1) := by decide +kernel
theorem dX5_isThere_54 : decode cX5_isThere 54 = .ok (.iconst 2, 1) := by decide +kernel
theorem dX5_isThere_55 : decode cX5_isThere 55 = .ok (.invokevirtual 145, 3) := by decide +kernel
theorem dX5_isThere_58 : decode cX5_isThere 58 = .ok (.iconst 1, 1) := by decide +kernel
theorem dX5_isThere_59 : decode cX5_isThere 59 = .ok (.ireturn, 1) := by decide +kernel
theorem dX5_isThere_60 : decode cX5_isThere 60 = .ok (.iinc 4 1, 3) := by decide +kernel
theorem dX5_isThere_63 : decode cX5_isThere 63 = .ok (.goto (-53), 3) := by decide +kernel
theorem dX5_isThere_66 : decode cX5_isThere 66 = .ok (.iconst 0, 1) := by decide +kernel
theorem dX5_isThere_67 : decode cX5_isThere 67 = .ok (.ireturn, 1) := by decide +kernel
theorem dX5_sweepsGate_0 : decode cX5_sweepsGate 0 = .ok (.aload_n 0, 1) := by decide +kernel
theorem dX5_sweepsGate_1 : decode cX5_sweepsGate 1 = .ok (.aload_n 0, 1) := by decide +kernel
theorem dX5_sweepsGate_2 : decode cX5_sweepsGate 2 = .ok (.getfield 7, 3) := by decide +kernel
theorem dX5_sweepsGate_5 : decode cX5_sweepsGate 5 = .ok (.iconst 2, 1) := by decide +kernel
theorem dX5_sweepsGate_6 : decode cX5_sweepsGate 6 = .ok (.iload_n 1, 1) := by decide +kernel
theorem dX5_sweepsGate_7 : decode cX5_sweepsGate 7 = .ok (.iadd, 1) := by decide +kernel
theorem dX5_sweepsGate_8 : decode cX5_sweepsGate 8 = .ok (.iaload, 1) := by decide +kernel
theorem dX5_sweepsGate_9 : decode cX5_sweepsGate 9 = .ok (.invokevirtual 159, 3) := by decide +kernel
theorem dX5_sweepsGate_12 : decode cX5_sweepsGate 12 = .ok (.istore_n 2, 1) := by decide +kernel
theorem dX5_sweepsGate_13 : decode cX5_sweepsGate 13 = .ok (.aload_n 0, 1) := by decide +kernel
theorem dX5_sweepsGate_14 : decode cX5_sweepsGate 14 = .ok (.aload_n 0, 1) := by decide +kernel
theorem dX5_sweepsGate_15 : decode cX5_sweepsGate 15 = .ok (.getfield 7, 3) := by decide +kernel
theorem dX5_sweepsGate_18 : decode cX5_sweepsGate 18 = .ok (.bipush 50, 2) := by decide +kernel
theorem dX5_sweepsGate_20 : decode cX5_sweepsGate 20 = .ok (.iload_n 1, 1) := by decide +kernel
theorem dX5_sweepsGate_21 : decode cX5_sweepsGate 21 = .ok (.iadd, 1) := by decide +kernel
theorem dX5_sweepsGate_22 : decode cX5_sweepsGate 22 = .ok (.iaload, 1) := by decide +kernel
theorem dX5_sweepsGate_23 : decode cX5_sweepsGate 23 = .ok (.invokevirtual 159, 3) := by decide +kernel
theorem dX5_sweepsGate_26 : decode cX5_sweepsGate 26 = .ok (.istore_n 3, 1) := by decide +kernel
theorem dX5_sweepsGate_27 : decode cX5_sweepsGate 27 = .ok (.iload_n 2, 1) := by decide +kernel
theorem dX5_sweepsGate_28 : decode cX5_sweepsGate 28 = .ok (.iload_n 3, 1) := by decide +kernel
theorem dX5_sweepsGate_29 : decode cX5_sweepsGate 29 = .ok (.if_icmp .ge 7, 3) := by decide +kernel
theorem dX5_sweepsGate_32 : decode cX5_sweepsGate 32 = .ok (.iload_n 2, 1) := by decide +kernel
theorem dX5_sweepsGate_33 : decode cX5_sweepsGate 33 = .ok (.goto 4, 3) := by decide +kernel
theorem dX5_sweepsGate_36 : decode cX5_sweepsGate 36 = .ok (.iload_n 3, 1) := by decide +kernel
theorem dX5_sweepsGate_37 : decode cX5_sweepsGate 37 = .ok (.istore 4, 2) := by decide +kernel
theorem dX5_sweepsGate_39 : decode cX5_sweepsGate 39 = .ok (.iload_n 2, 1) := by decide +kernel
theorem dX5_sweepsGate_40 : decode cX5_sweepsGate 40 = .ok (.iload_n 3, 1) := by decide +kernel
theorem dX5_sweepsGate_41 : decode cX5_sweepsGate 41 = .ok (.if_icmp .ge 7, 3) := by decide +kernel
theorem dX5_sweepsGate_44 : decode cX5_sweepsGate 44 = .ok (.iload_n 3, 1) := by decide +kernel
theorem dX5_sweepsGate_45 : decode cX5_sweepsGate 45 = .ok (.goto 4, 3) := by decide +kernel
theorem dX5_sweepsGate_48 : decode cX5_sweepsGate 48 = .ok (.iload_n 2, 1) := by decide +kernel
theorem dX5_sweepsGate_49 : decode cX5_sweepsGate 49 = .ok (.istore 5, 2) := by decide +kernel
theorem dX5_sweepsGate_51 : decode cX5_sweepsGate 51 = .ok (.aload_n 0, 1) := by decide +kernel
theorem dX5_sweepsGate_52 : decode cX5_sweepsGate 52 = .ok (.iload_n 1, 1) := by decide +kernel
theorem dX5_sweepsGate_53 : decode cX5_sweepsGate 53 = .ok (.iload 4, 2) := by decide +kernel
theorem dX5_sweepsGate_55 : decode cX5_sweepsGate 55 = .ok (.iload 5, 2) := by decide +kernel
theorem dX5_sweepsGate_57 : decode cX5_sweepsGate 57 = .ok (.invokevirtual 162, 3) := by decide +kernel
theorem dX5_sweepsGate_60 : decode cX5_sweepsGate 60 = .ok (.ifCond .ne 15, 3) := by decide +kernel
theorem dX5_sweepsGate_63 : decode cX5_sweepsGate 63 = .ok (.aload_n 0, 1) := by decide +kernel
theorem dX5_sweepsGate_64 : decode cX5_sweepsGate 64 = .ok (.iload_n 1, 1) := by decide +kernel
theorem dX5_sweepsGate_65 : decode cX5_sweepsGate 65 = .ok (.iload 4, 2) := by decide +kernel
theorem dX5_sweepsGate_67 : decode cX5_sweepsGate 67 = .ok (.iload 5, 2) := by decide +kernel
theorem dX5_sweepsGate_69 : decode cX5_sweepsGate 69 = .ok (.invokevirtual 165, 3) := by decide +kernel
theorem dX5_sweepsGate_72 : decode cX5_sweepsGate 72 = .ok (.ifCond .eq 4, 3) := by decide +kernel
theorem dX5_sweepsGate_75 : decode cX5_sweepsGate 75 = .ok (.return_, 1) := by decide +kernel
theorem dX5_sweepsGate_76 : decode cX5_sweepsGate 76 = .ok (.iconst 0, 1) := by decide +kernel
theorem dX5_sweepsGate_77 : decode cX5_sweepsGate 77 = .ok (.istore 6, 2) := by decide +kernel
theorem dX5_sweepsGate_79 : decode cX5_sweepsGate 79 = .ok (.iload 6, 2) := by decide +kernel
theorem dX5_sweepsGate_81 : decode cX5_sweepsGate 81 = .ok (.iload_n 1, 1) := by decide +kernel
theorem dX5_sweepsGate_82 : decode cX5_sweepsGate 82 = .ok (.if_icmp .ge 30, 3) := by decide +kernel
theorem dX5_sweepsGate_85 : decode cX5_sweepsGate 85 = .ok (.aload_n 0, 1) := by decide +kernel
theorem dX5_sweepsGate_86 : decode cX5_sweepsGate 86 = .ok (.getfield 40, 3) := by decide +kernel
theorem dX5_sweepsGate_89 : decode cX5_sweepsGate 89 = .ok (.iload 6, 2) := by decide +kernel
theorem dX5_sweepsGate_91 : decode cX5_sweepsGate 91 = .ok (.iaload, 1) := by decide +kernel
theorem dX5_sweepsGate_92 : decode cX5_sweepsGate 92 = .ok (.ifCond .ne 14, 3) := by decide +kernel
theorem dX5_sweepsGate_95 : decode cX5_sweepsGate 95 = .ok (.aload_n 0, 1) := by decide +kernel
theorem dX5_sweepsGate_96 : decode cX5_sweepsGate 96 = .ok (.iload_n 1, 1) := by decide +kernel
theorem dX5_sweepsGate_97 : decode cX5_sweepsGate 97 = .ok (.iload 6, 2) := by decide +kernel
theorem dX5_sweepsGate_99 : decode cX5_sweepsGate 99 = .ok (.invokevirtual 168, 3) := by decide +kernel
theorem dX5_sweepsGate_102 : decode cX5_sweepsGate 102 = .ok (.ifCond .eq 4, 3) := by decide +kernel
theorem dX5_sweepsGate_105 : decode cX5_sweepsGate 105 = .ok (.return_, 1) := by decide +kernel
theorem dX5_sweepsGate_106 : decode cX5_sweepsGate 106 = .ok (.iinc 6 1, 3) := by decide +kernel
theorem dX5_sweepsGate_109 : decode cX5_sweepsGate 109 = .ok (.goto (-30), 3) := by decide +kernel
theorem dX5_sweepsGate_112 : decode cX5_sweepsGate 112 = .ok (.aload_n 0, 1) := by decide +kernel
theorem dX5_sweepsGate_113 : decode cX5_sweepsGate 113 = .ok (.iload_n 1, 1) := by decide +kernel
theorem dX5_sweepsGate_114 : decode cX5_sweepsGate 114 = .ok (.iconst 2, 1) := by decide +kernel
theorem dX5_sweepsGate_115 : decode cX5_sweepsGate 115 = .ok (.iload_n 1, 1) := by decide +kernel
theorem dX5_sweepsGate_116 : decode cX5_sweepsGate 116 = .ok (.imul, 1) := by decide +kernel
theorem dX5_sweepsGate_117 : decode cX5_sweepsGate 117 = .ok (.iconst 0, 1) := by decide +kernel
theorem dX5_sweepsGate_118 : decode cX5_sweepsGate 118 = .ok (.invokevirtual 145, 3) := by decide +kernel
theorem dX5_sweepsGate_121 : decode cX5_sweepsGate 121 = .ok (.aload_n 0, 1) := by decide +kernel
theorem dX5_sweepsGate_122 : decode cX5_sweepsGate 122 = .ok (.getfield 34, 3) := by decide +kernel
theorem dX5_sweepsGate_125 : decode cX5_sweepsGate 125 = .ok (.iload_n 1, 1) := by decide +kernel
theorem dX5_sweepsGate_126 : decode cX5_sweepsGate 126 = .ok (.iload 4, 2) := by decide +kernel
theorem dX5_sweepsGate_128 : decode cX5_sweepsGate 128 = .ok (.iastore, 1) := by decide +kernel
theorem dX5_sweepsGate_129 : decode cX5_sweepsGate 129 = .ok (.aload_n 0, 1) := by decide +kernel
theorem dX5_sweepsGate_130 : decode cX5_sweepsGate 130 = .ok (.getfield 37, 3) := by decide +kernel
theorem dX5_sweepsGate_133 : decode cX5_sweepsGate 133 = .ok (.iload_n 1, 1) := by decide +kernel
theorem dX5_sweepsGate_134 : decode cX5_sweepsGate 134 = .ok (.iload 5, 2) := by decide +kernel
theorem dX5_sweepsGate_136 : decode cX5_sweepsGate 136 = .ok (.iastore, 1) := by decide +kernel
theorem dX5_sweepsGate_137 : decode cX5_sweepsGate 137 = .ok (.return_, 1) := by decide +kernel
theorem dX5_sweeps_0 : decode cX5_sweeps 0 = .ok (.aload_n 0, 1) := by decide +kernel
theorem dX5_sweeps_1 : decode cX5_sweeps 1 = .ok (.invokevirtual 132, 3) := by decide +kernel
theorem dX5_sweeps_4 : decode cX5_sweeps 4 = .ok (.aload_n 0, 1) := by decide +kernel
theorem dX5_sweeps_5 : decode cX5_sweeps 5 = .ok (.aload_n 0, 1) := by decide +kernel
theorem dX5_sweeps_6 : decode cX5_sweeps 6 = .ok (.getfield 7, 3) := by decide +kernel
theorem dX5_sweeps_9 : decode cX5_sweeps 9 = .ok (.bipush 112, 2) := by decide +kernel
theorem dX5_sweeps_11 : decode cX5_sweeps 11 = .ok (.iaload, 1) := by decide +kernel
theorem dX5_sweeps_12 : decode cX5_sweeps 12 = .ok (.putfield 135, 3) := by decide +kernel
theorem dX5_sweeps_15 : decode cX5_sweeps 15 = .ok (.iconst 0, 1) := by decide +kernel
theorem dX5_sweeps_16 : decode cX5_sweeps 16 = .ok (.istore_n 1, 1) := by decide +kernel
theorem dX5_sweeps_17 : decode cX5_sweeps 17 = .ok (.iload_n 1, 1) := by decide +kernel
theorem dX5_sweeps_18 : decode cX5_sweeps 18 = .ok (.aload_n 0, 1) := by decide +kernel
theorem dX5_sweeps_19 : decode cX5_sweeps 19 = .ok (.getfield 135, 3) := by decide +kernel
theorem dX5_sweeps_22 : decode cX5_sweeps 22 = .ok (.if_icmp .ge 24, 3) := by decide +kernel
theorem dX5_sweeps_25 : decode cX5_sweeps 25 = .ok (.aload_n 0, 1) := by decide +kernel
theorem dX5_sweeps_26 : decode cX5_sweeps 26 = .ok (.getfield 28, 3) := by decide +kernel
theorem dX5_sweeps_29 : decode cX5_sweeps 29 = .ok (.iload_n 1, 1) := by decide +kernel
theorem dX5_sweeps_30 : decode cX5_sweeps 30 = .ok (.aload_n 0, 1) := by decide +kernel
theorem dX5_sweeps_31 : decode cX5_sweeps 31 = .ok (.getfield 7, 3) := by decide +kernel
theorem dX5_sweeps_34 : decode cX5_sweeps 34 = .ok (.bipush 113, 2) := by decide +kernel
theorem dX5_sweeps_36 : decode cX5_sweeps 36 = .ok (.iload_n 1, 1) := by decide +kernel
theorem dX5_sweeps_37 : decode cX5_sweeps 37 = .ok (.iadd, 1) := by decide +kernel
theorem dX5_sweeps_38 : decode cX5_sweeps 38 = .ok (.iaload, 1) := by decide +kernel
theorem dX5_sweeps_39 : decode cX5_sweeps 39 = .ok (.iastore, 1) := by decide +kernel
theorem dX5_sweeps_40 : decode cX5_sweeps 40 = .ok (.iinc 1 1, 3) := by decide +kernel
theorem dX5_sweeps_43 : decode cX5_sweeps 43 = .ok (.goto (-26), 3) := by decide +kernel
theorem dX5_sweeps_46 : decode cX5_sweeps 46 = .ok (.aload_n 0, 1) := by decide +kernel
theorem dX5_sweeps_47 : decode cX5_sweeps 47 = .ok (.iconst 0, 1) := by decide +kernel
theorem dX5_sweeps_48 : decode cX5_sweeps 48 = .ok (.putfield 142, 3) := by decide +kernel
theorem dX5_sweeps_51 : decode cX5_sweeps 51 = .ok (.iconst 0, 1) := by decide +kernel
theorem dX5_sweeps_52 : decode cX5_sweeps 52 = .ok (.istore_n 1, 1) := by decide +kernel
theorem dX5_sweeps_53 : decode cX5_sweeps 53 = .ok (.iload_n 1, 1) := by decide +kernel
theorem dX5_sweeps_54 : decode cX5_sweeps 54 = .ok (.aload_n 0, 1) := by decide +kernel
theorem dX5_sweeps_55 : decode cX5_sweeps 55 = .ok (.getfield 7, 3) := by decide +kernel
theorem dX5_sweeps_58 : decode cX5_sweeps 58 = .ok (.iconst 1, 1) := by decide +kernel
theorem dX5_sweeps_59 : decode cX5_sweeps 59 = .ok (.iaload, 1) := by decide +kernel
theorem dX5_sweeps_60 : decode cX5_sweeps 60 = .ok (.if_icmp .ge 36, 3) := by decide +kernel
theorem dX5_sweeps_63 : decode cX5_sweeps 63 = .ok (.iload_n 1, 1) := by decide +kernel
theorem dX5_sweeps_64 : decode cX5_sweeps 64 = .ok (.aload_n 0, 1) := by decide +kernel
theorem dX5_sweeps_65 : decode cX5_sweeps 65 = .ok (.getfield 7, 3) := by decide +kernel
theorem dX5_sweeps_68 : decode cX5_sweeps 68 = .ok (.iconst 0, 1) := by decide +kernel
theorem dX5_sweeps_69 : decode cX5_sweeps 69 = .ok (.iaload, 1) := by decide +kernel
theorem dX5_sweeps_70 : decode cX5_sweeps 70 = .ok (.if_icmp .gt 15, 3) := by decide +kernel
theorem dX5_sweeps_73 : decode cX5_sweeps 73 = .ok (.aload_n 0, 1) := by decide +kernel
theorem dX5_sweeps_74 : decode cX5_sweeps 74 = .ok (.iload_n 1, 1) := by decide +kernel
theorem dX5_sweeps_75 : decode cX5_sweeps 75 = .ok (.iconst 2, 1) := by decide +kernel
theorem dX5_sweeps_76 : decode cX5_sweeps 76 = .ok (.iload_n 1, 1) := by decide +kernel
theorem dX5_sweeps_77 : decode cX5_sweeps 77 = .ok (.imul, 1) := by decide +kernel
theorem dX5_sweeps_78 : decode cX5_sweeps 78 = .ok (.iconst 0, 1) := by decide +kernel
theorem dX5_sweeps_79 : decode cX5_sweeps 79 = .ok (.invokevirtual 145, 3) := by decide +kernel
theorem dX5_sweeps_82 : decode cX5_sweeps 82 = .ok (.goto 8, 3) := by decide +kernel
theorem dX5_sweeps_85 : decode cX5_sweeps 85 = .ok (.aload_n 0, 1) := by decide +kernel
theorem dX5_sweeps_86 : decode cX5_sweeps 86 = .ok (.iload_n 1, 1) := by decide +kernel
theorem dX5_sweeps_87 : decode cX5_sweeps 87 = .ok (.invokevirtual 172, 3) := by decide +kernel
theorem dX5_sweeps_90 : decode cX5_sweeps 90 = .ok (.iinc 1 1, 3) := by decide +kernel
theorem dX5_sweeps_93 : decode cX5_sweeps 93 = .ok (.goto (-40), 3) := by decide +kernel
theorem dX5_sweeps_96 : decode cX5_sweeps 96 = .ok (.return_, 1) := by decide +kernel
theorem dX5_merged_0 : decode cX5_merged 0 = .ok (.iconst 0, 1) := by decide +kernel
theorem dX5_merged_1 : decode cX5_merged 1 = .ok (.istore_n 2, 1) := by decide +kernel
theorem dX5_merged_2 : decode cX5_merged 2 = .ok (.aload_n 0, 1) := by decide +kernel
theorem dX5_merged_3 : decode cX5_merged 3 = .ok (.getfield 7, 3) := by decide +kernel
theorem dX5_merged_6 : decode cX5_merged 6 = .ok (.iconst 0, 1) := by decide +kernel
theorem dX5_merged_7 : decode cX5_merged 7 = .ok (.iaload, 1) := by decide +kernel
theorem dX5_merged_8 : decode cX5_merged 8 = .ok (.iconst 1, 1) := by decide +kernel
theorem dX5_merged_9 : decode cX5_merged 9 = .ok (.iadd, 1) := by decide +kernel
theorem dX5_merged_10 : decode cX5_merged 10 = .ok (.istore_n 3, 1) := by decide +kernel
theorem dX5_merged_11 : decode cX5_merged 11 = .ok (.iload_n 3, 1) := by decide +kernel
theorem dX5_merged_12 : decode cX5_merged 12 = .ok (.aload_n 0, 1) := by decide +kernel
theorem dX5_merged_13 : decode cX5_merged 13 = .ok (.getfield 7, 3) := by decide +kernel
theorem dX5_merged_16 : decode cX5_merged 16 = .ok (.iconst 1, 1) := by decide +kernel
theorem dX5_merged_17 : decode cX5_merged 17 = .ok (.iaload, 1) := by decide +kernel
theorem dX5_merged_18 : decode cX5_merged 18 = .ok (.if_icmp .ge 27, 3) := by decide +kernel
theorem dX5_merged_21 : decode cX5_merged 21 = .ok (.iload_n 2, 1) := by decide +kernel
theorem dX5_merged_22 : decode cX5_merged 22 = .ok (.aload_n 0, 1) := by decide +kernel
theorem dX5_merged_23 : decode cX5_merged 23 = .ok (.getfield 40, 3) := by decide +kernel
theorem dX5_merged_26 : decode cX5_merged 26 = .ok (.iload_n 3, 1) := by decide +kernel
theorem dX5_merged_27 : decode cX5_merged 27 = .ok (.iaload, 1) := by decide +kernel
theorem dX5_merged_28 : decode cX5_merged 28 = .ok (.iload_n 1, 1) := by decide +kernel
theorem dX5_merged_29 : decode cX5_merged 29 = .ok (.if_icmp .ne 7, 3) := by decide +kernel
theorem dX5_merged_32 : decode cX5_merged 32 = .ok (.iconst 1, 1) := by decide +kernel
theorem dX5_merged_33 : decode cX5_merged 33 = .ok (.goto 4, 3) := by decide +kernel
theorem dX5_merged_36 : decode cX5_merged 36 = .ok (.iconst 0, 1) := by decide +kernel
theorem dX5_merged_37 : decode cX5_merged 37 = .ok (.iadd, 1) := by decide +kernel
theorem dX5_merged_38 : decode cX5_merged 38 = .ok (.istore_n 2, 1) := by decide +kernel
theorem dX5_merged_39 : decode cX5_merged 39 = .ok (.iinc 3 1, 3) := by decide +kernel
theorem dX5_merged_42 : decode cX5_merged 42 = .ok (.goto (-31), 3) := by decide +kernel
theorem dX5_merged_45 : decode cX5_merged 45 = .ok (.iload_n 2, 1) := by decide +kernel
theorem dX5_merged_46 : decode cX5_merged 46 = .ok (.ireturn, 1) := by decide +kernel
theorem dX5_settled_0 : decode cX5_settled 0 = .ok (.iconst 2, 1) := by decide +kernel
theorem dX5_settled_1 : decode cX5_settled 1 = .ok (.aload_n 0, 1) := by decide +kernel
theorem dX5_settled_2 : decode cX5_settled 2 = .ok (.getfield 43, 3) := by decide +kernel
theorem dX5_settled_5 : decode cX5_settled 5 = .ok (.iload_n 1, 1) := by decide +kernel
theorem dX5_settled_6 : decode cX5_settled 6 = .ok (.iconst 2, 1) := by decide +kernel
theorem dX5_settled_7 : decode cX5_settled 7 = .ok (.idiv, 1) := by decide +kernel
theorem dX5_settled_8 : decode cX5_settled 8 = .ok (.iaload, 1) := by decide +kernel
theorem dX5_settled_9 : decode cX5_settled 9 = .ok (.imul, 1) := by decide +kernel
theorem dX5_settled_10 : decode cX5_settled 10 = .ok (.iload_n 1, 1) := by decide +kernel
theorem dX5_settled_11 : decode cX5_settled 11 = .ok (.iconst 2, 1) := by decide +kernel
theorem dX5_settled_12 : decode cX5_settled 12 = .ok (.irem, 1) := by decide +kernel
theorem dX5_settled_13 : decode cX5_settled 13 = .ok (.iadd, 1) := by decide +kernel
theorem dX5_settled_14 : decode cX5_settled 14 = .ok (.ireturn, 1) := by decide +kernel
theorem dX5_settlesAll_0 : decode cX5_settlesAll 0 = .ok (.aload_n 0, 1) := by decide +kernel
theorem dX5_settlesAll_1 : decode cX5_settlesAll 1 = .ok (.invokevirtual 175, 3) := by decide +kernel
theorem dX5_settlesAll_4 : decode cX5_settlesAll 4 = .ok (.iconst 0, 1) := by decide +kernel
theorem dX5_settlesAll_5 : decode cX5_settlesAll 5 = .ok (.istore_n 1, 1) := by decide +kernel
theorem dX5_settlesAll_6 : decode cX5_settlesAll 6 = .ok (.iconst 0, 1) := by decide +kernel
theorem dX5_settlesAll_7 : decode cX5_settlesAll 7 = .ok (.istore_n 2, 1) := by decide +kernel
theorem dX5_settlesAll_8 : decode cX5_settlesAll 8 = .ok (.iload_n 2, 1) := by decide +kernel
theorem dX5_settlesAll_9 : decode cX5_settlesAll 9 = .ok (.aload_n 0, 1) := by decide +kernel
theorem dX5_settlesAll_10 : decode cX5_settlesAll 10 = .ok (.getfield 7, 3) := by decide +kernel
theorem dX5_settlesAll_13 : decode cX5_settlesAll 13 = .ok (.iconst 1, 1) := by decide +kernel
theorem dX5_settlesAll_14 : decode cX5_settlesAll 14 = .ok (.iaload, 1) := by decide +kernel
theorem dX5_settlesAll_15 : decode cX5_settlesAll 15 = .ok (.if_icmp .ge 33, 3) := by decide +kernel
theorem dX5_settlesAll_18 : decode cX5_settlesAll 18 = .ok (.aload_n 0, 1) := by decide +kernel
theorem dX5_settlesAll_19 : decode cX5_settlesAll 19 = .ok (.getfield 43, 3) := by decide +kernel
theorem dX5_settlesAll_22 : decode cX5_settlesAll 22 = .ok (.iload_n 2, 1) := by decide +kernel
theorem dX5_settlesAll_23 : decode cX5_settlesAll 23 = .ok (.iload_n 1, 1) := by decide +kernel
theorem dX5_settlesAll_24 : decode cX5_settlesAll 24 = .ok (.iastore, 1) := by decide +kernel
theorem dX5_settlesAll_25 : decode cX5_settlesAll 25 = .ok (.iload_n 1, 1) := by decide +kernel
theorem dX5_settlesAll_26 : decode cX5_settlesAll 26 = .ok (.aload_n 0, 1) := by decide +kernel
theorem dX5_settlesAll_27 : decode cX5_settlesAll 27 = .ok (.getfield 40, 3) := by decide +kernel
theorem dX5_settlesAll_30 : decode cX5_settlesAll 30 = .ok (.iload_n 2, 1) := by decide +kernel
theorem dX5_settlesAll_31 : decode cX5_settlesAll 31 = .ok (.iaload, 1) := by decide +kernel
theorem dX5_settlesAll_32 : decode cX5_settlesAll 32 = .ok (.ifCond .ne 7, 3) := by decide +kernel
theorem dX5_settlesAll_35 : decode cX5_settlesAll 35 = .ok (.iconst 1, 1) := by decide +kernel
theorem dX5_settlesAll_36 : decode cX5_settlesAll 36 = .ok (.goto 4, 3) := by decide +kernel
theorem dX5_settlesAll_39 : decode cX5_settlesAll 39 = .ok (.iconst 0, 1) := by decide +kernel
theorem dX5_settlesAll_40 : decode cX5_settlesAll 40 = .ok (.iadd, 1) := by decide +kernel
theorem dX5_settlesAll_41 : decode cX5_settlesAll 41 = .ok (.istore_n 1, 1) := by decide +kernel
theorem dX5_settlesAll_42 : decode cX5_settlesAll 42 = .ok (.iinc 2 1, 3) := by decide +kernel
theorem dX5_settlesAll_45 : decode cX5_settlesAll 45 = .ok (.goto (-37), 3) := by decide +kernel
theorem dX5_settlesAll_48 : decode cX5_settlesAll 48 = .ok (.iconst 0, 1) := by decide +kernel
theorem dX5_settlesAll_49 : decode cX5_settlesAll 49 = .ok (.istore_n 2, 1) := by decide +kernel
theorem dX5_settlesAll_50 : decode cX5_settlesAll 50 = .ok (.iload_n 2, 1) := by decide +kernel
theorem dX5_settlesAll_51 : decode cX5_settlesAll 51 = .ok (.bipush 12, 2) := by decide +kernel
theorem dX5_settlesAll_53 : decode cX5_settlesAll 53 = .ok (.if_icmp .ge 68, 3) := by decide +kernel
theorem dX5_settlesAll_56 : decode cX5_settlesAll 56 = .ok (.iload_n 2, 1) := by decide +kernel
theorem dX5_settlesAll_57 : decode cX5_settlesAll 57 = .ok (.bipush 6, 2) := by decide +kernel
theorem dX5_settlesAll_59 : decode cX5_settlesAll 59 = .ok (.irem, 1) := by decide +kernel
theorem dX5_settlesAll_60 : decode cX5_settlesAll 60 = .ok (.aload_n 0, 1) := by decide +kernel
theorem dX5_settlesAll_61 : decode cX5_settlesAll 61 = .ok (.getfield 7, 3) := by decide +kernel
theorem dX5_settlesAll_64 : decode cX5_settlesAll 64 = .ok (.bipush 98, 2) := by decide +kernel
theorem dX5_settlesAll_66 : decode cX5_settlesAll 66 = .ok (.iload_n 2, 1) := by decide +kernel
theorem dX5_settlesAll_67 : decode cX5_settlesAll 67 = .ok (.bipush 6, 2) := by decide +kernel
theorem dX5_settlesAll_69 : decode cX5_settlesAll 69 = .ok (.idiv, 1) := by decide +kernel
theorem dX5_settlesAll_70 : decode cX5_settlesAll 70 = .ok (.iadd, 1) := by decide +kernel
theorem dX5_settlesAll_71 : decode cX5_settlesAll 71 = .ok (.iaload, 1) := by decide +kernel
theorem dX5_settlesAll_72 : decode cX5_settlesAll 72 = .ok (.if_icmp .ge 7, 3) := by decide +kernel
theorem dX5_settlesAll_75 : decode cX5_settlesAll 75 = .ok (.iconst 1, 1) := by decide +kernel
theorem dX5_settlesAll_76 : decode cX5_settlesAll 76 = .ok (.goto 4, 3) := by decide +kernel
theorem dX5_settlesAll_79 : decode cX5_settlesAll 79 = .ok (.iconst 0, 1) := by decide +kernel
theorem dX5_settlesAll_80 : decode cX5_settlesAll 80 = .ok (.istore_n 3, 1) := by decide +kernel
theorem dX5_settlesAll_81 : decode cX5_settlesAll 81 = .ok (.aload_n 0, 1) := by decide +kernel
theorem dX5_settlesAll_82 : decode cX5_settlesAll 82 = .ok (.getfield 7, 3) := by decide +kernel
theorem dX5_settlesAll_85 : decode cX5_settlesAll 85 = .ok (.bipush 100, 2) := by decide +kernel
theorem dX5_settlesAll_87 : decode cX5_settlesAll 87 = .ok (.iload_n 2, 1) := by decide +kernel
theorem dX5_settlesAll_88 : decode cX5_settlesAll 88 = .ok (.iadd, 1) := by decide +kernel
theorem dX5_settlesAll_89 : decode cX5_settlesAll 89 = .ok (.iload_n 3, 1) := by decide +kernel
theorem dX5_settlesAll_90 : decode cX5_settlesAll 90 = .ok (.ifCond .eq 23, 3) := by decide +kernel
theorem dX5_settlesAll_93 : decode cX5_settlesAll 93 = .ok (.aload_n 0, 1) := by decide +kernel
theorem dX5_settlesAll_94 : decode cX5_settlesAll 94 = .ok (.aload_n 0, 1) := by decide +kernel
theorem dX5_settlesAll_95 : decode cX5_settlesAll 95 = .ok (.aload_n 0, 1) := by decide +kernel
theorem dX5_settlesAll_96 : decode cX5_settlesAll 96 = .ok (.getfield 7, 3) := by decide +kernel
theorem dX5_settlesAll_99 : decode cX5_settlesAll 99 = .ok (.bipush 100, 2) := by decide +kernel
theorem dX5_settlesAll_101 : decode cX5_settlesAll 101 = .ok (.iload_n 2, 1) := by decide +kernel
theorem dX5_settlesAll_102 : decode cX5_settlesAll 102 = .ok (.iadd, 1) := by decide +kernel
theorem dX5_settlesAll_103 : decode cX5_settlesAll 103 = .ok (.iaload, 1) := by decide +kernel
theorem dX5_settlesAll_104 : decode cX5_settlesAll 104 = .ok (.invokevirtual 159, 3) := by decide +kernel
theorem dX5_settlesAll_107 : decode cX5_settlesAll 107 = .ok (.invokevirtual 178, 3) := by decide +kernel
theorem dX5_settlesAll_110 : decode cX5_settlesAll 110 = .ok (.goto 4, 3) := by decide +kernel
theorem dX5_settlesAll_113 : decode cX5_settlesAll 113 = .ok (.iconst 0, 1) := by decide +kernel
theorem dX5_settlesAll_114 : decode cX5_settlesAll 114 = .ok (.iastore, 1) := by decide +kernel
theorem dX5_settlesAll_115 : decode cX5_settlesAll 115 = .ok (.iinc 2 1, 3) := by decide +kernel
theorem dX5_settlesAll_118 : decode cX5_settlesAll 118 = .ok (.goto (-68), 3) := by decide +kernel
theorem dX5_settlesAll_121 : decode cX5_settlesAll 121 = .ok (.aload_n 0, 1) := by decide +kernel
theorem dX5_settlesAll_122 : decode cX5_settlesAll 122 = .ok (.getfield 7, 3) := by decide +kernel
theorem dX5_settlesAll_125 : decode cX5_settlesAll 125 = .ok (.iconst 0, 1) := by decide +kernel
theorem dX5_settlesAll_126 : decode cX5_settlesAll 126 = .ok (.iaload, 1) := by decide +kernel
theorem dX5_settlesAll_127 : decode cX5_settlesAll 127 = .ok (.iconst 1, 1) := by decide +kernel
theorem dX5_settlesAll_128 : decode cX5_settlesAll 128 = .ok (.iadd, 1) := by decide +kernel
theorem dX5_settlesAll_129 : decode cX5_settlesAll 129 = .ok (.istore_n 2, 1) := by decide +kernel
theorem dX5_settlesAll_130 : decode cX5_settlesAll 130 = .ok (.iload_n 2, 1) := by decide +kernel
theorem dX5_settlesAll_131 : decode cX5_settlesAll 131 = .ok (.aload_n 0, 1) := by decide +kernel
theorem dX5_settlesAll_132 : decode cX5_settlesAll 132 = .ok (.getfield 7, 3) := by decide +kernel
theorem dX5_settlesAll_135 : decode cX5_settlesAll 135 = .ok (.iconst 1, 1) := by decide +kernel
theorem dX5_settlesAll_136 : decode cX5_settlesAll 136 = .ok (.iaload, 1) := by decide +kernel
theorem dX5_settlesAll_137 : decode cX5_settlesAll 137 = .ok (.if_icmp .ge 65, 3) := by decide +kernel
theorem dX5_settlesAll_140 : decode cX5_settlesAll 140 = .ok (.aload_n 0, 1) := by decide +kernel
theorem dX5_settlesAll_141 : decode cX5_settlesAll 141 = .ok (.getfield 40, 3) := by decide +kernel
theorem dX5_settlesAll_144 : decode cX5_settlesAll 144 = .ok (.iload_n 2, 1) := by decide +kernel
theorem dX5_settlesAll_145 : decode cX5_settlesAll 145 = .ok (.iaload, 1) := by decide +kernel
theorem dX5_settlesAll_146 : decode cX5_settlesAll 146 = .ok (.ifCond .ne 50, 3) := by decide +kernel
theorem dX5_settlesAll_149 : decode cX5_settlesAll 149 = .ok (.aload_n 0, 1) := by decide +kernel
theorem dX5_settlesAll_150 : decode cX5_settlesAll 150 = .ok (.getfield 7, 3) := by decide +kernel
theorem dX5_settlesAll_153 : decode cX5_settlesAll 153 = .ok (.iconst 2, 1) := by decide +kernel
theorem dX5_settlesAll_154 : decode cX5_settlesAll 154 = .ok (.aload_n 0, 1) := by decide +kernel
theorem dX5_settlesAll_155 : decode cX5_settlesAll 155 = .ok (.getfield 43, 3) := by decide +kernel
theorem dX5_settlesAll_158 : decode cX5_settlesAll 158 = .ok (.iload_n 2, 1) := by decide +kernel
theorem dX5_settlesAll_159 : decode cX5_settlesAll 159 = .ok (.iaload, 1) := by decide +kernel
theorem dX5_settlesAll_160 : decode cX5_settlesAll 160 = .ok (.iadd, 1) := by decide +kernel
theorem dX5_settlesAll_161 : decode cX5_settlesAll 161 = .ok (.aload_n 0, 1) := by decide +kernel
theorem dX5_settlesAll_162 : decode cX5_settlesAll 162 = .ok (.aload_n 0, 1) := by decide +kernel
theorem dX5_settlesAll_163 : decode cX5_settlesAll 163 = .ok (.getfield 34, 3) := by decide +kernel
theorem dX5_settlesAll_166 : decode cX5_settlesAll 166 = .ok (.iload_n 2, 1) := by decide +kernel
theorem dX5_settlesAll_167 : decode cX5_settlesAll 167 = .ok (.iaload, 1) := by decide +kernel
theorem dX5_settlesAll_168 : decode cX5_settlesAll 168 = .ok (.invokevirtual 178, 3) := by decide +kernel
theorem dX5_settlesAll_171 : decode cX5_settlesAll 171 = .ok (.iastore, 1) := by decide +kernel
theorem dX5_settlesAll_172 : decode cX5_settlesAll 172 = .ok (.aload_n 0, 1) := by decide +kernel
theorem dX5_settlesAll_173 : decode cX5_settlesAll 173 = .ok (.getfield 7, 3) := by decide +kernel
theorem dX5_settlesAll_176 : decode cX5_settlesAll 176 = .ok (.bipush 50, 2) := by decide +kernel
theorem dX5_settlesAll_178 : decode cX5_settlesAll 178 = .ok (.aload_n 0, 1) := by decide +kernel
theorem dX5_settlesAll_179 : decode cX5_settlesAll 179 = .ok (.getfield 43, 3) := by decide +kernel
theorem dX5_settlesAll_182 : decode cX5_settlesAll 182 = .ok (.iload_n 2, 1) := by decide +kernel
theorem dX5_settlesAll_183 : decode cX5_settlesAll 183 = .ok (.iaload, 1) := by decide +kernel
theorem dX5_settlesAll_184 : decode cX5_settlesAll 184 = .ok (.iadd, 1) := by decide +kernel
theorem dX5_settlesAll_185 : decode cX5_settlesAll 185 = .ok (.aload_n 0, 1) := by decide +kernel
theorem dX5_settlesAll_186 : decode cX5_settlesAll 186 = .ok (.aload_n 0, 1) := by decide +kernel
theorem dX5_settlesAll_187 : decode cX5_settlesAll 187 = .ok (.getfield 37, 3) := by decide +kernel
theorem dX5_settlesAll_190 : decode cX5_settlesAll 190 = .ok (.iload_n 2, 1) := by decide +kernel
theorem dX5_settlesAll_191 : decode cX5_settlesAll 191 = .ok (.iaload, 1) := by decide +kernel
theorem dX5_settlesAll_192 : decode cX5_settlesAll 192 = .ok (.invokevirtual 178, 3) := by decide +kernel
theorem dX5_settlesAll_195 : decode cX5_settlesAll 195 = .ok (.iastore, 1) := by decide +kernel
theorem dX5_settlesAll_196 : decode cX5_settlesAll 196 = .ok (.iinc 2 1, 3) := by decide +kernel
theorem dX5_settlesAll_199 : decode cX5_settlesAll 199 = .ok (.goto (-69), 3) := by decide +kernel
theorem dX5_settlesAll_202 : decode cX5_settlesAll 202 = .ok (.aload_n 0, 1) := by decide +kernel
theorem dX5_settlesAll_203 : decode cX5_settlesAll 203 = .ok (.getfield 7, 3) := by decide +kernel
theorem dX5_settlesAll_206 : decode cX5_settlesAll 206 = .ok (.iconst 1, 1) := by decide +kernel
theorem dX5_settlesAll_207 : decode cX5_settlesAll 207 = .ok (.iaload, 1) := by decide +kernel
theorem dX5_settlesAll_208 : decode cX5_settlesAll 208 = .ok (.iload_n 1, 1) := by decide +kernel
theorem dX5_settlesAll_209 : decode cX5_settlesAll 209 = .ok (.isub, 1) := by decide +kernel
theorem dX5_settlesAll_210 : decode cX5_settlesAll 210 = .ok (.istore_n 2, 1) := by decide +kernel
theorem dX5_settlesAll_211 : decode cX5_settlesAll 211 = .ok (.aload_n 0, 1) := by decide +kernel
theorem dX5_settlesAll_212 : decode cX5_settlesAll 212 = .ok (.getfield 7, 3) := by decide +kernel
theorem dX5_settlesAll_215 : decode cX5_settlesAll 215 = .ok (.iconst 1, 1) := by decide +kernel
theorem dX5_settlesAll_216 : decode cX5_settlesAll 216 = .ok (.iload_n 1, 1) := by decide +kernel
theorem dX5_settlesAll_217 : decode cX5_settlesAll 217 = .ok (.iastore, 1) := by decide +kernel
theorem dX5_settlesAll_218 : decode cX5_settlesAll 218 = .ok (.iload_n 2, 1) := by decide +kernel
theorem dX5_settlesAll_219 : decode cX5_settlesAll 219 = .ok (.ireturn, 1) := by decide +kernel
theorem dX5_settles_0 : decode cX5_settles 0 = .ok (.aload_n 0, 1) := by decide +kernel
theorem dX5_settles_1 : decode cX5_settles 1 = .ok (.invokevirtual 101, 3) := by decide +kernel
theorem dX5_settles_4 : decode cX5_settles 4 = .ok (.aload_n 0, 1) := by decide +kernel
theorem dX5_settles_5 : decode cX5_settles 5 = .ok (.aload_n 0, 1) := by decide +kernel
theorem dX5_settles_6 : decode cX5_settles 6 = .ok (.invokevirtual 181, 3) := by decide +kernel
theorem dX5_settles_9 : decode cX5_settles 9 = .ok (.invokevirtual 107, 3) := by decide +kernel
theorem dX5_settles_12 : decode cX5_settles 12 = .ok (.ireturn, 1) := by decide +kernel
theorem dX5_of_0 : decode cX5_of 0 = .ok (.aload_n 0, 1) := by decide +kernel
theorem dX5_of_1 : decode cX5_of 1 = .ok (.iload_n 1, 1) := by decide +kernel
theorem dX5_of_2 : decode cX5_of 2 = .ok (.invokevirtual 184, 3) := by decide +kernel
theorem dX5_of_5 : decode cX5_of 5 = .ok (.ifCond .eq 10, 3) := by decide +kernel
theorem dX5_of_8 : decode cX5_of 8 = .ok (.iload_n 2, 1) := by decide +kernel
theorem dX5_of_9 : decode cX5_of 9 = .ok (.invokestatic 95, 3) := by decide +kernel
theorem dX5_of_12 : decode cX5_of 12 = .ok (.ifCond .ne 8, 3) := by decide +kernel
theorem dX5_of_15 : decode cX5_of 15 = .ok (.aload_n 0, 1) := by decide +kernel
theorem dX5_of_16 : decode cX5_of 16 = .ok (.invokevirtual 77, 3) := by decide +kernel
theorem dX5_of_19 : decode cX5_of 19 = .ok (.ireturn, 1) := by decide +kernel
theorem dX5_of_20 : decode cX5_of 20 = .ok (.aload_n 0, 1) := by decide +kernel
theorem dX5_of_21 : decode cX5_of 21 = .ok (.getfield 7, 3) := by decide +kernel
theorem dX5_of_24 : decode cX5_of 24 = .ok (.iload_n 2, 1) := by decide +kernel
theorem dX5_of_25 : decode cX5_of 25 = .ok (.ifCond .ne 7, 3) := by decide +kernel
theorem dX5_of_28 : decode cX5_of 28 = .ok (.iconst 2, 1) := by decide +kernel
theorem dX5_of_29 : decode cX5_of 29 = .ok (.goto 5, 3) := by decide +kernel
theorem dX5_of_32 : decode cX5_of 32 = .ok (.bipush 50, 2) := by decide +kernel
theorem dX5_of_34 : decode cX5_of 34 = .ok (.iload_n 1, 1) := by decide +kernel
theorem dX5_of_35 : decode cX5_of 35 = .ok (.iadd, 1) := by decide +kernel
theorem dX5_of_36 : decode cX5_of 36 = .ok (.iaload, 1) := by decide +kernel
theorem dX5_of_37 : decode cX5_of 37 = .ok (.ireturn, 1) := by decide +kernel
theorem dX5_table_0 : decode cX5_table 0 = .ok (.aload_n 0, 1) := by decide +kernel
theorem dX5_table_1 : decode cX5_table 1 = .ok (.iload_n 1, 1) := by decide +kernel
theorem dX5_table_2 : decode cX5_table 2 = .ok (.invokevirtual 80, 3) := by decide +kernel
theorem dX5_table_5 : decode cX5_table 5 = .ok (.ifCond .eq 11, 3) := by decide +kernel
theorem dX5_table_8 : decode cX5_table 8 = .ok (.aload_n 0, 1) := by decide +kernel
theorem dX5_table_9 : decode cX5_table 9 = .ok (.iload_n 1, 1) := by decide +kernel
theorem dX5_table_10 : decode cX5_table 10 = .ok (.invokevirtual 187, 3) := by decide +kernel
theorem dX5_table_13 : decode cX5_table 13 = .ok (.goto 7, 3) := by decide +kernel
theorem dX5_table_16 : decode cX5_table 16 = .ok (.aload_n 0, 1) := by decide +kernel
theorem dX5_table_17 : decode cX5_table 17 = .ok (.invokevirtual 77, 3) := by decide +kernel
theorem dX5_table_20 : decode cX5_table 20 = .ok (.ireturn, 1) := by decide +kernel
theorem dX5_at_0 : decode cX5_at 0 = .ok (.aload_n 0, 1) := by decide +kernel
theorem dX5_at_1 : decode cX5_at 1 = .ok (.iload_n 1, 1) := by decide +kernel
theorem dX5_at_2 : decode cX5_at 2 = .ok (.invokevirtual 80, 3) := by decide +kernel
theorem dX5_at_5 : decode cX5_at 5 = .ok (.ifCond .eq 29, 3) := by decide +kernel
theorem dX5_at_8 : decode cX5_at 8 = .ok (.iload_n 2, 1) := by decide +kernel
theorem dX5_at_9 : decode cX5_at 9 = .ok (.iconst 0, 1) := by decide +kernel
theorem dX5_at_10 : decode cX5_at 10 = .ok (.aload_n 0, 1) := by decide +kernel
theorem dX5_at_11 : decode cX5_at 11 = .ok (.invokevirtual 98, 3) := by decide +kernel
theorem dX5_at_14 : decode cX5_at 14 = .ok (.iconst 1, 1) := by decide +kernel
theorem dX5_at_15 : decode cX5_at 15 = .ok (.isub, 1) := by decide +kernel
theorem dX5_at_16 : decode cX5_at 16 = .ok (.invokestatic 55, 3) := by decide +kernel
theorem dX5_at_19 : decode cX5_at 19 = .ok (.ifCond .eq 15, 3) := by decide +kernel
theorem dX5_at_22 : decode cX5_at 22 = .ok (.aload_n 0, 1) := by decide +kernel
theorem dX5_at_23 : decode cX5_at 23 = .ok (.iload_n 1, 1) := by decide +kernel
theorem dX5_at_24 : decode cX5_at 24 = .ok (.invokevirtual 187, 3) := by decide +kernel
theorem dX5_at_27 : decode cX5_at 27 = .ok (.iload_n 2, 1) := by decide +kernel
theorem dX5_at_28 : decode cX5_at 28 = .ok (.ishr, 1) := by decide +kernel
theorem dX5_at_29 : decode cX5_at 29 = .ok (.iconst 1, 1) := by decide +kernel
theorem dX5_at_30 : decode cX5_at 30 = .ok (.iand, 1) := by decide +kernel
theorem dX5_at_31 : decode cX5_at 31 = .ok (.goto 7, 3) := by decide +kernel
theorem dX5_at_34 : decode cX5_at 34 = .ok (.aload_n 0, 1) := by decide +kernel
theorem dX5_at_35 : decode cX5_at 35 = .ok (.invokevirtual 77, 3) := by decide +kernel
theorem dX5_at_38 : decode cX5_at 38 = .ok (.ireturn, 1) := by decide +kernel
theorem dX5_depthOf_0 : decode cX5_depthOf 0 = .ok (.iconst 0, 1) := by decide +kernel
theorem dX5_depthOf_1 : decode cX5_depthOf 1 = .ok (.istore_n 2, 1) := by decide +kernel
theorem dX5_depthOf_2 : decode cX5_depthOf 2 = .ok (.iload_n 2, 1) := by decide +kernel
theorem dX5_depthOf_3 : decode cX5_depthOf 3 = .ok (.iload_n 1, 1) := by decide +kernel
theorem dX5_depthOf_4 : decode cX5_depthOf 4 = .ok (.if_icmp .gt 80, 3) := by decide +kernel
theorem dX5_depthOf_7 : decode cX5_depthOf 7 = .ok (.aload_n 0, 1) := by decide +kernel
theorem dX5_depthOf_8 : decode cX5_depthOf 8 = .ok (.getfield 46, 3) := by decide +kernel
theorem dX5_depthOf_11 : decode cX5_depthOf 11 = .ok (.iload_n 2, 1) := by decide +kernel
theorem dX5_depthOf_12 : decode cX5_depthOf 12 = .ok (.iconst 0, 1) := by decide +kernel
theorem dX5_depthOf_13 : decode cX5_depthOf 13 = .ok (.iastore, 1) := by decide +kernel
theorem dX5_depthOf_14 : decode cX5_depthOf 14 = .ok (.iload_n 2, 1) := by decide +kernel
theorem dX5_depthOf_15 : decode cX5_depthOf 15 = .ok (.aload_n 0, 1) := by decide +kernel
theorem dX5_depthOf_16 : decode cX5_depthOf 16 = .ok (.getfield 7, 3) := by decide +kernel
theorem dX5_depthOf_19 : decode cX5_depthOf 19 = .ok (.iconst 0, 1) := by decide +kernel
theorem dX5_depthOf_20 : decode cX5_depthOf 20 = .ok (.iaload, 1) := by decide +kernel
theorem dX5_depthOf_21 : decode cX5_depthOf 21 = .ok (.if_icmp .le 57, 3) := by decide +kernel
theorem dX5_depthOf_24 : decode cX5_depthOf 24 = .ok (.aload_n 0, 1) := by decide +kernel
theorem dX5_depthOf_25 : decode cX5_depthOf 25 = .ok (.getfield 46, 3) := by decide +kernel
theorem dX5_depthOf_28 : decode cX5_depthOf 28 = .ok (.aload_n 0, 1) := by decide +kernel
theorem dX5_depthOf_29 : decode cX5_depthOf 29 = .ok (.getfield 7, 3) := by decide +kernel
theorem dX5_depthOf_32 : decode cX5_depthOf 32 = .ok (.iconst 2, 1) := by decide +kernel
theorem dX5_depthOf_33 : decode cX5_depthOf 33 = .ok (.iload_n 2, 1) := by decide +kernel
theorem dX5_depthOf_34 : decode cX5_depthOf 34 = .ok (.iadd, 1) := by decide +kernel
theorem dX5_depthOf_35 : decode cX5_depthOf 35 = .ok (.iaload, 1) := by decide +kernel
theorem dX5_depthOf_36 : decode cX5_depthOf 36 = .ok (.iconst 2, 1) := by decide +kernel
theorem dX5_depthOf_37 : decode cX5_depthOf 37 = .ok (.idiv, 1) := by decide +kernel
theorem dX5_depthOf_38 : decode cX5_depthOf 38 = .ok (.iaload, 1) := by decide +kernel
theorem dX5_depthOf_39 : decode cX5_depthOf 39 = .ok (.istore_n 3, 1) := by decide +kernel
theorem dX5_depthOf_40 : decode cX5_depthOf 40 = .ok (.aload_n 0, 1) := by decide +kernel
theorem dX5_depthOf_41 : decode cX5_depthOf 41 = .ok (.getfield 46, 3) := by decide +kernel
theorem dX5_depthOf_44 : decode cX5_depthOf 44 = .ok (.aload_n 0, 1) := by decide +kernel
theorem dX5_depthOf_45 : decode cX5_depthOf 45 = .ok (.getfield 7, 3) := by decide +kernel
theorem dX5_depthOf_48 : decode cX5_depthOf 48 = .ok (.bipush 50, 2) := by decide +kernel
theorem dX5_depthOf_50 : decode cX5_depthOf 50 = .ok (.iload_n 2, 1) := by decide +kernel
theorem dX5_depthOf_51 : decode cX5_depthOf 51 = .ok (.iadd, 1) := by decide +kernel
theorem dX5_depthOf_52 : decode cX5_depthOf 52 = .ok (.iaload, 1) := by decide +kernel
theorem dX5_depthOf_53 : decode cX5_depthOf 53 = .ok (.iconst 2, 1) := by decide +kernel
theorem dX5_depthOf_54 : decode cX5_depthOf 54 = .ok (.idiv, 1) := by decide +kernel
theorem dX5_depthOf_55 : decode cX5_depthOf 55 = .ok (.iaload, 1) := by decide +kernel
theorem dX5_depthOf_56 : decode cX5_depthOf 56 = .ok (.istore 4, 2) := by decide +kernel
theorem dX5_depthOf_58 : decode cX5_depthOf 58 = .ok (.aload_n 0, 1) := by decide +kernel
theorem dX5_depthOf_59 : decode cX5_depthOf 59 = .ok (.getfield 46, 3) := by decide +kernel
theorem dX5_depthOf_62 : decode cX5_depthOf 62 = .ok (.iload_n 2, 1) := by decide +kernel
theorem dX5_depthOf_63 : decode cX5_depthOf 63 = .ok (.iconst 1, 1) := by decide +kernel
theorem dX5_depthOf_64 : decode cX5_depthOf 64 = .ok (.iload_n 3, 1) := by decide +kernel
theorem dX5_depthOf_65 : decode cX5_depthOf 65 = .ok (.iload 4, 2) := by decide +kernel
theorem dX5_depthOf_67 : decode cX5_depthOf 67 = .ok (.if_icmp .le 7, 3) := by decide +kernel
theorem dX5_depthOf_70 : decode cX5_depthOf 70 = .ok (.iload_n 3, 1) := by decide +kernel
theorem dX5_depthOf_71 : decode cX5_depthOf 71 = .ok (.goto 5, 3) := by decide +kernel
theorem dX5_depthOf_74 : decode cX5_depthOf 74 = .ok (.iload 4, 2) := by decide +kernel
theorem dX5_depthOf_76 : decode cX5_depthOf 76 = .ok (.iadd, 1) := by decide +kernel
theorem dX5_depthOf_77 : decode cX5_depthOf 77 = .ok (.iastore, 1) := by decide +kernel
theorem dX5_depthOf_78 : decode cX5_depthOf 78 = .ok (.iinc 2 1, 3) := by decide +kernel
theorem dX5_depthOf_81 : decode cX5_depthOf 81 = .ok (.goto (-79), 3) := by decide +kernel
theorem dX5_depthOf_84 : decode cX5_depthOf 84 = .ok (.aload_n 0, 1) := by decide +kernel
theorem dX5_depthOf_85 : decode cX5_depthOf 85 = .ok (.getfield 46, 3) := by decide +kernel
theorem dX5_depthOf_88 : decode cX5_depthOf 88 = .ok (.iload_n 1, 1) := by decide +kernel
theorem dX5_depthOf_89 : decode cX5_depthOf 89 = .ok (.iaload, 1) := by decide +kernel
theorem dX5_depthOf_90 : decode cX5_depthOf 90 = .ok (.ireturn, 1) := by decide +kernel
theorem dX5_depth_0 : decode cX5_depth 0 = .ok (.aload_n 0, 1) := by decide +kernel
theorem dX5_depth_1 : decode cX5_depth 1 = .ok (.iload_n 1, 1) := by decide +kernel
theorem dX5_depth_2 : decode cX5_depth 2 = .ok (.invokevirtual 80, 3) := by decide +kernel
theorem dX5_depth_5 : decode cX5_depth 5 = .ok (.ifCond .eq 13, 3) := by decide +kernel
theorem dX5_depth_8 : decode cX5_depth 8 = .ok (.aload_n 0, 1) := by decide +kernel
theorem dX5_depth_9 : decode cX5_depth 9 = .ok (.iload_n 1, 1) := by decide +kernel
theorem dX5_depth_10 : decode cX5_depth 10 = .ok (.iconst 2, 1) := by decide +kernel
theorem dX5_depth_11 : decode cX5_depth 11 = .ok (.idiv, 1) := by decide +kernel
theorem dX5_depth_12 : decode cX5_depth 12 = .ok (.invokevirtual 190, 3) := by decide +kernel
theorem dX5_depth_15 : decode cX5_depth 15 = .ok (.goto 7, 3) := by decide +kernel
theorem dX5_depth_18 : decode cX5_depth 18 = .ok (.aload_n 0, 1) := by decide +kernel
theorem dX5_depth_19 : decode cX5_depth 19 = .ok (.invokevirtual 77, 3) := by decide +kernel
theorem dX5_depth_22 : decode cX5_depth 22 = .ok (.ireturn, 1) := by decide +kernel
theorem dX5_coneOf_0 : decode cX5_coneOf 0 = .ok (.lconst 1, 1) := by decide +kernel
theorem dX5_coneOf_1 : decode cX5_coneOf 1 = .ok (.iload_n 1, 1) := by decide +kernel
theorem dX5_coneOf_2 : decode cX5_coneOf 2 = .ok (.lshl, 1) := by decide +kernel
theorem dX5_coneOf_3 : decode cX5_coneOf 3 = .ok (.lstore_n 2, 1) := by decide +kernel
theorem dX5_coneOf_4 : decode cX5_coneOf 4 = .ok (.iconst 0, 1) := by decide +kernel
theorem dX5_coneOf_5 : decode cX5_coneOf 5 = .ok (.istore 4, 2) := by decide +kernel
theorem dX5_coneOf_7 : decode cX5_coneOf 7 = .ok (.iload_n 1, 1) := by decide +kernel
theorem dX5_coneOf_8 : decode cX5_coneOf 8 = .ok (.istore 5, 2) := by decide +kernel
theorem dX5_coneOf_10 : decode cX5_coneOf 10 = .ok (.iload 5, 2) := by decide +kernel
theorem dX5_coneOf_12 : decode cX5_coneOf 12 = .ok (.aload_n 0, 1) := by decide +kernel
theorem dX5_coneOf_13 : decode cX5_coneOf 13 = .ok (.getfield 7, 3) := by decide +kernel
theorem dX5_coneOf_16 : decode cX5_coneOf 16 = .ok (.iconst 0, 1) := by decide +kernel
theorem dX5_coneOf_17 : decode cX5_coneOf 17 = .ok (.iaload, 1) := by decide +kernel
theorem dX5_coneOf_18 : decode cX5_coneOf 18 = .ok (.if_icmp .le 54, 3) := by decide +kernel
theorem dX5_coneOf_21 : decode cX5_coneOf 21 = .ok (.lload_n 2, 1) := by decide +kernel
theorem dX5_coneOf_22 : decode cX5_coneOf 22 = .ok (.iload 5, 2) := by decide +kernel
theorem dX5_coneOf_24 : decode cX5_coneOf 24 = .ok (.lshr, 1) := by decide +kernel
theorem dX5_coneOf_25 : decode cX5_coneOf 25 = .ok (.lconst 1, 1) := by decide +kernel
theorem dX5_coneOf_26 : decode cX5_coneOf 26 = .ok (.land, 1) := by decide +kernel
theorem dX5_coneOf_27 : decode cX5_coneOf 27 = .ok (.lconst 1, 1) := by decide +kernel
theorem dX5_coneOf_28 : decode cX5_coneOf 28 = .ok (.lcmp, 1) := by decide +kernel
theorem dX5_coneOf_29 : decode cX5_coneOf 29 = .ok (.ifCond .ne 37, 3) := by decide +kernel
theorem dX5_coneOf_32 : decode cX5_coneOf 32 = .ok (.iinc 4 1, 3) := by decide +kernel
theorem dX5_coneOf_35 : decode cX5_coneOf 35 = .ok (.lload_n 2, 1) := by decide +kernel
theorem dX5_coneOf_36 : decode cX5_coneOf 36 = .ok (.lconst 1, 1) := by decide +kernel
theorem dX5_coneOf_37 : decode cX5_coneOf 37 = .ok (.aload_n 0, 1) := by decide +kernel
theorem dX5_coneOf_38 : decode cX5_coneOf 38 = .ok (.getfield 7, 3) := by decide +kernel
theorem dX5_coneOf_41 : decode cX5_coneOf 41 = .ok (.iconst 2, 1) := by decide +kernel
theorem dX5_coneOf_42 : decode cX5_coneOf 42 = .ok (.iload 5, 2) := by decide +kernel
theorem dX5_coneOf_44 : decode cX5_coneOf 44 = .ok (.iadd, 1) := by decide +kernel
theorem dX5_coneOf_45 : decode cX5_coneOf 45 = .ok (.iaload, 1) := by decide +kernel
theorem dX5_coneOf_46 : decode cX5_coneOf 46 = .ok (.iconst 2, 1) := by decide +kernel
theorem dX5_coneOf_47 : decode cX5_coneOf 47 = .ok (.idiv, 1) := by decide +kernel
theorem dX5_coneOf_48 : decode cX5_coneOf 48 = .ok (.lshl, 1) := by decide +kernel
theorem dX5_coneOf_49 : decode cX5_coneOf 49 = .ok (.lconst 1, 1) := by decide +kernel
theorem dX5_coneOf_50 : decode cX5_coneOf 50 = .ok (.aload_n 0, 1) := by decide +kernel
theorem dX5_coneOf_51 : decode cX5_coneOf 51 = .ok (.getfield 7, 3) := by decide +kernel
theorem dX5_coneOf_54 : decode cX5_coneOf 54 = .ok (.bipush 50, 2) := by decide +kernel
theorem dX5_coneOf_56 : decode cX5_coneOf 56 = .ok (.iload 5, 2) := by decide +kernel
theorem dX5_coneOf_58 : decode cX5_coneOf 58 = .ok (.iadd, 1) := by decide +kernel
theorem dX5_coneOf_59 : decode cX5_coneOf 59 = .ok (.iaload, 1) := by decide +kernel
theorem dX5_coneOf_60 : decode cX5_coneOf 60 = .ok (.iconst 2, 1) := by decide +kernel
theorem dX5_coneOf_61 : decode cX5_coneOf 61 = .ok (.idiv, 1) := by decide +kernel
theorem dX5_coneOf_62 : decode cX5_coneOf 62 = .ok (.lshl, 1) := by decide +kernel
theorem dX5_coneOf_63 : decode cX5_coneOf 63 = .ok (.lor, 1) := by decide +kernel
theorem dX5_coneOf_64 : decode cX5_coneOf 64 = .ok (.lor, 1) := by decide +kernel
theorem dX5_coneOf_65 : decode cX5_coneOf 65 = .ok (.lstore_n 2, 1) := by decide +kernel
theorem dX5_coneOf_66 : decode cX5_coneOf 66 = .ok (.iinc 5 (-1), 3) := by decide +kernel
theorem dX5_coneOf_69 : decode cX5_coneOf 69 = .ok (.goto (-59), 3) := by decide +kernel
theorem dX5_coneOf_72 : decode cX5_coneOf 72 = .ok (.iload 4, 2) := by decide +kernel
theorem dX5_coneOf_74 : decode cX5_coneOf 74 = .ok (.ireturn, 1) := by decide +kernel
theorem dX5_cone_0 : decode cX5_cone 0 = .ok (.aload_n 0, 1) := by decide +kernel
theorem dX5_cone_1 : decode cX5_cone 1 = .ok (.iload_n 1, 1) := by decide +kernel
theorem dX5_cone_2 : decode cX5_cone 2 = .ok (.invokevirtual 80, 3) := by decide +kernel
theorem dX5_cone_5 : decode cX5_cone 5 = .ok (.ifCond .eq 13, 3) := by decide +kernel
theorem dX5_cone_8 : decode cX5_cone 8 = .ok (.aload_n 0, 1) := by decide +kernel
theorem dX5_cone_9 : decode cX5_cone 9 = .ok (.iload_n 1, 1) := by decide +kernel
theorem dX5_cone_10 : decode cX5_cone 10 = .ok (.iconst 2, 1) := by decide +kernel
theorem dX5_cone_11 : decode cX5_cone 11 = .ok (.idiv, 1) := by decide +kernel
theorem dX5_cone_12 : decode cX5_cone 12 = .ok (.invokevirtual 193, 3) := by decide +kernel
theorem dX5_cone_15 : decode cX5_cone 15 = .ok (.goto 7, 3) := by decide +kernel
theorem dX5_cone_18 : decode cX5_cone 18 = .ok (.aload_n 0, 1) := by decide +kernel
theorem dX5_cone_19 : decode cX5_cone 19 = .ok (.invokevirtual 77, 3) := by decide +kernel
theorem dX5_cone_22 : decode cX5_cone 22 = .ok (.ireturn, 1) := by decide +kernel
theorem dX5_outs_0 : decode cX5_outs 0 = .ok (.iload_n 1, 1) := by decide +kernel
theorem dX5_outs_1 : decode cX5_outs 1 = .ok (.invokestatic 95, 3) := by decide +kernel
theorem dX5_outs_4 : decode cX5_outs 4 = .ok (.ifCond .eq 7, 3) := by decide +kernel
theorem dX5_outs_7 : decode cX5_outs 7 = .ok (.iload_n 2, 1) := by decide +kernel
theorem dX5_outs_8 : decode cX5_outs 8 = .ok (.ifCond .ge 8, 3) := by decide +kernel
theorem dX5_outs_11 : decode cX5_outs 11 = .ok (.aload_n 0, 1) := by decide +kernel
theorem dX5_outs_12 : decode cX5_outs 12 = .ok (.invokevirtual 77, 3) := by decide +kernel
theorem dX5_outs_15 : decode cX5_outs 15 = .ok (.ireturn, 1) := by decide +kernel
theorem dX5_outs_16 : decode cX5_outs 16 = .ok (.iload_n 2, 1) := by decide +kernel
theorem dX5_outs_17 : decode cX5_outs 17 = .ok (.aload_n 0, 1) := by decide +kernel
theorem dX5_outs_18 : decode cX5_outs 18 = .ok (.getfield 7, 3) := by decide +kernel
theorem dX5_outs_21 : decode cX5_outs 21 = .ok (.bipush 98, 2) := by decide +kernel
theorem dX5_outs_23 : decode cX5_outs 23 = .ok (.iload_n 1, 1) := by decide +kernel
theorem dX5_outs_24 : decode cX5_outs 24 = .ok (.iadd, 1) := by decide +kernel
theorem dX5_outs_25 : decode cX5_outs 25 = .ok (.iaload, 1) := by decide +kernel
theorem dX5_outs_26 : decode cX5_outs 26 = .ok (.if_icmp .ge 20, 3) := by decide +kernel
theorem dX5_outs_29 : decode cX5_outs 29 = .ok (.aload_n 0, 1) := by decide +kernel
theorem dX5_outs_30 : decode cX5_outs 30 = .ok (.getfield 7, 3) := by decide +kernel
theorem dX5_outs_33 : decode cX5_outs 33 = .ok (.bipush 100, 2) := by decide +kernel
theorem dX5_outs_35 : decode cX5_outs 35 = .ok (.bipush 6, 2) := by decide +kernel
theorem dX5_outs_37 : decode cX5_outs 37 = .ok (.iload_n 1, 1) := by decide +kernel
theorem dX5_outs_38 : decode cX5_outs 38 = .ok (.imul, 1) := by decide +kernel
theorem dX5_outs_39 : decode cX5_outs 39 = .ok (.iadd, 1) := by decide +kernel
theorem dX5_outs_40 : decode cX5_outs 40 = .ok (.iload_n 2, 1) := by decide +kernel
theorem dX5_outs_41 : decode cX5_outs 41 = .ok (.iadd, 1) := by decide +kernel
theorem dX5_outs_42 : decode cX5_outs 42 = .ok (.iaload, 1) := by decide +kernel
theorem dX5_outs_43 : decode cX5_outs 43 = .ok (.goto 4, 3) := by decide +kernel
theorem dX5_outs_46 : decode cX5_outs 46 = .ok (.iconst (-1), 1) := by decide +kernel
theorem dX5_outs_47 : decode cX5_outs 47 = .ok (.ireturn, 1) := by decide +kernel
theorem dX5_countOf_0 : decode cX5_countOf 0 = .ok (.iload_n 1, 1) := by decide +kernel
theorem dX5_countOf_1 : decode cX5_countOf 1 = .ok (.iconst 2, 1) := by decide +kernel
theorem dX5_countOf_2 : decode cX5_countOf 2 = .ok (.if_icmp .ge 12, 3) := by decide +kernel
theorem dX5_countOf_5 : decode cX5_countOf 5 = .ok (.aload_n 0, 1) := by decide +kernel
theorem dX5_countOf_6 : decode cX5_countOf 6 = .ok (.getfield 7, 3) := by decide +kernel
theorem dX5_countOf_9 : decode cX5_countOf 9 = .ok (.iload_n 1, 1) := by decide +kernel
theorem dX5_countOf_10 : decode cX5_countOf 10 = .ok (.iaload, 1) := by decide +kernel
theorem dX5_countOf_11 : decode cX5_countOf 11 = .ok (.goto 29, 3) := by decide +kernel
theorem dX5_countOf_14 : decode cX5_countOf 14 = .ok (.iload_n 1, 1) := by decide +kernel
theorem dX5_countOf_15 : decode cX5_countOf 15 = .ok (.iconst 4, 1) := by decide +kernel
theorem dX5_countOf_16 : decode cX5_countOf 16 = .ok (.if_icmp .ge 17, 3) := by decide +kernel
theorem dX5_countOf_19 : decode cX5_countOf 19 = .ok (.aload_n 0, 1) := by decide +kernel
theorem dX5_countOf_20 : decode cX5_countOf 20 = .ok (.getfield 7, 3) := by decide +kernel
theorem dX5_countOf_23 : decode cX5_countOf 23 = .ok (.bipush 98, 2) := by decide +kernel
theorem dX5_countOf_25 : decode cX5_countOf 25 = .ok (.iload_n 1, 1) := by decide +kernel
theorem dX5_countOf_26 : decode cX5_countOf 26 = .ok (.iadd, 1) := by decide +kernel
theorem dX5_countOf_27 : decode cX5_countOf 27 = .ok (.iconst 2, 1) := by decide +kernel
theorem dX5_countOf_28 : decode cX5_countOf 28 = .ok (.isub, 1) := by decide +kernel
theorem dX5_countOf_29 : decode cX5_countOf 29 = .ok (.iaload, 1) := by decide +kernel
theorem dX5_countOf_30 : decode cX5_countOf 30 = .ok (.goto 10, 3) := by decide +kernel
theorem dX5_countOf_33 : decode cX5_countOf 33 = .ok (.aload_n 0, 1) := by decide +kernel
theorem dX5_countOf_34 : decode cX5_countOf 34 = .ok (.getfield 7, 3) := by decide +kernel
theorem dX5_countOf_37 : decode cX5_countOf 37 = .ok (.bipush 112, 2) := by decide +kernel
theorem dX5_countOf_39 : decode cX5_countOf 39 = .ok (.iaload, 1) := by decide +kernel
theorem dX5_countOf_40 : decode cX5_countOf 40 = .ok (.ireturn, 1) := by decide +kernel
theorem dX5_count_0 : decode cX5_count 0 = .ok (.iload_n 1, 1) := by decide +kernel
theorem dX5_count_1 : decode cX5_count 1 = .ok (.iconst 0, 1) := by decide +kernel
theorem dX5_count_2 : decode cX5_count 2 = .ok (.iconst 4, 1) := by decide +kernel
theorem dX5_count_3 : decode cX5_count 3 = .ok (.invokestatic 55, 3) := by decide +kernel
theorem dX5_count_6 : decode cX5_count 6 = .ok (.ifCond .eq 11, 3) := by decide +kernel
theorem dX5_count_9 : decode cX5_count 9 = .ok (.aload_n 0, 1) := by decide +kernel
theorem dX5_count_10 : decode cX5_count 10 = .ok (.iload_n 1, 1) := by decide +kernel
theorem dX5_count_11 : decode cX5_count 11 = .ok (.invokevirtual 196, 3) := by decide +kernel
theorem dX5_count_14 : decode cX5_count 14 = .ok (.goto 7, 3) := by decide +kernel
theorem dX5_count_17 : decode cX5_count 17 = .ok (.aload_n 0, 1) := by decide +kernel
theorem dX5_count_18 : decode cX5_count 18 = .ok (.invokevirtual 77, 3) := by decide +kernel
theorem dX5_count_21 : decode cX5_count 21 = .ok (.ireturn, 1) := by decide +kernel
theorem dX5_signOf_0 : decode cX5_signOf 0 = .ok (.aload_n 0, 1) := by decide +kernel
theorem dX5_signOf_1 : decode cX5_signOf 1 = .ok (.getfield 25, 3) := by decide +kernel
theorem dX5_signOf_4 : decode cX5_signOf 4 = .ok (.iload_n 1, 1) := by decide +kernel
theorem dX5_signOf_5 : decode cX5_signOf 5 = .ok (.iaload, 1) := by decide +kernel
theorem dX5_signOf_6 : decode cX5_signOf 6 = .ok (.aload_n 0, 1) := by decide +kernel
theorem dX5_signOf_7 : decode cX5_signOf 7 = .ok (.getfield 7, 3) := by decide +kernel
theorem dX5_signOf_10 : decode cX5_signOf 10 = .ok (.bipush 112, 2) := by decide +kernel
theorem dX5_signOf_12 : decode cX5_signOf 12 = .ok (.iaload, 1) := by decide +kernel
theorem dX5_signOf_13 : decode cX5_signOf 13 = .ok (.bipush 113, 2) := by decide +kernel
theorem dX5_signOf_15 : decode cX5_signOf 15 = .ok (.aload_n 0, 1) := by decide +kernel
theorem dX5_signOf_16 : decode cX5_signOf 16 = .ok (.getfield 7, 3) := by decide +kernel
theorem dX5_signOf_19 : decode cX5_signOf 19 = .ok (.invokestatic 138, 3) := by decide +kernel
theorem dX5_signOf_22 : decode cX5_signOf 22 = .ok (.ireturn, 1) := by decide +kernel
theorem dX5_sign_0 : decode cX5_sign 0 = .ok (.aload_n 0, 1) := by decide +kernel
theorem dX5_sign_1 : decode cX5_sign 1 = .ok (.iload_n 1, 1) := by decide +kernel
theorem dX5_sign_2 : decode cX5_sign 2 = .ok (.invokevirtual 59, 3) := by decide +kernel
theorem dX5_sign_5 : decode cX5_sign 5 = .ok (.ifCond .ne 8, 3) := by decide +kernel
theorem dX5_sign_8 : decode cX5_sign 8 = .ok (.aload_n 0, 1) := by decide +kernel
theorem dX5_sign_9 : decode cX5_sign 9 = .ok (.invokevirtual 77, 3) := by decide +kernel
theorem dX5_sign_12 : decode cX5_sign 12 = .ok (.ireturn, 1) := by decide +kernel
theorem dX5_sign_13 : decode cX5_sign 13 = .ok (.aload_n 0, 1) := by decide +kernel
theorem dX5_sign_14 : decode cX5_sign 14 = .ok (.invokevirtual 132, 3) := by decide +kernel
theorem dX5_sign_17 : decode cX5_sign 17 = .ok (.aload_n 0, 1) := by decide +kernel
theorem dX5_sign_18 : decode cX5_sign 18 = .ok (.iload_n 1, 1) := by decide +kernel
theorem dX5_sign_19 : decode cX5_sign 19 = .ok (.invokevirtual 199, 3) := by decide +kernel
theorem dX5_sign_22 : decode cX5_sign 22 = .ok (.ireturn, 1) := by decide +kernel
theorem dX5_form_0 : decode cX5_form 0 = .ok (.aload_n 0, 1) := by decide +kernel
theorem dX5_form_1 : decode cX5_form 1 = .ok (.iload_n 1, 1) := by decide +kernel
theorem dX5_form_2 : decode cX5_form 2 = .ok (.invokevirtual 59, 3) := by decide +kernel
theorem dX5_form_5 : decode cX5_form 5 = .ok (.ifCond .ne 8, 3) := by decide +kernel
theorem dX5_form_8 : decode cX5_form 8 = .ok (.aload_n 0, 1) := by decide +kernel
theorem dX5_form_9 : decode cX5_form 9 = .ok (.invokevirtual 77, 3) := by decide +kernel
theorem dX5_form_12 : decode cX5_form 12 = .ok (.ireturn, 1) := by decide +kernel
theorem dX5_form_13 : decode cX5_form 13 = .ok (.aload_n 0, 1) := by decide +kernel
theorem dX5_form_14 : decode cX5_form 14 = .ok (.invokevirtual 175, 3) := by decide +kernel
theorem dX5_form_17 : decode cX5_form 17 = .ok (.aload_n 0, 1) := by decide +kernel
theorem dX5_form_18 : decode cX5_form 18 = .ok (.getfield 31, 3) := by decide +kernel
theorem dX5_form_21 : decode cX5_form 21 = .ok (.iload_n 1, 1) := by decide +kernel
theorem dX5_form_22 : decode cX5_form 22 = .ok (.iaload, 1) := by decide +kernel
theorem dX5_form_23 : decode cX5_form 23 = .ok (.ireturn, 1) := by decide +kernel
theorem dX5_lineAt_0 : decode cX5_lineAt 0 = .ok (.iconst 0, 1) := by decide +kernel
theorem dX5_lineAt_1 : decode cX5_lineAt 1 = .ok (.istore_n 2, 1) := by decide +kernel
theorem dX5_lineAt_2 : decode cX5_lineAt 2 = .ok (.aload_n 0, 1) := by decide +kernel
theorem dX5_lineAt_3 : decode cX5_lineAt 3 = .ok (.getfield 7, 3) := by decide +kernel
theorem dX5_lineAt_6 : decode cX5_lineAt 6 = .ok (.iconst 0, 1) := by decide +kernel
theorem dX5_lineAt_7 : decode cX5_lineAt 7 = .ok (.iaload, 1) := by decide +kernel
theorem dX5_lineAt_8 : decode cX5_lineAt 8 = .ok (.iconst 1, 1) := by decide +kernel
theorem dX5_lineAt_9 : decode cX5_lineAt 9 = .ok (.iadd, 1) := by decide +kernel
theorem dX5_lineAt_10 : decode cX5_lineAt 10 = .ok (.istore_n 3, 1) := by decide +kernel
theorem dX5_lineAt_11 : decode cX5_lineAt 11 = .ok (.iload_n 3, 1) := by decide +kernel
theorem dX5_lineAt_12 : decode cX5_lineAt 12 = .ok (.aload_n 0, 1) := by decide +kernel
theorem dX5_lineAt_13 : decode cX5_lineAt 13 = .ok (.getfield 7, 3) := by decide +kernel
theorem dX5_lineAt_16 : decode cX5_lineAt 16 = .ok (.iconst 1, 1) := by decide +kernel
theorem dX5_lineAt_17 : decode cX5_lineAt 17 = .ok (.iaload, 1) := by decide +kernel
theorem dX5_lineAt_18 : decode cX5_lineAt 18 = .ok (.if_icmp .ge 28, 3) := by decide +kernel
theorem dX5_lineAt_21 : decode cX5_lineAt 21 = .ok (.aload_n 0, 1) := by decide +kernel
theorem dX5_lineAt_22 : decode cX5_lineAt 22 = .ok (.getfield 40, 3) := by decide +kernel
theorem dX5_lineAt_25 : decode cX5_lineAt 25 = .ok (.iload_n 3, 1) := by decide +kernel
theorem dX5_lineAt_26 : decode cX5_lineAt 26 = .ok (.iaload, 1) := by decide +kernel
theorem dX5_lineAt_27 : decode cX5_lineAt 27 = .ok (.ifCond .le 13, 3) := by decide +kernel
theorem dX5_lineAt_30 : decode cX5_lineAt 30 = .ok (.iload_n 2, 1) := by decide +kernel
theorem dX5_lineAt_31 : decode cX5_lineAt 31 = .ok (.iload_n 1, 1) := by decide +kernel
theorem dX5_lineAt_32 : decode cX5_lineAt 32 = .ok (.if_icmp .ne 5, 3) := by decide +kernel
theorem dX5_lineAt_35 : decode cX5_lineAt 35 = .ok (.iload_n 3, 1) := by decide +kernel
theorem dX5_lineAt_36 : decode cX5_lineAt 36 = .ok (.ireturn, 1) := by decide +kernel
theorem dX5_lineAt_37 : decode cX5_lineAt 37 = .ok (.iinc 2 1, 3) := by decide +kernel
theorem dX5_lineAt_40 : decode cX5_lineAt 40 = .ok (.iinc 3 1, 3) := by decide +kernel
theorem dX5_lineAt_43 : decode cX5_lineAt 43 = .ok (.goto (-32), 3) := by decide +kernel
theorem dX5_lineAt_46 : decode cX5_lineAt 46 = .ok (.iconst (-1), 1) := by decide +kernel
theorem dX5_lineAt_47 : decode cX5_lineAt 47 = .ok (.ireturn, 1) := by decide +kernel
theorem dX5_lines_0 : decode cX5_lines 0 = .ok (.iload_n 1, 1) := by decide +kernel
theorem dX5_lines_1 : decode cX5_lines 1 = .ok (.iconst (-1), 1) := by decide +kernel
theorem dX5_lines_2 : decode cX5_lines 2 = .ok (.if_icmp .lt 21, 3) := by decide +kernel
theorem dX5_lines_5 : decode cX5_lines 5 = .ok (.iload_n 2, 1) := by decide +kernel
theorem dX5_lines_6 : decode cX5_lines 6 = .ok (.iconst 0, 1) := by decide +kernel
theorem dX5_lines_7 : decode cX5_lines 7 = .ok (.iload_n 1, 1) := by decide +kernel
theorem dX5_lines_8 : decode cX5_lines 8 = .ok (.iconst (-1), 1) := by decide +kernel
theorem dX5_lines_9 : decode cX5_lines 9 = .ok (.if_icmp .ne 7, 3) := by decide +kernel
theorem dX5_lines_12 : decode cX5_lines 12 = .ok (.iconst 0, 1) := by decide +kernel
theorem dX5_lines_13 : decode cX5_lines 13 = .ok (.goto 4, 3) := by decide +kernel
theorem dX5_lines_16 : decode cX5_lines 16 = .ok (.iconst 2, 1) := by decide +kernel
theorem dX5_lines_17 : decode cX5_lines 17 = .ok (.invokestatic 55, 3) := by decide +kernel
theorem dX5_lines_20 : decode cX5_lines 20 = .ok (.ifCond .ne 8, 3) := by decide +kernel
theorem dX5_lines_23 : decode cX5_lines 23 = .ok (.aload_n 0, 1) := by decide +kernel
theorem dX5_lines_24 : decode cX5_lines 24 = .ok (.invokevirtual 77, 3) := by decide +kernel
theorem dX5_lines_27 : decode cX5_lines 27 = .ok (.ireturn, 1) := by decide +kernel
theorem dX5_lines_28 : decode cX5_lines 28 = .ok (.aload_n 0, 1) := by decide +kernel
theorem dX5_lines_29 : decode cX5_lines 29 = .ok (.invokevirtual 175, 3) := by decide +kernel
theorem dX5_lines_32 : decode cX5_lines 32 = .ok (.iload_n 1, 1) := by decide +kernel
theorem dX5_lines_33 : decode cX5_lines 33 = .ok (.iconst (-1), 1) := by decide +kernel
theorem dX5_lines_34 : decode cX5_lines 34 = .ok (.if_icmp .ne 25, 3) := by decide +kernel
theorem dX5_lines_37 : decode cX5_lines 37 = .ok (.aload_n 0, 1) := by decide +kernel
theorem dX5_lines_38 : decode cX5_lines 38 = .ok (.getfield 7, 3) := by decide +kernel
theorem dX5_lines_41 : decode cX5_lines 41 = .ok (.iconst 1, 1) := by decide +kernel
theorem dX5_lines_42 : decode cX5_lines 42 = .ok (.iaload, 1) := by decide +kernel
theorem dX5_lines_43 : decode cX5_lines 43 = .ok (.aload_n 0, 1) := by decide +kernel
theorem dX5_lines_44 : decode cX5_lines 44 = .ok (.getfield 7, 3) := by decide +kernel
theorem dX5_lines_47 : decode cX5_lines 47 = .ok (.iconst 0, 1) := by decide +kernel
theorem dX5_lines_48 : decode cX5_lines 48 = .ok (.iaload, 1) := by decide +kernel
theorem dX5_lines_49 : decode cX5_lines 49 = .ok (.isub, 1) := by decide +kernel
theorem dX5_lines_50 : decode cX5_lines 50 = .ok (.iconst 1, 1) := by decide +kernel
theorem dX5_lines_51 : decode cX5_lines 51 = .ok (.isub, 1) := by decide +kernel
theorem dX5_lines_52 : decode cX5_lines 52 = .ok (.aload_n 0, 1) := by decide +kernel
theorem dX5_lines_53 : decode cX5_lines 53 = .ok (.iconst 0, 1) := by decide +kernel
theorem dX5_lines_54 : decode cX5_lines 54 = .ok (.invokevirtual 202, 3) := by decide +kernel
theorem dX5_lines_57 : decode cX5_lines 57 = .ok (.isub, 1) := by decide +kernel
theorem dX5_lines_58 : decode cX5_lines 58 = .ok (.ireturn, 1) := by decide +kernel
theorem dX5_lines_59 : decode cX5_lines 59 = .ok (.aload_n 0, 1) := by decide +kernel
theorem dX5_lines_60 : decode cX5_lines 60 = .ok (.iload_n 1, 1) := by decide +kernel
theorem dX5_lines_61 : decode cX5_lines 61 = .ok (.invokevirtual 205, 3) := by decide +kernel
theorem dX5_lines_64 : decode cX5_lines 64 = .ok (.istore_n 3, 1) := by decide +kernel
theorem dX5_lines_65 : decode cX5_lines 65 = .ok (.iload_n 3, 1) := by decide +kernel
theorem dX5_lines_66 : decode cX5_lines 66 = .ok (.iconst (-1), 1) := by decide +kernel
theorem dX5_lines_67 : decode cX5_lines 67 = .ok (.if_icmp .ne 8, 3) := by decide +kernel
theorem dX5_lines_70 : decode cX5_lines 70 = .ok (.bipush (-5), 2) := by decide +kernel
theorem dX5_lines_72 : decode cX5_lines 72 = .ok (.goto 31, 3) := by decide +kernel
theorem dX5_lines_75 : decode cX5_lines 75 = .ok (.iload_n 2, 1) := by decide +kernel
theorem dX5_lines_76 : decode cX5_lines 76 = .ok (.ifCond .ne 7, 3) := by decide +kernel
theorem dX5_lines_79 : decode cX5_lines 79 = .ok (.iload_n 3, 1) := by decide +kernel
theorem dX5_lines_80 : decode cX5_lines 80 = .ok (.goto 23, 3) := by decide +kernel
theorem dX5_lines_83 : decode cX5_lines 83 = .ok (.iload_n 2, 1) := by decide +kernel
theorem dX5_lines_84 : decode cX5_lines 84 = .ok (.iconst 1, 1) := by decide +kernel
theorem dX5_lines_85 : decode cX5_lines 85 = .ok (.if_icmp .ne 12, 3) := by decide +kernel
theorem dX5_lines_88 : decode cX5_lines 88 = .ok (.aload_n 0, 1) := by decide +kernel
theorem dX5_lines_89 : decode cX5_lines 89 = .ok (.getfield 31, 3) := by decide +kernel
theorem dX5_lines_92 : decode cX5_lines 92 = .ok (.iload_n 3, 1) := by decide +kernel
theorem dX5_lines_93 : decode cX5_lines 93 = .ok (.iaload, 1) := by decide +kernel
theorem dX5_lines_94 : decode cX5_lines 94 = .ok (.goto 9, 3) := by decide +kernel
theorem dX5_lines_97 : decode cX5_lines 97 = .ok (.aload_n 0, 1) := by decide +kernel
theorem dX5_lines_98 : decode cX5_lines 98 = .ok (.getfield 40, 3) := by decide +kernel
theorem dX5_lines_101 : decode cX5_lines 101 = .ok (.iload_n 3, 1) := by decide +kernel
theorem dX5_lines_102 : decode cX5_lines 102 = .ok (.iaload, 1) := by decide +kernel
theorem dX5_lines_103 : decode cX5_lines 103 = .ok (.ireturn, 1) := by decide +kernel
theorem dX5_sweptOf_0 : decode cX5_sweptOf 0 = .ok (.iload_n 1, 1) := by decide +kernel
theorem dX5_sweptOf_1 : decode cX5_sweptOf 1 = .ok (.iconst 4, 1) := by decide +kernel
theorem dX5_sweptOf_2 : decode cX5_sweptOf 2 = .ok (.if_icmp .ge 11, 3) := by decide +kernel
theorem dX5_sweptOf_5 : decode cX5_sweptOf 5 = .ok (.aload_n 0, 1) := by decide +kernel
theorem dX5_sweptOf_6 : decode cX5_sweptOf 6 = .ok (.iload_n 1, 1) := by decide +kernel
theorem dX5_sweptOf_7 : decode cX5_sweptOf 7 = .ok (.invokevirtual 202, 3) := by decide +kernel
theorem dX5_sweptOf_10 : decode cX5_sweptOf 10 = .ok (.goto 19, 3) := by decide +kernel
theorem dX5_sweptOf_13 : decode cX5_sweptOf 13 = .ok (.iload_n 1, 1) := by decide +kernel
theorem dX5_sweptOf_14 : decode cX5_sweptOf 14 = .ok (.iconst 4, 1) := by decide +kernel
theorem dX5_sweptOf_15 : decode cX5_sweptOf 15 = .ok (.if_icmp .ne 10, 3) := by decide +kernel
theorem dX5_sweptOf_18 : decode cX5_sweptOf 18 = .ok (.aload_n 0, 1) := by decide +kernel
theorem dX5_sweptOf_19 : decode cX5_sweptOf 19 = .ok (.getfield 142, 3) := by decide +kernel
theorem dX5_sweptOf_22 : decode cX5_sweptOf 22 = .ok (.goto 7, 3) := by decide +kernel
theorem dX5_sweptOf_25 : decode cX5_sweptOf 25 = .ok (.aload_n 0, 1) := by decide +kernel
theorem dX5_sweptOf_26 : decode cX5_sweptOf 26 = .ok (.getfield 135, 3) := by decide +kernel
theorem dX5_sweptOf_29 : decode cX5_sweptOf 29 = .ok (.ireturn, 1) := by decide +kernel
theorem dX5_swept_0 : decode cX5_swept 0 = .ok (.iload_n 1, 1) := by decide +kernel
theorem dX5_swept_1 : decode cX5_swept 1 = .ok (.iconst 0, 1) := by decide +kernel
theorem dX5_swept_2 : decode cX5_swept 2 = .ok (.iconst 5, 1) := by decide +kernel
theorem dX5_swept_3 : decode cX5_swept 3 = .ok (.invokestatic 55, 3) := by decide +kernel
theorem dX5_swept_6 : decode cX5_swept 6 = .ok (.ifCond .ne 8, 3) := by decide +kernel
theorem dX5_swept_9 : decode cX5_swept 9 = .ok (.aload_n 0, 1) := by decide +kernel
theorem dX5_swept_10 : decode cX5_swept 10 = .ok (.invokevirtual 77, 3) := by decide +kernel
theorem dX5_swept_13 : decode cX5_swept 13 = .ok (.ireturn, 1) := by decide +kernel
theorem dX5_swept_14 : decode cX5_swept 14 = .ok (.aload_n 0, 1) := by decide +kernel
theorem dX5_swept_15 : decode cX5_swept 15 = .ok (.invokevirtual 175, 3) := by decide +kernel
theorem dX5_swept_18 : decode cX5_swept 18 = .ok (.aload_n 0, 1) := by decide +kernel
theorem dX5_swept_19 : decode cX5_swept 19 = .ok (.iload_n 1, 1) := by decide +kernel
theorem dX5_swept_20 : decode cX5_swept 20 = .ok (.invokevirtual 208, 3) := by decide +kernel
theorem dX5_swept_23 : decode cX5_swept 23 = .ok (.ireturn, 1) := by decide +kernel
theorem dX5_row_0 : decode cX5_row 0 = .ok (.iload_n 1, 1) := by decide +kernel
theorem dX5_row_1 : decode cX5_row 1 = .ok (.ifCond .ge 8, 3) := by decide +kernel
theorem dX5_row_4 : decode cX5_row 4 = .ok (.aload_n 0, 1) := by decide +kernel
theorem dX5_row_5 : decode cX5_row 5 = .ok (.invokevirtual 77, 3) := by decide +kernel
theorem dX5_row_8 : decode cX5_row 8 = .ok (.ireturn, 1) := by decide +kernel
theorem dX5_row_9 : decode cX5_row 9 = .ok (.aload_n 0, 1) := by decide +kernel
theorem dX5_row_10 : decode cX5_row 10 = .ok (.invokevirtual 175, 3) := by decide +kernel
theorem dX5_row_13 : decode cX5_row 13 = .ok (.iload_n 1, 1) := by decide +kernel
theorem dX5_row_14 : decode cX5_row 14 = .ok (.aload_n 0, 1) := by decide +kernel
theorem dX5_row_15 : decode cX5_row 15 = .ok (.getfield 135, 3) := by decide +kernel
theorem dX5_row_18 : decode cX5_row 18 = .ok (.if_icmp .ge 12, 3) := by decide +kernel
theorem dX5_row_21 : decode cX5_row 21 = .ok (.aload_n 0, 1) := by decide +kernel
theorem dX5_row_22 : decode cX5_row 22 = .ok (.getfield 28, 3) := by decide +kernel
theorem dX5_row_25 : decode cX5_row 25 = .ok (.iload_n 1, 1) := by decide +kernel
theorem dX5_row_26 : decode cX5_row 26 = .ok (.iaload, 1) := by decide +kernel
theorem dX5_row_27 : decode cX5_row 27 = .ok (.goto 4, 3) := by decide +kernel
theorem dX5_row_30 : decode cX5_row 30 = .ok (.iconst (-1), 1) := by decide +kernel
theorem dX5_row_31 : decode cX5_row 31 = .ok (.ireturn, 1) := by decide +kernel
theorem dX5_areOuts_0 : decode cX5_areOuts 0 = .ok (.iload_n 1, 1) := by decide +kernel
theorem dX5_areOuts_1 : decode cX5_areOuts 1 = .ok (.ifCond .lt 29, 3) := by decide +kernel
theorem dX5_areOuts_4 : decode cX5_areOuts 4 = .ok (.iload_n 1, 1) := by decide +kernel
theorem dX5_areOuts_5 : decode cX5_areOuts 5 = .ok (.aload_n 0, 1) := by decide +kernel
theorem dX5_areOuts_6 : decode cX5_areOuts 6 = .ok (.getfield 7, 3) := by decide +kernel
theorem dX5_areOuts_9 : decode cX5_areOuts 9 = .ok (.bipush 98, 2) := by decide +kernel
theorem dX5_areOuts_11 : decode cX5_areOuts 11 = .ok (.iaload, 1) := by decide +kernel
theorem dX5_areOuts_12 : decode cX5_areOuts 12 = .ok (.if_icmp .ge 18, 3) := by decide +kernel
theorem dX5_areOuts_15 : decode cX5_areOuts 15 = .ok (.iload_n 1, 1) := by decide +kernel
theorem dX5_areOuts_16 : decode cX5_areOuts 16 = .ok (.aload_n 0, 1) := by decide +kernel
theorem dX5_areOuts_17 : decode cX5_areOuts 17 = .ok (.getfield 7, 3) := by decide +kernel
theorem dX5_areOuts_20 : decode cX5_areOuts 20 = .ok (.bipush 99, 2) := by decide +kernel
theorem dX5_areOuts_22 : decode cX5_areOuts 22 = .ok (.iaload, 1) := by decide +kernel
theorem dX5_areOuts_23 : decode cX5_areOuts 23 = .ok (.if_icmp .ge 7, 3) := by decide +kernel
theorem dX5_areOuts_26 : decode cX5_areOuts 26 = .ok (.iconst 1, 1) := by decide +kernel
theorem dX5_areOuts_27 : decode cX5_areOuts 27 = .ok (.goto 4, 3) := by decide +kernel
theorem dX5_areOuts_30 : decode cX5_areOuts 30 = .ok (.iconst 0, 1) := by decide +kernel
theorem dX5_areOuts_31 : decode cX5_areOuts 31 = .ok (.ireturn, 1) := by decide +kernel
theorem dX5_areAlike_0 : decode cX5_areAlike 0 = .ok (.aload_n 0, 1) := by decide +kernel
theorem dX5_areAlike_1 : decode cX5_areAlike 1 = .ok (.aload_n 0, 1) := by decide +kernel
theorem dX5_areAlike_2 : decode cX5_areAlike 2 = .ok (.getfield 7, 3) := by decide +kernel
theorem dX5_areAlike_5 : decode cX5_areAlike 5 = .ok (.bipush 100, 2) := by decide +kernel
theorem dX5_areAlike_7 : decode cX5_areAlike 7 = .ok (.iload_n 1, 1) := by decide +kernel
theorem dX5_areAlike_8 : decode cX5_areAlike 8 = .ok (.iadd, 1) := by decide +kernel
theorem dX5_areAlike_9 : decode cX5_areAlike 9 = .ok (.iaload, 1) := by decide +kernel
theorem dX5_areAlike_10 : decode cX5_areAlike 10 = .ok (.invokevirtual 159, 3) := by decide +kernel
theorem dX5_areAlike_13 : decode cX5_areAlike 13 = .ok (.aload_n 0, 1) := by decide +kernel
theorem dX5_areAlike_14 : decode cX5_areAlike 14 = .ok (.aload_n 0, 1) := by decide +kernel
theorem dX5_areAlike_15 : decode cX5_areAlike 15 = .ok (.getfield 7, 3) := by decide +kernel
theorem dX5_areAlike_18 : decode cX5_areAlike 18 = .ok (.bipush 106, 2) := by decide +kernel
theorem dX5_areAlike_20 : decode cX5_areAlike 20 = .ok (.iload_n 1, 1) := by decide +kernel
theorem dX5_areAlike_21 : decode cX5_areAlike 21 = .ok (.iadd, 1) := by decide +kernel
theorem dX5_areAlike_22 : decode cX5_areAlike 22 = .ok (.iaload, 1) := by decide +kernel
theorem dX5_areAlike_23 : decode cX5_areAlike 23 = .ok (.invokevirtual 159, 3) := by decide +kernel
theorem dX5_areAlike_26 : decode cX5_areAlike 26 = .ok (.if_icmp .ne 7, 3) := by decide +kernel
theorem dX5_areAlike_29 : decode cX5_areAlike 29 = .ok (.iconst 1, 1) := by decide +kernel
theorem dX5_areAlike_30 : decode cX5_areAlike 30 = .ok (.goto 4, 3) := by decide +kernel
theorem dX5_areAlike_33 : decode cX5_areAlike 33 = .ok (.iconst 0, 1) := by decide +kernel
theorem dX5_areAlike_34 : decode cX5_areAlike 34 = .ok (.ireturn, 1) := by decide +kernel
theorem dX5_alike_0 : decode cX5_alike 0 = .ok (.aload_n 0, 1) := by decide +kernel
theorem dX5_alike_1 : decode cX5_alike 1 = .ok (.iload_n 1, 1) := by decide +kernel
theorem dX5_alike_2 : decode cX5_alike 2 = .ok (.invokevirtual 211, 3) := by decide +kernel
theorem dX5_alike_5 : decode cX5_alike 5 = .ok (.ifCond .ne 8, 3) := by decide +kernel
theorem dX5_alike_8 : decode cX5_alike 8 = .ok (.aload_n 0, 1) := by decide +kernel
theorem dX5_alike_9 : decode cX5_alike 9 = .ok (.invokevirtual 77, 3) := by decide +kernel
theorem dX5_alike_12 : decode cX5_alike 12 = .ok (.ireturn, 1) := by decide +kernel
theorem dX5_alike_13 : decode cX5_alike 13 = .ok (.aload_n 0, 1) := by decide +kernel
theorem dX5_alike_14 : decode cX5_alike 14 = .ok (.invokevirtual 175, 3) := by decide +kernel
theorem dX5_alike_17 : decode cX5_alike 17 = .ok (.aload_n 0, 1) := by decide +kernel
theorem dX5_alike_18 : decode cX5_alike 18 = .ok (.iload_n 1, 1) := by decide +kernel
theorem dX5_alike_19 : decode cX5_alike 19 = .ok (.invokevirtual 214, 3) := by decide +kernel
theorem dX5_alike_22 : decode cX5_alike 22 = .ok (.ifCond .eq 7, 3) := by decide +kernel
theorem dX5_alike_25 : decode cX5_alike 25 = .ok (.iconst 1, 1) := by decide +kernel
theorem dX5_alike_26 : decode cX5_alike 26 = .ok (.goto 4, 3) := by decide +kernel
theorem dX5_alike_29 : decode cX5_alike 29 = .ok (.iconst 0, 1) := by decide +kernel
theorem dX5_alike_30 : decode cX5_alike 30 = .ok (.ireturn, 1) := by decide +kernel
theorem dX5_witness_0 : decode cX5_witness 0 = .ok (.aload_n 0, 1) := by decide +kernel
theorem dX5_witness_1 : decode cX5_witness 1 = .ok (.iload_n 1, 1) := by decide +kernel
theorem dX5_witness_2 : decode cX5_witness 2 = .ok (.invokevirtual 211, 3) := by decide +kernel
theorem dX5_witness_5 : decode cX5_witness 5 = .ok (.ifCond .ne 8, 3) := by decide +kernel
theorem dX5_witness_8 : decode cX5_witness 8 = .ok (.aload_n 0, 1) := by decide +kernel
theorem dX5_witness_9 : decode cX5_witness 9 = .ok (.invokevirtual 77, 3) := by decide +kernel
theorem dX5_witness_12 : decode cX5_witness 12 = .ok (.ireturn, 1) := by decide +kernel
theorem dX5_witness_13 : decode cX5_witness 13 = .ok (.aload_n 0, 1) := by decide +kernel
theorem dX5_witness_14 : decode cX5_witness 14 = .ok (.invokevirtual 132, 3) := by decide +kernel
theorem dX5_witness_17 : decode cX5_witness 17 = .ok (.aload_n 0, 1) := by decide +kernel
theorem dX5_witness_18 : decode cX5_witness 18 = .ok (.aload_n 0, 1) := by decide +kernel
theorem dX5_witness_19 : decode cX5_witness 19 = .ok (.getfield 7, 3) := by decide +kernel
theorem dX5_witness_22 : decode cX5_witness 22 = .ok (.bipush 100, 2) := by decide +kernel
theorem dX5_witness_24 : decode cX5_witness 24 = .ok (.iload_n 1, 1) := by decide +kernel
theorem dX5_witness_25 : decode cX5_witness 25 = .ok (.iadd, 1) := by decide +kernel
theorem dX5_witness_26 : decode cX5_witness 26 = .ok (.iaload, 1) := by decide +kernel
theorem dX5_witness_27 : decode cX5_witness 27 = .ok (.invokevirtual 129, 3) := by decide +kernel
theorem dX5_witness_30 : decode cX5_witness 30 = .ok (.aload_n 0, 1) := by decide +kernel
theorem dX5_witness_31 : decode cX5_witness 31 = .ok (.aload_n 0, 1) := by decide +kernel
theorem dX5_witness_32 : decode cX5_witness 32 = .ok (.getfield 7, 3) := by decide +kernel
theorem dX5_witness_35 : decode cX5_witness 35 = .ok (.bipush 106, 2) := by decide +kernel
theorem dX5_witness_37 : decode cX5_witness 37 = .ok (.iload_n 1, 1) := by decide +kernel
theorem dX5_witness_38 : decode cX5_witness 38 = .ok (.iadd, 1) := by decide +kernel
theorem dX5_witness_39 : decode cX5_witness 39 = .ok (.iaload, 1) := by decide +kernel
theorem dX5_witness_40 : decode cX5_witness 40 = .ok (.invokevirtual 129, 3) := by decide +kernel
theorem dX5_witness_43 : decode cX5_witness 43 = .ok (.ixor, 1) := by decide +kernel
theorem dX5_witness_44 : decode cX5_witness 44 = .ok (.istore_n 2, 1) := by decide +kernel
theorem dX5_witness_45 : decode cX5_witness 45 = .ok (.iconst 0, 1) := by decide +kernel
theorem dX5_witness_46 : decode cX5_witness 46 = .ok (.istore_n 3, 1) := by decide +kernel
theorem dX5_witness_47 : decode cX5_witness 47 = .ok (.iload_n 3, 1) := by decide +kernel
theorem dX5_witness_48 : decode cX5_witness 48 = .ok (.aload_n 0, 1) := by decide +kernel
theorem dX5_witness_49 : decode cX5_witness 49 = .ok (.invokevirtual 98, 3) := by decide +kernel
theorem dX5_witness_52 : decode cX5_witness 52 = .ok (.if_icmp .ge 20, 3) := by decide +kernel
theorem dX5_witness_55 : decode cX5_witness 55 = .ok (.iload_n 2, 1) := by decide +kernel
theorem dX5_witness_56 : decode cX5_witness 56 = .ok (.iload_n 3, 1) := by decide +kernel
theorem dX5_witness_57 : decode cX5_witness 57 = .ok (.ishr, 1) := by decide +kernel
theorem dX5_witness_58 : decode cX5_witness 58 = .ok (.iconst 1, 1) := by decide +kernel
theorem dX5_witness_59 : decode cX5_witness 59 = .ok (.iand, 1) := by decide +kernel
theorem dX5_witness_60 : decode cX5_witness 60 = .ok (.iconst 1, 1) := by decide +kernel
theorem dX5_witness_61 : decode cX5_witness 61 = .ok (.if_icmp .ne 5, 3) := by decide +kernel
theorem dX5_witness_64 : decode cX5_witness 64 = .ok (.iload_n 3, 1) := by decide +kernel
theorem dX5_witness_65 : decode cX5_witness 65 = .ok (.ireturn, 1) := by decide +kernel
theorem dX5_witness_66 : decode cX5_witness 66 = .ok (.iinc 3 1, 3) := by decide +kernel
theorem dX5_witness_69 : decode cX5_witness 69 = .ok (.goto (-22), 3) := by decide +kernel
theorem dX5_witness_72 : decode cX5_witness 72 = .ok (.iconst (-1), 1) := by decide +kernel
theorem dX5_witness_73 : decode cX5_witness 73 = .ok (.ireturn, 1) := by decide +kernel
theorem dX5_verdictNow_0 : decode cX5_verdictNow 0 = .ok (.iconst 1, 1) := by decide +kernel
theorem dX5_verdictNow_1 : decode cX5_verdictNow 1 = .ok (.istore_n 1, 1) := by decide +kernel
theorem dX5_verdictNow_2 : decode cX5_verdictNow 2 = .ok (.iconst 0, 1) := by decide +kernel
theorem dX5_verdictNow_3 : decode cX5_verdictNow 3 = .ok (.istore_n 2, 1) := by decide +kernel
theorem dX5_verdictNow_4 : decode cX5_verdictNow 4 = .ok (.aload_n 0, 1) := by decide +kernel
theorem dX5_verdictNow_5 : decode cX5_verdictNow 5 = .ok (.iload_n 2, 1) := by decide +kernel
theorem dX5_verdictNow_6 : decode cX5_verdictNow 6 = .ok (.invokevirtual 211, 3) := by decide +kernel
theorem dX5_verdictNow_9 : decode cX5_verdictNow 9 = .ok (.ifCond .eq 27, 3) := by decide +kernel
theorem dX5_verdictNow_12 : decode cX5_verdictNow 12 = .ok (.iload_n 1, 1) := by decide +kernel
theorem dX5_verdictNow_13 : decode cX5_verdictNow 13 = .ok (.ifCond .eq 15, 3) := by decide +kernel
theorem dX5_verdictNow_16 : decode cX5_verdictNow 16 = .ok (.aload_n 0, 1) := by decide +kernel
theorem dX5_verdictNow_17 : decode cX5_verdictNow 17 = .ok (.iload_n 2, 1) := by decide +kernel
theorem dX5_verdictNow_18 : decode cX5_verdictNow 18 = .ok (.invokevirtual 214, 3) := by decide +kernel
theorem dX5_verdictNow_21 : decode cX5_verdictNow 21 = .ok (.ifCond .eq 7, 3) := by decide +kernel
theorem dX5_verdictNow_24 : decode cX5_verdictNow 24 = .ok (.iconst 1, 1) := by decide +kernel
theorem dX5_verdictNow_25 : decode cX5_verdictNow 25 = .ok (.goto 4, 3) := by decide +kernel
theorem dX5_verdictNow_28 : decode cX5_verdictNow 28 = .ok (.iconst 0, 1) := by decide +kernel
theorem dX5_verdictNow_29 : decode cX5_verdictNow 29 = .ok (.istore_n 1, 1) := by decide +kernel
theorem dX5_verdictNow_30 : decode cX5_verdictNow 30 = .ok (.iinc 2 1, 3) := by decide +kernel
theorem dX5_verdictNow_33 : decode cX5_verdictNow 33 = .ok (.goto (-29), 3) := by decide +kernel
theorem dX5_verdictNow_36 : decode cX5_verdictNow 36 = .ok (.aload_n 0, 1) := by decide +kernel
theorem dX5_verdictNow_37 : decode cX5_verdictNow 37 = .ok (.getfield 7, 3) := by decide +kernel
theorem dX5_verdictNow_40 : decode cX5_verdictNow 40 = .ok (.bipush 98, 2) := by decide +kernel
theorem dX5_verdictNow_42 : decode cX5_verdictNow 42 = .ok (.iaload, 1) := by decide +kernel
theorem dX5_verdictNow_43 : decode cX5_verdictNow 43 = .ok (.aload_n 0, 1) := by decide +kernel
theorem dX5_verdictNow_44 : decode cX5_verdictNow 44 = .ok (.getfield 7, 3) := by decide +kernel
theorem dX5_verdictNow_47 : decode cX5_verdictNow 47 = .ok (.bipush 99, 2) := by decide +kernel
theorem dX5_verdictNow_49 : decode cX5_verdictNow 49 = .ok (.iaload, 1) := by decide +kernel
theorem dX5_verdictNow_50 : decode cX5_verdictNow 50 = .ok (.if_icmp .eq 7, 3) := by decide +kernel
theorem dX5_verdictNow_53 : decode cX5_verdictNow 53 = .ok (.iconst (-1), 1) := by decide +kernel
theorem dX5_verdictNow_54 : decode cX5_verdictNow 54 = .ok (.goto 12, 3) := by decide +kernel
theorem dX5_verdictNow_57 : decode cX5_verdictNow 57 = .ok (.iload_n 1, 1) := by decide +kernel
theorem dX5_verdictNow_58 : decode cX5_verdictNow 58 = .ok (.ifCond .eq 7, 3) := by decide +kernel
theorem dX5_verdictNow_61 : decode cX5_verdictNow 61 = .ok (.iconst 1, 1) := by decide +kernel
theorem dX5_verdictNow_62 : decode cX5_verdictNow 62 = .ok (.goto 4, 3) := by decide +kernel
theorem dX5_verdictNow_65 : decode cX5_verdictNow 65 = .ok (.iconst 0, 1) := by decide +kernel
theorem dX5_verdictNow_66 : decode cX5_verdictNow 66 = .ok (.ireturn, 1) := by decide +kernel
theorem dX5_verdict_0 : decode cX5_verdict 0 = .ok (.aload_n 0, 1) := by decide +kernel
theorem dX5_verdict_1 : decode cX5_verdict 1 = .ok (.invokevirtual 175, 3) := by decide +kernel
theorem dX5_verdict_4 : decode cX5_verdict 4 = .ok (.aload_n 0, 1) := by decide +kernel
theorem dX5_verdict_5 : decode cX5_verdict 5 = .ok (.invokevirtual 217, 3) := by decide +kernel
theorem dX5_verdict_8 : decode cX5_verdict 8 = .ok (.ireturn, 1) := by decide +kernel
theorem dX5_type_0 : decode cX5_type 0 = .ok (.iload_n 1, 1) := by decide +kernel
theorem dX5_type_1 : decode cX5_type 1 = .ok (.iconst 0, 1) := by decide +kernel
theorem dX5_type_2 : decode cX5_type 2 = .ok (.bipush 127, 2) := by decide +kernel
theorem dX5_type_4 : decode cX5_type 4 = .ok (.invokestatic 55, 3) := by decide +kernel
theorem dX5_type_7 : decode cX5_type 7 = .ok (.ifCond .ne 8, 3) := by decide +kernel
theorem dX5_type_10 : decode cX5_type 10 = .ok (.aload_n 0, 1) := by decide +kernel
theorem dX5_type_11 : decode cX5_type 11 = .ok (.invokevirtual 77, 3) := by decide +kernel
theorem dX5_type_14 : decode cX5_type 14 = .ok (.ireturn, 1) := by decide +kernel
theorem dX5_type_15 : decode cX5_type 15 = .ok (.aload_n 0, 1) := by decide +kernel
theorem dX5_type_16 : decode cX5_type 16 = .ok (.getfield 220, 3) := by decide +kernel
theorem dX5_type_19 : decode cX5_type 19 = .ok (.sipush 150, 3) := by decide +kernel
theorem dX5_type_22 : decode cX5_type 22 = .ok (.if_icmp .ne 8, 3) := by decide +kernel
theorem dX5_type_25 : decode cX5_type 25 = .ok (.aload_n 0, 1) := by decide +kernel
theorem dX5_type_26 : decode cX5_type 26 = .ok (.invokevirtual 74, 3) := by decide +kernel
theorem dX5_type_29 : decode cX5_type 29 = .ok (.ireturn, 1) := by decide +kernel
theorem dX5_type_30 : decode cX5_type 30 = .ok (.aload_n 0, 1) := by decide +kernel
theorem dX5_type_31 : decode cX5_type 31 = .ok (.getfield 22, 3) := by decide +kernel
theorem dX5_type_34 : decode cX5_type 34 = .ok (.aload_n 0, 1) := by decide +kernel
theorem dX5_type_35 : decode cX5_type 35 = .ok (.getfield 220, 3) := by decide +kernel
theorem dX5_type_38 : decode cX5_type 38 = .ok (.iload_n 1, 1) := by decide +kernel
theorem dX5_type_39 : decode cX5_type 39 = .ok (.iastore, 1) := by decide +kernel
theorem dX5_type_40 : decode cX5_type 40 = .ok (.aload_n 0, 1) := by decide +kernel
theorem dX5_type_41 : decode cX5_type 41 = .ok (.dup, 1) := by decide +kernel
theorem dX5_type_42 : decode cX5_type 42 = .ok (.getfield 220, 3) := by decide +kernel
theorem dX5_type_45 : decode cX5_type 45 = .ok (.iconst 1, 1) := by decide +kernel
theorem dX5_type_46 : decode cX5_type 46 = .ok (.iadd, 1) := by decide +kernel
theorem dX5_type_47 : decode cX5_type 47 = .ok (.putfield 220, 3) := by decide +kernel
theorem dX5_type_50 : decode cX5_type 50 = .ok (.aload_n 0, 1) := by decide +kernel
theorem dX5_type_51 : decode cX5_type 51 = .ok (.getfield 220, 3) := by decide +kernel
theorem dX5_type_54 : decode cX5_type 54 = .ok (.ireturn, 1) := by decide +kernel
theorem dX5_clear_0 : decode cX5_clear 0 = .ok (.aload_n 0, 1) := by decide +kernel
theorem dX5_clear_1 : decode cX5_clear 1 = .ok (.getfield 220, 3) := by decide +kernel
theorem dX5_clear_4 : decode cX5_clear 4 = .ok (.istore_n 1, 1) := by decide +kernel
theorem dX5_clear_5 : decode cX5_clear 5 = .ok (.aload_n 0, 1) := by decide +kernel
theorem dX5_clear_6 : decode cX5_clear 6 = .ok (.iconst 0, 1) := by decide +kernel
theorem dX5_clear_7 : decode cX5_clear 7 = .ok (.putfield 220, 3) := by decide +kernel
theorem dX5_clear_10 : decode cX5_clear 10 = .ok (.iload_n 1, 1) := by decide +kernel
theorem dX5_clear_11 : decode cX5_clear 11 = .ok (.ireturn, 1) := by decide +kernel
theorem dX5_isAt_0 : decode cX5_isAt 0 = .ok (.aload_n 0, 1) := by decide +kernel
theorem dX5_isAt_1 : decode cX5_isAt 1 = .ok (.getfield 223, 3) := by decide +kernel
theorem dX5_isAt_4 : decode cX5_isAt 4 = .ok (.aload_n 0, 1) := by decide +kernel
theorem dX5_isAt_5 : decode cX5_isAt 5 = .ok (.getfield 220, 3) := by decide +kernel
theorem dX5_isAt_8 : decode cX5_isAt 8 = .ok (.if_icmp .ge 24, 3) := by decide +kernel
theorem dX5_isAt_11 : decode cX5_isAt 11 = .ok (.aload_n 0, 1) := by decide +kernel
theorem dX5_isAt_12 : decode cX5_isAt 12 = .ok (.getfield 22, 3) := by decide +kernel
theorem dX5_isAt_15 : decode cX5_isAt 15 = .ok (.aload_n 0, 1) := by decide +kernel
theorem dX5_isAt_16 : decode cX5_isAt 16 = .ok (.getfield 223, 3) := by decide +kernel
theorem dX5_isAt_19 : decode cX5_isAt 19 = .ok (.iaload, 1) := by decide +kernel
theorem dX5_isAt_20 : decode cX5_isAt 20 = .ok (.iload_n 1, 1) := by decide +kernel
theorem dX5_isAt_21 : decode cX5_isAt 21 = .ok (.iload_n 2, 1) := by decide +kernel
theorem dX5_isAt_22 : decode cX5_isAt 22 = .ok (.invokestatic 55, 3) := by decide +kernel
theorem dX5_isAt_25 : decode cX5_isAt 25 = .ok (.ifCond .eq 7, 3) := by decide +kernel
theorem dX5_isAt_28 : decode cX5_isAt 28 = .ok (.iconst 1, 1) := by decide +kernel
theorem dX5_isAt_29 : decode cX5_isAt 29 = .ok (.goto 4, 3) := by decide +kernel
theorem dX5_isAt_32 : decode cX5_isAt 32 = .ok (.iconst 0, 1) := by decide +kernel
theorem dX5_isAt_33 : decode cX5_isAt 33 = .ok (.ireturn, 1) := by decide +kernel
theorem dX5_blanks_0 : decode cX5_blanks 0 = .ok (.aload_n 0, 1) := by decide +kernel
theorem dX5_blanks_1 : decode cX5_blanks 1 = .ok (.bipush 32, 2) := by decide +kernel
theorem dX5_blanks_3 : decode cX5_blanks 3 = .ok (.bipush 32, 2) := by decide +kernel
theorem dX5_blanks_5 : decode cX5_blanks 5 = .ok (.invokevirtual 226, 3) := by decide +kernel
theorem dX5_blanks_8 : decode cX5_blanks 8 = .ok (.ifCond .eq 16, 3) := by decide +kernel
theorem dX5_blanks_11 : decode cX5_blanks 11 = .ok (.aload_n 0, 1) := by decide +kernel
theorem dX5_blanks_12 : decode cX5_blanks 12 = .ok (.dup, 1) := by decide +kernel
theorem dX5_blanks_13 : decode cX5_blanks 13 = .ok (.getfield 223, 3) := by decide +kernel
theorem dX5_blanks_16 : decode cX5_blanks 16 = .ok (.iconst 1, 1) := by decide +kernel
theorem dX5_blanks_17 : decode cX5_blanks 17 = .ok (.iadd, 1) := by decide +kernel
theorem dX5_blanks_18 : decode cX5_blanks 18 = .ok (.putfield 223, 3) := by decide +kernel
theorem dX5_blanks_21 : decode cX5_blanks 21 = .ok (.goto (-21), 3) := by decide +kernel
theorem dX5_blanks_24 : decode cX5_blanks 24 = .ok (.return_, 1) := by decide +kernel
theorem dX5_number_0 : decode cX5_number 0 = .ok (.aload_n 0, 1) := by decide +kernel
theorem dX5_number_1 : decode cX5_number 1 = .ok (.invokevirtual 229, 3) := by decide +kernel
theorem dX5_number_4 : decode cX5_number 4 = .ok (.iconst 0, 1) := by decide +kernel
theorem dX5_number_5 : decode cX5_number 5 = .ok (.istore_n 1, 1) := by decide +kernel
theorem dX5_number_6 : decode cX5_number 6 = .ok (.iconst 0, 1) := by decide +kernel
theorem dX5_number_7 : decode cX5_number 7 = .ok (.istore_n 2, 1) := by decide +kernel
theorem dX5_number_8 : decode cX5_number 8 = .ok (.aload_n 0, 1) := by decide +kernel
theorem dX5_number_9 : decode cX5_number 9 = .ok (.aload_n 0, 1) := by decide +kernel
theorem dX5_number_10 : decode cX5_number 10 = .ok (.bipush 48, 2) := by decide +kernel
theorem dX5_number_12 : decode cX5_number 12 = .ok (.bipush 57, 2) := by decide +kernel
theorem dX5_number_14 : decode cX5_number 14 = .ok (.invokevirtual 226, 3) := by decide +kernel
theorem dX5_number_17 : decode cX5_number 17 = .ok (.ifCond .ne 7, 3) := by decide +kernel
theorem dX5_number_20 : decode cX5_number 20 = .ok (.iconst 1, 1) := by decide +kernel
theorem dX5_number_21 : decode cX5_number 21 = .ok (.goto 4, 3) := by decide +kernel
theorem dX5_number_24 : decode cX5_number 24 = .ok (.iconst 0, 1) := by decide +kernel
theorem dX5_number_25 : decode cX5_number 25 = .ok (.putfield 232, 3) := by decide +kernel
theorem dX5_number_28 : decode cX5_number 28 = .ok (.aload_n 0, 1) := by decide +kernel
theorem dX5_number_29 : decode cX5_number 29 = .ok (.getfield 232, 3) := by decide +kernel
theorem dX5_number_32 : decode cX5_number 32 = .ok (.ifCond .ne 84, 3) := by decide +kernel
theorem dX5_number_35 : decode cX5_number 35 = .ok (.aload_n 0, 1) := by decide +kernel
theorem dX5_number_36 : decode cX5_number 36 = .ok (.bipush 48, 2) := by decide +kernel
theorem dX5_number_38 : decode cX5_number 38 = .ok (.bipush 57, 2) := by decide +kernel
theorem dX5_number_40 : decode cX5_number 40 = .ok (.invokevirtual 226, 3) := by decide +kernel
theorem dX5_number_43 : decode cX5_number 43 = .ok (.ifCond .eq 73, 3) := by decide +kernel
theorem dX5_number_46 : decode cX5_number 46 = .ok (.iinc 2 1, 3) := by decide +kernel
theorem dX5_number_49 : decode cX5_number 49 = .ok (.aload_n 0, 1) := by decide +kernel
theorem dX5_number_50 : decode cX5_number 50 = .ok (.iload_n 2, 1) := by decide +kernel
theorem dX5_number_51 : decode cX5_number 51 = .ok (.iconst 2, 1) := by decide +kernel
theorem dX5_number_52 : decode cX5_number 52 = .ok (.if_icmp .le 7, 3) := by decide +kernel
theorem dX5_number_55 : decode cX5_number 55 = .ok (.iconst 1, 1) := by decide +kernel
theorem dX5_number_56 : decode cX5_number 56 = .ok (.goto 4, 3) := by decide +kernel
theorem dX5_number_59 : decode cX5_number 59 = .ok (.iconst 0, 1) := by decide +kernel
theorem dX5_number_60 : decode cX5_number 60 = .ok (.putfield 232, 3) := by decide +kernel
theorem dX5_number_63 : decode cX5_number 63 = .ok (.aload_n 0, 1) := by decide +kernel
theorem dX5_number_64 : decode cX5_number 64 = .ok (.getfield 232, 3) := by decide +kernel
theorem dX5_number_67 : decode cX5_number 67 = .ok (.ifCond .eq 7, 3) := by decide +kernel
theorem dX5_number_70 : decode cX5_number 70 = .ok (.iload_n 1, 1) := by decide +kernel
theorem dX5_number_71 : decode cX5_number 71 = .ok (.goto 20, 3) := by decide +kernel
theorem dX5_number_74 : decode cX5_number 74 = .ok (.bipush 10, 2) := by decide +kernel
theorem dX5_number_76 : decode cX5_number 76 = .ok (.iload_n 1, 1) := by decide +kernel
theorem dX5_number_77 : decode cX5_number 77 = .ok (.imul, 1) := by decide +kernel
theorem dX5_number_78 : decode cX5_number 78 = .ok (.aload_n 0, 1) := by decide +kernel
theorem dX5_number_79 : decode cX5_number 79 = .ok (.getfield 22, 3) := by decide +kernel
theorem dX5_number_82 : decode cX5_number 82 = .ok (.aload_n 0, 1) := by decide +kernel
theorem dX5_number_83 : decode cX5_number 83 = .ok (.getfield 223, 3) := by decide +kernel
theorem dX5_number_86 : decode cX5_number 86 = .ok (.iaload, 1) := by decide +kernel
theorem dX5_number_87 : decode cX5_number 87 = .ok (.iadd, 1) := by decide +kernel
theorem dX5_number_88 : decode cX5_number 88 = .ok (.bipush 48, 2) := by decide +kernel
theorem dX5_number_90 : decode cX5_number 90 = .ok (.isub, 1) := by decide +kernel
theorem dX5_number_91 : decode cX5_number 91 = .ok (.istore_n 1, 1) := by decide +kernel
theorem dX5_number_92 : decode cX5_number 92 = .ok (.aload_n 0, 1) := by decide +kernel
theorem dX5_number_93 : decode cX5_number 93 = .ok (.dup, 1) := by decide +kernel
theorem dX5_number_94 : decode cX5_number 94 = .ok (.getfield 223, 3) := by decide +kernel
theorem dX5_number_97 : decode cX5_number 97 = .ok (.aload_n 0, 1) := by decide +kernel
theorem dX5_number_98 : decode cX5_number 98 = .ok (.getfield 232, 3) := by decide +kernel
theorem dX5_number_101 : decode cX5_number 101 = .ok (.ifCond .eq 7, 3) := by decide +kernel
theorem dX5_number_104 : decode cX5_number 104 = .ok (.iconst 0, 1) := by decide +kernel
theorem dX5_number_105 : decode cX5_number 105 = .ok (.goto 4, 3) := by decide +kernel
theorem dX5_number_108 : decode cX5_number 108 = .ok (.iconst 1, 1) := by decide +kernel
theorem dX5_number_109 : decode cX5_number 109 = .ok (.iadd, 1) := by decide +kernel
theorem dX5_number_110 : decode cX5_number 110 = .ok (.putfield 223, 3) := by decide +kernel
theorem dX5_number_113 : decode cX5_number 113 = .ok (.goto (-85), 3) := by decide +kernel
theorem dX5_number_116 : decode cX5_number 116 = .ok (.iload_n 1, 1) := by decide +kernel
theorem dX5_number_117 : decode cX5_number 117 = .ok (.ireturn, 1) := by decide +kernel
theorem dX5_manyOf_0 : decode cX5_manyOf 0 = .ok (.iload_n 0, 1) := by decide +kernel
theorem dX5_manyOf_1 : decode cX5_manyOf 1 = .ok (.tableswitch 93 103 120 #[89, 93, 87, 93, 93, 93, 91, 93, 89, 87, 93, 93, 93, 93, 93, 93, 93, 89], 87) := by decide +kernel
theorem dX5_manyOf_88 : decode cX5_manyOf 88 = .ok (.iconst 1, 1) := by decide +kernel
theorem dX5_manyOf_89 : decode cX5_manyOf 89 = .ok (.ireturn, 1) := by decide +kernel
theorem dX5_manyOf_90 : decode cX5_manyOf 90 = .ok (.iconst 2, 1) := by decide +kernel
theorem dX5_manyOf_91 : decode cX5_manyOf 91 = .ok (.ireturn, 1) := by decide +kernel
theorem dX5_manyOf_92 : decode cX5_manyOf 92 = .ok (.iconst 3, 1) := by decide +kernel
theorem dX5_manyOf_93 : decode cX5_manyOf 93 = .ok (.ireturn, 1) := by decide +kernel
theorem dX5_manyOf_94 : decode cX5_manyOf 94 = .ok (.iconst 0, 1) := by decide +kernel
theorem dX5_manyOf_95 : decode cX5_manyOf 95 = .ok (.ireturn, 1) := by decide +kernel
theorem dX5_readsOrder_0 : decode cX5_readsOrder 0 = .ok (.aload_n 0, 1) := by decide +kernel
theorem dX5_readsOrder_1 : decode cX5_readsOrder 1 = .ok (.getfield 22, 3) := by decide +kernel
theorem dX5_readsOrder_4 : decode cX5_readsOrder 4 = .ok (.aload_n 0, 1) := by decide +kernel
theorem dX5_readsOrder_5 : decode cX5_readsOrder 5 = .ok (.getfield 223, 3) := by decide +kernel
theorem dX5_readsOrder_8 : decode cX5_readsOrder 8 = .ok (.iaload, 1) := by decide +kernel
theorem dX5_readsOrder_9 : decode cX5_readsOrder 9 = .ok (.istore_n 1, 1) := by decide +kernel
theorem dX5_readsOrder_10 : decode cX5_readsOrder 10 = .ok (.iload_n 1, 1) := by decide +kernel
theorem dX5_readsOrder_11 : decode cX5_readsOrder 11 = .ok (.invokestatic 236, 3) := by decide +kernel
theorem dX5_readsOrder_14 : decode cX5_readsOrder 14 = .ok (.istore_n 2, 1) := by decide +kernel
theorem dX5_readsOrder_15 : decode cX5_readsOrder 15 = .ok (.aload_n 0, 1) := by decide +kernel
theorem dX5_readsOrder_16 : decode cX5_readsOrder 16 = .ok (.iload_n 2, 1) := by decide +kernel
theorem dX5_readsOrder_17 : decode cX5_readsOrder 17 = .ok (.ifCond .ne 7, 3) := by decide +kernel
theorem dX5_readsOrder_20 : decode cX5_readsOrder 20 = .ok (.iconst 1, 1) := by decide +kernel
theorem dX5_readsOrder_21 : decode cX5_readsOrder 21 = .ok (.goto 4, 3) := by decide +kernel
theorem dX5_readsOrder_24 : decode cX5_readsOrder 24 = .ok (.iconst 0, 1) := by decide +kernel
theorem dX5_readsOrder_25 : decode cX5_readsOrder 25 = .ok (.putfield 232, 3) := by decide +kernel
theorem dX5_readsOrder_28 : decode cX5_readsOrder 28 = .ok (.aload_n 0, 1) := by decide +kernel
theorem dX5_readsOrder_29 : decode cX5_readsOrder 29 = .ok (.dup, 1) := by decide +kernel
theorem dX5_readsOrder_30 : decode cX5_readsOrder 30 = .ok (.getfield 223, 3) := by decide +kernel
theorem dX5_readsOrder_33 : decode cX5_readsOrder 33 = .ok (.aload_n 0, 1) := by decide +kernel
theorem dX5_readsOrder_34 : decode cX5_readsOrder 34 = .ok (.getfield 232, 3) := by decide +kernel
theorem dX5_readsOrder_37 : decode cX5_readsOrder 37 = .ok (.ifCond .eq 7, 3) := by decide +kernel
theorem dX5_readsOrder_40 : decode cX5_readsOrder 40 = .ok (.iconst 0, 1) := by decide +kernel
theorem dX5_readsOrder_41 : decode cX5_readsOrder 41 = .ok (.goto 4, 3) := by decide +kernel
theorem dX5_readsOrder_44 : decode cX5_readsOrder 44 = .ok (.iconst 1, 1) := by decide +kernel
theorem dX5_readsOrder_45 : decode cX5_readsOrder 45 = .ok (.iadd, 1) := by decide +kernel
theorem dX5_readsOrder_46 : decode cX5_readsOrder 46 = .ok (.putfield 223, 3) := by decide +kernel
theorem dX5_readsOrder_49 : decode cX5_readsOrder 49 = .ok (.iconst 0, 1) := by decide +kernel
theorem dX5_readsOrder_50 : decode cX5_readsOrder 50 = .ok (.istore_n 3, 1) := by decide +kernel
theorem dX5_readsOrder_51 : decode cX5_readsOrder 51 = .ok (.iload_n 3, 1) := by decide +kernel
theorem dX5_readsOrder_52 : decode cX5_readsOrder 52 = .ok (.iload_n 2, 1) := by decide +kernel
theorem dX5_readsOrder_53 : decode cX5_readsOrder 53 = .ok (.if_icmp .ge 33, 3) := by decide +kernel
theorem dX5_readsOrder_56 : decode cX5_readsOrder 56 = .ok (.aload_n 0, 1) := by decide +kernel
theorem dX5_readsOrder_57 : decode cX5_readsOrder 57 = .ok (.getfield 232, 3) := by decide +kernel
theorem dX5_readsOrder_60 : decode cX5_readsOrder 60 = .ok (.ifCond .ne 26, 3) := by decide +kernel
theorem dX5_readsOrder_63 : decode cX5_readsOrder 63 = .ok (.aload_n 0, 1) := by decide +kernel
theorem dX5_readsOrder_64 : decode cX5_readsOrder 64 = .ok (.getfield 52, 3) := by decide +kernel
theorem dX5_readsOrder_67 : decode cX5_readsOrder 67 = .ok (.iconst 3, 1) := by decide +kernel
theorem dX5_readsOrder_68 : decode cX5_readsOrder 68 = .ok (.aload_n 0, 1) := by decide +kernel
theorem dX5_readsOrder_69 : decode cX5_readsOrder 69 = .ok (.getfield 239, 3) := by decide +kernel
theorem dX5_readsOrder_72 : decode cX5_readsOrder 72 = .ok (.imul, 1) := by decide +kernel
theorem dX5_readsOrder_73 : decode cX5_readsOrder 73 = .ok (.iload_n 3, 1) := by decide +kernel
theorem dX5_readsOrder_74 : decode cX5_readsOrder 74 = .ok (.iadd, 1) := by decide +kernel
theorem dX5_readsOrder_75 : decode cX5_readsOrder 75 = .ok (.aload_n 0, 1) := by decide +kernel
theorem dX5_readsOrder_76 : decode cX5_readsOrder 76 = .ok (.invokevirtual 242, 3) := by decide +kernel
theorem dX5_readsOrder_79 : decode cX5_readsOrder 79 = .ok (.iastore, 1) := by decide +kernel
theorem dX5_readsOrder_80 : decode cX5_readsOrder 80 = .ok (.iinc 3 1, 3) := by decide +kernel
theorem dX5_readsOrder_83 : decode cX5_readsOrder 83 = .ok (.goto (-32), 3) := by decide +kernel
theorem dX5_readsOrder_86 : decode cX5_readsOrder 86 = .ok (.aload_n 0, 1) := by decide +kernel
theorem dX5_readsOrder_87 : decode cX5_readsOrder 87 = .ok (.getfield 232, 3) := by decide +kernel
theorem dX5_readsOrder_90 : decode cX5_readsOrder 90 = .ok (.ifCond .ne 48, 3) := by decide +kernel
theorem dX5_readsOrder_93 : decode cX5_readsOrder 93 = .ok (.aload_n 0, 1) := by decide +kernel
theorem dX5_readsOrder_94 : decode cX5_readsOrder 94 = .ok (.invokevirtual 229, 3) := by decide +kernel
theorem dX5_readsOrder_97 : decode cX5_readsOrder 97 = .ok (.aload_n 0, 1) := by decide +kernel
theorem dX5_readsOrder_98 : decode cX5_readsOrder 98 = .ok (.aload_n 0, 1) := by decide +kernel
theorem dX5_readsOrder_99 : decode cX5_readsOrder 99 = .ok (.bipush 59, 2) := by decide +kernel
theorem dX5_readsOrder_101 : decode cX5_readsOrder 101 = .ok (.bipush 59, 2) := by decide +kernel
theorem dX5_readsOrder_103 : decode cX5_readsOrder 103 = .ok (.invokevirtual 226, 3) := by decide +kernel
theorem dX5_readsOrder_106 : decode cX5_readsOrder 106 = .ok (.ifCond .ne 7, 3) := by decide +kernel
theorem dX5_readsOrder_109 : decode cX5_readsOrder 109 = .ok (.iconst 1, 1) := by decide +kernel
theorem dX5_readsOrder_110 : decode cX5_readsOrder 110 = .ok (.goto 4, 3) := by decide +kernel
theorem dX5_readsOrder_113 : decode cX5_readsOrder 113 = .ok (.iconst 0, 1) := by decide +kernel
theorem dX5_readsOrder_114 : decode cX5_readsOrder 114 = .ok (.putfield 232, 3) := by decide +kernel
theorem dX5_readsOrder_117 : decode cX5_readsOrder 117 = .ok (.aload_n 0, 1) := by decide +kernel
theorem dX5_readsOrder_118 : decode cX5_readsOrder 118 = .ok (.dup, 1) := by decide +kernel
theorem dX5_readsOrder_119 : decode cX5_readsOrder 119 = .ok (.getfield 223, 3) := by decide +kernel
theorem dX5_readsOrder_122 : decode cX5_readsOrder 122 = .ok (.aload_n 0, 1) := by decide +kernel
theorem dX5_readsOrder_123 : decode cX5_readsOrder 123 = .ok (.getfield 232, 3) := by decide +kernel
theorem dX5_readsOrder_126 : decode cX5_readsOrder 126 = .ok (.ifCond .eq 7, 3) := by decide +kernel
theorem dX5_readsOrder_129 : decode cX5_readsOrder 129 = .ok (.iconst 0, 1) := by decide +kernel
theorem dX5_readsOrder_130 : decode cX5_readsOrder 130 = .ok (.goto 4, 3) := by decide +kernel
theorem dX5_readsOrder_133 : decode cX5_readsOrder 133 = .ok (.iconst 1, 1) := by decide +kernel
theorem dX5_readsOrder_134 : decode cX5_readsOrder 134 = .ok (.iadd, 1) := by decide +kernel
theorem dX5_readsOrder_135 : decode cX5_readsOrder 135 = .ok (.putfield 223, 3) := by decide +kernel
theorem dX5_readsOrder_138 : decode cX5_readsOrder 138 = .ok (.aload_n 0, 1) := by decide +kernel
theorem dX5_readsOrder_139 : decode cX5_readsOrder 139 = .ok (.getfield 232, 3) := by decide +kernel
theorem dX5_readsOrder_142 : decode cX5_readsOrder 142 = .ok (.ifCond .ne 23, 3) := by decide +kernel
theorem dX5_readsOrder_145 : decode cX5_readsOrder 145 = .ok (.aload_n 0, 1) := by decide +kernel
theorem dX5_readsOrder_146 : decode cX5_readsOrder 146 = .ok (.getfield 49, 3) := by decide +kernel
theorem dX5_readsOrder_149 : decode cX5_readsOrder 149 = .ok (.aload_n 0, 1) := by decide +kernel
theorem dX5_readsOrder_150 : decode cX5_readsOrder 150 = .ok (.getfield 239, 3) := by decide +kernel
theorem dX5_readsOrder_153 : decode cX5_readsOrder 153 = .ok (.iload_n 1, 1) := by decide +kernel
theorem dX5_readsOrder_154 : decode cX5_readsOrder 154 = .ok (.iastore, 1) := by decide +kernel
theorem dX5_readsOrder_155 : decode cX5_readsOrder 155 = .ok (.aload_n 0, 1) := by decide +kernel
theorem dX5_readsOrder_156 : decode cX5_readsOrder 156 = .ok (.dup, 1) := by decide +kernel
theorem dX5_readsOrder_157 : decode cX5_readsOrder 157 = .ok (.getfield 239, 3) := by decide +kernel
theorem dX5_readsOrder_160 : decode cX5_readsOrder 160 = .ok (.iconst 1, 1) := by decide +kernel
theorem dX5_readsOrder_161 : decode cX5_readsOrder 161 = .ok (.iadd, 1) := by decide +kernel
theorem dX5_readsOrder_162 : decode cX5_readsOrder 162 = .ok (.putfield 239, 3) := by decide +kernel
theorem dX5_readsOrder_165 : decode cX5_readsOrder 165 = .ok (.return_, 1) := by decide +kernel
theorem dX5_reads_0 : decode cX5_reads 0 = .ok (.aload_n 0, 1) := by decide +kernel
theorem dX5_reads_1 : decode cX5_reads 1 = .ok (.iconst 0, 1) := by decide +kernel
theorem dX5_reads_2 : decode cX5_reads 2 = .ok (.putfield 223, 3) := by decide +kernel
theorem dX5_reads_5 : decode cX5_reads 5 = .ok (.aload_n 0, 1) := by decide +kernel
theorem dX5_reads_6 : decode cX5_reads 6 = .ok (.iconst 0, 1) := by decide +kernel
theorem dX5_reads_7 : decode cX5_reads 7 = .ok (.putfield 239, 3) := by decide +kernel
theorem dX5_reads_10 : decode cX5_reads 10 = .ok (.aload_n 0, 1) := by decide +kernel
theorem dX5_reads_11 : decode cX5_reads 11 = .ok (.invokevirtual 229, 3) := by decide +kernel
theorem dX5_reads_14 : decode cX5_reads 14 = .ok (.aload_n 0, 1) := by decide +kernel
theorem dX5_reads_15 : decode cX5_reads 15 = .ok (.aload_n 0, 1) := by decide +kernel
theorem dX5_reads_16 : decode cX5_reads 16 = .ok (.getfield 223, 3) := by decide +kernel
theorem dX5_reads_19 : decode cX5_reads 19 = .ok (.aload_n 0, 1) := by decide +kernel
theorem dX5_reads_20 : decode cX5_reads 20 = .ok (.getfield 220, 3) := by decide +kernel
theorem dX5_reads_23 : decode cX5_reads 23 = .ok (.if_icmp .ne 7, 3) := by decide +kernel
theorem dX5_reads_26 : decode cX5_reads 26 = .ok (.iconst 1, 1) := by decide +kernel
theorem dX5_reads_27 : decode cX5_reads 27 = .ok (.goto 4, 3) := by decide +kernel
theorem dX5_reads_30 : decode cX5_reads 30 = .ok (.iconst 0, 1) := by decide +kernel
theorem dX5_reads_31 : decode cX5_reads 31 = .ok (.putfield 232, 3) := by decide +kernel
theorem dX5_reads_34 : decode cX5_reads 34 = .ok (.aload_n 0, 1) := by decide +kernel
theorem dX5_reads_35 : decode cX5_reads 35 = .ok (.getfield 232, 3) := by decide +kernel
theorem dX5_reads_38 : decode cX5_reads 38 = .ok (.ifCond .ne 32, 3) := by decide +kernel
theorem dX5_reads_41 : decode cX5_reads 41 = .ok (.aload_n 0, 1) := by decide +kernel
theorem dX5_reads_42 : decode cX5_reads 42 = .ok (.getfield 223, 3) := by decide +kernel
theorem dX5_reads_45 : decode cX5_reads 45 = .ok (.aload_n 0, 1) := by decide +kernel
theorem dX5_reads_46 : decode cX5_reads 46 = .ok (.getfield 220, 3) := by decide +kernel
theorem dX5_reads_49 : decode cX5_reads 49 = .ok (.if_icmp .ge 21, 3) := by decide +kernel
theorem dX5_reads_52 : decode cX5_reads 52 = .ok (.aload_n 0, 1) := by decide +kernel
theorem dX5_reads_53 : decode cX5_reads 53 = .ok (.invokevirtual 245, 3) := by decide +kernel
theorem dX5_reads_56 : decode cX5_reads 56 = .ok (.aload_n 0, 1) := by decide +kernel
theorem dX5_reads_57 : decode cX5_reads 57 = .ok (.getfield 232, 3) := by decide +kernel
theorem dX5_reads_60 : decode cX5_reads 60 = .ok (.ifCond .ne (-26), 3) := by decide +kernel
theorem dX5_reads_63 : decode cX5_reads 63 = .ok (.aload_n 0, 1) := by decide +kernel
theorem dX5_reads_64 : decode cX5_reads 64 = .ok (.invokevirtual 229, 3) := by decide +kernel
theorem dX5_reads_67 : decode cX5_reads 67 = .ok (.goto (-33), 3) := by decide +kernel
theorem dX5_reads_70 : decode cX5_reads 70 = .ok (.aload_n 0, 1) := by decide +kernel
theorem dX5_reads_71 : decode cX5_reads 71 = .ok (.getfield 232, 3) := by decide +kernel
theorem dX5_reads_74 : decode cX5_reads 74 = .ok (.ifCond .ne 7, 3) := by decide +kernel
theorem dX5_reads_77 : decode cX5_reads 77 = .ok (.iconst 1, 1) := by decide +kernel
theorem dX5_reads_78 : decode cX5_reads 78 = .ok (.goto 4, 3) := by decide +kernel
theorem dX5_reads_81 : decode cX5_reads 81 = .ok (.iconst 0, 1) := by decide +kernel
theorem dX5_reads_82 : decode cX5_reads 82 = .ok (.ireturn, 1) := by decide +kernel
theorem dX5_doesOrder_0 : decode cX5_doesOrder 0 = .ok (.aload_n 0, 1) := by decide +kernel
theorem dX5_doesOrder_1 : decode cX5_doesOrder 1 = .ok (.getfield 52, 3) := by decide +kernel
theorem dX5_doesOrder_4 : decode cX5_doesOrder 4 = .ok (.iconst 3, 1) := by decide +kernel
theorem dX5_doesOrder_5 : decode cX5_doesOrder 5 = .ok (.iload_n 1, 1) := by decide +kernel
theorem dX5_doesOrder_6 : decode cX5_doesOrder 6 = .ok (.imul, 1) := by decide +kernel
theorem dX5_doesOrder_7 : decode cX5_doesOrder 7 = .ok (.iaload, 1) := by decide +kernel
theorem dX5_doesOrder_8 : decode cX5_doesOrder 8 = .ok (.istore_n 2, 1) := by decide +kernel
theorem dX5_doesOrder_9 : decode cX5_doesOrder 9 = .ok (.aload_n 0, 1) := by decide +kernel
theorem dX5_doesOrder_10 : decode cX5_doesOrder 10 = .ok (.getfield 52, 3) := by decide +kernel
theorem dX5_doesOrder_13 : decode cX5_doesOrder 13 = .ok (.iconst 3, 1) := by decide +kernel
theorem dX5_doesOrder_14 : decode cX5_doesOrder 14 = .ok (.iload_n 1, 1) := by decide +kernel
theorem dX5_doesOrder_15 : decode cX5_doesOrder 15 = .ok (.imul, 1) := by decide +kernel
theorem dX5_doesOrder_16 : decode cX5_doesOrder 16 = .ok (.iconst 1, 1) := by decide +kernel
theorem dX5_doesOrder_17 : decode cX5_doesOrder 17 = .ok (.iadd, 1) := by decide +kernel
theorem dX5_doesOrder_18 : decode cX5_doesOrder 18 = .ok (.iaload, 1) := by decide +kernel
theorem dX5_doesOrder_19 : decode cX5_doesOrder 19 = .ok (.istore_n 3, 1) := by decide +kernel
theorem dX5_doesOrder_20 : decode cX5_doesOrder 20 = .ok (.aload_n 0, 1) := by decide +kernel
theorem dX5_doesOrder_21 : decode cX5_doesOrder 21 = .ok (.getfield 49, 3) := by decide +kernel
theorem dX5_doesOrder_24 : decode cX5_doesOrder 24 = .ok (.iload_n 1, 1) := by decide +kernel
theorem dX5_doesOrder_25 : decode cX5_doesOrder 25 = .ok (.iaload, 1) := by decide +kernel
theorem dX5_doesOrder_26 : decode cX5_doesOrder 26 = .ok (.lookupswitch 94 #[(103, 56), (105, 50), (109, 70), (111, 87), (120, 63)], 50) := by decide +kernel
theorem dX5_doesOrder_76 : decode cX5_doesOrder 76 = .ok (.aload_n 0, 1) := by decide +kernel
theorem dX5_doesOrder_77 : decode cX5_doesOrder 77 = .ok (.iload_n 2, 1) := by decide +kernel
theorem dX5_doesOrder_78 : decode cX5_doesOrder 78 = .ok (.invokevirtual 104, 3) := by decide +kernel
theorem dX5_doesOrder_81 : decode cX5_doesOrder 81 = .ok (.ireturn, 1) := by decide +kernel
theorem dX5_doesOrder_82 : decode cX5_doesOrder 82 = .ok (.aload_n 0, 1) := by decide +kernel
theorem dX5_doesOrder_83 : decode cX5_doesOrder 83 = .ok (.iload_n 2, 1) := by decide +kernel
theorem dX5_doesOrder_84 : decode cX5_doesOrder 84 = .ok (.iload_n 3, 1) := by decide +kernel
theorem dX5_doesOrder_85 : decode cX5_doesOrder 85 = .ok (.invokevirtual 110, 3) := by decide +kernel
theorem dX5_doesOrder_88 : decode cX5_doesOrder 88 = .ok (.ireturn, 1) := by decide +kernel
theorem dX5_doesOrder_89 : decode cX5_doesOrder 89 = .ok (.aload_n 0, 1) := by decide +kernel
theorem dX5_doesOrder_90 : decode cX5_doesOrder 90 = .ok (.iload_n 2, 1) := by decide +kernel
theorem dX5_doesOrder_91 : decode cX5_doesOrder 91 = .ok (.iload_n 3, 1) := by decide +kernel
theorem dX5_doesOrder_92 : decode cX5_doesOrder 92 = .ok (.invokevirtual 113, 3) := by decide +kernel
theorem dX5_doesOrder_95 : decode cX5_doesOrder 95 = .ok (.ireturn, 1) := by decide +kernel
theorem dX5_doesOrder_96 : decode cX5_doesOrder 96 = .ok (.aload_n 0, 1) := by decide +kernel
theorem dX5_doesOrder_97 : decode cX5_doesOrder 97 = .ok (.iload_n 2, 1) := by decide +kernel
theorem dX5_doesOrder_98 : decode cX5_doesOrder 98 = .ok (.iload_n 3, 1) := by decide +kernel
theorem dX5_doesOrder_99 : decode cX5_doesOrder 99 = .ok (.aload_n 0, 1) := by decide +kernel
theorem dX5_doesOrder_100 : decode cX5_doesOrder 100 = .ok (.getfield 52, 3) := by decide +kernel
theorem dX5_doesOrder_103 : decode cX5_doesOrder 103 = .ok (.iconst 3, 1) := by decide +kernel
theorem dX5_doesOrder_104 : decode cX5_doesOrder 104 = .ok (.iload_n 1, 1) := by decide +kernel
theorem dX5_doesOrder_105 : decode cX5_doesOrder 105 = .ok (.imul, 1) := by decide +kernel
theorem dX5_doesOrder_106 : decode cX5_doesOrder 106 = .ok (.iconst 2, 1) := by decide +kernel
theorem dX5_doesOrder_107 : decode cX5_doesOrder 107 = .ok (.iadd, 1) := by decide +kernel
theorem dX5_doesOrder_108 : decode cX5_doesOrder 108 = .ok (.iaload, 1) := by decide +kernel
theorem dX5_doesOrder_109 : decode cX5_doesOrder 109 = .ok (.invokevirtual 116, 3) := by decide +kernel
theorem dX5_doesOrder_112 : decode cX5_doesOrder 112 = .ok (.ireturn, 1) := by decide +kernel
theorem dX5_doesOrder_113 : decode cX5_doesOrder 113 = .ok (.aload_n 0, 1) := by decide +kernel
theorem dX5_doesOrder_114 : decode cX5_doesOrder 114 = .ok (.iload_n 2, 1) := by decide +kernel
theorem dX5_doesOrder_115 : decode cX5_doesOrder 115 = .ok (.iload_n 3, 1) := by decide +kernel
theorem dX5_doesOrder_116 : decode cX5_doesOrder 116 = .ok (.invokevirtual 120, 3) := by decide +kernel
theorem dX5_doesOrder_119 : decode cX5_doesOrder 119 = .ok (.ireturn, 1) := by decide +kernel
theorem dX5_doesOrder_120 : decode cX5_doesOrder 120 = .ok (.aload_n 0, 1) := by decide +kernel
theorem dX5_doesOrder_121 : decode cX5_doesOrder 121 = .ok (.iload_n 2, 1) := by decide +kernel
theorem dX5_doesOrder_122 : decode cX5_doesOrder 122 = .ok (.invokevirtual 123, 3) := by decide +kernel
theorem dX5_doesOrder_125 : decode cX5_doesOrder 125 = .ok (.ireturn, 1) := by decide +kernel
theorem dX5_does_0 : decode cX5_does 0 = .ok (.aload_n 0, 1) := by decide +kernel
theorem dX5_does_1 : decode cX5_does 1 = .ok (.invokevirtual 248, 3) := by decide +kernel
theorem dX5_does_4 : decode cX5_does 4 = .ok (.ifCond .ne 11, 3) := by decide +kernel
theorem dX5_does_7 : decode cX5_does 7 = .ok (.bipush (-10), 2) := by decide +kernel
theorem dX5_does_9 : decode cX5_does 9 = .ok (.aload_n 0, 1) := by decide +kernel
theorem dX5_does_10 : decode cX5_does 10 = .ok (.getfield 223, 3) := by decide +kernel
theorem dX5_does_13 : decode cX5_does 13 = .ok (.isub, 1) := by decide +kernel
theorem dX5_does_14 : decode cX5_does 14 = .ok (.ireturn, 1) := by decide +kernel
theorem dX5_does_15 : decode cX5_does 15 = .ok (.aload_n 0, 1) := by decide +kernel
theorem dX5_does_16 : decode cX5_does 16 = .ok (.invokevirtual 101, 3) := by decide +kernel
theorem dX5_does_19 : decode cX5_does 19 = .ok (.iconst 0, 1) := by decide +kernel
theorem dX5_does_20 : decode cX5_does 20 = .ok (.istore_n 1, 1) := by decide +kernel
theorem dX5_does_21 : decode cX5_does 21 = .ok (.iload_n 1, 1) := by decide +kernel
theorem dX5_does_22 : decode cX5_does 22 = .ok (.aload_n 0, 1) := by decide +kernel
theorem dX5_does_23 : decode cX5_does 23 = .ok (.getfield 239, 3) := by decide +kernel
theorem dX5_does_26 : decode cX5_does 26 = .ok (.if_icmp .ge 49, 3) := by decide +kernel
theorem dX5_does_29 : decode cX5_does 29 = .ok (.aload_n 0, 1) := by decide +kernel
theorem dX5_does_30 : decode cX5_does 30 = .ok (.iload_n 1, 1) := by decide +kernel
theorem dX5_does_31 : decode cX5_does 31 = .ok (.invokevirtual 252, 3) := by decide +kernel
theorem dX5_does_34 : decode cX5_does 34 = .ok (.ifCond .ge 35, 3) := by decide +kernel
theorem dX5_does_37 : decode cX5_does 37 = .ok (.iconst 0, 1) := by decide +kernel
theorem dX5_does_38 : decode cX5_does 38 = .ok (.istore_n 2, 1) := by decide +kernel
theorem dX5_does_39 : decode cX5_does 39 = .ok (.iload_n 2, 1) := by decide +kernel
theorem dX5_does_40 : decode cX5_does 40 = .ok (.bipush 125, 2) := by decide +kernel
theorem dX5_does_42 : decode cX5_does 42 = .ok (.if_icmp .ge 21, 3) := by decide +kernel
theorem dX5_does_45 : decode cX5_does 45 = .ok (.aload_n 0, 1) := by decide +kernel
theorem dX5_does_46 : decode cX5_does 46 = .ok (.getfield 7, 3) := by decide +kernel
theorem dX5_does_49 : decode cX5_does 49 = .ok (.iload_n 2, 1) := by decide +kernel
theorem dX5_does_50 : decode cX5_does 50 = .ok (.aload_n 0, 1) := by decide +kernel
theorem dX5_does_51 : decode cX5_does 51 = .ok (.getfield 13, 3) := by decide +kernel
theorem dX5_does_54 : decode cX5_does 54 = .ok (.iload_n 2, 1) := by decide +kernel
theorem dX5_does_55 : decode cX5_does 55 = .ok (.iaload, 1) := by decide +kernel
theorem dX5_does_56 : decode cX5_does 56 = .ok (.iastore, 1) := by decide +kernel
theorem dX5_does_57 : decode cX5_does 57 = .ok (.iinc 2 1, 3) := by decide +kernel
theorem dX5_does_60 : decode cX5_does 60 = .ok (.goto (-21), 3) := by decide +kernel
theorem dX5_does_63 : decode cX5_does 63 = .ok (.sipush (-1000), 3) := by decide +kernel
theorem dX5_does_66 : decode cX5_does 66 = .ok (.iload_n 1, 1) := by decide +kernel
theorem dX5_does_67 : decode cX5_does 67 = .ok (.isub, 1) := by decide +kernel
theorem dX5_does_68 : decode cX5_does 68 = .ok (.ireturn, 1) := by decide +kernel
theorem dX5_does_69 : decode cX5_does 69 = .ok (.iinc 1 1, 3) := by decide +kernel
theorem dX5_does_72 : decode cX5_does 72 = .ok (.goto (-51), 3) := by decide +kernel
theorem dX5_does_75 : decode cX5_does 75 = .ok (.aload_n 0, 1) := by decide +kernel
theorem dX5_does_76 : decode cX5_does 76 = .ok (.invokevirtual 71, 3) := by decide +kernel
theorem dX5_does_79 : decode cX5_does 79 = .ok (.aload_n 0, 1) := by decide +kernel
theorem dX5_does_80 : decode cX5_does 80 = .ok (.getfield 239, 3) := by decide +kernel
theorem dX5_does_83 : decode cX5_does 83 = .ok (.ireturn, 1) := by decide +kernel
theorem dX5_toldOf_0 : decode cX5_toldOf 0 = .ok (.iload_n 1, 1) := by decide +kernel
theorem dX5_toldOf_1 : decode cX5_toldOf 1 = .ok (.iconst 3, 1) := by decide +kernel
theorem dX5_toldOf_2 : decode cX5_toldOf 2 = .ok (.if_icmp .ge 12, 3) := by decide +kernel
theorem dX5_toldOf_5 : decode cX5_toldOf 5 = .ok (.aload_n 0, 1) := by decide +kernel
theorem dX5_toldOf_6 : decode cX5_toldOf 6 = .ok (.getfield 19, 3) := by decide +kernel
theorem dX5_toldOf_9 : decode cX5_toldOf 9 = .ok (.iload_n 1, 1) := by decide +kernel
theorem dX5_toldOf_10 : decode cX5_toldOf 10 = .ok (.iaload, 1) := by decide +kernel
theorem dX5_toldOf_11 : decode cX5_toldOf 11 = .ok (.goto 19, 3) := by decide +kernel
theorem dX5_toldOf_14 : decode cX5_toldOf 14 = .ok (.iload_n 1, 1) := by decide +kernel
theorem dX5_toldOf_15 : decode cX5_toldOf 15 = .ok (.iconst 3, 1) := by decide +kernel
theorem dX5_toldOf_16 : decode cX5_toldOf 16 = .ok (.if_icmp .ne 10, 3) := by decide +kernel
theorem dX5_toldOf_19 : decode cX5_toldOf 19 = .ok (.aload_n 0, 1) := by decide +kernel
theorem dX5_toldOf_20 : decode cX5_toldOf 20 = .ok (.getfield 220, 3) := by decide +kernel
theorem dX5_toldOf_23 : decode cX5_toldOf 23 = .ok (.goto 7, 3) := by decide +kernel
theorem dX5_toldOf_26 : decode cX5_toldOf 26 = .ok (.aload_n 0, 1) := by decide +kernel
theorem dX5_toldOf_27 : decode cX5_toldOf 27 = .ok (.getfield 63, 3) := by decide +kernel
theorem dX5_toldOf_30 : decode cX5_toldOf 30 = .ok (.ireturn, 1) := by decide +kernel
theorem dX5_told_0 : decode cX5_told 0 = .ok (.iload_n 1, 1) := by decide +kernel
theorem dX5_told_1 : decode cX5_told 1 = .ok (.iconst 0, 1) := by decide +kernel
theorem dX5_told_2 : decode cX5_told 2 = .ok (.iconst 4, 1) := by decide +kernel
theorem dX5_told_3 : decode cX5_told 3 = .ok (.invokestatic 55, 3) := by decide +kernel
theorem dX5_told_6 : decode cX5_told 6 = .ok (.ifCond .eq 11, 3) := by decide +kernel
theorem dX5_told_9 : decode cX5_told 9 = .ok (.aload_n 0, 1) := by decide +kernel
theorem dX5_told_10 : decode cX5_told 10 = .ok (.iload_n 1, 1) := by decide +kernel
theorem dX5_told_11 : decode cX5_told 11 = .ok (.invokevirtual 255, 3) := by decide +kernel
theorem dX5_told_14 : decode cX5_told 14 = .ok (.goto 7, 3) := by decide +kernel
theorem dX5_told_17 : decode cX5_told 17 = .ok (.aload_n 0, 1) := by decide +kernel
theorem dX5_told_18 : decode cX5_told 18 = .ok (.invokevirtual 77, 3) := by decide +kernel
theorem dX5_told_21 : decode cX5_told 21 = .ok (.ireturn, 1) := by decide +kernel
theorem dX5_mix_0 : decode cX5_mix 0 = .ok (.aload_n 0, 1) := by decide +kernel
theorem dX5_mix_1 : decode cX5_mix 1 = .ok (.ldc2_w 258, 3) := by decide +kernel
theorem dX5_mix_4 : decode cX5_mix 4 = .ok (.aload_n 0, 1) := by decide +kernel
theorem dX5_mix_5 : decode cX5_mix 5 = .ok (.getfield 260, 3) := by decide +kernel
theorem dX5_mix_8 : decode cX5_mix 8 = .ok (.lmul, 1) := by decide +kernel
theorem dX5_mix_9 : decode cX5_mix 9 = .ok (.iload_n 1, 1) := by decide +kernel
theorem dX5_mix_10 : decode cX5_mix 10 = .ok (.i2l, 1) := by decide +kernel
theorem dX5_mix_11 : decode cX5_mix 11 = .ok (.ladd, 1) := by decide +kernel
theorem dX5_mix_12 : decode cX5_mix 12 = .ok (.putfield 260, 3) := by decide +kernel
theorem dX5_mix_15 : decode cX5_mix 15 = .ok (.return_, 1) := by decide +kernel
theorem dX5_mixNode_0 : decode cX5_mixNode 0 = .ok (.iload_n 1, 1) := by decide +kernel
theorem dX5_mixNode_1 : decode cX5_mixNode 1 = .ok (.aload_n 0, 1) := by decide +kernel
theorem dX5_mixNode_2 : decode cX5_mixNode 2 = .ok (.getfield 7, 3) := by decide +kernel
theorem dX5_mixNode_5 : decode cX5_mixNode 5 = .ok (.iconst 0, 1) := by decide +kernel
theorem dX5_mixNode_6 : decode cX5_mixNode 6 = .ok (.iaload, 1) := by decide +kernel
theorem dX5_mixNode_7 : decode cX5_mixNode 7 = .ok (.if_icmp .le 28, 3) := by decide +kernel
theorem dX5_mixNode_10 : decode cX5_mixNode 10 = .ok (.aload_n 0, 1) := by decide +kernel
theorem dX5_mixNode_11 : decode cX5_mixNode 11 = .ok (.aload_n 0, 1) := by decide +kernel
theorem dX5_mixNode_12 : decode cX5_mixNode 12 = .ok (.getfield 7, 3) := by decide +kernel
theorem dX5_mixNode_15 : decode cX5_mixNode 15 = .ok (.iconst 2, 1) := by decide +kernel
theorem dX5_mixNode_16 : decode cX5_mixNode 16 = .ok (.iload_n 1, 1) := by decide +kernel
theorem dX5_mixNode_17 : decode cX5_mixNode 17 = .ok (.iadd, 1) := by decide +kernel
theorem dX5_mixNode_18 : decode cX5_mixNode 18 = .ok (.iaload, 1) := by decide +kernel
theorem dX5_mixNode_19 : decode cX5_mixNode 19 = .ok (.invokevirtual 264, 3) := by decide +kernel
theorem dX5_mixNode_22 : decode cX5_mixNode 22 = .ok (.aload_n 0, 1) := by decide +kernel
theorem dX5_mixNode_23 : decode cX5_mixNode 23 = .ok (.aload_n 0, 1) := by decide +kernel
theorem dX5_mixNode_24 : decode cX5_mixNode 24 = .ok (.getfield 7, 3) := by decide +kernel
theorem dX5_mixNode_27 : decode cX5_mixNode 27 = .ok (.bipush 50, 2) := by decide +kernel
theorem dX5_mixNode_29 : decode cX5_mixNode 29 = .ok (.iload_n 1, 1) := by decide +kernel
theorem dX5_mixNode_30 : decode cX5_mixNode 30 = .ok (.iadd, 1) := by decide +kernel
theorem dX5_mixNode_31 : decode cX5_mixNode 31 = .ok (.iaload, 1) := by decide +kernel
theorem dX5_mixNode_32 : decode cX5_mixNode 32 = .ok (.invokevirtual 264, 3) := by decide +kernel
theorem dX5_mixNode_35 : decode cX5_mixNode 35 = .ok (.aload_n 0, 1) := by decide +kernel
theorem dX5_mixNode_36 : decode cX5_mixNode 36 = .ok (.aload_n 0, 1) := by decide +kernel
theorem dX5_mixNode_37 : decode cX5_mixNode 37 = .ok (.getfield 25, 3) := by decide +kernel
theorem dX5_mixNode_40 : decode cX5_mixNode 40 = .ok (.iload_n 1, 1) := by decide +kernel
theorem dX5_mixNode_41 : decode cX5_mixNode 41 = .ok (.iaload, 1) := by decide +kernel
theorem dX5_mixNode_42 : decode cX5_mixNode 42 = .ok (.invokevirtual 264, 3) := by decide +kernel
theorem dX5_mixNode_45 : decode cX5_mixNode 45 = .ok (.aload_n 0, 1) := by decide +kernel
theorem dX5_mixNode_46 : decode cX5_mixNode 46 = .ok (.aload_n 0, 1) := by decide +kernel
theorem dX5_mixNode_47 : decode cX5_mixNode 47 = .ok (.iload_n 1, 1) := by decide +kernel
theorem dX5_mixNode_48 : decode cX5_mixNode 48 = .ok (.invokevirtual 199, 3) := by decide +kernel
theorem dX5_mixNode_51 : decode cX5_mixNode 51 = .ok (.invokevirtual 264, 3) := by decide +kernel
theorem dX5_mixNode_54 : decode cX5_mixNode 54 = .ok (.aload_n 0, 1) := by decide +kernel
theorem dX5_mixNode_55 : decode cX5_mixNode 55 = .ok (.aload_n 0, 1) := by decide +kernel
theorem dX5_mixNode_56 : decode cX5_mixNode 56 = .ok (.getfield 31, 3) := by decide +kernel
theorem dX5_mixNode_59 : decode cX5_mixNode 59 = .ok (.iload_n 1, 1) := by decide +kernel
theorem dX5_mixNode_60 : decode cX5_mixNode 60 = .ok (.iaload, 1) := by decide +kernel
theorem dX5_mixNode_61 : decode cX5_mixNode 61 = .ok (.invokevirtual 264, 3) := by decide +kernel
theorem dX5_mixNode_64 : decode cX5_mixNode 64 = .ok (.return_, 1) := by decide +kernel
theorem dX5_mixOuts_0 : decode cX5_mixOuts 0 = .ok (.iconst 0, 1) := by decide +kernel
theorem dX5_mixOuts_1 : decode cX5_mixOuts 1 = .ok (.istore_n 2, 1) := by decide +kernel
theorem dX5_mixOuts_2 : decode cX5_mixOuts 2 = .ok (.iload_n 2, 1) := by decide +kernel
theorem dX5_mixOuts_3 : decode cX5_mixOuts 3 = .ok (.aload_n 0, 1) := by decide +kernel
theorem dX5_mixOuts_4 : decode cX5_mixOuts 4 = .ok (.getfield 7, 3) := by decide +kernel
theorem dX5_mixOuts_7 : decode cX5_mixOuts 7 = .ok (.bipush 98, 2) := by decide +kernel
theorem dX5_mixOuts_9 : decode cX5_mixOuts 9 = .ok (.iload_n 1, 1) := by decide +kernel
theorem dX5_mixOuts_10 : decode cX5_mixOuts 10 = .ok (.iadd, 1) := by decide +kernel
theorem dX5_mixOuts_11 : decode cX5_mixOuts 11 = .ok (.iaload, 1) := by decide +kernel
theorem dX5_mixOuts_12 : decode cX5_mixOuts 12 = .ok (.if_icmp .ge 27, 3) := by decide +kernel
theorem dX5_mixOuts_15 : decode cX5_mixOuts 15 = .ok (.aload_n 0, 1) := by decide +kernel
theorem dX5_mixOuts_16 : decode cX5_mixOuts 16 = .ok (.aload_n 0, 1) := by decide +kernel
theorem dX5_mixOuts_17 : decode cX5_mixOuts 17 = .ok (.getfield 7, 3) := by decide +kernel
theorem dX5_mixOuts_20 : decode cX5_mixOuts 20 = .ok (.bipush 100, 2) := by decide +kernel
theorem dX5_mixOuts_22 : decode cX5_mixOuts 22 = .ok (.bipush 6, 2) := by decide +kernel
theorem dX5_mixOuts_24 : decode cX5_mixOuts 24 = .ok (.iload_n 1, 1) := by decide +kernel
theorem dX5_mixOuts_25 : decode cX5_mixOuts 25 = .ok (.imul, 1) := by decide +kernel
theorem dX5_mixOuts_26 : decode cX5_mixOuts 26 = .ok (.iadd, 1) := by decide +kernel
theorem dX5_mixOuts_27 : decode cX5_mixOuts 27 = .ok (.iload_n 2, 1) := by decide +kernel
theorem dX5_mixOuts_28 : decode cX5_mixOuts 28 = .ok (.iadd, 1) := by decide +kernel
theorem dX5_mixOuts_29 : decode cX5_mixOuts 29 = .ok (.iaload, 1) := by decide +kernel
theorem dX5_mixOuts_30 : decode cX5_mixOuts 30 = .ok (.invokevirtual 264, 3) := by decide +kernel
theorem dX5_mixOuts_33 : decode cX5_mixOuts 33 = .ok (.iinc 2 1, 3) := by decide +kernel
theorem dX5_mixOuts_36 : decode cX5_mixOuts 36 = .ok (.goto (-34), 3) := by decide +kernel
theorem dX5_mixOuts_39 : decode cX5_mixOuts 39 = .ok (.return_, 1) := by decide +kernel
theorem dX5_digest_0 : decode cX5_digest 0 = .ok (.aload_n 0, 1) := by decide +kernel
theorem dX5_digest_1 : decode cX5_digest 1 = .ok (.ldc2_w 267, 3) := by decide +kernel
theorem dX5_digest_4 : decode cX5_digest 4 = .ok (.putfield 260, 3) := by decide +kernel
theorem dX5_digest_7 : decode cX5_digest 7 = .ok (.iconst 0, 1) := by decide +kernel
theorem dX5_digest_8 : decode cX5_digest 8 = .ok (.istore_n 1, 1) := by decide +kernel
theorem dX5_digest_9 : decode cX5_digest 9 = .ok (.iload_n 1, 1) := by decide +kernel
theorem dX5_digest_10 : decode cX5_digest 10 = .ok (.iconst 5, 1) := by decide +kernel
theorem dX5_digest_11 : decode cX5_digest 11 = .ok (.if_icmp .ge 18, 3) := by decide +kernel
theorem dX5_digest_14 : decode cX5_digest 14 = .ok (.aload_n 0, 1) := by decide +kernel
theorem dX5_digest_15 : decode cX5_digest 15 = .ok (.aload_n 0, 1) := by decide +kernel
theorem dX5_digest_16 : decode cX5_digest 16 = .ok (.iload_n 1, 1) := by decide +kernel
theorem dX5_digest_17 : decode cX5_digest 17 = .ok (.invokevirtual 255, 3) := by decide +kernel
theorem dX5_digest_20 : decode cX5_digest 20 = .ok (.invokevirtual 264, 3) := by decide +kernel
theorem dX5_digest_23 : decode cX5_digest 23 = .ok (.iinc 1 1, 3) := by decide +kernel
theorem dX5_digest_26 : decode cX5_digest 26 = .ok (.goto (-17), 3) := by decide +kernel
theorem dX5_digest_29 : decode cX5_digest 29 = .ok (.iconst 0, 1) := by decide +kernel
theorem dX5_digest_30 : decode cX5_digest 30 = .ok (.istore_n 1, 1) := by decide +kernel
theorem dX5_digest_31 : decode cX5_digest 31 = .ok (.iload_n 1, 1) := by decide +kernel
theorem dX5_digest_32 : decode cX5_digest 32 = .ok (.iconst 5, 1) := by decide +kernel
theorem dX5_digest_33 : decode cX5_digest 33 = .ok (.if_icmp .ge 18, 3) := by decide +kernel
theorem dX5_digest_36 : decode cX5_digest 36 = .ok (.aload_n 0, 1) := by decide +kernel
theorem dX5_digest_37 : decode cX5_digest 37 = .ok (.aload_n 0, 1) := by decide +kernel
theorem dX5_digest_38 : decode cX5_digest 38 = .ok (.iload_n 1, 1) := by decide +kernel
theorem dX5_digest_39 : decode cX5_digest 39 = .ok (.invokevirtual 196, 3) := by decide +kernel
theorem dX5_digest_42 : decode cX5_digest 42 = .ok (.invokevirtual 264, 3) := by decide +kernel
theorem dX5_digest_45 : decode cX5_digest 45 = .ok (.iinc 1 1, 3) := by decide +kernel
theorem dX5_digest_48 : decode cX5_digest 48 = .ok (.goto (-17), 3) := by decide +kernel
theorem dX5_digest_51 : decode cX5_digest 51 = .ok (.aload_n 0, 1) := by decide +kernel
theorem dX5_digest_52 : decode cX5_digest 52 = .ok (.invokevirtual 175, 3) := by decide +kernel
theorem dX5_digest_55 : decode cX5_digest 55 = .ok (.iconst 0, 1) := by decide +kernel
theorem dX5_digest_56 : decode cX5_digest 56 = .ok (.istore_n 1, 1) := by decide +kernel
theorem dX5_digest_57 : decode cX5_digest 57 = .ok (.iload_n 1, 1) := by decide +kernel
theorem dX5_digest_58 : decode cX5_digest 58 = .ok (.aload_n 0, 1) := by decide +kernel
theorem dX5_digest_59 : decode cX5_digest 59 = .ok (.getfield 7, 3) := by decide +kernel
theorem dX5_digest_62 : decode cX5_digest 62 = .ok (.iconst 1, 1) := by decide +kernel
theorem dX5_digest_63 : decode cX5_digest 63 = .ok (.iaload, 1) := by decide +kernel
theorem dX5_digest_64 : decode cX5_digest 64 = .ok (.if_icmp .ge 14, 3) := by decide +kernel
theorem dX5_digest_67 : decode cX5_digest 67 = .ok (.aload_n 0, 1) := by decide +kernel
theorem dX5_digest_68 : decode cX5_digest 68 = .ok (.iload_n 1, 1) := by decide +kernel
theorem dX5_digest_69 : decode cX5_digest 69 = .ok (.invokevirtual 269, 3) := by decide +kernel
theorem dX5_digest_72 : decode cX5_digest 72 = .ok (.iinc 1 1, 3) := by decide +kernel
theorem dX5_digest_75 : decode cX5_digest 75 = .ok (.goto (-18), 3) := by decide +kernel
theorem dX5_digest_78 : decode cX5_digest 78 = .ok (.aload_n 0, 1) := by decide +kernel
theorem dX5_digest_79 : decode cX5_digest 79 = .ok (.iconst 0, 1) := by decide +kernel
theorem dX5_digest_80 : decode cX5_digest 80 = .ok (.invokevirtual 272, 3) := by decide +kernel
theorem dX5_digest_83 : decode cX5_digest 83 = .ok (.aload_n 0, 1) := by decide +kernel
theorem dX5_digest_84 : decode cX5_digest 84 = .ok (.iconst 1, 1) := by decide +kernel
theorem dX5_digest_85 : decode cX5_digest 85 = .ok (.invokevirtual 272, 3) := by decide +kernel
theorem dX5_digest_88 : decode cX5_digest 88 = .ok (.iconst 0, 1) := by decide +kernel
theorem dX5_digest_89 : decode cX5_digest 89 = .ok (.istore_n 1, 1) := by decide +kernel
theorem dX5_digest_90 : decode cX5_digest 90 = .ok (.iload_n 1, 1) := by decide +kernel
theorem dX5_digest_91 : decode cX5_digest 91 = .ok (.aload_n 0, 1) := by decide +kernel
theorem dX5_digest_92 : decode cX5_digest 92 = .ok (.getfield 135, 3) := by decide +kernel
theorem dX5_digest_95 : decode cX5_digest 95 = .ok (.if_icmp .ge 19, 3) := by decide +kernel
theorem dX5_digest_98 : decode cX5_digest 98 = .ok (.aload_n 0, 1) := by decide +kernel
theorem dX5_digest_99 : decode cX5_digest 99 = .ok (.aload_n 0, 1) := by decide +kernel
theorem dX5_digest_100 : decode cX5_digest 100 = .ok (.getfield 28, 3) := by decide +kernel
theorem dX5_digest_103 : decode cX5_digest 103 = .ok (.iload_n 1, 1) := by decide +kernel
theorem dX5_digest_104 : decode cX5_digest 104 = .ok (.iaload, 1) := by decide +kernel
theorem dX5_digest_105 : decode cX5_digest 105 = .ok (.invokevirtual 264, 3) := by decide +kernel
theorem dX5_digest_108 : decode cX5_digest 108 = .ok (.iinc 1 1, 3) := by decide +kernel
theorem dX5_digest_111 : decode cX5_digest 111 = .ok (.goto (-21), 3) := by decide +kernel
theorem dX5_digest_114 : decode cX5_digest 114 = .ok (.iconst 0, 1) := by decide +kernel
theorem dX5_digest_115 : decode cX5_digest 115 = .ok (.istore_n 1, 1) := by decide +kernel
theorem dX5_digest_116 : decode cX5_digest 116 = .ok (.iload_n 1, 1) := by decide +kernel
theorem dX5_digest_117 : decode cX5_digest 117 = .ok (.bipush 6, 2) := by decide +kernel
theorem dX5_digest_119 : decode cX5_digest 119 = .ok (.if_icmp .ge 18, 3) := by decide +kernel
theorem dX5_digest_122 : decode cX5_digest 122 = .ok (.aload_n 0, 1) := by decide +kernel
theorem dX5_digest_123 : decode cX5_digest 123 = .ok (.aload_n 0, 1) := by decide +kernel
theorem dX5_digest_124 : decode cX5_digest 124 = .ok (.iload_n 1, 1) := by decide +kernel
theorem dX5_digest_125 : decode cX5_digest 125 = .ok (.invokevirtual 208, 3) := by decide +kernel
theorem dX5_digest_128 : decode cX5_digest 128 = .ok (.invokevirtual 264, 3) := by decide +kernel
theorem dX5_digest_131 : decode cX5_digest 131 = .ok (.iinc 1 1, 3) := by decide +kernel
theorem dX5_digest_134 : decode cX5_digest 134 = .ok (.goto (-18), 3) := by decide +kernel
theorem dX5_digest_137 : decode cX5_digest 137 = .ok (.aload_n 0, 1) := by decide +kernel
theorem dX5_digest_138 : decode cX5_digest 138 = .ok (.getfield 7, 3) := by decide +kernel
theorem dX5_digest_141 : decode cX5_digest 141 = .ok (.iconst 0, 1) := by decide +kernel
theorem dX5_digest_142 : decode cX5_digest 142 = .ok (.iaload, 1) := by decide +kernel
theorem dX5_digest_143 : decode cX5_digest 143 = .ok (.iconst 1, 1) := by decide +kernel
theorem dX5_digest_144 : decode cX5_digest 144 = .ok (.iadd, 1) := by decide +kernel
theorem dX5_digest_145 : decode cX5_digest 145 = .ok (.istore_n 1, 1) := by decide +kernel
theorem dX5_digest_146 : decode cX5_digest 146 = .ok (.iload_n 1, 1) := by decide +kernel
theorem dX5_digest_147 : decode cX5_digest 147 = .ok (.aload_n 0, 1) := by decide +kernel
theorem dX5_digest_148 : decode cX5_digest 148 = .ok (.getfield 7, 3) := by decide +kernel
theorem dX5_digest_151 : decode cX5_digest 151 = .ok (.iconst 1, 1) := by decide +kernel
theorem dX5_digest_152 : decode cX5_digest 152 = .ok (.iaload, 1) := by decide +kernel
theorem dX5_digest_153 : decode cX5_digest 153 = .ok (.if_icmp .ge 43, 3) := by decide +kernel
theorem dX5_digest_156 : decode cX5_digest 156 = .ok (.aload_n 0, 1) := by decide +kernel
theorem dX5_digest_157 : decode cX5_digest 157 = .ok (.getfield 40, 3) := by decide +kernel
theorem dX5_digest_160 : decode cX5_digest 160 = .ok (.iload_n 1, 1) := by decide +kernel
theorem dX5_digest_161 : decode cX5_digest 161 = .ok (.iaload, 1) := by decide +kernel
theorem dX5_digest_162 : decode cX5_digest 162 = .ok (.ifCond .le 28, 3) := by decide +kernel
theorem dX5_digest_165 : decode cX5_digest 165 = .ok (.aload_n 0, 1) := by decide +kernel
theorem dX5_digest_166 : decode cX5_digest 166 = .ok (.iload_n 1, 1) := by decide +kernel
theorem dX5_digest_167 : decode cX5_digest 167 = .ok (.invokevirtual 264, 3) := by decide +kernel
theorem dX5_digest_170 : decode cX5_digest 170 = .ok (.aload_n 0, 1) := by decide +kernel
theorem dX5_digest_171 : decode cX5_digest 171 = .ok (.aload_n 0, 1) := by decide +kernel
theorem dX5_digest_172 : decode cX5_digest 172 = .ok (.getfield 31, 3) := by decide +kernel
theorem dX5_digest_175 : decode cX5_digest 175 = .ok (.iload_n 1, 1) := by decide +kernel
theorem dX5_digest_176 : decode cX5_digest 176 = .ok (.iaload, 1) := by decide +kernel
theorem dX5_digest_177 : decode cX5_digest 177 = .ok (.invokevirtual 264, 3) := by decide +kernel
theorem dX5_digest_180 : decode cX5_digest 180 = .ok (.aload_n 0, 1) := by decide +kernel
theorem dX5_digest_181 : decode cX5_digest 181 = .ok (.aload_n 0, 1) := by decide +kernel
theorem dX5_digest_182 : decode cX5_digest 182 = .ok (.getfield 40, 3) := by decide +kernel
theorem dX5_digest_185 : decode cX5_digest 185 = .ok (.iload_n 1, 1) := by decide +kernel
theorem dX5_digest_186 : decode cX5_digest 186 = .ok (.iaload, 1) := by decide +kernel
theorem dX5_digest_187 : decode cX5_digest 187 = .ok (.invokevirtual 264, 3) := by decide +kernel
theorem dX5_digest_190 : decode cX5_digest 190 = .ok (.iinc 1 1, 3) := by decide +kernel
theorem dX5_digest_193 : decode cX5_digest 193 = .ok (.goto (-47), 3) := by decide +kernel
theorem dX5_digest_196 : decode cX5_digest 196 = .ok (.aload_n 0, 1) := by decide +kernel
theorem dX5_digest_197 : decode cX5_digest 197 = .ok (.aload_n 0, 1) := by decide +kernel
theorem dX5_digest_198 : decode cX5_digest 198 = .ok (.invokevirtual 217, 3) := by decide +kernel
theorem dX5_digest_201 : decode cX5_digest 201 = .ok (.invokevirtual 264, 3) := by decide +kernel
theorem dX5_digest_204 : decode cX5_digest 204 = .ok (.aload_n 0, 1) := by decide +kernel
theorem dX5_digest_205 : decode cX5_digest 205 = .ok (.getfield 260, 3) := by decide +kernel
theorem dX5_digest_208 : decode cX5_digest 208 = .ok (.lreturn, 1) := by decide +kernel
end
section
/-! one common word list: the good words of the tables -/
def LW : List Cond := lw_tbl.filter goodWord
theorem LWsub (ws : List Cond) (ps : List Nat) (hp : ws = ps.filterMap (fun i => lw_tbl[i]?)) (h : ws.all goodWord = true) : ∀ w ∈ ws, w ∈ LW := by
  intro w hw
  have h1 := List.all_eq_true.mp h w hw
  rw [hp] at hw
  obtain ⟨i, -, hi⟩ := List.mem_filterMap.mp hw
  exact List.mem_filter.mpr ⟨List.mem_of_getElem? hi, h1⟩
theorem LW_tbl : ∀ w ∈ LW, w ∈ lw_tbl := fun _ h => (List.mem_filter.mp h).1
theorem LW_good : ∀ w ∈ LW, goodWord w = true := fun _ h => (List.mem_filter.mp h).2
theorem LW_GoodIn : GoodIn lw_tbl LW := fun w h => ⟨LW_tbl w h, good_of_word (LW_good w h)⟩
theorem LW_self : GoodIn LW LW := fun w h => ⟨h, good_of_word (LW_good w h)⟩
def lw_c0 : List Cond := [.selects RX4 yX4_order yX4_order, .selects RX4 yX4_refuse yX4_refuse, .selects RX4 yX4_sweepNow yX4_sweepNow, .selects RX4 yX4_orderIsDone yX4_orderIsDone, .selects RX4 yX4_toldOf yX4_toldOf, .selects RX5 yX5_no yX5_no, .selects RX5 yX5_laysAside yX5_laysAside, .selects RX5 yX5_begins yX5_begins, .selects RX5 yX5_answers yX5_answers, .selects RX5 yX5_leaves yX5_leaves, .selects RX5 yX5_full yX5_full, .selects RX5 yX5_bad yX5_bad, .selects RX5 yX5_addsGate yX5_addsGate, .selects RX5 yX5_isLiteral yX5_isLiteral, .selects RX5 yX5_adds yX5_adds, .selects RX5 yX5_addsXor yX5_addsXor, .selects RX5 yX5_addsThree yX5_addsThree, .selects RX5 yX5_addsMux yX5_addsMux, .selects RX5 yX5_addsOut yX5_addsOut, .selects RX5 yX5_addsPattern yX5_addsPattern, .selects RX5 yX5_rows yX5_rows, .selects RX5 yX5_settlesAll yX5_settlesAll, .selects RX5 yX5_sweeps yX5_sweeps, .selects RX5 yX5_laysTables yX5_laysTables]
set_option maxRecDepth 20000 in
theorem lw_c0_in : ∀ w ∈ lw_c0, w ∈ LW := LWsub lw_c0 [0, 1, 2, 3, 4, 5, 6, 7, 8, 9, 10, 11, 12, 13, 14, 15, 16, 17, 18, 19, 20, 21, 22, 23] (by decide +kernel) (by decide +kernel)
theorem wd_0 : Cond.selects RX4 yX4_order yX4_order ∈ LW := lw_c0_in _ (List.mem_of_getElem? (i := 0) rfl)
theorem wd_1 : Cond.selects RX4 yX4_refuse yX4_refuse ∈ LW := lw_c0_in _ (List.mem_of_getElem? (i := 1) rfl)
theorem wd_2 : Cond.selects RX4 yX4_sweepNow yX4_sweepNow ∈ LW := lw_c0_in _ (List.mem_of_getElem? (i := 2) rfl)
theorem wd_3 : Cond.selects RX4 yX4_orderIsDone yX4_orderIsDone ∈ LW := lw_c0_in _ (List.mem_of_getElem? (i := 3) rfl)
theorem wd_4 : Cond.selects RX4 yX4_toldOf yX4_toldOf ∈ LW := lw_c0_in _ (List.mem_of_getElem? (i := 4) rfl)
theorem wd_5 : Cond.selects RX5 yX5_no yX5_no ∈ LW := lw_c0_in _ (List.mem_of_getElem? (i := 5) rfl)
theorem wd_6 : Cond.selects RX5 yX5_laysAside yX5_laysAside ∈ LW := lw_c0_in _ (List.mem_of_getElem? (i := 6) rfl)
theorem wd_7 : Cond.selects RX5 yX5_begins yX5_begins ∈ LW := lw_c0_in _ (List.mem_of_getElem? (i := 7) rfl)
theorem wd_8 : Cond.selects RX5 yX5_answers yX5_answers ∈ LW := lw_c0_in _ (List.mem_of_getElem? (i := 8) rfl)
theorem wd_9 : Cond.selects RX5 yX5_leaves yX5_leaves ∈ LW := lw_c0_in _ (List.mem_of_getElem? (i := 9) rfl)
theorem wd_10 : Cond.selects RX5 yX5_full yX5_full ∈ LW := lw_c0_in _ (List.mem_of_getElem? (i := 10) rfl)
theorem wd_11 : Cond.selects RX5 yX5_bad yX5_bad ∈ LW := lw_c0_in _ (List.mem_of_getElem? (i := 11) rfl)
theorem wd_12 : Cond.selects RX5 yX5_addsGate yX5_addsGate ∈ LW := lw_c0_in _ (List.mem_of_getElem? (i := 12) rfl)
theorem wd_13 : Cond.selects RX5 yX5_isLiteral yX5_isLiteral ∈ LW := lw_c0_in _ (List.mem_of_getElem? (i := 13) rfl)
theorem wd_14 : Cond.selects RX5 yX5_adds yX5_adds ∈ LW := lw_c0_in _ (List.mem_of_getElem? (i := 14) rfl)
theorem wd_15 : Cond.selects RX5 yX5_addsXor yX5_addsXor ∈ LW := lw_c0_in _ (List.mem_of_getElem? (i := 15) rfl)
theorem wd_16 : Cond.selects RX5 yX5_addsThree yX5_addsThree ∈ LW := lw_c0_in _ (List.mem_of_getElem? (i := 16) rfl)
theorem wd_17 : Cond.selects RX5 yX5_addsMux yX5_addsMux ∈ LW := lw_c0_in _ (List.mem_of_getElem? (i := 17) rfl)
theorem wd_18 : Cond.selects RX5 yX5_addsOut yX5_addsOut ∈ LW := lw_c0_in _ (List.mem_of_getElem? (i := 18) rfl)
theorem wd_19 : Cond.selects RX5 yX5_addsPattern yX5_addsPattern ∈ LW := lw_c0_in _ (List.mem_of_getElem? (i := 19) rfl)
theorem wd_20 : Cond.selects RX5 yX5_rows yX5_rows ∈ LW := lw_c0_in _ (List.mem_of_getElem? (i := 20) rfl)
theorem wd_21 : Cond.selects RX5 yX5_settlesAll yX5_settlesAll ∈ LW := lw_c0_in _ (List.mem_of_getElem? (i := 21) rfl)
theorem wd_22 : Cond.selects RX5 yX5_sweeps yX5_sweeps ∈ LW := lw_c0_in _ (List.mem_of_getElem? (i := 22) rfl)
theorem wd_23 : Cond.selects RX5 yX5_laysTables yX5_laysTables ∈ LW := lw_c0_in _ (List.mem_of_getElem? (i := 23) rfl)
def lw_c1 : List Cond := [.selects RX5 yX5_tableOf yX5_tableOf, .selects RX5 yX5_merges yX5_merges, .selects RX5 yX5_sweepsGate yX5_sweepsGate, .selects RX5 yX5_formOf yX5_formOf, .selects RX5 yX5_isByRules yX5_isByRules, .selects RX5 yX5_isThere yX5_isThere, .selects RX5 yX5_looksAt yX5_looksAt, .selects RX5 yX5_otherwise yX5_otherwise, .selects RX5 yX5_checks yX5_checks, .selects RX5 yX5_comes yX5_comes, .selects RX5 yX5_settled yX5_settled, .selects RX5 yX5_isGate yX5_isGate, .selects RX5 yX5_isNode yX5_isNode, .selects RX5 yX5_tellTable yX5_tellTable, .selects RX5 yX5_depthOf yX5_depthOf, .selects RX5 yX5_coneOf yX5_coneOf, .selects RX5 yX5_countOf yX5_countOf, .selects RX5 yX5_signOf yX5_signOf, .selects RX5 yX5_merged yX5_merged, .selects RX5 yX5_lineAt yX5_lineAt, .selects RX5 yX5_sweptOf yX5_sweptOf, .selects RX5 yX5_areOuts yX5_areOuts, .selects RX5 yX5_areAlike yX5_areAlike, .selects RX5 yX5_verdictNow yX5_verdictNow]
set_option maxRecDepth 20000 in
theorem lw_c1_in : ∀ w ∈ lw_c1, w ∈ LW := LWsub lw_c1 [24, 25, 26, 27, 28, 29, 30, 31, 32, 33, 34, 35, 36, 37, 38, 39, 40, 41, 42, 43, 44, 45, 46, 47] (by decide +kernel) (by decide +kernel)
theorem wd_24 : Cond.selects RX5 yX5_tableOf yX5_tableOf ∈ LW := lw_c1_in _ (List.mem_of_getElem? (i := 0) rfl)
theorem wd_25 : Cond.selects RX5 yX5_merges yX5_merges ∈ LW := lw_c1_in _ (List.mem_of_getElem? (i := 1) rfl)
theorem wd_26 : Cond.selects RX5 yX5_sweepsGate yX5_sweepsGate ∈ LW := lw_c1_in _ (List.mem_of_getElem? (i := 2) rfl)
theorem wd_27 : Cond.selects RX5 yX5_formOf yX5_formOf ∈ LW := lw_c1_in _ (List.mem_of_getElem? (i := 3) rfl)
theorem wd_28 : Cond.selects RX5 yX5_isByRules yX5_isByRules ∈ LW := lw_c1_in _ (List.mem_of_getElem? (i := 4) rfl)
theorem wd_29 : Cond.selects RX5 yX5_isThere yX5_isThere ∈ LW := lw_c1_in _ (List.mem_of_getElem? (i := 5) rfl)
theorem wd_30 : Cond.selects RX5 yX5_looksAt yX5_looksAt ∈ LW := lw_c1_in _ (List.mem_of_getElem? (i := 6) rfl)
theorem wd_31 : Cond.selects RX5 yX5_otherwise yX5_otherwise ∈ LW := lw_c1_in _ (List.mem_of_getElem? (i := 7) rfl)
theorem wd_32 : Cond.selects RX5 yX5_checks yX5_checks ∈ LW := lw_c1_in _ (List.mem_of_getElem? (i := 8) rfl)
theorem wd_33 : Cond.selects RX5 yX5_comes yX5_comes ∈ LW := lw_c1_in _ (List.mem_of_getElem? (i := 9) rfl)
theorem wd_34 : Cond.selects RX5 yX5_settled yX5_settled ∈ LW := lw_c1_in _ (List.mem_of_getElem? (i := 10) rfl)
theorem wd_35 : Cond.selects RX5 yX5_isGate yX5_isGate ∈ LW := lw_c1_in _ (List.mem_of_getElem? (i := 11) rfl)
theorem wd_36 : Cond.selects RX5 yX5_isNode yX5_isNode ∈ LW := lw_c1_in _ (List.mem_of_getElem? (i := 12) rfl)
theorem wd_37 : Cond.selects RX5 yX5_tellTable yX5_tellTable ∈ LW := lw_c1_in _ (List.mem_of_getElem? (i := 13) rfl)
theorem wd_38 : Cond.selects RX5 yX5_depthOf yX5_depthOf ∈ LW := lw_c1_in _ (List.mem_of_getElem? (i := 14) rfl)
theorem wd_39 : Cond.selects RX5 yX5_coneOf yX5_coneOf ∈ LW := lw_c1_in _ (List.mem_of_getElem? (i := 15) rfl)
theorem wd_40 : Cond.selects RX5 yX5_countOf yX5_countOf ∈ LW := lw_c1_in _ (List.mem_of_getElem? (i := 16) rfl)
theorem wd_41 : Cond.selects RX5 yX5_signOf yX5_signOf ∈ LW := lw_c1_in _ (List.mem_of_getElem? (i := 17) rfl)
theorem wd_42 : Cond.selects RX5 yX5_merged yX5_merged ∈ LW := lw_c1_in _ (List.mem_of_getElem? (i := 18) rfl)
theorem wd_43 : Cond.selects RX5 yX5_lineAt yX5_lineAt ∈ LW := lw_c1_in _ (List.mem_of_getElem? (i := 19) rfl)
theorem wd_44 : Cond.selects RX5 yX5_sweptOf yX5_sweptOf ∈ LW := lw_c1_in _ (List.mem_of_getElem? (i := 20) rfl)
theorem wd_45 : Cond.selects RX5 yX5_areOuts yX5_areOuts ∈ LW := lw_c1_in _ (List.mem_of_getElem? (i := 21) rfl)
theorem wd_46 : Cond.selects RX5 yX5_areAlike yX5_areAlike ∈ LW := lw_c1_in _ (List.mem_of_getElem? (i := 22) rfl)
theorem wd_47 : Cond.selects RX5 yX5_verdictNow yX5_verdictNow ∈ LW := lw_c1_in _ (List.mem_of_getElem? (i := 23) rfl)
def lw_c2 : List Cond := [.selects RX5 yX5_reads yX5_reads, .selects RX5 yX5_blanks yX5_blanks, .selects RX5 yX5_isAt yX5_isAt, .selects RX5 yX5_readsOrder yX5_readsOrder, .selects RX5 yX5_number yX5_number, .selects RX5 yX5_doesOrder yX5_doesOrder, .selects RX5 yX5_toldOf yX5_toldOf, .selects RX5 yX5_mix yX5_mix, .selects RX5 yX5_mixNode yX5_mixNode, .selects RX5 yX5_mixOuts yX5_mixOuts, .initialized RL, .initialized RX4, .initialized RX0, .initialized RX3, .initialized RX1, .initialized RX2, .initialized RX5, .initialized RJ10, .initialized RJ9, .initialized RJ0, .initialized RJ1, .classLink RL 7 RX4, .instantiable RX4 9, .methodLink RL 9 yX4_init]
set_option maxRecDepth 20000 in
theorem lw_c2_in : ∀ w ∈ lw_c2, w ∈ LW := LWsub lw_c2 [48, 49, 50, 51, 52, 53, 54, 55, 56, 57, 58, 59, 60, 61, 62, 63, 64, 65, 66, 67, 68, 72, 73, 74] (by decide +kernel) (by decide +kernel)
theorem wd_48 : Cond.selects RX5 yX5_reads yX5_reads ∈ LW := lw_c2_in _ (List.mem_of_getElem? (i := 0) rfl)
theorem wd_49 : Cond.selects RX5 yX5_blanks yX5_blanks ∈ LW := lw_c2_in _ (List.mem_of_getElem? (i := 1) rfl)
theorem wd_50 : Cond.selects RX5 yX5_isAt yX5_isAt ∈ LW := lw_c2_in _ (List.mem_of_getElem? (i := 2) rfl)
theorem wd_51 : Cond.selects RX5 yX5_readsOrder yX5_readsOrder ∈ LW := lw_c2_in _ (List.mem_of_getElem? (i := 3) rfl)
theorem wd_52 : Cond.selects RX5 yX5_number yX5_number ∈ LW := lw_c2_in _ (List.mem_of_getElem? (i := 4) rfl)
theorem wd_53 : Cond.selects RX5 yX5_doesOrder yX5_doesOrder ∈ LW := lw_c2_in _ (List.mem_of_getElem? (i := 5) rfl)
theorem wd_54 : Cond.selects RX5 yX5_toldOf yX5_toldOf ∈ LW := lw_c2_in _ (List.mem_of_getElem? (i := 6) rfl)
theorem wd_55 : Cond.selects RX5 yX5_mix yX5_mix ∈ LW := lw_c2_in _ (List.mem_of_getElem? (i := 7) rfl)
theorem wd_56 : Cond.selects RX5 yX5_mixNode yX5_mixNode ∈ LW := lw_c2_in _ (List.mem_of_getElem? (i := 8) rfl)
theorem wd_57 : Cond.selects RX5 yX5_mixOuts yX5_mixOuts ∈ LW := lw_c2_in _ (List.mem_of_getElem? (i := 9) rfl)
theorem wd_58 : Cond.initialized RL ∈ LW := lw_c2_in _ (List.mem_of_getElem? (i := 10) rfl)
theorem wd_59 : Cond.initialized RX4 ∈ LW := lw_c2_in _ (List.mem_of_getElem? (i := 11) rfl)
theorem wd_60 : Cond.initialized RX0 ∈ LW := lw_c2_in _ (List.mem_of_getElem? (i := 12) rfl)
theorem wd_61 : Cond.initialized RX3 ∈ LW := lw_c2_in _ (List.mem_of_getElem? (i := 13) rfl)
theorem wd_62 : Cond.initialized RX1 ∈ LW := lw_c2_in _ (List.mem_of_getElem? (i := 14) rfl)
theorem wd_63 : Cond.initialized RX2 ∈ LW := lw_c2_in _ (List.mem_of_getElem? (i := 15) rfl)
theorem wd_64 : Cond.initialized RX5 ∈ LW := lw_c2_in _ (List.mem_of_getElem? (i := 16) rfl)
theorem wd_65 : Cond.initialized RJ10 ∈ LW := lw_c2_in _ (List.mem_of_getElem? (i := 17) rfl)
theorem wd_66 : Cond.initialized RJ9 ∈ LW := lw_c2_in _ (List.mem_of_getElem? (i := 18) rfl)
theorem wd_67 : Cond.initialized RJ0 ∈ LW := lw_c2_in _ (List.mem_of_getElem? (i := 19) rfl)
theorem wd_68 : Cond.initialized RJ1 ∈ LW := lw_c2_in _ (List.mem_of_getElem? (i := 20) rfl)
theorem wd_69 : Cond.classLink RL 7 RX4 ∈ LW := lw_c2_in _ (List.mem_of_getElem? (i := 21) rfl)
theorem wd_70 : Cond.instantiable RX4 9 ∈ LW := lw_c2_in _ (List.mem_of_getElem? (i := 22) rfl)
theorem wd_71 : Cond.methodLink RL 9 yX4_init ∈ LW := lw_c2_in _ (List.mem_of_getElem? (i := 23) rfl)
def lw_c3 : List Cond := [.instanceMethod yX4_init, .code yX4_init cX4_init 1 none, .methodLink RX4 3 objectInit, .instanceMethod objectInit, .code objectInit ⟨#[0xb1]⟩ 1 none, .classLink RX4 9 RX0, .instantiable RX0 10, .methodLink RX4 11 yX0_init, .instanceMethod yX0_init, .code yX0_init cX0_init 1 none, .methodLink RX0 3 objectInit, .methodLink RX0 33 yX0_restart, .instanceMethod yX0_restart, .selects RX0 yX0_restart yX0_restart, .code yX0_restart cX0_restart 3 none, .methodLink RX0 47 yX0_allRows, .instanceMethod yX0_allRows, .selects RX0 yX0_allRows yX0_allRows, .code yX0_allRows cX0_allRows 1 (some .int), .fieldLink RX0 9 "SweptGates$Circuit" "firsts" "[I", .fieldLink RX3 49 "SweptGates$Circuit" "firsts" "[I", .fieldLink RX4 68 "SweptGates$Circuit" "firsts" "[I", .fieldLink RX0 15 "SweptGates$Circuit" "seconds" "[I", .fieldLink RX3 56 "SweptGates$Circuit" "seconds" "[I"]
set_option maxRecDepth 20000 in
theorem lw_c3_in : ∀ w ∈ lw_c3, w ∈ LW := LWsub lw_c3 [75, 76, 77, 78, 79, 80, 81, 82, 83, 84, 85, 86, 87, 88, 89, 92, 93, 94, 95, 96, 97, 98, 99, 100] (by decide +kernel) (by decide +kernel)
theorem wd_72 : Cond.instanceMethod yX4_init ∈ LW := lw_c3_in _ (List.mem_of_getElem? (i := 0) rfl)
theorem wd_73 : Cond.code yX4_init cX4_init 1 none ∈ LW := lw_c3_in _ (List.mem_of_getElem? (i := 1) rfl)
theorem wd_74 : Cond.methodLink RX4 3 objectInit ∈ LW := lw_c3_in _ (List.mem_of_getElem? (i := 2) rfl)
theorem wd_75 : Cond.instanceMethod objectInit ∈ LW := lw_c3_in _ (List.mem_of_getElem? (i := 3) rfl)
theorem wd_76 : Cond.code objectInit ⟨#[0xb1]⟩ 1 none ∈ LW := lw_c3_in _ (List.mem_of_getElem? (i := 4) rfl)
theorem wd_77 : Cond.classLink RX4 9 RX0 ∈ LW := lw_c3_in _ (List.mem_of_getElem? (i := 5) rfl)
theorem wd_78 : Cond.instantiable RX0 10 ∈ LW := lw_c3_in _ (List.mem_of_getElem? (i := 6) rfl)
theorem wd_79 : Cond.methodLink RX4 11 yX0_init ∈ LW := lw_c3_in _ (List.mem_of_getElem? (i := 7) rfl)
theorem wd_80 : Cond.instanceMethod yX0_init ∈ LW := lw_c3_in _ (List.mem_of_getElem? (i := 8) rfl)
theorem wd_81 : Cond.code yX0_init cX0_init 1 none ∈ LW := lw_c3_in _ (List.mem_of_getElem? (i := 9) rfl)
theorem wd_82 : Cond.methodLink RX0 3 objectInit ∈ LW := lw_c3_in _ (List.mem_of_getElem? (i := 10) rfl)
theorem wd_83 : Cond.methodLink RX0 33 yX0_restart ∈ LW := lw_c3_in _ (List.mem_of_getElem? (i := 11) rfl)
theorem wd_84 : Cond.instanceMethod yX0_restart ∈ LW := lw_c3_in _ (List.mem_of_getElem? (i := 12) rfl)
theorem wd_85 : Cond.selects RX0 yX0_restart yX0_restart ∈ LW := lw_c3_in _ (List.mem_of_getElem? (i := 13) rfl)
theorem wd_86 : Cond.code yX0_restart cX0_restart 3 none ∈ LW := lw_c3_in _ (List.mem_of_getElem? (i := 14) rfl)
theorem wd_87 : Cond.methodLink RX0 47 yX0_allRows ∈ LW := lw_c3_in _ (List.mem_of_getElem? (i := 15) rfl)
theorem wd_88 : Cond.instanceMethod yX0_allRows ∈ LW := lw_c3_in _ (List.mem_of_getElem? (i := 16) rfl)
theorem wd_89 : Cond.selects RX0 yX0_allRows yX0_allRows ∈ LW := lw_c3_in _ (List.mem_of_getElem? (i := 17) rfl)
theorem wd_90 : Cond.code yX0_allRows cX0_allRows 1 (some .int) ∈ LW := lw_c3_in _ (List.mem_of_getElem? (i := 18) rfl)
theorem wd_91 : Cond.fieldLink RX0 9 "SweptGates$Circuit" "firsts" "[I" ∈ LW := lw_c3_in _ (List.mem_of_getElem? (i := 19) rfl)
theorem wd_92 : Cond.fieldLink RX3 49 "SweptGates$Circuit" "firsts" "[I" ∈ LW := lw_c3_in _ (List.mem_of_getElem? (i := 20) rfl)
theorem wd_93 : Cond.fieldLink RX4 68 "SweptGates$Circuit" "firsts" "[I" ∈ LW := lw_c3_in _ (List.mem_of_getElem? (i := 21) rfl)
theorem wd_94 : Cond.fieldLink RX0 15 "SweptGates$Circuit" "seconds" "[I" ∈ LW := lw_c3_in _ (List.mem_of_getElem? (i := 22) rfl)
theorem wd_95 : Cond.fieldLink RX3 56 "SweptGates$Circuit" "seconds" "[I" ∈ LW := lw_c3_in _ (List.mem_of_getElem? (i := 23) rfl)
def lw_c4 : List Cond := [.fieldLink RX4 72 "SweptGates$Circuit" "seconds" "[I", .fieldLink RX0 18 "SweptGates$Circuit" "truths" "[I", .fieldLink RX3 114 "SweptGates$Circuit" "truths" "[I", .fieldLink RX0 21 "SweptGates$Circuit" "levels" "[I", .fieldLink RX0 24 "SweptGates$Circuit" "outLiterals" "[I", .fieldLink RX0 27 "SweptGates$Circuit" "outCounts" "[I", .fieldLink RX4 93 "SweptGates$Circuit" "outCounts" "[I", .fieldLink RX0 30 "SweptGates$Circuit" "patterns" "[I", .fieldLink RX3 97 "SweptGates$Circuit" "patterns" "[I", .fieldLink RX0 37 "SweptGates$Circuit" "inputCount" "I", .fieldLink RX3 40 "SweptGates$Circuit" "inputCount" "I", .fieldLink RX0 41 "SweptGates$Circuit" "nodeCount" "I", .fieldLink RX3 46 "SweptGates$Circuit" "nodeCount" "I", .fieldLink RX4 180 "SweptGates$Circuit" "nodeCount" "I", .fieldLink RX0 51 "SweptGates$Circuit" "patternCount" "I", .fieldLink RX3 94 "SweptGates$Circuit" "patternCount" "I", .arrayClass .int, .classLink RX4 19 RX3, .instantiable RX3 13, .instanceMethod yX3_init, .code yX3_init cX3_init 1 none, .methodLink RX3 3 objectInit, .fieldLink RX3 9 "SweptGates$Sweep" "forms" "[I", .fieldLink RX4 109 "SweptGates$Sweep" "forms" "[I"]
set_option maxRecDepth 20000 in
theorem lw_c4_in : ∀ w ∈ lw_c4, w ∈ LW := LWsub lw_c4 [101, 102, 103, 104, 105, 106, 107, 108, 109, 110, 111, 112, 113, 114, 115, 116, 138, 139, 140, 142, 143, 144, 145, 146] (by decide +kernel) (by decide +kernel)
theorem wd_96 : Cond.fieldLink RX4 72 "SweptGates$Circuit" "seconds" "[I" ∈ LW := lw_c4_in _ (List.mem_of_getElem? (i := 0) rfl)
theorem wd_97 : Cond.fieldLink RX0 18 "SweptGates$Circuit" "truths" "[I" ∈ LW := lw_c4_in _ (List.mem_of_getElem? (i := 1) rfl)
theorem wd_98 : Cond.fieldLink RX3 114 "SweptGates$Circuit" "truths" "[I" ∈ LW := lw_c4_in _ (List.mem_of_getElem? (i := 2) rfl)
theorem wd_99 : Cond.fieldLink RX0 21 "SweptGates$Circuit" "levels" "[I" ∈ LW := lw_c4_in _ (List.mem_of_getElem? (i := 3) rfl)
theorem wd_100 : Cond.fieldLink RX0 24 "SweptGates$Circuit" "outLiterals" "[I" ∈ LW := lw_c4_in _ (List.mem_of_getElem? (i := 4) rfl)
theorem wd_101 : Cond.fieldLink RX0 27 "SweptGates$Circuit" "outCounts" "[I" ∈ LW := lw_c4_in _ (List.mem_of_getElem? (i := 5) rfl)
theorem wd_102 : Cond.fieldLink RX4 93 "SweptGates$Circuit" "outCounts" "[I" ∈ LW := lw_c4_in _ (List.mem_of_getElem? (i := 6) rfl)
theorem wd_103 : Cond.fieldLink RX0 30 "SweptGates$Circuit" "patterns" "[I" ∈ LW := lw_c4_in _ (List.mem_of_getElem? (i := 7) rfl)
theorem wd_104 : Cond.fieldLink RX3 97 "SweptGates$Circuit" "patterns" "[I" ∈ LW := lw_c4_in _ (List.mem_of_getElem? (i := 8) rfl)
theorem wd_105 : Cond.fieldLink RX0 37 "SweptGates$Circuit" "inputCount" "I" ∈ LW := lw_c4_in _ (List.mem_of_getElem? (i := 9) rfl)
theorem wd_106 : Cond.fieldLink RX3 40 "SweptGates$Circuit" "inputCount" "I" ∈ LW := lw_c4_in _ (List.mem_of_getElem? (i := 10) rfl)
theorem wd_107 : Cond.fieldLink RX0 41 "SweptGates$Circuit" "nodeCount" "I" ∈ LW := lw_c4_in _ (List.mem_of_getElem? (i := 11) rfl)
theorem wd_108 : Cond.fieldLink RX3 46 "SweptGates$Circuit" "nodeCount" "I" ∈ LW := lw_c4_in _ (List.mem_of_getElem? (i := 12) rfl)
theorem wd_109 : Cond.fieldLink RX4 180 "SweptGates$Circuit" "nodeCount" "I" ∈ LW := lw_c4_in _ (List.mem_of_getElem? (i := 13) rfl)
theorem wd_110 : Cond.fieldLink RX0 51 "SweptGates$Circuit" "patternCount" "I" ∈ LW := lw_c4_in _ (List.mem_of_getElem? (i := 14) rfl)
theorem wd_111 : Cond.fieldLink RX3 94 "SweptGates$Circuit" "patternCount" "I" ∈ LW := lw_c4_in _ (List.mem_of_getElem? (i := 15) rfl)
theorem wd_112 : Cond.arrayClass .int ∈ LW := lw_c4_in _ (List.mem_of_getElem? (i := 16) rfl)
theorem wd_113 : Cond.classLink RX4 19 RX3 ∈ LW := lw_c4_in _ (List.mem_of_getElem? (i := 17) rfl)
theorem wd_114 : Cond.instantiable RX3 13 ∈ LW := lw_c4_in _ (List.mem_of_getElem? (i := 18) rfl)
theorem wd_115 : Cond.instanceMethod yX3_init ∈ LW := lw_c4_in _ (List.mem_of_getElem? (i := 19) rfl)
theorem wd_116 : Cond.code yX3_init cX3_init 1 none ∈ LW := lw_c4_in _ (List.mem_of_getElem? (i := 20) rfl)
theorem wd_117 : Cond.methodLink RX3 3 objectInit ∈ LW := lw_c4_in _ (List.mem_of_getElem? (i := 21) rfl)
theorem wd_118 : Cond.fieldLink RX3 9 "SweptGates$Sweep" "forms" "[I" ∈ LW := lw_c4_in _ (List.mem_of_getElem? (i := 22) rfl)
theorem wd_119 : Cond.fieldLink RX4 109 "SweptGates$Sweep" "forms" "[I" ∈ LW := lw_c4_in _ (List.mem_of_getElem? (i := 23) rfl)
def lw_c5 : List Cond := [.fieldLink RX3 15 "SweptGates$Sweep" "reasons" "[I", .fieldLink RX0 117 "SweptGates$Sweep" "reasons" "[I", .fieldLink RX3 18 "SweptGates$Sweep" "lessers" "[I", .fieldLink RX0 120 "SweptGates$Sweep" "lessers" "[I", .fieldLink RX3 21 "SweptGates$Sweep" "greaters" "[I", .fieldLink RX0 126 "SweptGates$Sweep" "greaters" "[I", .fieldLink RX3 24 "SweptGates$Sweep" "lineGates" "[I", .fieldLink RX3 27 "SweptGates$Sweep" "newNumbers" "[I", .fieldLink RX3 30 "SweptGates$Sweep" "rows" "[I", .fieldLink RX4 125 "SweptGates$Sweep" "rows" "[I", .fieldLink RX3 33 "SweptGates$Sweep" "gatesBy" "[I", .fieldLink RX3 72 "SweptGates$Sweep" "lineCount" "I", .fieldLink RX4 112 "SweptGates$Sweep" "lineCount" "I", .fieldLink RX3 88 "SweptGates$Sweep" "rowCount" "I", .fieldLink RX4 122 "SweptGates$Sweep" "rowCount" "I", .fieldLink RX3 75 "SweptGates$Sweep" "checkCount" "I", .fieldLink RX3 91 "SweptGates$Sweep" "patternRows" "I", .fieldLink RX3 82 "SweptGates$Sweep" "allRows" "I", .classLink RX4 26 RX1, .instantiable RX1 3, .methodLink RX4 28 yX1_init, .instanceMethod yX1_init, .code yX1_init cX1_init 2 none, .methodLink RX1 3 objectInit]
set_option maxRecDepth 20000 in
theorem lw_c5_in : ∀ w ∈ lw_c5, w ∈ LW := LWsub lw_c5 [147, 148, 149, 150, 151, 152, 153, 154, 155, 156, 157, 158, 159, 160, 161, 162, 163, 164, 192, 193, 194, 195, 196, 197] (by decide +kernel) (by decide +kernel)
theorem wd_120 : Cond.fieldLink RX3 15 "SweptGates$Sweep" "reasons" "[I" ∈ LW := lw_c5_in _ (List.mem_of_getElem? (i := 0) rfl)
theorem wd_121 : Cond.fieldLink RX0 117 "SweptGates$Sweep" "reasons" "[I" ∈ LW := lw_c5_in _ (List.mem_of_getElem? (i := 1) rfl)
theorem wd_122 : Cond.fieldLink RX3 18 "SweptGates$Sweep" "lessers" "[I" ∈ LW := lw_c5_in _ (List.mem_of_getElem? (i := 2) rfl)
theorem wd_123 : Cond.fieldLink RX0 120 "SweptGates$Sweep" "lessers" "[I" ∈ LW := lw_c5_in _ (List.mem_of_getElem? (i := 3) rfl)
theorem wd_124 : Cond.fieldLink RX3 21 "SweptGates$Sweep" "greaters" "[I" ∈ LW := lw_c5_in _ (List.mem_of_getElem? (i := 4) rfl)
theorem wd_125 : Cond.fieldLink RX0 126 "SweptGates$Sweep" "greaters" "[I" ∈ LW := lw_c5_in _ (List.mem_of_getElem? (i := 5) rfl)
theorem wd_126 : Cond.fieldLink RX3 24 "SweptGates$Sweep" "lineGates" "[I" ∈ LW := lw_c5_in _ (List.mem_of_getElem? (i := 6) rfl)
theorem wd_127 : Cond.fieldLink RX3 27 "SweptGates$Sweep" "newNumbers" "[I" ∈ LW := lw_c5_in _ (List.mem_of_getElem? (i := 7) rfl)
theorem wd_128 : Cond.fieldLink RX3 30 "SweptGates$Sweep" "rows" "[I" ∈ LW := lw_c5_in _ (List.mem_of_getElem? (i := 8) rfl)
theorem wd_129 : Cond.fieldLink RX4 125 "SweptGates$Sweep" "rows" "[I" ∈ LW := lw_c5_in _ (List.mem_of_getElem? (i := 9) rfl)
theorem wd_130 : Cond.fieldLink RX3 33 "SweptGates$Sweep" "gatesBy" "[I" ∈ LW := lw_c5_in _ (List.mem_of_getElem? (i := 10) rfl)
theorem wd_131 : Cond.fieldLink RX3 72 "SweptGates$Sweep" "lineCount" "I" ∈ LW := lw_c5_in _ (List.mem_of_getElem? (i := 11) rfl)
theorem wd_132 : Cond.fieldLink RX4 112 "SweptGates$Sweep" "lineCount" "I" ∈ LW := lw_c5_in _ (List.mem_of_getElem? (i := 12) rfl)
theorem wd_133 : Cond.fieldLink RX3 88 "SweptGates$Sweep" "rowCount" "I" ∈ LW := lw_c5_in _ (List.mem_of_getElem? (i := 13) rfl)
theorem wd_134 : Cond.fieldLink RX4 122 "SweptGates$Sweep" "rowCount" "I" ∈ LW := lw_c5_in _ (List.mem_of_getElem? (i := 14) rfl)
theorem wd_135 : Cond.fieldLink RX3 75 "SweptGates$Sweep" "checkCount" "I" ∈ LW := lw_c5_in _ (List.mem_of_getElem? (i := 15) rfl)
theorem wd_136 : Cond.fieldLink RX3 91 "SweptGates$Sweep" "patternRows" "I" ∈ LW := lw_c5_in _ (List.mem_of_getElem? (i := 16) rfl)
theorem wd_137 : Cond.fieldLink RX3 82 "SweptGates$Sweep" "allRows" "I" ∈ LW := lw_c5_in _ (List.mem_of_getElem? (i := 17) rfl)
theorem wd_138 : Cond.classLink RX4 26 RX1 ∈ LW := lw_c5_in _ (List.mem_of_getElem? (i := 18) rfl)
theorem wd_139 : Cond.instantiable RX1 3 ∈ LW := lw_c5_in _ (List.mem_of_getElem? (i := 19) rfl)
theorem wd_140 : Cond.methodLink RX4 28 yX1_init ∈ LW := lw_c5_in _ (List.mem_of_getElem? (i := 20) rfl)
theorem wd_141 : Cond.instanceMethod yX1_init ∈ LW := lw_c5_in _ (List.mem_of_getElem? (i := 21) rfl)
theorem wd_142 : Cond.code yX1_init cX1_init 2 none ∈ LW := lw_c5_in _ (List.mem_of_getElem? (i := 22) rfl)
theorem wd_143 : Cond.methodLink RX1 3 objectInit ∈ LW := lw_c5_in _ (List.mem_of_getElem? (i := 23) rfl)
def lw_c6 : List Cond := [.classLink RX1 9 RX0, .methodLink RX1 17 yX0_init, .fieldLink RX1 11 "SweptGates$History" "states" "[LSweptGates$Circuit;", .fieldLink RX1 18 "SweptGates$History" "newest" "I", .fieldLink RX1 26 "SweptGates$History" "size" "I", .fieldLink RX4 163 "SweptGates$History" "size" "I", .classLink RX4 33 RX2, .instantiable RX2 8, .instanceMethod yX2_init, .code yX2_init cX2_init 1 none, .methodLink RX2 3 objectInit, .fieldLink RX2 9 "SweptGates$Script" "bytes" "[I", .fieldLink RX2 15 "SweptGates$Script" "kinds" "[I", .fieldLink RX4 208 "SweptGates$Script" "kinds" "[I", .fieldLink RX2 18 "SweptGates$Script" "numbers" "[I", .fieldLink RX2 21 "SweptGates$Script" "length" "I", .fieldLink RX4 144 "SweptGates$Script" "length" "I", .fieldLink RX2 25 "SweptGates$Script" "orderCount" "I", .fieldLink RX4 157 "SweptGates$Script" "orderCount" "I", .fieldLink RX2 28 "SweptGates$Script" "openKind" "I", .fieldLink RX2 56 "SweptGates$Script" "given" "I", .fieldLink RX2 35 "SweptGates$Script" "figures" "I", .fieldLink RX4 12 "SweptGates" "circuit" "LSweptGates$Circuit;", .fieldLink RX4 16 "SweptGates" "spare" "LSweptGates$Circuit;"]
set_option maxRecDepth 20000 in
theorem lw_c6_in : ∀ w ∈ lw_c6, w ∈ LW := LWsub lw_c6 [198, 200, 201, 202, 203, 204, 212, 213, 215, 216, 217, 218, 219, 220, 221, 222, 223, 224, 225, 226, 227, 228, 246, 247] (by decide +kernel) (by decide +kernel)
theorem wd_144 : Cond.classLink RX1 9 RX0 ∈ LW := lw_c6_in _ (List.mem_of_getElem? (i := 0) rfl)
theorem wd_145 : Cond.methodLink RX1 17 yX0_init ∈ LW := lw_c6_in _ (List.mem_of_getElem? (i := 1) rfl)
theorem wd_146 : Cond.fieldLink RX1 11 "SweptGates$History" "states" "[LSweptGates$Circuit;" ∈ LW := lw_c6_in _ (List.mem_of_getElem? (i := 2) rfl)
theorem wd_147 : Cond.fieldLink RX1 18 "SweptGates$History" "newest" "I" ∈ LW := lw_c6_in _ (List.mem_of_getElem? (i := 3) rfl)
theorem wd_148 : Cond.fieldLink RX1 26 "SweptGates$History" "size" "I" ∈ LW := lw_c6_in _ (List.mem_of_getElem? (i := 4) rfl)
theorem wd_149 : Cond.fieldLink RX4 163 "SweptGates$History" "size" "I" ∈ LW := lw_c6_in _ (List.mem_of_getElem? (i := 5) rfl)
theorem wd_150 : Cond.classLink RX4 33 RX2 ∈ LW := lw_c6_in _ (List.mem_of_getElem? (i := 6) rfl)
theorem wd_151 : Cond.instantiable RX2 8 ∈ LW := lw_c6_in _ (List.mem_of_getElem? (i := 7) rfl)
theorem wd_152 : Cond.instanceMethod yX2_init ∈ LW := lw_c6_in _ (List.mem_of_getElem? (i := 8) rfl)
theorem wd_153 : Cond.code yX2_init cX2_init 1 none ∈ LW := lw_c6_in _ (List.mem_of_getElem? (i := 9) rfl)
theorem wd_154 : Cond.methodLink RX2 3 objectInit ∈ LW := lw_c6_in _ (List.mem_of_getElem? (i := 10) rfl)
theorem wd_155 : Cond.fieldLink RX2 9 "SweptGates$Script" "bytes" "[I" ∈ LW := lw_c6_in _ (List.mem_of_getElem? (i := 11) rfl)
theorem wd_156 : Cond.fieldLink RX2 15 "SweptGates$Script" "kinds" "[I" ∈ LW := lw_c6_in _ (List.mem_of_getElem? (i := 12) rfl)
theorem wd_157 : Cond.fieldLink RX4 208 "SweptGates$Script" "kinds" "[I" ∈ LW := lw_c6_in _ (List.mem_of_getElem? (i := 13) rfl)
theorem wd_158 : Cond.fieldLink RX2 18 "SweptGates$Script" "numbers" "[I" ∈ LW := lw_c6_in _ (List.mem_of_getElem? (i := 14) rfl)
theorem wd_159 : Cond.fieldLink RX2 21 "SweptGates$Script" "length" "I" ∈ LW := lw_c6_in _ (List.mem_of_getElem? (i := 15) rfl)
theorem wd_160 : Cond.fieldLink RX4 144 "SweptGates$Script" "length" "I" ∈ LW := lw_c6_in _ (List.mem_of_getElem? (i := 16) rfl)
theorem wd_161 : Cond.fieldLink RX2 25 "SweptGates$Script" "orderCount" "I" ∈ LW := lw_c6_in _ (List.mem_of_getElem? (i := 17) rfl)
theorem wd_162 : Cond.fieldLink RX4 157 "SweptGates$Script" "orderCount" "I" ∈ LW := lw_c6_in _ (List.mem_of_getElem? (i := 18) rfl)
theorem wd_163 : Cond.fieldLink RX2 28 "SweptGates$Script" "openKind" "I" ∈ LW := lw_c6_in _ (List.mem_of_getElem? (i := 19) rfl)
theorem wd_164 : Cond.fieldLink RX2 56 "SweptGates$Script" "given" "I" ∈ LW := lw_c6_in _ (List.mem_of_getElem? (i := 20) rfl)
theorem wd_165 : Cond.fieldLink RX2 35 "SweptGates$Script" "figures" "I" ∈ LW := lw_c6_in _ (List.mem_of_getElem? (i := 21) rfl)
theorem wd_166 : Cond.fieldLink RX4 12 "SweptGates" "circuit" "LSweptGates$Circuit;" ∈ LW := lw_c6_in _ (List.mem_of_getElem? (i := 22) rfl)
theorem wd_167 : Cond.fieldLink RX4 16 "SweptGates" "spare" "LSweptGates$Circuit;" ∈ LW := lw_c6_in _ (List.mem_of_getElem? (i := 23) rfl)
def lw_c7 : List Cond := [.fieldLink RX4 22 "SweptGates" "sweep" "LSweptGates$Sweep;", .fieldLink RX4 29 "SweptGates" "history" "LSweptGates$History;", .fieldLink RX4 36 "SweptGates" "script" "LSweptGates$Script;", .fieldLink RX4 40 "SweptGates" "sweepIsOld" "Z", .fieldLink RX4 193 "SweptGates" "badCalls" "I", .fieldLink RX4 196 "SweptGates" "noCalls" "I", .fieldLink RX4 199 "SweptGates" "fullCalls" "I", .methodLink RL 13 yX4_inputs, .instanceMethod yX4_inputs, .selects RX4 yX4_inputs yX4_inputs, .code yX4_inputs cX4_inputs 2 (some .int), .methodLink RX4 44 yX4_order, .instanceMethod yX4_order, .code yX4_order cX4_order 6 (some .int), .methodLink RX4 202 yX0_refusalOf, .instanceMethod yX0_refusalOf, .selects RX0 yX0_refusalOf yX0_refusalOf, .code yX0_refusalOf cX0_refusalOf 5 (some .int), .methodLink RX0 77 yX0_isLiteral, .instanceMethod yX0_isLiteral, .selects RX0 yX0_isLiteral yX0_isLiteral, .code yX0_isLiteral cX0_isLiteral 2 (some .boolean), .methodLink RX0 81 yX0_roomFor, .instanceMethod yX0_roomFor]
set_option maxRecDepth 20000 in
theorem lw_c7_in : ∀ w ∈ lw_c7, w ∈ LW := LWsub lw_c7 [248, 249, 250, 251, 252, 253, 254, 274, 275, 276, 277, 278, 280, 281, 282, 283, 284, 285, 286, 287, 288, 289, 290, 291] (by decide +kernel) (by decide +kernel)
theorem wd_168 : Cond.fieldLink RX4 22 "SweptGates" "sweep" "LSweptGates$Sweep;" ∈ LW := lw_c7_in _ (List.mem_of_getElem? (i := 0) rfl)
theorem wd_169 : Cond.fieldLink RX4 29 "SweptGates" "history" "LSweptGates$History;" ∈ LW := lw_c7_in _ (List.mem_of_getElem? (i := 1) rfl)
theorem wd_170 : Cond.fieldLink RX4 36 "SweptGates" "script" "LSweptGates$Script;" ∈ LW := lw_c7_in _ (List.mem_of_getElem? (i := 2) rfl)
theorem wd_171 : Cond.fieldLink RX4 40 "SweptGates" "sweepIsOld" "Z" ∈ LW := lw_c7_in _ (List.mem_of_getElem? (i := 3) rfl)
theorem wd_172 : Cond.fieldLink RX4 193 "SweptGates" "badCalls" "I" ∈ LW := lw_c7_in _ (List.mem_of_getElem? (i := 4) rfl)
theorem wd_173 : Cond.fieldLink RX4 196 "SweptGates" "noCalls" "I" ∈ LW := lw_c7_in _ (List.mem_of_getElem? (i := 5) rfl)
theorem wd_174 : Cond.fieldLink RX4 199 "SweptGates" "fullCalls" "I" ∈ LW := lw_c7_in _ (List.mem_of_getElem? (i := 6) rfl)
theorem wd_175 : Cond.methodLink RL 13 yX4_inputs ∈ LW := lw_c7_in _ (List.mem_of_getElem? (i := 7) rfl)
theorem wd_176 : Cond.instanceMethod yX4_inputs ∈ LW := lw_c7_in _ (List.mem_of_getElem? (i := 8) rfl)
theorem wd_177 : Cond.selects RX4 yX4_inputs yX4_inputs ∈ LW := lw_c7_in _ (List.mem_of_getElem? (i := 9) rfl)
theorem wd_178 : Cond.code yX4_inputs cX4_inputs 2 (some .int) ∈ LW := lw_c7_in _ (List.mem_of_getElem? (i := 10) rfl)
theorem wd_179 : Cond.methodLink RX4 44 yX4_order ∈ LW := lw_c7_in _ (List.mem_of_getElem? (i := 11) rfl)
theorem wd_180 : Cond.instanceMethod yX4_order ∈ LW := lw_c7_in _ (List.mem_of_getElem? (i := 12) rfl)
theorem wd_181 : Cond.code yX4_order cX4_order 6 (some .int) ∈ LW := lw_c7_in _ (List.mem_of_getElem? (i := 13) rfl)
theorem wd_182 : Cond.methodLink RX4 202 yX0_refusalOf ∈ LW := lw_c7_in _ (List.mem_of_getElem? (i := 14) rfl)
theorem wd_183 : Cond.instanceMethod yX0_refusalOf ∈ LW := lw_c7_in _ (List.mem_of_getElem? (i := 15) rfl)
theorem wd_184 : Cond.selects RX0 yX0_refusalOf yX0_refusalOf ∈ LW := lw_c7_in _ (List.mem_of_getElem? (i := 16) rfl)
theorem wd_185 : Cond.code yX0_refusalOf cX0_refusalOf 5 (some .int) ∈ LW := lw_c7_in _ (List.mem_of_getElem? (i := 17) rfl)
theorem wd_186 : Cond.methodLink RX0 77 yX0_isLiteral ∈ LW := lw_c7_in _ (List.mem_of_getElem? (i := 18) rfl)
theorem wd_187 : Cond.instanceMethod yX0_isLiteral ∈ LW := lw_c7_in _ (List.mem_of_getElem? (i := 19) rfl)
theorem wd_188 : Cond.selects RX0 yX0_isLiteral yX0_isLiteral ∈ LW := lw_c7_in _ (List.mem_of_getElem? (i := 20) rfl)
theorem wd_189 : Cond.code yX0_isLiteral cX0_isLiteral 2 (some .boolean) ∈ LW := lw_c7_in _ (List.mem_of_getElem? (i := 21) rfl)
theorem wd_190 : Cond.methodLink RX0 81 yX0_roomFor ∈ LW := lw_c7_in _ (List.mem_of_getElem? (i := 22) rfl)
theorem wd_191 : Cond.instanceMethod yX0_roomFor ∈ LW := lw_c7_in _ (List.mem_of_getElem? (i := 23) rfl)
def lw_c8 : List Cond := [.selects RX0 yX0_roomFor yX0_roomFor, .code yX0_roomFor cX0_roomFor 2 (some .int), .methodLink RX0 84 yX0_isSide, .instanceMethod yX0_isSide, .selects RX0 yX0_isSide yX0_isSide, .code yX0_isSide cX0_isSide 2 (some .boolean), .methodLink RX0 87 yX0_isRow, .instanceMethod yX0_isRow, .selects RX0 yX0_isRow yX0_isRow, .code yX0_isRow cX0_isRow 2 (some .boolean), .methodLink RX4 64 yX4_refuse, .instanceMethod yX4_refuse, .code yX4_refuse cX4_refuse 2 (some .int), .methodLink RX4 52 yX1_keep, .instanceMethod yX1_keep, .selects RX1 yX1_keep yX1_keep, .code yX1_keep cX1_keep 2 none, .methodLink RX1 22 yX0_copyFrom, .instanceMethod yX0_copyFrom, .selects RX0 yX0_copyFrom yX0_copyFrom, .code yX0_copyFrom cX0_copyFrom 2 none, .methodLink RX0 54 arraycopyName, .static arraycopyName, .native arraycopyName]
set_option maxRecDepth 20000 in
theorem lw_c8_in : ∀ w ∈ lw_c8, w ∈ LW := LWsub lw_c8 [292, 293, 294, 295, 296, 297, 298, 299, 300, 301, 302, 304, 305, 306, 307, 308, 309, 310, 311, 312, 313, 314, 315, 316] (by decide +kernel) (by decide +kernel)
theorem wd_192 : Cond.selects RX0 yX0_roomFor yX0_roomFor ∈ LW := lw_c8_in _ (List.mem_of_getElem? (i := 0) rfl)
theorem wd_193 : Cond.code yX0_roomFor cX0_roomFor 2 (some .int) ∈ LW := lw_c8_in _ (List.mem_of_getElem? (i := 1) rfl)
theorem wd_194 : Cond.methodLink RX0 84 yX0_isSide ∈ LW := lw_c8_in _ (List.mem_of_getElem? (i := 2) rfl)
theorem wd_195 : Cond.instanceMethod yX0_isSide ∈ LW := lw_c8_in _ (List.mem_of_getElem? (i := 3) rfl)
theorem wd_196 : Cond.selects RX0 yX0_isSide yX0_isSide ∈ LW := lw_c8_in _ (List.mem_of_getElem? (i := 4) rfl)
theorem wd_197 : Cond.code yX0_isSide cX0_isSide 2 (some .boolean) ∈ LW := lw_c8_in _ (List.mem_of_getElem? (i := 5) rfl)
theorem wd_198 : Cond.methodLink RX0 87 yX0_isRow ∈ LW := lw_c8_in _ (List.mem_of_getElem? (i := 6) rfl)
theorem wd_199 : Cond.instanceMethod yX0_isRow ∈ LW := lw_c8_in _ (List.mem_of_getElem? (i := 7) rfl)
theorem wd_200 : Cond.selects RX0 yX0_isRow yX0_isRow ∈ LW := lw_c8_in _ (List.mem_of_getElem? (i := 8) rfl)
theorem wd_201 : Cond.code yX0_isRow cX0_isRow 2 (some .boolean) ∈ LW := lw_c8_in _ (List.mem_of_getElem? (i := 9) rfl)
theorem wd_202 : Cond.methodLink RX4 64 yX4_refuse ∈ LW := lw_c8_in _ (List.mem_of_getElem? (i := 10) rfl)
theorem wd_203 : Cond.instanceMethod yX4_refuse ∈ LW := lw_c8_in _ (List.mem_of_getElem? (i := 11) rfl)
theorem wd_204 : Cond.code yX4_refuse cX4_refuse 2 (some .int) ∈ LW := lw_c8_in _ (List.mem_of_getElem? (i := 12) rfl)
theorem wd_205 : Cond.methodLink RX4 52 yX1_keep ∈ LW := lw_c8_in _ (List.mem_of_getElem? (i := 13) rfl)
theorem wd_206 : Cond.instanceMethod yX1_keep ∈ LW := lw_c8_in _ (List.mem_of_getElem? (i := 14) rfl)
theorem wd_207 : Cond.selects RX1 yX1_keep yX1_keep ∈ LW := lw_c8_in _ (List.mem_of_getElem? (i := 15) rfl)
theorem wd_208 : Cond.code yX1_keep cX1_keep 2 none ∈ LW := lw_c8_in _ (List.mem_of_getElem? (i := 16) rfl)
theorem wd_209 : Cond.methodLink RX1 22 yX0_copyFrom ∈ LW := lw_c8_in _ (List.mem_of_getElem? (i := 17) rfl)
theorem wd_210 : Cond.instanceMethod yX0_copyFrom ∈ LW := lw_c8_in _ (List.mem_of_getElem? (i := 18) rfl)
theorem wd_211 : Cond.selects RX0 yX0_copyFrom yX0_copyFrom ∈ LW := lw_c8_in _ (List.mem_of_getElem? (i := 19) rfl)
theorem wd_212 : Cond.code yX0_copyFrom cX0_copyFrom 2 none ∈ LW := lw_c8_in _ (List.mem_of_getElem? (i := 20) rfl)
theorem wd_213 : Cond.methodLink RX0 54 arraycopyName ∈ LW := lw_c8_in _ (List.mem_of_getElem? (i := 21) rfl)
theorem wd_214 : Cond.static arraycopyName ∈ LW := lw_c8_in _ (List.mem_of_getElem? (i := 22) rfl)
theorem wd_215 : Cond.native arraycopyName ∈ LW := lw_c8_in _ (List.mem_of_getElem? (i := 23) rfl)
def lw_c9 : List Cond := [.methodLink RX1 29 Lib.Math.min.name, .static Lib.Math.min.name, .code Lib.Math.min.name Lib.Math.min.code 2 (some .int), .methodLink RX4 205 yX0_perform, .instanceMethod yX0_perform, .selects RX0 yX0_perform yX0_perform, .code yX0_perform cX0_perform 5 (some .int), .methodLink RX0 90 yX0_changeInputs, .instanceMethod yX0_changeInputs, .selects RX0 yX0_changeInputs yX0_changeInputs, .code yX0_changeInputs cX0_changeInputs 3 (some .int), .methodLink RX0 93 yX0_addGate, .instanceMethod yX0_addGate, .selects RX0 yX0_addGate yX0_addGate, .code yX0_addGate cX0_addGate 4 (some .int), .methodLink RX0 64 yX0_truthOf, .instanceMethod yX0_truthOf, .selects RX0 yX0_truthOf yX0_truthOf, .code yX0_truthOf cX0_truthOf 3 (some .int), .methodLink RX0 106 yX0_levelOf, .instanceMethod yX0_levelOf, .selects RX0 yX0_levelOf yX0_levelOf, .code yX0_levelOf cX0_levelOf 2 (some .int), .methodLink RX0 109 Lib.Math.max.name]
set_option maxRecDepth 20000 in
theorem lw_c9_in : ∀ w ∈ lw_c9, w ∈ LW := LWsub lw_c9 [317, 318, 319, 320, 321, 322, 323, 324, 325, 326, 327, 328, 329, 330, 331, 332, 333, 334, 335, 336, 337, 338, 339, 340] (by decide +kernel) (by decide +kernel)
theorem wd_216 : Cond.methodLink RX1 29 Lib.Math.min.name ∈ LW := lw_c9_in _ (List.mem_of_getElem? (i := 0) rfl)
theorem wd_217 : Cond.static Lib.Math.min.name ∈ LW := lw_c9_in _ (List.mem_of_getElem? (i := 1) rfl)
theorem wd_218 : Cond.code Lib.Math.min.name Lib.Math.min.code 2 (some .int) ∈ LW := lw_c9_in _ (List.mem_of_getElem? (i := 2) rfl)
theorem wd_219 : Cond.methodLink RX4 205 yX0_perform ∈ LW := lw_c9_in _ (List.mem_of_getElem? (i := 3) rfl)
theorem wd_220 : Cond.instanceMethod yX0_perform ∈ LW := lw_c9_in _ (List.mem_of_getElem? (i := 4) rfl)
theorem wd_221 : Cond.selects RX0 yX0_perform yX0_perform ∈ LW := lw_c9_in _ (List.mem_of_getElem? (i := 5) rfl)
theorem wd_222 : Cond.code yX0_perform cX0_perform 5 (some .int) ∈ LW := lw_c9_in _ (List.mem_of_getElem? (i := 6) rfl)
theorem wd_223 : Cond.methodLink RX0 90 yX0_changeInputs ∈ LW := lw_c9_in _ (List.mem_of_getElem? (i := 7) rfl)
theorem wd_224 : Cond.instanceMethod yX0_changeInputs ∈ LW := lw_c9_in _ (List.mem_of_getElem? (i := 8) rfl)
theorem wd_225 : Cond.selects RX0 yX0_changeInputs yX0_changeInputs ∈ LW := lw_c9_in _ (List.mem_of_getElem? (i := 9) rfl)
theorem wd_226 : Cond.code yX0_changeInputs cX0_changeInputs 3 (some .int) ∈ LW := lw_c9_in _ (List.mem_of_getElem? (i := 10) rfl)
theorem wd_227 : Cond.methodLink RX0 93 yX0_addGate ∈ LW := lw_c9_in _ (List.mem_of_getElem? (i := 11) rfl)
theorem wd_228 : Cond.instanceMethod yX0_addGate ∈ LW := lw_c9_in _ (List.mem_of_getElem? (i := 12) rfl)
theorem wd_229 : Cond.selects RX0 yX0_addGate yX0_addGate ∈ LW := lw_c9_in _ (List.mem_of_getElem? (i := 13) rfl)
theorem wd_230 : Cond.code yX0_addGate cX0_addGate 4 (some .int) ∈ LW := lw_c9_in _ (List.mem_of_getElem? (i := 14) rfl)
theorem wd_231 : Cond.methodLink RX0 64 yX0_truthOf ∈ LW := lw_c9_in _ (List.mem_of_getElem? (i := 15) rfl)
theorem wd_232 : Cond.instanceMethod yX0_truthOf ∈ LW := lw_c9_in _ (List.mem_of_getElem? (i := 16) rfl)
theorem wd_233 : Cond.selects RX0 yX0_truthOf yX0_truthOf ∈ LW := lw_c9_in _ (List.mem_of_getElem? (i := 17) rfl)
theorem wd_234 : Cond.code yX0_truthOf cX0_truthOf 3 (some .int) ∈ LW := lw_c9_in _ (List.mem_of_getElem? (i := 18) rfl)
theorem wd_235 : Cond.methodLink RX0 106 yX0_levelOf ∈ LW := lw_c9_in _ (List.mem_of_getElem? (i := 19) rfl)
theorem wd_236 : Cond.instanceMethod yX0_levelOf ∈ LW := lw_c9_in _ (List.mem_of_getElem? (i := 20) rfl)
theorem wd_237 : Cond.selects RX0 yX0_levelOf yX0_levelOf ∈ LW := lw_c9_in _ (List.mem_of_getElem? (i := 21) rfl)
theorem wd_238 : Cond.code yX0_levelOf cX0_levelOf 2 (some .int) ∈ LW := lw_c9_in _ (List.mem_of_getElem? (i := 22) rfl)
theorem wd_239 : Cond.methodLink RX0 109 Lib.Math.max.name ∈ LW := lw_c9_in _ (List.mem_of_getElem? (i := 23) rfl)
def lw_c10 : List Cond := [.static Lib.Math.max.name, .code Lib.Math.max.name Lib.Math.max.code 2 (some .int), .methodLink RX0 96 yX0_addEither, .instanceMethod yX0_addEither, .selects RX0 yX0_addEither yX0_addEither, .code yX0_addEither cX0_addEither 7 (some .int), .methodLink RX0 100 yX0_addOut, .instanceMethod yX0_addOut, .selects RX0 yX0_addOut yX0_addOut, .code yX0_addOut cX0_addOut 4 (some .int), .methodLink RX0 103 yX0_addPattern, .instanceMethod yX0_addPattern, .selects RX0 yX0_addPattern yX0_addPattern, .code yX0_addPattern cX0_addPattern 2 (some .int), .methodLink RL 18 yX4_gate, .instanceMethod yX4_gate, .selects RX4 yX4_gate yX4_gate, .code yX4_gate cX4_gate 3 (some .int), .methodLink RL 23 yX4_xor, .instanceMethod yX4_xor, .selects RX4 yX4_xor yX4_xor, .code yX4_xor cX4_xor 3 (some .int), .methodLink RL 27 yX4_mux, .instanceMethod yX4_mux]
set_option maxRecDepth 20000 in
theorem lw_c10_in : ∀ w ∈ lw_c10, w ∈ LW := LWsub lw_c10 [341, 342, 343, 344, 345, 346, 347, 348, 349, 350, 351, 352, 353, 354, 355, 356, 357, 358, 359, 360, 361, 362, 363, 364] (by decide +kernel) (by decide +kernel)
theorem wd_240 : Cond.static Lib.Math.max.name ∈ LW := lw_c10_in _ (List.mem_of_getElem? (i := 0) rfl)
theorem wd_241 : Cond.code Lib.Math.max.name Lib.Math.max.code 2 (some .int) ∈ LW := lw_c10_in _ (List.mem_of_getElem? (i := 1) rfl)
theorem wd_242 : Cond.methodLink RX0 96 yX0_addEither ∈ LW := lw_c10_in _ (List.mem_of_getElem? (i := 2) rfl)
theorem wd_243 : Cond.instanceMethod yX0_addEither ∈ LW := lw_c10_in _ (List.mem_of_getElem? (i := 3) rfl)
theorem wd_244 : Cond.selects RX0 yX0_addEither yX0_addEither ∈ LW := lw_c10_in _ (List.mem_of_getElem? (i := 4) rfl)
theorem wd_245 : Cond.code yX0_addEither cX0_addEither 7 (some .int) ∈ LW := lw_c10_in _ (List.mem_of_getElem? (i := 5) rfl)
theorem wd_246 : Cond.methodLink RX0 100 yX0_addOut ∈ LW := lw_c10_in _ (List.mem_of_getElem? (i := 6) rfl)
theorem wd_247 : Cond.instanceMethod yX0_addOut ∈ LW := lw_c10_in _ (List.mem_of_getElem? (i := 7) rfl)
theorem wd_248 : Cond.selects RX0 yX0_addOut yX0_addOut ∈ LW := lw_c10_in _ (List.mem_of_getElem? (i := 8) rfl)
theorem wd_249 : Cond.code yX0_addOut cX0_addOut 4 (some .int) ∈ LW := lw_c10_in _ (List.mem_of_getElem? (i := 9) rfl)
theorem wd_250 : Cond.methodLink RX0 103 yX0_addPattern ∈ LW := lw_c10_in _ (List.mem_of_getElem? (i := 10) rfl)
theorem wd_251 : Cond.instanceMethod yX0_addPattern ∈ LW := lw_c10_in _ (List.mem_of_getElem? (i := 11) rfl)
theorem wd_252 : Cond.selects RX0 yX0_addPattern yX0_addPattern ∈ LW := lw_c10_in _ (List.mem_of_getElem? (i := 12) rfl)
theorem wd_253 : Cond.code yX0_addPattern cX0_addPattern 2 (some .int) ∈ LW := lw_c10_in _ (List.mem_of_getElem? (i := 13) rfl)
theorem wd_254 : Cond.methodLink RL 18 yX4_gate ∈ LW := lw_c10_in _ (List.mem_of_getElem? (i := 14) rfl)
theorem wd_255 : Cond.instanceMethod yX4_gate ∈ LW := lw_c10_in _ (List.mem_of_getElem? (i := 15) rfl)
theorem wd_256 : Cond.selects RX4 yX4_gate yX4_gate ∈ LW := lw_c10_in _ (List.mem_of_getElem? (i := 16) rfl)
theorem wd_257 : Cond.code yX4_gate cX4_gate 3 (some .int) ∈ LW := lw_c10_in _ (List.mem_of_getElem? (i := 17) rfl)
theorem wd_258 : Cond.methodLink RL 23 yX4_xor ∈ LW := lw_c10_in _ (List.mem_of_getElem? (i := 18) rfl)
theorem wd_259 : Cond.instanceMethod yX4_xor ∈ LW := lw_c10_in _ (List.mem_of_getElem? (i := 19) rfl)
theorem wd_260 : Cond.selects RX4 yX4_xor yX4_xor ∈ LW := lw_c10_in _ (List.mem_of_getElem? (i := 20) rfl)
theorem wd_261 : Cond.code yX4_xor cX4_xor 3 (some .int) ∈ LW := lw_c10_in _ (List.mem_of_getElem? (i := 21) rfl)
theorem wd_262 : Cond.methodLink RL 27 yX4_mux ∈ LW := lw_c10_in _ (List.mem_of_getElem? (i := 22) rfl)
theorem wd_263 : Cond.instanceMethod yX4_mux ∈ LW := lw_c10_in _ (List.mem_of_getElem? (i := 23) rfl)
def lw_c11 : List Cond := [.selects RX4 yX4_mux yX4_mux, .code yX4_mux cX4_mux 4 (some .int), .methodLink RL 32 yX4_out, .instanceMethod yX4_out, .selects RX4 yX4_out yX4_out, .code yX4_out cX4_out 3 (some .int), .methodLink RL 36 yX4_pattern, .instanceMethod yX4_pattern, .selects RX4 yX4_pattern yX4_pattern, .code yX4_pattern cX4_pattern 2 (some .int), .methodLink RL 40 yX4_settles, .instanceMethod yX4_settles, .selects RX4 yX4_settles yX4_settles, .code yX4_settles cX4_settles 2 (some .int), .methodLink RX4 48 yX4_sweepNow, .instanceMethod yX4_sweepNow, .code yX4_sweepNow cX4_sweepNow 1 (some (.object "SweptGates$Sweep")), .methodLink RX4 214 yX3_run, .instanceMethod yX3_run, .selects RX3 yX3_run yX3_run, .code yX3_run cX3_run 5 none, .methodLink RX3 36 yX3_begin, .instanceMethod yX3_begin, .selects RX3 yX3_begin yX3_begin]
set_option maxRecDepth 20000 in
theorem lw_c11_in : ∀ w ∈ lw_c11, w ∈ LW := LWsub lw_c11 [365, 366, 367, 368, 369, 370, 371, 372, 373, 374, 375, 376, 377, 378, 379, 381, 382, 383, 384, 385, 386, 387, 388, 389] (by decide +kernel) (by decide +kernel)
theorem wd_264 : Cond.selects RX4 yX4_mux yX4_mux ∈ LW := lw_c11_in _ (List.mem_of_getElem? (i := 0) rfl)
theorem wd_265 : Cond.code yX4_mux cX4_mux 4 (some .int) ∈ LW := lw_c11_in _ (List.mem_of_getElem? (i := 1) rfl)
theorem wd_266 : Cond.methodLink RL 32 yX4_out ∈ LW := lw_c11_in _ (List.mem_of_getElem? (i := 2) rfl)
theorem wd_267 : Cond.instanceMethod yX4_out ∈ LW := lw_c11_in _ (List.mem_of_getElem? (i := 3) rfl)
theorem wd_268 : Cond.selects RX4 yX4_out yX4_out ∈ LW := lw_c11_in _ (List.mem_of_getElem? (i := 4) rfl)
theorem wd_269 : Cond.code yX4_out cX4_out 3 (some .int) ∈ LW := lw_c11_in _ (List.mem_of_getElem? (i := 5) rfl)
theorem wd_270 : Cond.methodLink RL 36 yX4_pattern ∈ LW := lw_c11_in _ (List.mem_of_getElem? (i := 6) rfl)
theorem wd_271 : Cond.instanceMethod yX4_pattern ∈ LW := lw_c11_in _ (List.mem_of_getElem? (i := 7) rfl)
theorem wd_272 : Cond.selects RX4 yX4_pattern yX4_pattern ∈ LW := lw_c11_in _ (List.mem_of_getElem? (i := 8) rfl)
theorem wd_273 : Cond.code yX4_pattern cX4_pattern 2 (some .int) ∈ LW := lw_c11_in _ (List.mem_of_getElem? (i := 9) rfl)
theorem wd_274 : Cond.methodLink RL 40 yX4_settles ∈ LW := lw_c11_in _ (List.mem_of_getElem? (i := 10) rfl)
theorem wd_275 : Cond.instanceMethod yX4_settles ∈ LW := lw_c11_in _ (List.mem_of_getElem? (i := 11) rfl)
theorem wd_276 : Cond.selects RX4 yX4_settles yX4_settles ∈ LW := lw_c11_in _ (List.mem_of_getElem? (i := 12) rfl)
theorem wd_277 : Cond.code yX4_settles cX4_settles 2 (some .int) ∈ LW := lw_c11_in _ (List.mem_of_getElem? (i := 13) rfl)
theorem wd_278 : Cond.methodLink RX4 48 yX4_sweepNow ∈ LW := lw_c11_in _ (List.mem_of_getElem? (i := 14) rfl)
theorem wd_279 : Cond.instanceMethod yX4_sweepNow ∈ LW := lw_c11_in _ (List.mem_of_getElem? (i := 15) rfl)
theorem wd_280 : Cond.code yX4_sweepNow cX4_sweepNow 1 (some (.object "SweptGates$Sweep")) ∈ LW := lw_c11_in _ (List.mem_of_getElem? (i := 16) rfl)
theorem wd_281 : Cond.methodLink RX4 214 yX3_run ∈ LW := lw_c11_in _ (List.mem_of_getElem? (i := 17) rfl)
theorem wd_282 : Cond.instanceMethod yX3_run ∈ LW := lw_c11_in _ (List.mem_of_getElem? (i := 18) rfl)
theorem wd_283 : Cond.selects RX3 yX3_run yX3_run ∈ LW := lw_c11_in _ (List.mem_of_getElem? (i := 19) rfl)
theorem wd_284 : Cond.code yX3_run cX3_run 5 none ∈ LW := lw_c11_in _ (List.mem_of_getElem? (i := 20) rfl)
theorem wd_285 : Cond.methodLink RX3 36 yX3_begin ∈ LW := lw_c11_in _ (List.mem_of_getElem? (i := 21) rfl)
theorem wd_286 : Cond.instanceMethod yX3_begin ∈ LW := lw_c11_in _ (List.mem_of_getElem? (i := 22) rfl)
theorem wd_287 : Cond.selects RX3 yX3_begin yX3_begin ∈ LW := lw_c11_in _ (List.mem_of_getElem? (i := 23) rfl)
def lw_c12 : List Cond := [.code yX3_begin cX3_begin 3 none, .methodLink RX3 78 yX0_allRows, .methodLink RX3 84 yX3_merge, .instanceMethod yX3_merge, .selects RX3 yX3_merge yX3_merge, .code yX3_merge cX3_merge 4 none, .methodLink RX3 100 yX3_addRow, .instanceMethod yX3_addRow, .selects RX3 yX3_addRow yX3_addRow, .code yX3_addRow cX3_addRow 2 none, .methodLink RX3 52 yX3_formOf, .instanceMethod yX3_formOf, .selects RX3 yX3_formOf yX3_formOf, .code yX3_formOf cX3_formOf 2 (some .int), .methodLink RX3 59 Lib.Math.min.name, .methodLink RX3 65 Lib.Math.max.name, .methodLink RX3 68 yX3_sweepGate, .instanceMethod yX3_sweepGate, .selects RX3 yX3_sweepGate yX3_sweepGate, .code yX3_sweepGate cX3_sweepGate 6 none, .methodLink RX3 104 yX3_formByRule, .instanceMethod yX3_formByRule, .selects RX3 yX3_formByRule yX3_formByRule, .code yX3_formByRule cX3_formByRule 3 (some .int)]
set_option maxRecDepth 20000 in
theorem lw_c12_in : ∀ w ∈ lw_c12, w ∈ LW := LWsub lw_c12 [390, 391, 392, 393, 394, 395, 396, 397, 398, 399, 400, 401, 402, 403, 404, 405, 406, 407, 408, 409, 410, 411, 412, 413] (by decide +kernel) (by decide +kernel)
theorem wd_288 : Cond.code yX3_begin cX3_begin 3 none ∈ LW := lw_c12_in _ (List.mem_of_getElem? (i := 0) rfl)
theorem wd_289 : Cond.methodLink RX3 78 yX0_allRows ∈ LW := lw_c12_in _ (List.mem_of_getElem? (i := 1) rfl)
theorem wd_290 : Cond.methodLink RX3 84 yX3_merge ∈ LW := lw_c12_in _ (List.mem_of_getElem? (i := 2) rfl)
theorem wd_291 : Cond.instanceMethod yX3_merge ∈ LW := lw_c12_in _ (List.mem_of_getElem? (i := 3) rfl)
theorem wd_292 : Cond.selects RX3 yX3_merge yX3_merge ∈ LW := lw_c12_in _ (List.mem_of_getElem? (i := 4) rfl)
theorem wd_293 : Cond.code yX3_merge cX3_merge 4 none ∈ LW := lw_c12_in _ (List.mem_of_getElem? (i := 5) rfl)
theorem wd_294 : Cond.methodLink RX3 100 yX3_addRow ∈ LW := lw_c12_in _ (List.mem_of_getElem? (i := 6) rfl)
theorem wd_295 : Cond.instanceMethod yX3_addRow ∈ LW := lw_c12_in _ (List.mem_of_getElem? (i := 7) rfl)
theorem wd_296 : Cond.selects RX3 yX3_addRow yX3_addRow ∈ LW := lw_c12_in _ (List.mem_of_getElem? (i := 8) rfl)
theorem wd_297 : Cond.code yX3_addRow cX3_addRow 2 none ∈ LW := lw_c12_in _ (List.mem_of_getElem? (i := 9) rfl)
theorem wd_298 : Cond.methodLink RX3 52 yX3_formOf ∈ LW := lw_c12_in _ (List.mem_of_getElem? (i := 10) rfl)
theorem wd_299 : Cond.instanceMethod yX3_formOf ∈ LW := lw_c12_in _ (List.mem_of_getElem? (i := 11) rfl)
theorem wd_300 : Cond.selects RX3 yX3_formOf yX3_formOf ∈ LW := lw_c12_in _ (List.mem_of_getElem? (i := 12) rfl)
theorem wd_301 : Cond.code yX3_formOf cX3_formOf 2 (some .int) ∈ LW := lw_c12_in _ (List.mem_of_getElem? (i := 13) rfl)
theorem wd_302 : Cond.methodLink RX3 59 Lib.Math.min.name ∈ LW := lw_c12_in _ (List.mem_of_getElem? (i := 14) rfl)
theorem wd_303 : Cond.methodLink RX3 65 Lib.Math.max.name ∈ LW := lw_c12_in _ (List.mem_of_getElem? (i := 15) rfl)
theorem wd_304 : Cond.methodLink RX3 68 yX3_sweepGate ∈ LW := lw_c12_in _ (List.mem_of_getElem? (i := 16) rfl)
theorem wd_305 : Cond.instanceMethod yX3_sweepGate ∈ LW := lw_c12_in _ (List.mem_of_getElem? (i := 17) rfl)
theorem wd_306 : Cond.selects RX3 yX3_sweepGate yX3_sweepGate ∈ LW := lw_c12_in _ (List.mem_of_getElem? (i := 18) rfl)
theorem wd_307 : Cond.code yX3_sweepGate cX3_sweepGate 6 none ∈ LW := lw_c12_in _ (List.mem_of_getElem? (i := 19) rfl)
theorem wd_308 : Cond.methodLink RX3 104 yX3_formByRule ∈ LW := lw_c12_in _ (List.mem_of_getElem? (i := 20) rfl)
theorem wd_309 : Cond.instanceMethod yX3_formByRule ∈ LW := lw_c12_in _ (List.mem_of_getElem? (i := 21) rfl)
theorem wd_310 : Cond.selects RX3 yX3_formByRule yX3_formByRule ∈ LW := lw_c12_in _ (List.mem_of_getElem? (i := 22) rfl)
theorem wd_311 : Cond.code yX3_formByRule cX3_formByRule 3 (some .int) ∈ LW := lw_c12_in _ (List.mem_of_getElem? (i := 23) rfl)
def lw_c13 : List Cond := [.methodLink RX3 107 yX3_sameGate, .instanceMethod yX3_sameGate, .selects RX3 yX3_sameGate yX3_sameGate, .code yX3_sameGate cX3_sameGate 4 (some .int), .methodLink RX3 110 yX3_formByChecks, .instanceMethod yX3_formByChecks, .selects RX3 yX3_formByChecks yX3_formByChecks, .code yX3_formByChecks cX3_formByChecks 5 (some .int), .methodLink RX3 117 yX3_checkHolds, .instanceMethod yX3_checkHolds, .selects RX3 yX3_checkHolds yX3_checkHolds, .code yX3_checkHolds cX3_checkHolds 2 (some .boolean), .static yX4_leastRow, .code yX4_leastRow cX4_leastRow 2 (some .int), .methodLink RX4 56 yX0_settleBy, .instanceMethod yX0_settleBy, .selects RX0 yX0_settleBy yX0_settleBy, .code yX0_settleBy cX0_settleBy 4 (some .int), .methodLink RX0 114 yX3_numberKept, .instanceMethod yX3_numberKept, .selects RX3 yX3_numberKept yX3_numberKept, .code yX3_numberKept cX3_numberKept 4 none, .methodLink RX0 123 yX3_numbered, .instanceMethod yX3_numbered]
set_option maxRecDepth 20000 in
theorem lw_c13_in : ∀ w ∈ lw_c13, w ∈ LW := LWsub lw_c13 [414, 415, 416, 417, 418, 419, 420, 421, 422, 423, 424, 425, 427, 428, 429, 430, 431, 432, 433, 434, 435, 436, 437, 438] (by decide +kernel) (by decide +kernel)
theorem wd_312 : Cond.methodLink RX3 107 yX3_sameGate ∈ LW := lw_c13_in _ (List.mem_of_getElem? (i := 0) rfl)
theorem wd_313 : Cond.instanceMethod yX3_sameGate ∈ LW := lw_c13_in _ (List.mem_of_getElem? (i := 1) rfl)
theorem wd_314 : Cond.selects RX3 yX3_sameGate yX3_sameGate ∈ LW := lw_c13_in _ (List.mem_of_getElem? (i := 2) rfl)
theorem wd_315 : Cond.code yX3_sameGate cX3_sameGate 4 (some .int) ∈ LW := lw_c13_in _ (List.mem_of_getElem? (i := 3) rfl)
theorem wd_316 : Cond.methodLink RX3 110 yX3_formByChecks ∈ LW := lw_c13_in _ (List.mem_of_getElem? (i := 4) rfl)
theorem wd_317 : Cond.instanceMethod yX3_formByChecks ∈ LW := lw_c13_in _ (List.mem_of_getElem? (i := 5) rfl)
theorem wd_318 : Cond.selects RX3 yX3_formByChecks yX3_formByChecks ∈ LW := lw_c13_in _ (List.mem_of_getElem? (i := 6) rfl)
theorem wd_319 : Cond.code yX3_formByChecks cX3_formByChecks 5 (some .int) ∈ LW := lw_c13_in _ (List.mem_of_getElem? (i := 7) rfl)
theorem wd_320 : Cond.methodLink RX3 117 yX3_checkHolds ∈ LW := lw_c13_in _ (List.mem_of_getElem? (i := 8) rfl)
theorem wd_321 : Cond.instanceMethod yX3_checkHolds ∈ LW := lw_c13_in _ (List.mem_of_getElem? (i := 9) rfl)
theorem wd_322 : Cond.selects RX3 yX3_checkHolds yX3_checkHolds ∈ LW := lw_c13_in _ (List.mem_of_getElem? (i := 10) rfl)
theorem wd_323 : Cond.code yX3_checkHolds cX3_checkHolds 2 (some .boolean) ∈ LW := lw_c13_in _ (List.mem_of_getElem? (i := 11) rfl)
theorem wd_324 : Cond.static yX4_leastRow ∈ LW := lw_c13_in _ (List.mem_of_getElem? (i := 12) rfl)
theorem wd_325 : Cond.code yX4_leastRow cX4_leastRow 2 (some .int) ∈ LW := lw_c13_in _ (List.mem_of_getElem? (i := 13) rfl)
theorem wd_326 : Cond.methodLink RX4 56 yX0_settleBy ∈ LW := lw_c13_in _ (List.mem_of_getElem? (i := 14) rfl)
theorem wd_327 : Cond.instanceMethod yX0_settleBy ∈ LW := lw_c13_in _ (List.mem_of_getElem? (i := 15) rfl)
theorem wd_328 : Cond.selects RX0 yX0_settleBy yX0_settleBy ∈ LW := lw_c13_in _ (List.mem_of_getElem? (i := 16) rfl)
theorem wd_329 : Cond.code yX0_settleBy cX0_settleBy 4 (some .int) ∈ LW := lw_c13_in _ (List.mem_of_getElem? (i := 17) rfl)
theorem wd_330 : Cond.methodLink RX0 114 yX3_numberKept ∈ LW := lw_c13_in _ (List.mem_of_getElem? (i := 18) rfl)
theorem wd_331 : Cond.instanceMethod yX3_numberKept ∈ LW := lw_c13_in _ (List.mem_of_getElem? (i := 19) rfl)
theorem wd_332 : Cond.selects RX3 yX3_numberKept yX3_numberKept ∈ LW := lw_c13_in _ (List.mem_of_getElem? (i := 20) rfl)
theorem wd_333 : Cond.code yX3_numberKept cX3_numberKept 4 none ∈ LW := lw_c13_in _ (List.mem_of_getElem? (i := 21) rfl)
theorem wd_334 : Cond.methodLink RX0 123 yX3_numbered ∈ LW := lw_c13_in _ (List.mem_of_getElem? (i := 22) rfl)
theorem wd_335 : Cond.instanceMethod yX3_numbered ∈ LW := lw_c13_in _ (List.mem_of_getElem? (i := 23) rfl)
def lw_c14 : List Cond := [.selects RX3 yX3_numbered yX3_numbered, .code yX3_numbered cX3_numbered 2 (some .int), .methodLink RX0 129 yX0_settleOuts, .instanceMethod yX0_settleOuts, .selects RX0 yX0_settleOuts yX0_settleOuts, .code yX0_settleOuts cX0_settleOuts 4 none, .methodLink RX0 60 yX0_outOf, .instanceMethod yX0_outOf, .selects RX0 yX0_outOf yX0_outOf, .code yX0_outOf cX0_outOf 3 (some .int), .methodLink RX0 68 yX3_formOf, .methodLink RL 45 yX4_of, .instanceMethod yX4_of, .selects RX4 yX4_of yX4_of, .code yX4_of cX4_of 3 (some .int), .methodLink RX4 60 yX0_isGate, .instanceMethod yX0_isGate, .selects RX0 yX0_isGate yX0_isGate, .code yX0_isGate cX0_isGate 2 (some .boolean), .methodLink RL 49 yX4_table, .instanceMethod yX4_table, .selects RX4 yX4_table yX4_table, .code yX4_table cX4_table 2 (some .int), .methodLink RX4 75 yX0_isLiteral]
set_option maxRecDepth 20000 in
theorem lw_c14_in : ∀ w ∈ lw_c14, w ∈ LW := LWsub lw_c14 [439, 440, 441, 442, 443, 444, 445, 446, 447, 448, 449, 450, 451, 452, 453, 454, 455, 456, 457, 458, 459, 460, 461, 462] (by decide +kernel) (by decide +kernel)
theorem wd_336 : Cond.selects RX3 yX3_numbered yX3_numbered ∈ LW := lw_c14_in _ (List.mem_of_getElem? (i := 0) rfl)
theorem wd_337 : Cond.code yX3_numbered cX3_numbered 2 (some .int) ∈ LW := lw_c14_in _ (List.mem_of_getElem? (i := 1) rfl)
theorem wd_338 : Cond.methodLink RX0 129 yX0_settleOuts ∈ LW := lw_c14_in _ (List.mem_of_getElem? (i := 2) rfl)
theorem wd_339 : Cond.instanceMethod yX0_settleOuts ∈ LW := lw_c14_in _ (List.mem_of_getElem? (i := 3) rfl)
theorem wd_340 : Cond.selects RX0 yX0_settleOuts yX0_settleOuts ∈ LW := lw_c14_in _ (List.mem_of_getElem? (i := 4) rfl)
theorem wd_341 : Cond.code yX0_settleOuts cX0_settleOuts 4 none ∈ LW := lw_c14_in _ (List.mem_of_getElem? (i := 5) rfl)
theorem wd_342 : Cond.methodLink RX0 60 yX0_outOf ∈ LW := lw_c14_in _ (List.mem_of_getElem? (i := 6) rfl)
theorem wd_343 : Cond.instanceMethod yX0_outOf ∈ LW := lw_c14_in _ (List.mem_of_getElem? (i := 7) rfl)
theorem wd_344 : Cond.selects RX0 yX0_outOf yX0_outOf ∈ LW := lw_c14_in _ (List.mem_of_getElem? (i := 8) rfl)
theorem wd_345 : Cond.code yX0_outOf cX0_outOf 3 (some .int) ∈ LW := lw_c14_in _ (List.mem_of_getElem? (i := 9) rfl)
theorem wd_346 : Cond.methodLink RX0 68 yX3_formOf ∈ LW := lw_c14_in _ (List.mem_of_getElem? (i := 10) rfl)
theorem wd_347 : Cond.methodLink RL 45 yX4_of ∈ LW := lw_c14_in _ (List.mem_of_getElem? (i := 11) rfl)
theorem wd_348 : Cond.instanceMethod yX4_of ∈ LW := lw_c14_in _ (List.mem_of_getElem? (i := 12) rfl)
theorem wd_349 : Cond.selects RX4 yX4_of yX4_of ∈ LW := lw_c14_in _ (List.mem_of_getElem? (i := 13) rfl)
theorem wd_350 : Cond.code yX4_of cX4_of 3 (some .int) ∈ LW := lw_c14_in _ (List.mem_of_getElem? (i := 14) rfl)
theorem wd_351 : Cond.methodLink RX4 60 yX0_isGate ∈ LW := lw_c14_in _ (List.mem_of_getElem? (i := 15) rfl)
theorem wd_352 : Cond.instanceMethod yX0_isGate ∈ LW := lw_c14_in _ (List.mem_of_getElem? (i := 16) rfl)
theorem wd_353 : Cond.selects RX0 yX0_isGate yX0_isGate ∈ LW := lw_c14_in _ (List.mem_of_getElem? (i := 17) rfl)
theorem wd_354 : Cond.code yX0_isGate cX0_isGate 2 (some .boolean) ∈ LW := lw_c14_in _ (List.mem_of_getElem? (i := 18) rfl)
theorem wd_355 : Cond.methodLink RL 49 yX4_table ∈ LW := lw_c14_in _ (List.mem_of_getElem? (i := 19) rfl)
theorem wd_356 : Cond.instanceMethod yX4_table ∈ LW := lw_c14_in _ (List.mem_of_getElem? (i := 20) rfl)
theorem wd_357 : Cond.selects RX4 yX4_table yX4_table ∈ LW := lw_c14_in _ (List.mem_of_getElem? (i := 21) rfl)
theorem wd_358 : Cond.code yX4_table cX4_table 2 (some .int) ∈ LW := lw_c14_in _ (List.mem_of_getElem? (i := 22) rfl)
theorem wd_359 : Cond.methodLink RX4 75 yX0_isLiteral ∈ LW := lw_c14_in _ (List.mem_of_getElem? (i := 23) rfl)
def lw_c15 : List Cond := [.methodLink RX4 78 yX0_truthOf, .methodLink RL 53 yX4_at, .instanceMethod yX4_at, .selects RX4 yX4_at yX4_at, .code yX4_at cX4_at 3 (some .int), .methodLink RX4 81 yX0_isRow, .methodLink RL 57 yX4_depth, .instanceMethod yX4_depth, .selects RX4 yX4_depth yX4_depth, .code yX4_depth cX4_depth 2 (some .int), .methodLink RX4 84 yX0_levelOf, .methodLink RL 61 yX4_cone, .instanceMethod yX4_cone, .selects RX4 yX4_cone yX4_cone, .code yX4_cone cX4_cone 2 (some .int), .methodLink RX4 87 yX0_gatesBehind, .instanceMethod yX0_gatesBehind, .selects RX0 yX0_gatesBehind yX0_gatesBehind, .code yX0_gatesBehind cX0_gatesBehind 6 (some .int), .methodLink RL 65 yX4_outs, .instanceMethod yX4_outs, .selects RX4 yX4_outs yX4_outs, .code yX4_outs cX4_outs 3 (some .int), .methodLink RX4 90 yX0_isSide]
set_option maxRecDepth 20000 in
theorem lw_c15_in : ∀ w ∈ lw_c15, w ∈ LW := LWsub lw_c15 [463, 464, 465, 466, 467, 468, 469, 470, 471, 472, 473, 474, 475, 476, 477, 478, 479, 480, 481, 482, 483, 484, 485, 486] (by decide +kernel) (by decide +kernel)
theorem wd_360 : Cond.methodLink RX4 78 yX0_truthOf ∈ LW := lw_c15_in _ (List.mem_of_getElem? (i := 0) rfl)
theorem wd_361 : Cond.methodLink RL 53 yX4_at ∈ LW := lw_c15_in _ (List.mem_of_getElem? (i := 1) rfl)
theorem wd_362 : Cond.instanceMethod yX4_at ∈ LW := lw_c15_in _ (List.mem_of_getElem? (i := 2) rfl)
theorem wd_363 : Cond.selects RX4 yX4_at yX4_at ∈ LW := lw_c15_in _ (List.mem_of_getElem? (i := 3) rfl)
theorem wd_364 : Cond.code yX4_at cX4_at 3 (some .int) ∈ LW := lw_c15_in _ (List.mem_of_getElem? (i := 4) rfl)
theorem wd_365 : Cond.methodLink RX4 81 yX0_isRow ∈ LW := lw_c15_in _ (List.mem_of_getElem? (i := 5) rfl)
theorem wd_366 : Cond.methodLink RL 57 yX4_depth ∈ LW := lw_c15_in _ (List.mem_of_getElem? (i := 6) rfl)
theorem wd_367 : Cond.instanceMethod yX4_depth ∈ LW := lw_c15_in _ (List.mem_of_getElem? (i := 7) rfl)
theorem wd_368 : Cond.selects RX4 yX4_depth yX4_depth ∈ LW := lw_c15_in _ (List.mem_of_getElem? (i := 8) rfl)
theorem wd_369 : Cond.code yX4_depth cX4_depth 2 (some .int) ∈ LW := lw_c15_in _ (List.mem_of_getElem? (i := 9) rfl)
theorem wd_370 : Cond.methodLink RX4 84 yX0_levelOf ∈ LW := lw_c15_in _ (List.mem_of_getElem? (i := 10) rfl)
theorem wd_371 : Cond.methodLink RL 61 yX4_cone ∈ LW := lw_c15_in _ (List.mem_of_getElem? (i := 11) rfl)
theorem wd_372 : Cond.instanceMethod yX4_cone ∈ LW := lw_c15_in _ (List.mem_of_getElem? (i := 12) rfl)
theorem wd_373 : Cond.selects RX4 yX4_cone yX4_cone ∈ LW := lw_c15_in _ (List.mem_of_getElem? (i := 13) rfl)
theorem wd_374 : Cond.code yX4_cone cX4_cone 2 (some .int) ∈ LW := lw_c15_in _ (List.mem_of_getElem? (i := 14) rfl)
theorem wd_375 : Cond.methodLink RX4 87 yX0_gatesBehind ∈ LW := lw_c15_in _ (List.mem_of_getElem? (i := 15) rfl)
theorem wd_376 : Cond.instanceMethod yX0_gatesBehind ∈ LW := lw_c15_in _ (List.mem_of_getElem? (i := 16) rfl)
theorem wd_377 : Cond.selects RX0 yX0_gatesBehind yX0_gatesBehind ∈ LW := lw_c15_in _ (List.mem_of_getElem? (i := 17) rfl)
theorem wd_378 : Cond.code yX0_gatesBehind cX0_gatesBehind 6 (some .int) ∈ LW := lw_c15_in _ (List.mem_of_getElem? (i := 18) rfl)
theorem wd_379 : Cond.methodLink RL 65 yX4_outs ∈ LW := lw_c15_in _ (List.mem_of_getElem? (i := 19) rfl)
theorem wd_380 : Cond.instanceMethod yX4_outs ∈ LW := lw_c15_in _ (List.mem_of_getElem? (i := 20) rfl)
theorem wd_381 : Cond.selects RX4 yX4_outs yX4_outs ∈ LW := lw_c15_in _ (List.mem_of_getElem? (i := 21) rfl)
theorem wd_382 : Cond.code yX4_outs cX4_outs 3 (some .int) ∈ LW := lw_c15_in _ (List.mem_of_getElem? (i := 22) rfl)
theorem wd_383 : Cond.methodLink RX4 90 yX0_isSide ∈ LW := lw_c15_in _ (List.mem_of_getElem? (i := 23) rfl)
def lw_c16 : List Cond := [.methodLink RX4 96 yX0_outOf, .methodLink RL 69 yX4_count, .instanceMethod yX4_count, .selects RX4 yX4_count yX4_count, .code yX4_count cX4_count 2 (some .int), .methodLink RX4 100 yX0_countOf, .instanceMethod yX0_countOf, .selects RX0 yX0_countOf yX0_countOf, .code yX0_countOf cX0_countOf 2 (some .int), .methodLink RL 73 yX4_sign, .instanceMethod yX4_sign, .selects RX4 yX4_sign yX4_sign, .code yX4_sign cX4_sign 2 (some .int), .methodLink RX4 103 yX0_isNode, .instanceMethod yX0_isNode, .selects RX0 yX0_isNode yX0_isNode, .code yX0_isNode cX0_isNode 2 (some .boolean), .methodLink RX4 106 yX0_signOf, .instanceMethod yX0_signOf, .selects RX0 yX0_signOf yX0_signOf, .code yX0_signOf cX0_signOf 4 (some .int), .methodLink RL 77 yX4_form, .instanceMethod yX4_form, .selects RX4 yX4_form yX4_form]
set_option maxRecDepth 20000 in
theorem lw_c16_in : ∀ w ∈ lw_c16, w ∈ LW := LWsub lw_c16 [487, 488, 489, 490, 491, 492, 493, 494, 495, 496, 497, 498, 499, 500, 501, 502, 503, 504, 505, 506, 507, 508, 509, 510] (by decide +kernel) (by decide +kernel)
theorem wd_384 : Cond.methodLink RX4 96 yX0_outOf ∈ LW := lw_c16_in _ (List.mem_of_getElem? (i := 0) rfl)
theorem wd_385 : Cond.methodLink RL 69 yX4_count ∈ LW := lw_c16_in _ (List.mem_of_getElem? (i := 1) rfl)
theorem wd_386 : Cond.instanceMethod yX4_count ∈ LW := lw_c16_in _ (List.mem_of_getElem? (i := 2) rfl)
theorem wd_387 : Cond.selects RX4 yX4_count yX4_count ∈ LW := lw_c16_in _ (List.mem_of_getElem? (i := 3) rfl)
theorem wd_388 : Cond.code yX4_count cX4_count 2 (some .int) ∈ LW := lw_c16_in _ (List.mem_of_getElem? (i := 4) rfl)
theorem wd_389 : Cond.methodLink RX4 100 yX0_countOf ∈ LW := lw_c16_in _ (List.mem_of_getElem? (i := 5) rfl)
theorem wd_390 : Cond.instanceMethod yX0_countOf ∈ LW := lw_c16_in _ (List.mem_of_getElem? (i := 6) rfl)
theorem wd_391 : Cond.selects RX0 yX0_countOf yX0_countOf ∈ LW := lw_c16_in _ (List.mem_of_getElem? (i := 7) rfl)
theorem wd_392 : Cond.code yX0_countOf cX0_countOf 2 (some .int) ∈ LW := lw_c16_in _ (List.mem_of_getElem? (i := 8) rfl)
theorem wd_393 : Cond.methodLink RL 73 yX4_sign ∈ LW := lw_c16_in _ (List.mem_of_getElem? (i := 9) rfl)
theorem wd_394 : Cond.instanceMethod yX4_sign ∈ LW := lw_c16_in _ (List.mem_of_getElem? (i := 10) rfl)
theorem wd_395 : Cond.selects RX4 yX4_sign yX4_sign ∈ LW := lw_c16_in _ (List.mem_of_getElem? (i := 11) rfl)
theorem wd_396 : Cond.code yX4_sign cX4_sign 2 (some .int) ∈ LW := lw_c16_in _ (List.mem_of_getElem? (i := 12) rfl)
theorem wd_397 : Cond.methodLink RX4 103 yX0_isNode ∈ LW := lw_c16_in _ (List.mem_of_getElem? (i := 13) rfl)
theorem wd_398 : Cond.instanceMethod yX0_isNode ∈ LW := lw_c16_in _ (List.mem_of_getElem? (i := 14) rfl)
theorem wd_399 : Cond.selects RX0 yX0_isNode yX0_isNode ∈ LW := lw_c16_in _ (List.mem_of_getElem? (i := 15) rfl)
theorem wd_400 : Cond.code yX0_isNode cX0_isNode 2 (some .boolean) ∈ LW := lw_c16_in _ (List.mem_of_getElem? (i := 16) rfl)
theorem wd_401 : Cond.methodLink RX4 106 yX0_signOf ∈ LW := lw_c16_in _ (List.mem_of_getElem? (i := 17) rfl)
theorem wd_402 : Cond.instanceMethod yX0_signOf ∈ LW := lw_c16_in _ (List.mem_of_getElem? (i := 18) rfl)
theorem wd_403 : Cond.selects RX0 yX0_signOf yX0_signOf ∈ LW := lw_c16_in _ (List.mem_of_getElem? (i := 19) rfl)
theorem wd_404 : Cond.code yX0_signOf cX0_signOf 4 (some .int) ∈ LW := lw_c16_in _ (List.mem_of_getElem? (i := 20) rfl)
theorem wd_405 : Cond.methodLink RL 77 yX4_form ∈ LW := lw_c16_in _ (List.mem_of_getElem? (i := 21) rfl)
theorem wd_406 : Cond.instanceMethod yX4_form ∈ LW := lw_c16_in _ (List.mem_of_getElem? (i := 22) rfl)
theorem wd_407 : Cond.selects RX4 yX4_form yX4_form ∈ LW := lw_c16_in _ (List.mem_of_getElem? (i := 23) rfl)
def lw_c17 : List Cond := [.code yX4_form cX4_form 2 (some .int), .methodLink RL 81 yX4_lines, .instanceMethod yX4_lines, .selects RX4 yX4_lines yX4_lines, .code yX4_lines cX4_lines 4 (some .int), .methodLink RX4 116 yX3_lineOf, .instanceMethod yX3_lineOf, .selects RX3 yX3_lineOf yX3_lineOf, .code yX3_lineOf cX3_lineOf 4 (some .int), .methodLink RL 85 yX4_swept, .instanceMethod yX4_swept, .selects RX4 yX4_swept yX4_swept, .code yX4_swept cX4_swept 2 (some .int), .methodLink RX4 119 yX3_tallyOf, .instanceMethod yX3_tallyOf, .selects RX3 yX3_tallyOf yX3_tallyOf, .code yX3_tallyOf cX3_tallyOf 2 (some .int), .methodLink RL 89 yX4_row, .instanceMethod yX4_row, .selects RX4 yX4_row yX4_row, .code yX4_row cX4_row 3 (some .int), .methodLink RL 93 yX4_alike, .instanceMethod yX4_alike, .selects RX4 yX4_alike yX4_alike]
set_option maxRecDepth 20000 in
theorem lw_c17_in : ∀ w ∈ lw_c17, w ∈ LW := LWsub lw_c17 [511, 512, 513, 514, 515, 516, 517, 518, 519, 520, 521, 522, 523, 524, 525, 526, 527, 528, 529, 530, 531, 532, 533, 534] (by decide +kernel) (by decide +kernel)
theorem wd_408 : Cond.code yX4_form cX4_form 2 (some .int) ∈ LW := lw_c17_in _ (List.mem_of_getElem? (i := 0) rfl)
theorem wd_409 : Cond.methodLink RL 81 yX4_lines ∈ LW := lw_c17_in _ (List.mem_of_getElem? (i := 1) rfl)
theorem wd_410 : Cond.instanceMethod yX4_lines ∈ LW := lw_c17_in _ (List.mem_of_getElem? (i := 2) rfl)
theorem wd_411 : Cond.selects RX4 yX4_lines yX4_lines ∈ LW := lw_c17_in _ (List.mem_of_getElem? (i := 3) rfl)
theorem wd_412 : Cond.code yX4_lines cX4_lines 4 (some .int) ∈ LW := lw_c17_in _ (List.mem_of_getElem? (i := 4) rfl)
theorem wd_413 : Cond.methodLink RX4 116 yX3_lineOf ∈ LW := lw_c17_in _ (List.mem_of_getElem? (i := 5) rfl)
theorem wd_414 : Cond.instanceMethod yX3_lineOf ∈ LW := lw_c17_in _ (List.mem_of_getElem? (i := 6) rfl)
theorem wd_415 : Cond.selects RX3 yX3_lineOf yX3_lineOf ∈ LW := lw_c17_in _ (List.mem_of_getElem? (i := 7) rfl)
theorem wd_416 : Cond.code yX3_lineOf cX3_lineOf 4 (some .int) ∈ LW := lw_c17_in _ (List.mem_of_getElem? (i := 8) rfl)
theorem wd_417 : Cond.methodLink RL 85 yX4_swept ∈ LW := lw_c17_in _ (List.mem_of_getElem? (i := 9) rfl)
theorem wd_418 : Cond.instanceMethod yX4_swept ∈ LW := lw_c17_in _ (List.mem_of_getElem? (i := 10) rfl)
theorem wd_419 : Cond.selects RX4 yX4_swept yX4_swept ∈ LW := lw_c17_in _ (List.mem_of_getElem? (i := 11) rfl)
theorem wd_420 : Cond.code yX4_swept cX4_swept 2 (some .int) ∈ LW := lw_c17_in _ (List.mem_of_getElem? (i := 12) rfl)
theorem wd_421 : Cond.methodLink RX4 119 yX3_tallyOf ∈ LW := lw_c17_in _ (List.mem_of_getElem? (i := 13) rfl)
theorem wd_422 : Cond.instanceMethod yX3_tallyOf ∈ LW := lw_c17_in _ (List.mem_of_getElem? (i := 14) rfl)
theorem wd_423 : Cond.selects RX3 yX3_tallyOf yX3_tallyOf ∈ LW := lw_c17_in _ (List.mem_of_getElem? (i := 15) rfl)
theorem wd_424 : Cond.code yX3_tallyOf cX3_tallyOf 2 (some .int) ∈ LW := lw_c17_in _ (List.mem_of_getElem? (i := 16) rfl)
theorem wd_425 : Cond.methodLink RL 89 yX4_row ∈ LW := lw_c17_in _ (List.mem_of_getElem? (i := 17) rfl)
theorem wd_426 : Cond.instanceMethod yX4_row ∈ LW := lw_c17_in _ (List.mem_of_getElem? (i := 18) rfl)
theorem wd_427 : Cond.selects RX4 yX4_row yX4_row ∈ LW := lw_c17_in _ (List.mem_of_getElem? (i := 19) rfl)
theorem wd_428 : Cond.code yX4_row cX4_row 3 (some .int) ∈ LW := lw_c17_in _ (List.mem_of_getElem? (i := 20) rfl)
theorem wd_429 : Cond.methodLink RL 93 yX4_alike ∈ LW := lw_c17_in _ (List.mem_of_getElem? (i := 21) rfl)
theorem wd_430 : Cond.instanceMethod yX4_alike ∈ LW := lw_c17_in _ (List.mem_of_getElem? (i := 22) rfl)
theorem wd_431 : Cond.selects RX4 yX4_alike yX4_alike ∈ LW := lw_c17_in _ (List.mem_of_getElem? (i := 23) rfl)
def lw_c18 : List Cond := [.code yX4_alike cX4_alike 2 (some .int), .methodLink RX4 128 yX0_hasOutPair, .instanceMethod yX0_hasOutPair, .selects RX0 yX0_hasOutPair yX0_hasOutPair, .code yX0_hasOutPair cX0_hasOutPair 2 (some .boolean), .methodLink RX4 131 yX0_pairIsAlikeBy, .instanceMethod yX0_pairIsAlikeBy, .selects RX0 yX0_pairIsAlikeBy yX0_pairIsAlikeBy, .code yX0_pairIsAlikeBy cX0_pairIsAlikeBy 3 (some .boolean), .methodLink RL 97 yX4_witness, .instanceMethod yX4_witness, .selects RX4 yX4_witness yX4_witness, .code yX4_witness cX4_witness 2 (some .int), .methodLink RX4 135 yX0_pairDifference, .instanceMethod yX0_pairDifference, .selects RX0 yX0_pairDifference yX0_pairDifference, .code yX0_pairDifference cX0_pairDifference 2 (some .int), .methodLink RX4 138 yX4_leastRow, .methodLink RL 101 yX4_verdict, .instanceMethod yX4_verdict, .selects RX4 yX4_verdict yX4_verdict, .code yX4_verdict cX4_verdict 1 (some .int), .methodLink RX4 141 yX0_verdictBy, .instanceMethod yX0_verdictBy]
set_option maxRecDepth 20000 in
theorem lw_c18_in : ∀ w ∈ lw_c18, w ∈ LW := LWsub lw_c18 [535, 536, 537, 538, 539, 540, 541, 542, 543, 544, 545, 546, 547, 548, 549, 550, 551, 552, 553, 554, 555, 556, 557, 558] (by decide +kernel) (by decide +kernel)
theorem wd_432 : Cond.code yX4_alike cX4_alike 2 (some .int) ∈ LW := lw_c18_in _ (List.mem_of_getElem? (i := 0) rfl)
theorem wd_433 : Cond.methodLink RX4 128 yX0_hasOutPair ∈ LW := lw_c18_in _ (List.mem_of_getElem? (i := 1) rfl)
theorem wd_434 : Cond.instanceMethod yX0_hasOutPair ∈ LW := lw_c18_in _ (List.mem_of_getElem? (i := 2) rfl)
theorem wd_435 : Cond.selects RX0 yX0_hasOutPair yX0_hasOutPair ∈ LW := lw_c18_in _ (List.mem_of_getElem? (i := 3) rfl)
theorem wd_436 : Cond.code yX0_hasOutPair cX0_hasOutPair 2 (some .boolean) ∈ LW := lw_c18_in _ (List.mem_of_getElem? (i := 4) rfl)
theorem wd_437 : Cond.methodLink RX4 131 yX0_pairIsAlikeBy ∈ LW := lw_c18_in _ (List.mem_of_getElem? (i := 5) rfl)
theorem wd_438 : Cond.instanceMethod yX0_pairIsAlikeBy ∈ LW := lw_c18_in _ (List.mem_of_getElem? (i := 6) rfl)
theorem wd_439 : Cond.selects RX0 yX0_pairIsAlikeBy yX0_pairIsAlikeBy ∈ LW := lw_c18_in _ (List.mem_of_getElem? (i := 7) rfl)
theorem wd_440 : Cond.code yX0_pairIsAlikeBy cX0_pairIsAlikeBy 3 (some .boolean) ∈ LW := lw_c18_in _ (List.mem_of_getElem? (i := 8) rfl)
theorem wd_441 : Cond.methodLink RL 97 yX4_witness ∈ LW := lw_c18_in _ (List.mem_of_getElem? (i := 9) rfl)
theorem wd_442 : Cond.instanceMethod yX4_witness ∈ LW := lw_c18_in _ (List.mem_of_getElem? (i := 10) rfl)
theorem wd_443 : Cond.selects RX4 yX4_witness yX4_witness ∈ LW := lw_c18_in _ (List.mem_of_getElem? (i := 11) rfl)
theorem wd_444 : Cond.code yX4_witness cX4_witness 2 (some .int) ∈ LW := lw_c18_in _ (List.mem_of_getElem? (i := 12) rfl)
theorem wd_445 : Cond.methodLink RX4 135 yX0_pairDifference ∈ LW := lw_c18_in _ (List.mem_of_getElem? (i := 13) rfl)
theorem wd_446 : Cond.instanceMethod yX0_pairDifference ∈ LW := lw_c18_in _ (List.mem_of_getElem? (i := 14) rfl)
theorem wd_447 : Cond.selects RX0 yX0_pairDifference yX0_pairDifference ∈ LW := lw_c18_in _ (List.mem_of_getElem? (i := 15) rfl)
theorem wd_448 : Cond.code yX0_pairDifference cX0_pairDifference 2 (some .int) ∈ LW := lw_c18_in _ (List.mem_of_getElem? (i := 16) rfl)
theorem wd_449 : Cond.methodLink RX4 138 yX4_leastRow ∈ LW := lw_c18_in _ (List.mem_of_getElem? (i := 17) rfl)
theorem wd_450 : Cond.methodLink RL 101 yX4_verdict ∈ LW := lw_c18_in _ (List.mem_of_getElem? (i := 18) rfl)
theorem wd_451 : Cond.instanceMethod yX4_verdict ∈ LW := lw_c18_in _ (List.mem_of_getElem? (i := 19) rfl)
theorem wd_452 : Cond.selects RX4 yX4_verdict yX4_verdict ∈ LW := lw_c18_in _ (List.mem_of_getElem? (i := 20) rfl)
theorem wd_453 : Cond.code yX4_verdict cX4_verdict 1 (some .int) ∈ LW := lw_c18_in _ (List.mem_of_getElem? (i := 21) rfl)
theorem wd_454 : Cond.methodLink RX4 141 yX0_verdictBy ∈ LW := lw_c18_in _ (List.mem_of_getElem? (i := 22) rfl)
theorem wd_455 : Cond.instanceMethod yX0_verdictBy ∈ LW := lw_c18_in _ (List.mem_of_getElem? (i := 23) rfl)
def lw_c19 : List Cond := [.selects RX0 yX0_verdictBy yX0_verdictBy, .code yX0_verdictBy cX0_verdictBy 3 (some .int), .methodLink RX0 73 yX0_pairIsAlikeBy, .methodLink RL 105 yX4_type, .instanceMethod yX4_type, .selects RX4 yX4_type yX4_type, .code yX4_type cX4_type 2 (some .int), .methodLink RX4 147 yX2_append, .instanceMethod yX2_append, .selects RX2 yX2_append yX2_append, .code yX2_append cX2_append 2 (some .int), .methodLink RL 109 yX4_clear, .instanceMethod yX4_clear, .selects RX4 yX4_clear yX4_clear, .code yX4_clear cX4_clear 2 (some .int), .methodLink RL 113 yX4_does, .instanceMethod yX4_does, .selects RX4 yX4_does yX4_does, .code yX4_does cX4_does 3 (some .int), .methodLink RX4 150 yX2_readFault, .instanceMethod yX2_readFault, .selects RX2 yX2_readFault yX2_readFault, .code yX2_readFault cX2_readFault 2 (some .int), .methodLink RX2 31 yX2_takes]
set_option maxRecDepth 20000 in
theorem lw_c19_in : ∀ w ∈ lw_c19, w ∈ LW := LWsub lw_c19 [559, 560, 561, 562, 563, 564, 565, 566, 567, 568, 569, 570, 571, 572, 573, 574, 575, 576, 577, 578, 579, 580, 581, 582] (by decide +kernel) (by decide +kernel)
theorem wd_456 : Cond.selects RX0 yX0_verdictBy yX0_verdictBy ∈ LW := lw_c19_in _ (List.mem_of_getElem? (i := 0) rfl)
theorem wd_457 : Cond.code yX0_verdictBy cX0_verdictBy 3 (some .int) ∈ LW := lw_c19_in _ (List.mem_of_getElem? (i := 1) rfl)
theorem wd_458 : Cond.methodLink RX0 73 yX0_pairIsAlikeBy ∈ LW := lw_c19_in _ (List.mem_of_getElem? (i := 2) rfl)
theorem wd_459 : Cond.methodLink RL 105 yX4_type ∈ LW := lw_c19_in _ (List.mem_of_getElem? (i := 3) rfl)
theorem wd_460 : Cond.instanceMethod yX4_type ∈ LW := lw_c19_in _ (List.mem_of_getElem? (i := 4) rfl)
theorem wd_461 : Cond.selects RX4 yX4_type yX4_type ∈ LW := lw_c19_in _ (List.mem_of_getElem? (i := 5) rfl)
theorem wd_462 : Cond.code yX4_type cX4_type 2 (some .int) ∈ LW := lw_c19_in _ (List.mem_of_getElem? (i := 6) rfl)
theorem wd_463 : Cond.methodLink RX4 147 yX2_append ∈ LW := lw_c19_in _ (List.mem_of_getElem? (i := 7) rfl)
theorem wd_464 : Cond.instanceMethod yX2_append ∈ LW := lw_c19_in _ (List.mem_of_getElem? (i := 8) rfl)
theorem wd_465 : Cond.selects RX2 yX2_append yX2_append ∈ LW := lw_c19_in _ (List.mem_of_getElem? (i := 9) rfl)
theorem wd_466 : Cond.code yX2_append cX2_append 2 (some .int) ∈ LW := lw_c19_in _ (List.mem_of_getElem? (i := 10) rfl)
theorem wd_467 : Cond.methodLink RL 109 yX4_clear ∈ LW := lw_c19_in _ (List.mem_of_getElem? (i := 11) rfl)
theorem wd_468 : Cond.instanceMethod yX4_clear ∈ LW := lw_c19_in _ (List.mem_of_getElem? (i := 12) rfl)
theorem wd_469 : Cond.selects RX4 yX4_clear yX4_clear ∈ LW := lw_c19_in _ (List.mem_of_getElem? (i := 13) rfl)
theorem wd_470 : Cond.code yX4_clear cX4_clear 2 (some .int) ∈ LW := lw_c19_in _ (List.mem_of_getElem? (i := 14) rfl)
theorem wd_471 : Cond.methodLink RL 113 yX4_does ∈ LW := lw_c19_in _ (List.mem_of_getElem? (i := 15) rfl)
theorem wd_472 : Cond.instanceMethod yX4_does ∈ LW := lw_c19_in _ (List.mem_of_getElem? (i := 16) rfl)
theorem wd_473 : Cond.selects RX4 yX4_does yX4_does ∈ LW := lw_c19_in _ (List.mem_of_getElem? (i := 17) rfl)
theorem wd_474 : Cond.code yX4_does cX4_does 3 (some .int) ∈ LW := lw_c19_in _ (List.mem_of_getElem? (i := 18) rfl)
theorem wd_475 : Cond.methodLink RX4 150 yX2_readFault ∈ LW := lw_c19_in _ (List.mem_of_getElem? (i := 19) rfl)
theorem wd_476 : Cond.instanceMethod yX2_readFault ∈ LW := lw_c19_in _ (List.mem_of_getElem? (i := 20) rfl)
theorem wd_477 : Cond.selects RX2 yX2_readFault yX2_readFault ∈ LW := lw_c19_in _ (List.mem_of_getElem? (i := 21) rfl)
theorem wd_478 : Cond.code yX2_readFault cX2_readFault 2 (some .int) ∈ LW := lw_c19_in _ (List.mem_of_getElem? (i := 22) rfl)
theorem wd_479 : Cond.methodLink RX2 31 yX2_takes ∈ LW := lw_c19_in _ (List.mem_of_getElem? (i := 23) rfl)
def lw_c20 : List Cond := [.instanceMethod yX2_takes, .selects RX2 yX2_takes yX2_takes, .code yX2_takes cX2_takes 2 (some .boolean), .methodLink RX2 38 yX2_opensOrder, .instanceMethod yX2_opensOrder, .selects RX2 yX2_opensOrder yX2_opensOrder, .code yX2_opensOrder cX2_opensOrder 3 (some .boolean), .methodLink RX2 50 yJ0_indexOf_0f7a4, .instanceMethod yJ0_indexOf_0f7a4, .selects RJ0 yJ0_indexOf_0f7a4 yJ0_indexOf_0f7a4, .code yJ0_indexOf_0f7a4 cJ0_indexOf_0f7a4 2 (some .int), .methodLink RJ0 633 yJ0_indexOf_7cf53, .instanceMethod yJ0_indexOf_7cf53, .selects RJ0 yJ0_indexOf_7cf53 yJ0_indexOf_7cf53, .code yJ0_indexOf_7cf53 cJ0_indexOf_7cf53 3 (some .int), .methodLink RJ0 492 yJ0_isLatin1_aae02, .instanceMethod yJ0_isLatin1_aae02, .selects RJ0 yJ0_isLatin1_aae02 yJ0_isLatin1_aae02, .code yJ0_isLatin1_aae02 cJ0_isLatin1_aae02 1 (some .boolean), .fieldLink RJ0 38 "java/lang/String" "COMPACT_STRINGS" "Z", .methodLink RJ0 505 yJ0_length_8abf5, .instanceMethod yJ0_length_8abf5, .selects RJ0 yJ0_length_8abf5 yJ0_length_8abf5, .code yJ0_length_8abf5 cJ0_length_8abf5 1 (some .int)]
set_option maxRecDepth 20000 in
theorem lw_c20_in : ∀ w ∈ lw_c20, w ∈ LW := LWsub lw_c20 [583, 584, 585, 586, 587, 588, 589, 591, 592, 593, 594, 595, 596, 597, 598, 599, 600, 601, 602, 603, 605, 606, 607, 608] (by decide +kernel) (by decide +kernel)
theorem wd_480 : Cond.instanceMethod yX2_takes ∈ LW := lw_c20_in _ (List.mem_of_getElem? (i := 0) rfl)
theorem wd_481 : Cond.selects RX2 yX2_takes yX2_takes ∈ LW := lw_c20_in _ (List.mem_of_getElem? (i := 1) rfl)
theorem wd_482 : Cond.code yX2_takes cX2_takes 2 (some .boolean) ∈ LW := lw_c20_in _ (List.mem_of_getElem? (i := 2) rfl)
theorem wd_483 : Cond.methodLink RX2 38 yX2_opensOrder ∈ LW := lw_c20_in _ (List.mem_of_getElem? (i := 3) rfl)
theorem wd_484 : Cond.instanceMethod yX2_opensOrder ∈ LW := lw_c20_in _ (List.mem_of_getElem? (i := 4) rfl)
theorem wd_485 : Cond.selects RX2 yX2_opensOrder yX2_opensOrder ∈ LW := lw_c20_in _ (List.mem_of_getElem? (i := 5) rfl)
theorem wd_486 : Cond.code yX2_opensOrder cX2_opensOrder 3 (some .boolean) ∈ LW := lw_c20_in _ (List.mem_of_getElem? (i := 6) rfl)
theorem wd_487 : Cond.methodLink RX2 50 yJ0_indexOf_0f7a4 ∈ LW := lw_c20_in _ (List.mem_of_getElem? (i := 7) rfl)
theorem wd_488 : Cond.instanceMethod yJ0_indexOf_0f7a4 ∈ LW := lw_c20_in _ (List.mem_of_getElem? (i := 8) rfl)
theorem wd_489 : Cond.selects RJ0 yJ0_indexOf_0f7a4 yJ0_indexOf_0f7a4 ∈ LW := lw_c20_in _ (List.mem_of_getElem? (i := 9) rfl)
theorem wd_490 : Cond.code yJ0_indexOf_0f7a4 cJ0_indexOf_0f7a4 2 (some .int) ∈ LW := lw_c20_in _ (List.mem_of_getElem? (i := 10) rfl)
theorem wd_491 : Cond.methodLink RJ0 633 yJ0_indexOf_7cf53 ∈ LW := lw_c20_in _ (List.mem_of_getElem? (i := 11) rfl)
theorem wd_492 : Cond.instanceMethod yJ0_indexOf_7cf53 ∈ LW := lw_c20_in _ (List.mem_of_getElem? (i := 12) rfl)
theorem wd_493 : Cond.selects RJ0 yJ0_indexOf_7cf53 yJ0_indexOf_7cf53 ∈ LW := lw_c20_in _ (List.mem_of_getElem? (i := 13) rfl)
theorem wd_494 : Cond.code yJ0_indexOf_7cf53 cJ0_indexOf_7cf53 3 (some .int) ∈ LW := lw_c20_in _ (List.mem_of_getElem? (i := 14) rfl)
theorem wd_495 : Cond.methodLink RJ0 492 yJ0_isLatin1_aae02 ∈ LW := lw_c20_in _ (List.mem_of_getElem? (i := 15) rfl)
theorem wd_496 : Cond.instanceMethod yJ0_isLatin1_aae02 ∈ LW := lw_c20_in _ (List.mem_of_getElem? (i := 16) rfl)
theorem wd_497 : Cond.selects RJ0 yJ0_isLatin1_aae02 yJ0_isLatin1_aae02 ∈ LW := lw_c20_in _ (List.mem_of_getElem? (i := 17) rfl)
theorem wd_498 : Cond.code yJ0_isLatin1_aae02 cJ0_isLatin1_aae02 1 (some .boolean) ∈ LW := lw_c20_in _ (List.mem_of_getElem? (i := 18) rfl)
theorem wd_499 : Cond.fieldLink RJ0 38 "java/lang/String" "COMPACT_STRINGS" "Z" ∈ LW := lw_c20_in _ (List.mem_of_getElem? (i := 19) rfl)
theorem wd_500 : Cond.methodLink RJ0 505 yJ0_length_8abf5 ∈ LW := lw_c20_in _ (List.mem_of_getElem? (i := 20) rfl)
theorem wd_501 : Cond.instanceMethod yJ0_length_8abf5 ∈ LW := lw_c20_in _ (List.mem_of_getElem? (i := 21) rfl)
theorem wd_502 : Cond.selects RJ0 yJ0_length_8abf5 yJ0_length_8abf5 ∈ LW := lw_c20_in _ (List.mem_of_getElem? (i := 22) rfl)
theorem wd_503 : Cond.code yJ0_length_8abf5 cJ0_length_8abf5 1 (some .int) ∈ LW := lw_c20_in _ (List.mem_of_getElem? (i := 23) rfl)
def lw_c21 : List Cond := [.methodLink RJ0 335 yJ0_coder_7d493, .instanceMethod yJ0_coder_7d493, .selects RJ0 yJ0_coder_7d493 yJ0_coder_7d493, .code yJ0_coder_7d493 cJ0_coder_7d493 1 (some .byte), .methodLink RJ0 637 yJ1_indexOf_4cfef, .static yJ1_indexOf_4cfef, .code yJ1_indexOf_4cfef cJ1_indexOf_4cfef 4 (some .int), .methodLink RJ1 88 yJ1_canEncode_9a6ad, .static yJ1_canEncode_9a6ad, .code yJ1_canEncode_9a6ad cJ1_canEncode_9a6ad 1 (some .boolean), .methodLink RJ1 92 Lib.Math.max.name, .methodLink RJ1 38 Lib.Math.min.name, .methodLink RJ1 95 yJ1_indexOfChar_4cfef, .static yJ1_indexOfChar_4cfef, .code yJ1_indexOfChar_4cfef cJ1_indexOfChar_4cfef 6 (some .int), .static yJ0_checkBoundsBeginEnd_23922, .code yJ0_checkBoundsBeginEnd_23922 cJ0_checkBoundsBeginEnd_23922 3 none, .fieldLink RJ0 1053 "jdk/internal/util/Preconditions" "SIOOBE_FORMATTER" "Ljava/util/function/BiFunction;", .methodLink RX2 41 yX2_endsOrder, .instanceMethod yX2_endsOrder, .selects RX2 yX2_endsOrder yX2_endsOrder, .code yX2_endsOrder cX2_endsOrder 1 (some .boolean), .methodLink RX2 45 yX2_takesFigure, .instanceMethod yX2_takesFigure]
set_option maxRecDepth 20000 in
theorem lw_c21_in : ∀ w ∈ lw_c21, w ∈ LW := LWsub lw_c21 [609, 610, 611, 612, 613, 614, 615, 616, 617, 618, 619, 620, 621, 622, 623, 640, 641, 642, 673, 674, 675, 676, 679, 680] (by decide +kernel) (by decide +kernel)
theorem wd_504 : Cond.methodLink RJ0 335 yJ0_coder_7d493 ∈ LW := lw_c21_in _ (List.mem_of_getElem? (i := 0) rfl)
theorem wd_505 : Cond.instanceMethod yJ0_coder_7d493 ∈ LW := lw_c21_in _ (List.mem_of_getElem? (i := 1) rfl)
theorem wd_506 : Cond.selects RJ0 yJ0_coder_7d493 yJ0_coder_7d493 ∈ LW := lw_c21_in _ (List.mem_of_getElem? (i := 2) rfl)
theorem wd_507 : Cond.code yJ0_coder_7d493 cJ0_coder_7d493 1 (some .byte) ∈ LW := lw_c21_in _ (List.mem_of_getElem? (i := 3) rfl)
theorem wd_508 : Cond.methodLink RJ0 637 yJ1_indexOf_4cfef ∈ LW := lw_c21_in _ (List.mem_of_getElem? (i := 4) rfl)
theorem wd_509 : Cond.static yJ1_indexOf_4cfef ∈ LW := lw_c21_in _ (List.mem_of_getElem? (i := 5) rfl)
theorem wd_510 : Cond.code yJ1_indexOf_4cfef cJ1_indexOf_4cfef 4 (some .int) ∈ LW := lw_c21_in _ (List.mem_of_getElem? (i := 6) rfl)
theorem wd_511 : Cond.methodLink RJ1 88 yJ1_canEncode_9a6ad ∈ LW := lw_c21_in _ (List.mem_of_getElem? (i := 7) rfl)
theorem wd_512 : Cond.static yJ1_canEncode_9a6ad ∈ LW := lw_c21_in _ (List.mem_of_getElem? (i := 8) rfl)
theorem wd_513 : Cond.code yJ1_canEncode_9a6ad cJ1_canEncode_9a6ad 1 (some .boolean) ∈ LW := lw_c21_in _ (List.mem_of_getElem? (i := 9) rfl)
theorem wd_514 : Cond.methodLink RJ1 92 Lib.Math.max.name ∈ LW := lw_c21_in _ (List.mem_of_getElem? (i := 10) rfl)
theorem wd_515 : Cond.methodLink RJ1 38 Lib.Math.min.name ∈ LW := lw_c21_in _ (List.mem_of_getElem? (i := 11) rfl)
theorem wd_516 : Cond.methodLink RJ1 95 yJ1_indexOfChar_4cfef ∈ LW := lw_c21_in _ (List.mem_of_getElem? (i := 12) rfl)
theorem wd_517 : Cond.static yJ1_indexOfChar_4cfef ∈ LW := lw_c21_in _ (List.mem_of_getElem? (i := 13) rfl)
theorem wd_518 : Cond.code yJ1_indexOfChar_4cfef cJ1_indexOfChar_4cfef 6 (some .int) ∈ LW := lw_c21_in _ (List.mem_of_getElem? (i := 14) rfl)
theorem wd_519 : Cond.static yJ0_checkBoundsBeginEnd_23922 ∈ LW := lw_c21_in _ (List.mem_of_getElem? (i := 15) rfl)
theorem wd_520 : Cond.code yJ0_checkBoundsBeginEnd_23922 cJ0_checkBoundsBeginEnd_23922 3 none ∈ LW := lw_c21_in _ (List.mem_of_getElem? (i := 16) rfl)
theorem wd_521 : Cond.fieldLink RJ0 1053 "jdk/internal/util/Preconditions" "SIOOBE_FORMATTER" "Ljava/util/function/BiFunction;" ∈ LW := lw_c21_in _ (List.mem_of_getElem? (i := 17) rfl)
theorem wd_522 : Cond.methodLink RX2 41 yX2_endsOrder ∈ LW := lw_c21_in _ (List.mem_of_getElem? (i := 18) rfl)
theorem wd_523 : Cond.instanceMethod yX2_endsOrder ∈ LW := lw_c21_in _ (List.mem_of_getElem? (i := 19) rfl)
theorem wd_524 : Cond.selects RX2 yX2_endsOrder yX2_endsOrder ∈ LW := lw_c21_in _ (List.mem_of_getElem? (i := 20) rfl)
theorem wd_525 : Cond.code yX2_endsOrder cX2_endsOrder 1 (some .boolean) ∈ LW := lw_c21_in _ (List.mem_of_getElem? (i := 21) rfl)
theorem wd_526 : Cond.methodLink RX2 45 yX2_takesFigure ∈ LW := lw_c21_in _ (List.mem_of_getElem? (i := 22) rfl)
theorem wd_527 : Cond.instanceMethod yX2_takesFigure ∈ LW := lw_c21_in _ (List.mem_of_getElem? (i := 23) rfl)
def lw_c22 : List Cond := [.selects RX2 yX2_takesFigure yX2_takesFigure, .code yX2_takesFigure cX2_takesFigure 3 (some .boolean), .methodLink RX4 154 yX0_copyFrom, .methodLink RX4 160 yX4_orderIsDone, .instanceMethod yX4_orderIsDone, .code yX4_orderIsDone cX4_orderIsDone 6 (some .boolean), .methodLink RX4 211 yX2_numberOf, .instanceMethod yX2_numberOf, .selects RX2 yX2_numberOf yX2_numberOf, .code yX2_numberOf cX2_numberOf 3 (some .int), .arrayClass .byte, .methodLink RL 117 yX4_back, .instanceMethod yX4_back, .selects RX4 yX4_back yX4_back, .code yX4_back cX4_back 1 (some .int), .methodLink RX4 166 yX1_restore, .instanceMethod yX1_restore, .selects RX1 yX1_restore yX1_restore, .code yX1_restore cX1_restore 2 none, .methodLink RL 121 yX4_told, .instanceMethod yX4_told, .selects RX4 yX4_told yX4_told, .code yX4_told cX4_told 2 (some .int), .methodLink RX4 169 yX4_toldOf]
set_option maxRecDepth 20000 in
theorem lw_c22_in : ∀ w ∈ lw_c22, w ∈ LW := LWsub lw_c22 [681, 682, 683, 684, 686, 687, 688, 689, 690, 691, 692, 693, 694, 695, 696, 697, 698, 699, 700, 701, 702, 703, 704, 705] (by decide +kernel) (by decide +kernel)
theorem wd_528 : Cond.selects RX2 yX2_takesFigure yX2_takesFigure ∈ LW := lw_c22_in _ (List.mem_of_getElem? (i := 0) rfl)
theorem wd_529 : Cond.code yX2_takesFigure cX2_takesFigure 3 (some .boolean) ∈ LW := lw_c22_in _ (List.mem_of_getElem? (i := 1) rfl)
theorem wd_530 : Cond.methodLink RX4 154 yX0_copyFrom ∈ LW := lw_c22_in _ (List.mem_of_getElem? (i := 2) rfl)
theorem wd_531 : Cond.methodLink RX4 160 yX4_orderIsDone ∈ LW := lw_c22_in _ (List.mem_of_getElem? (i := 3) rfl)
theorem wd_532 : Cond.instanceMethod yX4_orderIsDone ∈ LW := lw_c22_in _ (List.mem_of_getElem? (i := 4) rfl)
theorem wd_533 : Cond.code yX4_orderIsDone cX4_orderIsDone 6 (some .boolean) ∈ LW := lw_c22_in _ (List.mem_of_getElem? (i := 5) rfl)
theorem wd_534 : Cond.methodLink RX4 211 yX2_numberOf ∈ LW := lw_c22_in _ (List.mem_of_getElem? (i := 6) rfl)
theorem wd_535 : Cond.instanceMethod yX2_numberOf ∈ LW := lw_c22_in _ (List.mem_of_getElem? (i := 7) rfl)
theorem wd_536 : Cond.selects RX2 yX2_numberOf yX2_numberOf ∈ LW := lw_c22_in _ (List.mem_of_getElem? (i := 8) rfl)
theorem wd_537 : Cond.code yX2_numberOf cX2_numberOf 3 (some .int) ∈ LW := lw_c22_in _ (List.mem_of_getElem? (i := 9) rfl)
theorem wd_538 : Cond.arrayClass .byte ∈ LW := lw_c22_in _ (List.mem_of_getElem? (i := 10) rfl)
theorem wd_539 : Cond.methodLink RL 117 yX4_back ∈ LW := lw_c22_in _ (List.mem_of_getElem? (i := 11) rfl)
theorem wd_540 : Cond.instanceMethod yX4_back ∈ LW := lw_c22_in _ (List.mem_of_getElem? (i := 12) rfl)
theorem wd_541 : Cond.selects RX4 yX4_back yX4_back ∈ LW := lw_c22_in _ (List.mem_of_getElem? (i := 13) rfl)
theorem wd_542 : Cond.code yX4_back cX4_back 1 (some .int) ∈ LW := lw_c22_in _ (List.mem_of_getElem? (i := 14) rfl)
theorem wd_543 : Cond.methodLink RX4 166 yX1_restore ∈ LW := lw_c22_in _ (List.mem_of_getElem? (i := 15) rfl)
theorem wd_544 : Cond.instanceMethod yX1_restore ∈ LW := lw_c22_in _ (List.mem_of_getElem? (i := 16) rfl)
theorem wd_545 : Cond.selects RX1 yX1_restore yX1_restore ∈ LW := lw_c22_in _ (List.mem_of_getElem? (i := 17) rfl)
theorem wd_546 : Cond.code yX1_restore cX1_restore 2 none ∈ LW := lw_c22_in _ (List.mem_of_getElem? (i := 18) rfl)
theorem wd_547 : Cond.methodLink RL 121 yX4_told ∈ LW := lw_c22_in _ (List.mem_of_getElem? (i := 19) rfl)
theorem wd_548 : Cond.instanceMethod yX4_told ∈ LW := lw_c22_in _ (List.mem_of_getElem? (i := 20) rfl)
theorem wd_549 : Cond.selects RX4 yX4_told yX4_told ∈ LW := lw_c22_in _ (List.mem_of_getElem? (i := 21) rfl)
theorem wd_550 : Cond.code yX4_told cX4_told 2 (some .int) ∈ LW := lw_c22_in _ (List.mem_of_getElem? (i := 22) rfl)
theorem wd_551 : Cond.methodLink RX4 169 yX4_toldOf ∈ LW := lw_c22_in _ (List.mem_of_getElem? (i := 23) rfl)
def lw_c23 : List Cond := [.instanceMethod yX4_toldOf, .code yX4_toldOf cX4_toldOf 2 (some .int), .methodLink RL 125 yX4_digest, .instanceMethod yX4_digest, .selects RX4 yX4_digest yX4_digest, .code yX4_digest cX4_digest 5 (some .long), .constantLong RX4 172 (1675), .constantLong RX4 174 (31), .methodLink RX4 176 yX0_digestCounts, .instanceMethod yX0_digestCounts, .selects RX0 yX0_digestCounts yX0_digestCounts, .code yX0_digestCounts cX0_digestCounts 4 (some .long), .constantLong RX0 133 (31), .methodLink RX0 135 yX0_countOf, .methodLink RX4 183 yX0_digestNode, .instanceMethod yX0_digestNode, .selects RX0 yX0_digestNode yX0_digestNode, .code yX0_digestNode cX0_digestNode 4 (some .long), .methodLink RX0 138 yX0_isGate, .methodLink RX0 141 yX0_signOf, .methodLink RX4 187 yX0_digestOuts, .instanceMethod yX0_digestOuts, .selects RX0 yX0_digestOuts yX0_digestOuts, .code yX0_digestOuts cX0_digestOuts 5 (some .long)]
set_option maxRecDepth 20000 in
theorem lw_c23_in : ∀ w ∈ lw_c23, w ∈ LW := LWsub lw_c23 [707, 708, 709, 710, 711, 712, 713, 714, 715, 716, 717, 718, 719, 720, 721, 722, 723, 724, 725, 726, 727, 728, 729, 730] (by decide +kernel) (by decide +kernel)
theorem wd_552 : Cond.instanceMethod yX4_toldOf ∈ LW := lw_c23_in _ (List.mem_of_getElem? (i := 0) rfl)
theorem wd_553 : Cond.code yX4_toldOf cX4_toldOf 2 (some .int) ∈ LW := lw_c23_in _ (List.mem_of_getElem? (i := 1) rfl)
theorem wd_554 : Cond.methodLink RL 125 yX4_digest ∈ LW := lw_c23_in _ (List.mem_of_getElem? (i := 2) rfl)
theorem wd_555 : Cond.instanceMethod yX4_digest ∈ LW := lw_c23_in _ (List.mem_of_getElem? (i := 3) rfl)
theorem wd_556 : Cond.selects RX4 yX4_digest yX4_digest ∈ LW := lw_c23_in _ (List.mem_of_getElem? (i := 4) rfl)
theorem wd_557 : Cond.code yX4_digest cX4_digest 5 (some .long) ∈ LW := lw_c23_in _ (List.mem_of_getElem? (i := 5) rfl)
theorem wd_558 : Cond.constantLong RX4 172 (1675) ∈ LW := lw_c23_in _ (List.mem_of_getElem? (i := 6) rfl)
theorem wd_559 : Cond.constantLong RX4 174 (31) ∈ LW := lw_c23_in _ (List.mem_of_getElem? (i := 7) rfl)
theorem wd_560 : Cond.methodLink RX4 176 yX0_digestCounts ∈ LW := lw_c23_in _ (List.mem_of_getElem? (i := 8) rfl)
theorem wd_561 : Cond.instanceMethod yX0_digestCounts ∈ LW := lw_c23_in _ (List.mem_of_getElem? (i := 9) rfl)
theorem wd_562 : Cond.selects RX0 yX0_digestCounts yX0_digestCounts ∈ LW := lw_c23_in _ (List.mem_of_getElem? (i := 10) rfl)
theorem wd_563 : Cond.code yX0_digestCounts cX0_digestCounts 4 (some .long) ∈ LW := lw_c23_in _ (List.mem_of_getElem? (i := 11) rfl)
theorem wd_564 : Cond.constantLong RX0 133 (31) ∈ LW := lw_c23_in _ (List.mem_of_getElem? (i := 12) rfl)
theorem wd_565 : Cond.methodLink RX0 135 yX0_countOf ∈ LW := lw_c23_in _ (List.mem_of_getElem? (i := 13) rfl)
theorem wd_566 : Cond.methodLink RX4 183 yX0_digestNode ∈ LW := lw_c23_in _ (List.mem_of_getElem? (i := 14) rfl)
theorem wd_567 : Cond.instanceMethod yX0_digestNode ∈ LW := lw_c23_in _ (List.mem_of_getElem? (i := 15) rfl)
theorem wd_568 : Cond.selects RX0 yX0_digestNode yX0_digestNode ∈ LW := lw_c23_in _ (List.mem_of_getElem? (i := 16) rfl)
theorem wd_569 : Cond.code yX0_digestNode cX0_digestNode 4 (some .long) ∈ LW := lw_c23_in _ (List.mem_of_getElem? (i := 17) rfl)
theorem wd_570 : Cond.methodLink RX0 138 yX0_isGate ∈ LW := lw_c23_in _ (List.mem_of_getElem? (i := 18) rfl)
theorem wd_571 : Cond.methodLink RX0 141 yX0_signOf ∈ LW := lw_c23_in _ (List.mem_of_getElem? (i := 19) rfl)
theorem wd_572 : Cond.methodLink RX4 187 yX0_digestOuts ∈ LW := lw_c23_in _ (List.mem_of_getElem? (i := 20) rfl)
theorem wd_573 : Cond.instanceMethod yX0_digestOuts ∈ LW := lw_c23_in _ (List.mem_of_getElem? (i := 21) rfl)
theorem wd_574 : Cond.selects RX0 yX0_digestOuts yX0_digestOuts ∈ LW := lw_c23_in _ (List.mem_of_getElem? (i := 22) rfl)
theorem wd_575 : Cond.code yX0_digestOuts cX0_digestOuts 5 (some .long) ∈ LW := lw_c23_in _ (List.mem_of_getElem? (i := 23) rfl)
def lw_c24 : List Cond := [.methodLink RX4 190 yX3_digestOn, .instanceMethod yX3_digestOn, .selects RX3 yX3_digestOn yX3_digestOn, .code yX3_digestOn cX3_digestOn 5 (some .long), .constantLong RX3 124 (31), .methodLink RX3 126 yX3_tallyOf, .methodLink RX3 129 yX3_lineOf, .classLink RL 10 RX5, .instantiable RX5 24, .methodLink RL 12 yX5_init, .instanceMethod yX5_init, .code yX5_init cX5_init 1 none, .methodLink RX5 1 objectInit, .fieldLink RX5 7 "SweptGatesModel" "now" "[I", .fieldLink RX5 13 "SweptGatesModel" "aside" "[I", .fieldLink RX5 16 "SweptGatesModel" "past" "[I", .fieldLink RX5 63 "SweptGatesModel" "states" "I", .fieldLink RX5 19 "SweptGatesModel" "refused" "[I", .fieldLink RX5 22 "SweptGatesModel" "text" "[I", .fieldLink RX5 220 "SweptGatesModel" "length" "I", .fieldLink RX5 25 "SweptGatesModel" "tables" "[I", .fieldLink RX5 126 "SweptGatesModel" "all" "I", .fieldLink RX5 28 "SweptGatesModel" "rowsBehind" "[I", .fieldLink RX5 135 "SweptGatesModel" "rowsMany" "I"]
set_option maxRecDepth 20000 in
theorem lw_c24_in : ∀ w ∈ lw_c24, w ∈ LW := LWsub lw_c24 [731, 732, 733, 734, 735, 736, 737, 738, 739, 740, 741, 742, 743, 744, 745, 746, 747, 748, 749, 750, 751, 752, 753, 754] (by decide +kernel) (by decide +kernel)
theorem wd_576 : Cond.methodLink RX4 190 yX3_digestOn ∈ LW := lw_c24_in _ (List.mem_of_getElem? (i := 0) rfl)
theorem wd_577 : Cond.instanceMethod yX3_digestOn ∈ LW := lw_c24_in _ (List.mem_of_getElem? (i := 1) rfl)
theorem wd_578 : Cond.selects RX3 yX3_digestOn yX3_digestOn ∈ LW := lw_c24_in _ (List.mem_of_getElem? (i := 2) rfl)
theorem wd_579 : Cond.code yX3_digestOn cX3_digestOn 5 (some .long) ∈ LW := lw_c24_in _ (List.mem_of_getElem? (i := 3) rfl)
theorem wd_580 : Cond.constantLong RX3 124 (31) ∈ LW := lw_c24_in _ (List.mem_of_getElem? (i := 4) rfl)
theorem wd_581 : Cond.methodLink RX3 126 yX3_tallyOf ∈ LW := lw_c24_in _ (List.mem_of_getElem? (i := 5) rfl)
theorem wd_582 : Cond.methodLink RX3 129 yX3_lineOf ∈ LW := lw_c24_in _ (List.mem_of_getElem? (i := 6) rfl)
theorem wd_583 : Cond.classLink RL 10 RX5 ∈ LW := lw_c24_in _ (List.mem_of_getElem? (i := 7) rfl)
theorem wd_584 : Cond.instantiable RX5 24 ∈ LW := lw_c24_in _ (List.mem_of_getElem? (i := 8) rfl)
theorem wd_585 : Cond.methodLink RL 12 yX5_init ∈ LW := lw_c24_in _ (List.mem_of_getElem? (i := 9) rfl)
theorem wd_586 : Cond.instanceMethod yX5_init ∈ LW := lw_c24_in _ (List.mem_of_getElem? (i := 10) rfl)
theorem wd_587 : Cond.code yX5_init cX5_init 1 none ∈ LW := lw_c24_in _ (List.mem_of_getElem? (i := 11) rfl)
theorem wd_588 : Cond.methodLink RX5 1 objectInit ∈ LW := lw_c24_in _ (List.mem_of_getElem? (i := 12) rfl)
theorem wd_589 : Cond.fieldLink RX5 7 "SweptGatesModel" "now" "[I" ∈ LW := lw_c24_in _ (List.mem_of_getElem? (i := 13) rfl)
theorem wd_590 : Cond.fieldLink RX5 13 "SweptGatesModel" "aside" "[I" ∈ LW := lw_c24_in _ (List.mem_of_getElem? (i := 14) rfl)
theorem wd_591 : Cond.fieldLink RX5 16 "SweptGatesModel" "past" "[I" ∈ LW := lw_c24_in _ (List.mem_of_getElem? (i := 15) rfl)
theorem wd_592 : Cond.fieldLink RX5 63 "SweptGatesModel" "states" "I" ∈ LW := lw_c24_in _ (List.mem_of_getElem? (i := 16) rfl)
theorem wd_593 : Cond.fieldLink RX5 19 "SweptGatesModel" "refused" "[I" ∈ LW := lw_c24_in _ (List.mem_of_getElem? (i := 17) rfl)
theorem wd_594 : Cond.fieldLink RX5 22 "SweptGatesModel" "text" "[I" ∈ LW := lw_c24_in _ (List.mem_of_getElem? (i := 18) rfl)
theorem wd_595 : Cond.fieldLink RX5 220 "SweptGatesModel" "length" "I" ∈ LW := lw_c24_in _ (List.mem_of_getElem? (i := 19) rfl)
theorem wd_596 : Cond.fieldLink RX5 25 "SweptGatesModel" "tables" "[I" ∈ LW := lw_c24_in _ (List.mem_of_getElem? (i := 20) rfl)
theorem wd_597 : Cond.fieldLink RX5 126 "SweptGatesModel" "all" "I" ∈ LW := lw_c24_in _ (List.mem_of_getElem? (i := 21) rfl)
theorem wd_598 : Cond.fieldLink RX5 28 "SweptGatesModel" "rowsBehind" "[I" ∈ LW := lw_c24_in _ (List.mem_of_getElem? (i := 22) rfl)
theorem wd_599 : Cond.fieldLink RX5 135 "SweptGatesModel" "rowsMany" "I" ∈ LW := lw_c24_in _ (List.mem_of_getElem? (i := 23) rfl)
def lw_c25 : List Cond := [.fieldLink RX5 31 "SweptGatesModel" "forms" "[I", .fieldLink RX5 34 "SweptGatesModel" "lesser" "[I", .fieldLink RX5 37 "SweptGatesModel" "greater" "[I", .fieldLink RX5 40 "SweptGatesModel" "why" "[I", .fieldLink RX5 142 "SweptGatesModel" "checks" "I", .fieldLink RX5 43 "SweptGatesModel" "numbers" "[I", .fieldLink RX5 46 "SweptGatesModel" "depths" "[I", .fieldLink RX5 223 "SweptGatesModel" "spot" "I", .fieldLink RX5 232 "SweptGatesModel" "isFaulty" "Z", .fieldLink RX5 239 "SweptGatesModel" "orders" "I", .fieldLink RX5 49 "SweptGatesModel" "letters" "[I", .fieldLink RX5 52 "SweptGatesModel" "parts" "[I", .fieldLink RX5 260 "SweptGatesModel" "hash" "J", .methodLink RL 120 yX5_back, .instanceMethod yX5_back, .selects RX5 yX5_back yX5_back, .code yX5_back cX5_back 2 (some .int), .methodLink RX5 67 yX5_no, .instanceMethod yX5_no, .code yX5_no cX5_no 1 (some .int), .methodLink RL 17 yX5_inputs, .instanceMethod yX5_inputs, .selects RX5 yX5_inputs yX5_inputs, .code yX5_inputs cX5_inputs 2 (some .int)]
set_option maxRecDepth 20000 in
theorem lw_c25_in : ∀ w ∈ lw_c25, w ∈ LW := LWsub lw_c25 [755, 756, 757, 758, 759, 760, 761, 762, 763, 764, 765, 766, 767, 817, 818, 819, 820, 821, 823, 824, 825, 826, 827, 828] (by decide +kernel) (by decide +kernel)
theorem wd_600 : Cond.fieldLink RX5 31 "SweptGatesModel" "forms" "[I" ∈ LW := lw_c25_in _ (List.mem_of_getElem? (i := 0) rfl)
theorem wd_601 : Cond.fieldLink RX5 34 "SweptGatesModel" "lesser" "[I" ∈ LW := lw_c25_in _ (List.mem_of_getElem? (i := 1) rfl)
theorem wd_602 : Cond.fieldLink RX5 37 "SweptGatesModel" "greater" "[I" ∈ LW := lw_c25_in _ (List.mem_of_getElem? (i := 2) rfl)
theorem wd_603 : Cond.fieldLink RX5 40 "SweptGatesModel" "why" "[I" ∈ LW := lw_c25_in _ (List.mem_of_getElem? (i := 3) rfl)
theorem wd_604 : Cond.fieldLink RX5 142 "SweptGatesModel" "checks" "I" ∈ LW := lw_c25_in _ (List.mem_of_getElem? (i := 4) rfl)
theorem wd_605 : Cond.fieldLink RX5 43 "SweptGatesModel" "numbers" "[I" ∈ LW := lw_c25_in _ (List.mem_of_getElem? (i := 5) rfl)
theorem wd_606 : Cond.fieldLink RX5 46 "SweptGatesModel" "depths" "[I" ∈ LW := lw_c25_in _ (List.mem_of_getElem? (i := 6) rfl)
theorem wd_607 : Cond.fieldLink RX5 223 "SweptGatesModel" "spot" "I" ∈ LW := lw_c25_in _ (List.mem_of_getElem? (i := 7) rfl)
theorem wd_608 : Cond.fieldLink RX5 232 "SweptGatesModel" "isFaulty" "Z" ∈ LW := lw_c25_in _ (List.mem_of_getElem? (i := 8) rfl)
theorem wd_609 : Cond.fieldLink RX5 239 "SweptGatesModel" "orders" "I" ∈ LW := lw_c25_in _ (List.mem_of_getElem? (i := 9) rfl)
theorem wd_610 : Cond.fieldLink RX5 49 "SweptGatesModel" "letters" "[I" ∈ LW := lw_c25_in _ (List.mem_of_getElem? (i := 10) rfl)
theorem wd_611 : Cond.fieldLink RX5 52 "SweptGatesModel" "parts" "[I" ∈ LW := lw_c25_in _ (List.mem_of_getElem? (i := 11) rfl)
theorem wd_612 : Cond.fieldLink RX5 260 "SweptGatesModel" "hash" "J" ∈ LW := lw_c25_in _ (List.mem_of_getElem? (i := 12) rfl)
theorem wd_613 : Cond.methodLink RL 120 yX5_back ∈ LW := lw_c25_in _ (List.mem_of_getElem? (i := 13) rfl)
theorem wd_614 : Cond.instanceMethod yX5_back ∈ LW := lw_c25_in _ (List.mem_of_getElem? (i := 14) rfl)
theorem wd_615 : Cond.selects RX5 yX5_back yX5_back ∈ LW := lw_c25_in _ (List.mem_of_getElem? (i := 15) rfl)
theorem wd_616 : Cond.code yX5_back cX5_back 2 (some .int) ∈ LW := lw_c25_in _ (List.mem_of_getElem? (i := 16) rfl)
theorem wd_617 : Cond.methodLink RX5 67 yX5_no ∈ LW := lw_c25_in _ (List.mem_of_getElem? (i := 17) rfl)
theorem wd_618 : Cond.instanceMethod yX5_no ∈ LW := lw_c25_in _ (List.mem_of_getElem? (i := 18) rfl)
theorem wd_619 : Cond.code yX5_no cX5_no 1 (some .int) ∈ LW := lw_c25_in _ (List.mem_of_getElem? (i := 19) rfl)
theorem wd_620 : Cond.methodLink RL 17 yX5_inputs ∈ LW := lw_c25_in _ (List.mem_of_getElem? (i := 20) rfl)
theorem wd_621 : Cond.instanceMethod yX5_inputs ∈ LW := lw_c25_in _ (List.mem_of_getElem? (i := 21) rfl)
theorem wd_622 : Cond.selects RX5 yX5_inputs yX5_inputs ∈ LW := lw_c25_in _ (List.mem_of_getElem? (i := 22) rfl)
theorem wd_623 : Cond.code yX5_inputs cX5_inputs 2 (some .int) ∈ LW := lw_c25_in _ (List.mem_of_getElem? (i := 23) rfl)
def lw_c26 : List Cond := [.methodLink RX5 101 yX5_laysAside, .instanceMethod yX5_laysAside, .code yX5_laysAside cX5_laysAside 2 none, .methodLink RX5 104 yX5_begins, .instanceMethod yX5_begins, .code yX5_begins cX5_begins 4 (some .int), .methodLink RX5 55 yX5_within, .static yX5_within, .code yX5_within cX5_within 3 (some .boolean), .methodLink RX5 107 yX5_answers, .instanceMethod yX5_answers, .code yX5_answers cX5_answers 2 (some .int), .methodLink RX5 71 yX5_leaves, .instanceMethod yX5_leaves, .code yX5_leaves cX5_leaves 2 none, .methodLink RX5 74 yX5_full, .instanceMethod yX5_full, .code yX5_full cX5_full 1 (some .int), .methodLink RX5 77 yX5_bad, .instanceMethod yX5_bad, .code yX5_bad cX5_bad 1 (some .int), .methodLink RL 22 yX5_gate, .instanceMethod yX5_gate, .selects RX5 yX5_gate yX5_gate]
set_option maxRecDepth 20000 in
theorem lw_c26_in : ∀ w ∈ lw_c26, w ∈ LW := LWsub lw_c26 [829, 831, 832, 833, 835, 836, 837, 838, 839, 840, 842, 843, 844, 846, 847, 848, 850, 851, 852, 854, 855, 856, 857, 858] (by decide +kernel) (by decide +kernel)
theorem wd_624 : Cond.methodLink RX5 101 yX5_laysAside ∈ LW := lw_c26_in _ (List.mem_of_getElem? (i := 0) rfl)
theorem wd_625 : Cond.instanceMethod yX5_laysAside ∈ LW := lw_c26_in _ (List.mem_of_getElem? (i := 1) rfl)
theorem wd_626 : Cond.code yX5_laysAside cX5_laysAside 2 none ∈ LW := lw_c26_in _ (List.mem_of_getElem? (i := 2) rfl)
theorem wd_627 : Cond.methodLink RX5 104 yX5_begins ∈ LW := lw_c26_in _ (List.mem_of_getElem? (i := 3) rfl)
theorem wd_628 : Cond.instanceMethod yX5_begins ∈ LW := lw_c26_in _ (List.mem_of_getElem? (i := 4) rfl)
theorem wd_629 : Cond.code yX5_begins cX5_begins 4 (some .int) ∈ LW := lw_c26_in _ (List.mem_of_getElem? (i := 5) rfl)
theorem wd_630 : Cond.methodLink RX5 55 yX5_within ∈ LW := lw_c26_in _ (List.mem_of_getElem? (i := 6) rfl)
theorem wd_631 : Cond.static yX5_within ∈ LW := lw_c26_in _ (List.mem_of_getElem? (i := 7) rfl)
theorem wd_632 : Cond.code yX5_within cX5_within 3 (some .boolean) ∈ LW := lw_c26_in _ (List.mem_of_getElem? (i := 8) rfl)
theorem wd_633 : Cond.methodLink RX5 107 yX5_answers ∈ LW := lw_c26_in _ (List.mem_of_getElem? (i := 9) rfl)
theorem wd_634 : Cond.instanceMethod yX5_answers ∈ LW := lw_c26_in _ (List.mem_of_getElem? (i := 10) rfl)
theorem wd_635 : Cond.code yX5_answers cX5_answers 2 (some .int) ∈ LW := lw_c26_in _ (List.mem_of_getElem? (i := 11) rfl)
theorem wd_636 : Cond.methodLink RX5 71 yX5_leaves ∈ LW := lw_c26_in _ (List.mem_of_getElem? (i := 12) rfl)
theorem wd_637 : Cond.instanceMethod yX5_leaves ∈ LW := lw_c26_in _ (List.mem_of_getElem? (i := 13) rfl)
theorem wd_638 : Cond.code yX5_leaves cX5_leaves 2 none ∈ LW := lw_c26_in _ (List.mem_of_getElem? (i := 14) rfl)
theorem wd_639 : Cond.methodLink RX5 74 yX5_full ∈ LW := lw_c26_in _ (List.mem_of_getElem? (i := 15) rfl)
theorem wd_640 : Cond.instanceMethod yX5_full ∈ LW := lw_c26_in _ (List.mem_of_getElem? (i := 16) rfl)
theorem wd_641 : Cond.code yX5_full cX5_full 1 (some .int) ∈ LW := lw_c26_in _ (List.mem_of_getElem? (i := 17) rfl)
theorem wd_642 : Cond.methodLink RX5 77 yX5_bad ∈ LW := lw_c26_in _ (List.mem_of_getElem? (i := 18) rfl)
theorem wd_643 : Cond.instanceMethod yX5_bad ∈ LW := lw_c26_in _ (List.mem_of_getElem? (i := 19) rfl)
theorem wd_644 : Cond.code yX5_bad cX5_bad 1 (some .int) ∈ LW := lw_c26_in _ (List.mem_of_getElem? (i := 20) rfl)
theorem wd_645 : Cond.methodLink RL 22 yX5_gate ∈ LW := lw_c26_in _ (List.mem_of_getElem? (i := 21) rfl)
theorem wd_646 : Cond.instanceMethod yX5_gate ∈ LW := lw_c26_in _ (List.mem_of_getElem? (i := 22) rfl)
theorem wd_647 : Cond.selects RX5 yX5_gate yX5_gate ∈ LW := lw_c26_in _ (List.mem_of_getElem? (i := 23) rfl)
def lw_c27 : List Cond := [.code yX5_gate cX5_gate 3 (some .int), .methodLink RX5 110 yX5_addsGate, .instanceMethod yX5_addsGate, .code yX5_addsGate cX5_addsGate 3 (some .int), .methodLink RX5 80 yX5_isLiteral, .instanceMethod yX5_isLiteral, .code yX5_isLiteral cX5_isLiteral 2 (some .boolean), .methodLink RX5 83 yX5_adds, .instanceMethod yX5_adds, .code yX5_adds cX5_adds 3 (some .int), .methodLink RL 26 yX5_xor, .instanceMethod yX5_xor, .selects RX5 yX5_xor yX5_xor, .code yX5_xor cX5_xor 3 (some .int), .methodLink RX5 113 yX5_addsXor, .instanceMethod yX5_addsXor, .code yX5_addsXor cX5_addsXor 3 (some .int), .methodLink RX5 87 yX5_turned, .static yX5_turned, .code yX5_turned cX5_turned 1 (some .int), .methodLink RX5 91 yX5_addsThree, .instanceMethod yX5_addsThree, .code yX5_addsThree cX5_addsThree 7 (some .int), .methodLink RL 31 yX5_mux]
set_option maxRecDepth 20000 in
theorem lw_c27_in : ∀ w ∈ lw_c27, w ∈ LW := LWsub lw_c27 [859, 860, 862, 863, 864, 866, 867, 868, 870, 871, 872, 873, 874, 875, 876, 878, 879, 880, 881, 882, 883, 885, 886, 887] (by decide +kernel) (by decide +kernel)
theorem wd_648 : Cond.code yX5_gate cX5_gate 3 (some .int) ∈ LW := lw_c27_in _ (List.mem_of_getElem? (i := 0) rfl)
theorem wd_649 : Cond.methodLink RX5 110 yX5_addsGate ∈ LW := lw_c27_in _ (List.mem_of_getElem? (i := 1) rfl)
theorem wd_650 : Cond.instanceMethod yX5_addsGate ∈ LW := lw_c27_in _ (List.mem_of_getElem? (i := 2) rfl)
theorem wd_651 : Cond.code yX5_addsGate cX5_addsGate 3 (some .int) ∈ LW := lw_c27_in _ (List.mem_of_getElem? (i := 3) rfl)
theorem wd_652 : Cond.methodLink RX5 80 yX5_isLiteral ∈ LW := lw_c27_in _ (List.mem_of_getElem? (i := 4) rfl)
theorem wd_653 : Cond.instanceMethod yX5_isLiteral ∈ LW := lw_c27_in _ (List.mem_of_getElem? (i := 5) rfl)
theorem wd_654 : Cond.code yX5_isLiteral cX5_isLiteral 2 (some .boolean) ∈ LW := lw_c27_in _ (List.mem_of_getElem? (i := 6) rfl)
theorem wd_655 : Cond.methodLink RX5 83 yX5_adds ∈ LW := lw_c27_in _ (List.mem_of_getElem? (i := 7) rfl)
theorem wd_656 : Cond.instanceMethod yX5_adds ∈ LW := lw_c27_in _ (List.mem_of_getElem? (i := 8) rfl)
theorem wd_657 : Cond.code yX5_adds cX5_adds 3 (some .int) ∈ LW := lw_c27_in _ (List.mem_of_getElem? (i := 9) rfl)
theorem wd_658 : Cond.methodLink RL 26 yX5_xor ∈ LW := lw_c27_in _ (List.mem_of_getElem? (i := 10) rfl)
theorem wd_659 : Cond.instanceMethod yX5_xor ∈ LW := lw_c27_in _ (List.mem_of_getElem? (i := 11) rfl)
theorem wd_660 : Cond.selects RX5 yX5_xor yX5_xor ∈ LW := lw_c27_in _ (List.mem_of_getElem? (i := 12) rfl)
theorem wd_661 : Cond.code yX5_xor cX5_xor 3 (some .int) ∈ LW := lw_c27_in _ (List.mem_of_getElem? (i := 13) rfl)
theorem wd_662 : Cond.methodLink RX5 113 yX5_addsXor ∈ LW := lw_c27_in _ (List.mem_of_getElem? (i := 14) rfl)
theorem wd_663 : Cond.instanceMethod yX5_addsXor ∈ LW := lw_c27_in _ (List.mem_of_getElem? (i := 15) rfl)
theorem wd_664 : Cond.code yX5_addsXor cX5_addsXor 3 (some .int) ∈ LW := lw_c27_in _ (List.mem_of_getElem? (i := 16) rfl)
theorem wd_665 : Cond.methodLink RX5 87 yX5_turned ∈ LW := lw_c27_in _ (List.mem_of_getElem? (i := 17) rfl)
theorem wd_666 : Cond.static yX5_turned ∈ LW := lw_c27_in _ (List.mem_of_getElem? (i := 18) rfl)
theorem wd_667 : Cond.code yX5_turned cX5_turned 1 (some .int) ∈ LW := lw_c27_in _ (List.mem_of_getElem? (i := 19) rfl)
theorem wd_668 : Cond.methodLink RX5 91 yX5_addsThree ∈ LW := lw_c27_in _ (List.mem_of_getElem? (i := 20) rfl)
theorem wd_669 : Cond.instanceMethod yX5_addsThree ∈ LW := lw_c27_in _ (List.mem_of_getElem? (i := 21) rfl)
theorem wd_670 : Cond.code yX5_addsThree cX5_addsThree 7 (some .int) ∈ LW := lw_c27_in _ (List.mem_of_getElem? (i := 22) rfl)
theorem wd_671 : Cond.methodLink RL 31 yX5_mux ∈ LW := lw_c27_in _ (List.mem_of_getElem? (i := 23) rfl)
def lw_c28 : List Cond := [.instanceMethod yX5_mux, .selects RX5 yX5_mux yX5_mux, .code yX5_mux cX5_mux 4 (some .int), .methodLink RX5 116 yX5_addsMux, .instanceMethod yX5_addsMux, .code yX5_addsMux cX5_addsMux 4 (some .int), .methodLink RL 35 yX5_out, .instanceMethod yX5_out, .selects RX5 yX5_out yX5_out, .code yX5_out cX5_out 3 (some .int), .methodLink RX5 120 yX5_addsOut, .instanceMethod yX5_addsOut, .code yX5_addsOut cX5_addsOut 4 (some .int), .methodLink RX5 95 yX5_isSide, .static yX5_isSide, .code yX5_isSide cX5_isSide 1 (some .boolean), .methodLink RL 39 yX5_pattern, .instanceMethod yX5_pattern, .selects RX5 yX5_pattern yX5_pattern, .code yX5_pattern cX5_pattern 2 (some .int), .methodLink RX5 123 yX5_addsPattern, .instanceMethod yX5_addsPattern, .code yX5_addsPattern cX5_addsPattern 2 (some .int), .methodLink RX5 98 yX5_rows]
set_option maxRecDepth 20000 in
theorem lw_c28_in : ∀ w ∈ lw_c28, w ∈ LW := LWsub lw_c28 [888, 889, 890, 891, 893, 894, 895, 896, 897, 898, 899, 901, 902, 903, 904, 905, 906, 907, 908, 909, 910, 912, 913, 914] (by decide +kernel) (by decide +kernel)
theorem wd_672 : Cond.instanceMethod yX5_mux ∈ LW := lw_c28_in _ (List.mem_of_getElem? (i := 0) rfl)
theorem wd_673 : Cond.selects RX5 yX5_mux yX5_mux ∈ LW := lw_c28_in _ (List.mem_of_getElem? (i := 1) rfl)
theorem wd_674 : Cond.code yX5_mux cX5_mux 4 (some .int) ∈ LW := lw_c28_in _ (List.mem_of_getElem? (i := 2) rfl)
theorem wd_675 : Cond.methodLink RX5 116 yX5_addsMux ∈ LW := lw_c28_in _ (List.mem_of_getElem? (i := 3) rfl)
theorem wd_676 : Cond.instanceMethod yX5_addsMux ∈ LW := lw_c28_in _ (List.mem_of_getElem? (i := 4) rfl)
theorem wd_677 : Cond.code yX5_addsMux cX5_addsMux 4 (some .int) ∈ LW := lw_c28_in _ (List.mem_of_getElem? (i := 5) rfl)
theorem wd_678 : Cond.methodLink RL 35 yX5_out ∈ LW := lw_c28_in _ (List.mem_of_getElem? (i := 6) rfl)
theorem wd_679 : Cond.instanceMethod yX5_out ∈ LW := lw_c28_in _ (List.mem_of_getElem? (i := 7) rfl)
theorem wd_680 : Cond.selects RX5 yX5_out yX5_out ∈ LW := lw_c28_in _ (List.mem_of_getElem? (i := 8) rfl)
theorem wd_681 : Cond.code yX5_out cX5_out 3 (some .int) ∈ LW := lw_c28_in _ (List.mem_of_getElem? (i := 9) rfl)
theorem wd_682 : Cond.methodLink RX5 120 yX5_addsOut ∈ LW := lw_c28_in _ (List.mem_of_getElem? (i := 10) rfl)
theorem wd_683 : Cond.instanceMethod yX5_addsOut ∈ LW := lw_c28_in _ (List.mem_of_getElem? (i := 11) rfl)
theorem wd_684 : Cond.code yX5_addsOut cX5_addsOut 4 (some .int) ∈ LW := lw_c28_in _ (List.mem_of_getElem? (i := 12) rfl)
theorem wd_685 : Cond.methodLink RX5 95 yX5_isSide ∈ LW := lw_c28_in _ (List.mem_of_getElem? (i := 13) rfl)
theorem wd_686 : Cond.static yX5_isSide ∈ LW := lw_c28_in _ (List.mem_of_getElem? (i := 14) rfl)
theorem wd_687 : Cond.code yX5_isSide cX5_isSide 1 (some .boolean) ∈ LW := lw_c28_in _ (List.mem_of_getElem? (i := 15) rfl)
theorem wd_688 : Cond.methodLink RL 39 yX5_pattern ∈ LW := lw_c28_in _ (List.mem_of_getElem? (i := 16) rfl)
theorem wd_689 : Cond.instanceMethod yX5_pattern ∈ LW := lw_c28_in _ (List.mem_of_getElem? (i := 17) rfl)
theorem wd_690 : Cond.selects RX5 yX5_pattern yX5_pattern ∈ LW := lw_c28_in _ (List.mem_of_getElem? (i := 18) rfl)
theorem wd_691 : Cond.code yX5_pattern cX5_pattern 2 (some .int) ∈ LW := lw_c28_in _ (List.mem_of_getElem? (i := 19) rfl)
theorem wd_692 : Cond.methodLink RX5 123 yX5_addsPattern ∈ LW := lw_c28_in _ (List.mem_of_getElem? (i := 20) rfl)
theorem wd_693 : Cond.instanceMethod yX5_addsPattern ∈ LW := lw_c28_in _ (List.mem_of_getElem? (i := 21) rfl)
theorem wd_694 : Cond.code yX5_addsPattern cX5_addsPattern 2 (some .int) ∈ LW := lw_c28_in _ (List.mem_of_getElem? (i := 22) rfl)
theorem wd_695 : Cond.methodLink RX5 98 yX5_rows ∈ LW := lw_c28_in _ (List.mem_of_getElem? (i := 23) rfl)
def lw_c29 : List Cond := [.instanceMethod yX5_rows, .code yX5_rows cX5_rows 1 (some .int), .methodLink RL 44 yX5_settles, .instanceMethod yX5_settles, .selects RX5 yX5_settles yX5_settles, .code yX5_settles cX5_settles 1 (some .int), .methodLink RX5 181 yX5_settlesAll, .instanceMethod yX5_settlesAll, .code yX5_settlesAll cX5_settlesAll 4 (some .int), .methodLink RX5 175 yX5_sweeps, .instanceMethod yX5_sweeps, .code yX5_sweeps cX5_sweeps 2 none, .methodLink RX5 132 yX5_laysTables, .instanceMethod yX5_laysTables, .code yX5_laysTables cX5_laysTables 3 none, .methodLink RX5 129 yX5_tableOf, .instanceMethod yX5_tableOf, .code yX5_tableOf cX5_tableOf 2 (some .int), .methodLink RX5 145 yX5_merges, .instanceMethod yX5_merges, .code yX5_merges cX5_merges 4 none, .methodLink RX5 172 yX5_sweepsGate, .instanceMethod yX5_sweepsGate, .code yX5_sweepsGate cX5_sweepsGate 7 none]
set_option maxRecDepth 20000 in
theorem lw_c29_in : ∀ w ∈ lw_c29, w ∈ LW := LWsub lw_c29 [916, 917, 918, 919, 920, 921, 922, 924, 925, 926, 928, 929, 930, 932, 933, 934, 936, 937, 938, 940, 941, 942, 944, 945] (by decide +kernel) (by decide +kernel)
theorem wd_696 : Cond.instanceMethod yX5_rows ∈ LW := lw_c29_in _ (List.mem_of_getElem? (i := 0) rfl)
theorem wd_697 : Cond.code yX5_rows cX5_rows 1 (some .int) ∈ LW := lw_c29_in _ (List.mem_of_getElem? (i := 1) rfl)
theorem wd_698 : Cond.methodLink RL 44 yX5_settles ∈ LW := lw_c29_in _ (List.mem_of_getElem? (i := 2) rfl)
theorem wd_699 : Cond.instanceMethod yX5_settles ∈ LW := lw_c29_in _ (List.mem_of_getElem? (i := 3) rfl)
theorem wd_700 : Cond.selects RX5 yX5_settles yX5_settles ∈ LW := lw_c29_in _ (List.mem_of_getElem? (i := 4) rfl)
theorem wd_701 : Cond.code yX5_settles cX5_settles 1 (some .int) ∈ LW := lw_c29_in _ (List.mem_of_getElem? (i := 5) rfl)
theorem wd_702 : Cond.methodLink RX5 181 yX5_settlesAll ∈ LW := lw_c29_in _ (List.mem_of_getElem? (i := 6) rfl)
theorem wd_703 : Cond.instanceMethod yX5_settlesAll ∈ LW := lw_c29_in _ (List.mem_of_getElem? (i := 7) rfl)
theorem wd_704 : Cond.code yX5_settlesAll cX5_settlesAll 4 (some .int) ∈ LW := lw_c29_in _ (List.mem_of_getElem? (i := 8) rfl)
theorem wd_705 : Cond.methodLink RX5 175 yX5_sweeps ∈ LW := lw_c29_in _ (List.mem_of_getElem? (i := 9) rfl)
theorem wd_706 : Cond.instanceMethod yX5_sweeps ∈ LW := lw_c29_in _ (List.mem_of_getElem? (i := 10) rfl)
theorem wd_707 : Cond.code yX5_sweeps cX5_sweeps 2 none ∈ LW := lw_c29_in _ (List.mem_of_getElem? (i := 11) rfl)
theorem wd_708 : Cond.methodLink RX5 132 yX5_laysTables ∈ LW := lw_c29_in _ (List.mem_of_getElem? (i := 12) rfl)
theorem wd_709 : Cond.instanceMethod yX5_laysTables ∈ LW := lw_c29_in _ (List.mem_of_getElem? (i := 13) rfl)
theorem wd_710 : Cond.code yX5_laysTables cX5_laysTables 3 none ∈ LW := lw_c29_in _ (List.mem_of_getElem? (i := 14) rfl)
theorem wd_711 : Cond.methodLink RX5 129 yX5_tableOf ∈ LW := lw_c29_in _ (List.mem_of_getElem? (i := 15) rfl)
theorem wd_712 : Cond.instanceMethod yX5_tableOf ∈ LW := lw_c29_in _ (List.mem_of_getElem? (i := 16) rfl)
theorem wd_713 : Cond.code yX5_tableOf cX5_tableOf 2 (some .int) ∈ LW := lw_c29_in _ (List.mem_of_getElem? (i := 17) rfl)
theorem wd_714 : Cond.methodLink RX5 145 yX5_merges ∈ LW := lw_c29_in _ (List.mem_of_getElem? (i := 18) rfl)
theorem wd_715 : Cond.instanceMethod yX5_merges ∈ LW := lw_c29_in _ (List.mem_of_getElem? (i := 19) rfl)
theorem wd_716 : Cond.code yX5_merges cX5_merges 4 none ∈ LW := lw_c29_in _ (List.mem_of_getElem? (i := 20) rfl)
theorem wd_717 : Cond.methodLink RX5 172 yX5_sweepsGate ∈ LW := lw_c29_in _ (List.mem_of_getElem? (i := 21) rfl)
theorem wd_718 : Cond.instanceMethod yX5_sweepsGate ∈ LW := lw_c29_in _ (List.mem_of_getElem? (i := 22) rfl)
theorem wd_719 : Cond.code yX5_sweepsGate cX5_sweepsGate 7 none ∈ LW := lw_c29_in _ (List.mem_of_getElem? (i := 23) rfl)
def lw_c30 : List Cond := [.methodLink RX5 159 yX5_formOf, .instanceMethod yX5_formOf, .code yX5_formOf cX5_formOf 3 (some .int), .methodLink RX5 162 yX5_isByRules, .instanceMethod yX5_isByRules, .code yX5_isByRules cX5_isByRules 4 (some .boolean), .methodLink RX5 165 yX5_isThere, .instanceMethod yX5_isThere, .code yX5_isThere cX5_isThere 5 (some .boolean), .methodLink RX5 168 yX5_looksAt, .instanceMethod yX5_looksAt, .code yX5_looksAt cX5_looksAt 5 (some .boolean), .methodLink RX5 153 yX5_otherwise, .instanceMethod yX5_otherwise, .code yX5_otherwise cX5_otherwise 3 (some .int), .methodLink RX5 138 yX5_bitsOf, .static yX5_bitsOf, .code yX5_bitsOf cX5_bitsOf 6 (some .int), .methodLink RX5 156 yX5_checks, .instanceMethod yX5_checks, .code yX5_checks cX5_checks 5 (some .boolean), .methodLink RX5 149 yX5_comes, .instanceMethod yX5_comes, .code yX5_comes cX5_comes 3 none]
set_option maxRecDepth 20000 in
theorem lw_c30_in : ∀ w ∈ lw_c30, w ∈ LW := LWsub lw_c30 [946, 948, 949, 950, 952, 953, 954, 956, 957, 958, 960, 961, 962, 964, 965, 966, 967, 968, 969, 971, 972, 973, 975, 976] (by decide +kernel) (by decide +kernel)
theorem wd_720 : Cond.methodLink RX5 159 yX5_formOf ∈ LW := lw_c30_in _ (List.mem_of_getElem? (i := 0) rfl)
theorem wd_721 : Cond.instanceMethod yX5_formOf ∈ LW := lw_c30_in _ (List.mem_of_getElem? (i := 1) rfl)
theorem wd_722 : Cond.code yX5_formOf cX5_formOf 3 (some .int) ∈ LW := lw_c30_in _ (List.mem_of_getElem? (i := 2) rfl)
theorem wd_723 : Cond.methodLink RX5 162 yX5_isByRules ∈ LW := lw_c30_in _ (List.mem_of_getElem? (i := 3) rfl)
theorem wd_724 : Cond.instanceMethod yX5_isByRules ∈ LW := lw_c30_in _ (List.mem_of_getElem? (i := 4) rfl)
theorem wd_725 : Cond.code yX5_isByRules cX5_isByRules 4 (some .boolean) ∈ LW := lw_c30_in _ (List.mem_of_getElem? (i := 5) rfl)
theorem wd_726 : Cond.methodLink RX5 165 yX5_isThere ∈ LW := lw_c30_in _ (List.mem_of_getElem? (i := 6) rfl)
theorem wd_727 : Cond.instanceMethod yX5_isThere ∈ LW := lw_c30_in _ (List.mem_of_getElem? (i := 7) rfl)
theorem wd_728 : Cond.code yX5_isThere cX5_isThere 5 (some .boolean) ∈ LW := lw_c30_in _ (List.mem_of_getElem? (i := 8) rfl)
theorem wd_729 : Cond.methodLink RX5 168 yX5_looksAt ∈ LW := lw_c30_in _ (List.mem_of_getElem? (i := 9) rfl)
theorem wd_730 : Cond.instanceMethod yX5_looksAt ∈ LW := lw_c30_in _ (List.mem_of_getElem? (i := 10) rfl)
theorem wd_731 : Cond.code yX5_looksAt cX5_looksAt 5 (some .boolean) ∈ LW := lw_c30_in _ (List.mem_of_getElem? (i := 11) rfl)
theorem wd_732 : Cond.methodLink RX5 153 yX5_otherwise ∈ LW := lw_c30_in _ (List.mem_of_getElem? (i := 12) rfl)
theorem wd_733 : Cond.instanceMethod yX5_otherwise ∈ LW := lw_c30_in _ (List.mem_of_getElem? (i := 13) rfl)
theorem wd_734 : Cond.code yX5_otherwise cX5_otherwise 3 (some .int) ∈ LW := lw_c30_in _ (List.mem_of_getElem? (i := 14) rfl)
theorem wd_735 : Cond.methodLink RX5 138 yX5_bitsOf ∈ LW := lw_c30_in _ (List.mem_of_getElem? (i := 15) rfl)
theorem wd_736 : Cond.static yX5_bitsOf ∈ LW := lw_c30_in _ (List.mem_of_getElem? (i := 16) rfl)
theorem wd_737 : Cond.code yX5_bitsOf cX5_bitsOf 6 (some .int) ∈ LW := lw_c30_in _ (List.mem_of_getElem? (i := 17) rfl)
theorem wd_738 : Cond.methodLink RX5 156 yX5_checks ∈ LW := lw_c30_in _ (List.mem_of_getElem? (i := 18) rfl)
theorem wd_739 : Cond.instanceMethod yX5_checks ∈ LW := lw_c30_in _ (List.mem_of_getElem? (i := 19) rfl)
theorem wd_740 : Cond.code yX5_checks cX5_checks 5 (some .boolean) ∈ LW := lw_c30_in _ (List.mem_of_getElem? (i := 20) rfl)
theorem wd_741 : Cond.methodLink RX5 149 yX5_comes ∈ LW := lw_c30_in _ (List.mem_of_getElem? (i := 21) rfl)
theorem wd_742 : Cond.instanceMethod yX5_comes ∈ LW := lw_c30_in _ (List.mem_of_getElem? (i := 22) rfl)
theorem wd_743 : Cond.code yX5_comes cX5_comes 3 none ∈ LW := lw_c30_in _ (List.mem_of_getElem? (i := 23) rfl)
def lw_c31 : List Cond := [.methodLink RX5 178 yX5_settled, .instanceMethod yX5_settled, .code yX5_settled cX5_settled 2 (some .int), .methodLink RL 48 yX5_of, .instanceMethod yX5_of, .selects RX5 yX5_of yX5_of, .code yX5_of cX5_of 3 (some .int), .methodLink RX5 184 yX5_isGate, .instanceMethod yX5_isGate, .code yX5_isGate cX5_isGate 2 (some .boolean), .methodLink RX5 59 yX5_isNode, .instanceMethod yX5_isNode, .code yX5_isNode cX5_isNode 2 (some .boolean), .methodLink RL 52 yX5_table, .instanceMethod yX5_table, .selects RX5 yX5_table yX5_table, .code yX5_table cX5_table 2 (some .int), .methodLink RX5 187 yX5_tellTable, .instanceMethod yX5_tellTable, .code yX5_tellTable cX5_tellTable 2 (some .int), .methodLink RL 56 yX5_at, .instanceMethod yX5_at, .selects RX5 yX5_at yX5_at, .code yX5_at cX5_at 3 (some .int)]
set_option maxRecDepth 20000 in
theorem lw_c31_in : ∀ w ∈ lw_c31, w ∈ LW := LWsub lw_c31 [977, 979, 980, 981, 982, 983, 984, 985, 987, 988, 989, 991, 992, 993, 994, 995, 996, 997, 999, 1000, 1001, 1002, 1003, 1004] (by decide +kernel) (by decide +kernel)
theorem wd_744 : Cond.methodLink RX5 178 yX5_settled ∈ LW := lw_c31_in _ (List.mem_of_getElem? (i := 0) rfl)
theorem wd_745 : Cond.instanceMethod yX5_settled ∈ LW := lw_c31_in _ (List.mem_of_getElem? (i := 1) rfl)
theorem wd_746 : Cond.code yX5_settled cX5_settled 2 (some .int) ∈ LW := lw_c31_in _ (List.mem_of_getElem? (i := 2) rfl)
theorem wd_747 : Cond.methodLink RL 48 yX5_of ∈ LW := lw_c31_in _ (List.mem_of_getElem? (i := 3) rfl)
theorem wd_748 : Cond.instanceMethod yX5_of ∈ LW := lw_c31_in _ (List.mem_of_getElem? (i := 4) rfl)
theorem wd_749 : Cond.selects RX5 yX5_of yX5_of ∈ LW := lw_c31_in _ (List.mem_of_getElem? (i := 5) rfl)
theorem wd_750 : Cond.code yX5_of cX5_of 3 (some .int) ∈ LW := lw_c31_in _ (List.mem_of_getElem? (i := 6) rfl)
theorem wd_751 : Cond.methodLink RX5 184 yX5_isGate ∈ LW := lw_c31_in _ (List.mem_of_getElem? (i := 7) rfl)
theorem wd_752 : Cond.instanceMethod yX5_isGate ∈ LW := lw_c31_in _ (List.mem_of_getElem? (i := 8) rfl)
theorem wd_753 : Cond.code yX5_isGate cX5_isGate 2 (some .boolean) ∈ LW := lw_c31_in _ (List.mem_of_getElem? (i := 9) rfl)
theorem wd_754 : Cond.methodLink RX5 59 yX5_isNode ∈ LW := lw_c31_in _ (List.mem_of_getElem? (i := 10) rfl)
theorem wd_755 : Cond.instanceMethod yX5_isNode ∈ LW := lw_c31_in _ (List.mem_of_getElem? (i := 11) rfl)
theorem wd_756 : Cond.code yX5_isNode cX5_isNode 2 (some .boolean) ∈ LW := lw_c31_in _ (List.mem_of_getElem? (i := 12) rfl)
theorem wd_757 : Cond.methodLink RL 52 yX5_table ∈ LW := lw_c31_in _ (List.mem_of_getElem? (i := 13) rfl)
theorem wd_758 : Cond.instanceMethod yX5_table ∈ LW := lw_c31_in _ (List.mem_of_getElem? (i := 14) rfl)
theorem wd_759 : Cond.selects RX5 yX5_table yX5_table ∈ LW := lw_c31_in _ (List.mem_of_getElem? (i := 15) rfl)
theorem wd_760 : Cond.code yX5_table cX5_table 2 (some .int) ∈ LW := lw_c31_in _ (List.mem_of_getElem? (i := 16) rfl)
theorem wd_761 : Cond.methodLink RX5 187 yX5_tellTable ∈ LW := lw_c31_in _ (List.mem_of_getElem? (i := 17) rfl)
theorem wd_762 : Cond.instanceMethod yX5_tellTable ∈ LW := lw_c31_in _ (List.mem_of_getElem? (i := 18) rfl)
theorem wd_763 : Cond.code yX5_tellTable cX5_tellTable 2 (some .int) ∈ LW := lw_c31_in _ (List.mem_of_getElem? (i := 19) rfl)
theorem wd_764 : Cond.methodLink RL 56 yX5_at ∈ LW := lw_c31_in _ (List.mem_of_getElem? (i := 20) rfl)
theorem wd_765 : Cond.instanceMethod yX5_at ∈ LW := lw_c31_in _ (List.mem_of_getElem? (i := 21) rfl)
theorem wd_766 : Cond.selects RX5 yX5_at yX5_at ∈ LW := lw_c31_in _ (List.mem_of_getElem? (i := 22) rfl)
theorem wd_767 : Cond.code yX5_at cX5_at 3 (some .int) ∈ LW := lw_c31_in _ (List.mem_of_getElem? (i := 23) rfl)
def lw_c32 : List Cond := [.methodLink RL 60 yX5_depth, .instanceMethod yX5_depth, .selects RX5 yX5_depth yX5_depth, .code yX5_depth cX5_depth 2 (some .int), .methodLink RX5 190 yX5_depthOf, .instanceMethod yX5_depthOf, .code yX5_depthOf cX5_depthOf 5 (some .int), .methodLink RL 64 yX5_cone, .instanceMethod yX5_cone, .selects RX5 yX5_cone yX5_cone, .code yX5_cone cX5_cone 2 (some .int), .methodLink RX5 193 yX5_coneOf, .instanceMethod yX5_coneOf, .code yX5_coneOf cX5_coneOf 6 (some .int), .methodLink RL 68 yX5_outs, .instanceMethod yX5_outs, .selects RX5 yX5_outs yX5_outs, .code yX5_outs cX5_outs 3 (some .int), .methodLink RL 72 yX5_count, .instanceMethod yX5_count, .selects RX5 yX5_count yX5_count, .code yX5_count cX5_count 2 (some .int), .methodLink RX5 196 yX5_countOf, .instanceMethod yX5_countOf]
set_option maxRecDepth 20000 in
theorem lw_c32_in : ∀ w ∈ lw_c32, w ∈ LW := LWsub lw_c32 [1005, 1006, 1007, 1008, 1009, 1011, 1012, 1013, 1014, 1015, 1016, 1017, 1019, 1020, 1021, 1022, 1023, 1024, 1025, 1026, 1027, 1028, 1029, 1031] (by decide +kernel) (by decide +kernel)
theorem wd_768 : Cond.methodLink RL 60 yX5_depth ∈ LW := lw_c32_in _ (List.mem_of_getElem? (i := 0) rfl)
theorem wd_769 : Cond.instanceMethod yX5_depth ∈ LW := lw_c32_in _ (List.mem_of_getElem? (i := 1) rfl)
theorem wd_770 : Cond.selects RX5 yX5_depth yX5_depth ∈ LW := lw_c32_in _ (List.mem_of_getElem? (i := 2) rfl)
theorem wd_771 : Cond.code yX5_depth cX5_depth 2 (some .int) ∈ LW := lw_c32_in _ (List.mem_of_getElem? (i := 3) rfl)
theorem wd_772 : Cond.methodLink RX5 190 yX5_depthOf ∈ LW := lw_c32_in _ (List.mem_of_getElem? (i := 4) rfl)
theorem wd_773 : Cond.instanceMethod yX5_depthOf ∈ LW := lw_c32_in _ (List.mem_of_getElem? (i := 5) rfl)
theorem wd_774 : Cond.code yX5_depthOf cX5_depthOf 5 (some .int) ∈ LW := lw_c32_in _ (List.mem_of_getElem? (i := 6) rfl)
theorem wd_775 : Cond.methodLink RL 64 yX5_cone ∈ LW := lw_c32_in _ (List.mem_of_getElem? (i := 7) rfl)
theorem wd_776 : Cond.instanceMethod yX5_cone ∈ LW := lw_c32_in _ (List.mem_of_getElem? (i := 8) rfl)
theorem wd_777 : Cond.selects RX5 yX5_cone yX5_cone ∈ LW := lw_c32_in _ (List.mem_of_getElem? (i := 9) rfl)
theorem wd_778 : Cond.code yX5_cone cX5_cone 2 (some .int) ∈ LW := lw_c32_in _ (List.mem_of_getElem? (i := 10) rfl)
theorem wd_779 : Cond.methodLink RX5 193 yX5_coneOf ∈ LW := lw_c32_in _ (List.mem_of_getElem? (i := 11) rfl)
theorem wd_780 : Cond.instanceMethod yX5_coneOf ∈ LW := lw_c32_in _ (List.mem_of_getElem? (i := 12) rfl)
theorem wd_781 : Cond.code yX5_coneOf cX5_coneOf 6 (some .int) ∈ LW := lw_c32_in _ (List.mem_of_getElem? (i := 13) rfl)
theorem wd_782 : Cond.methodLink RL 68 yX5_outs ∈ LW := lw_c32_in _ (List.mem_of_getElem? (i := 14) rfl)
theorem wd_783 : Cond.instanceMethod yX5_outs ∈ LW := lw_c32_in _ (List.mem_of_getElem? (i := 15) rfl)
theorem wd_784 : Cond.selects RX5 yX5_outs yX5_outs ∈ LW := lw_c32_in _ (List.mem_of_getElem? (i := 16) rfl)
theorem wd_785 : Cond.code yX5_outs cX5_outs 3 (some .int) ∈ LW := lw_c32_in _ (List.mem_of_getElem? (i := 17) rfl)
theorem wd_786 : Cond.methodLink RL 72 yX5_count ∈ LW := lw_c32_in _ (List.mem_of_getElem? (i := 18) rfl)
theorem wd_787 : Cond.instanceMethod yX5_count ∈ LW := lw_c32_in _ (List.mem_of_getElem? (i := 19) rfl)
theorem wd_788 : Cond.selects RX5 yX5_count yX5_count ∈ LW := lw_c32_in _ (List.mem_of_getElem? (i := 20) rfl)
theorem wd_789 : Cond.code yX5_count cX5_count 2 (some .int) ∈ LW := lw_c32_in _ (List.mem_of_getElem? (i := 21) rfl)
theorem wd_790 : Cond.methodLink RX5 196 yX5_countOf ∈ LW := lw_c32_in _ (List.mem_of_getElem? (i := 22) rfl)
theorem wd_791 : Cond.instanceMethod yX5_countOf ∈ LW := lw_c32_in _ (List.mem_of_getElem? (i := 23) rfl)
def lw_c33 : List Cond := [.code yX5_countOf cX5_countOf 2 (some .int), .methodLink RL 76 yX5_sign, .instanceMethod yX5_sign, .selects RX5 yX5_sign yX5_sign, .code yX5_sign cX5_sign 2 (some .int), .methodLink RX5 199 yX5_signOf, .instanceMethod yX5_signOf, .code yX5_signOf cX5_signOf 2 (some .int), .methodLink RL 80 yX5_form, .instanceMethod yX5_form, .selects RX5 yX5_form yX5_form, .code yX5_form cX5_form 2 (some .int), .methodLink RL 84 yX5_lines, .instanceMethod yX5_lines, .selects RX5 yX5_lines yX5_lines, .code yX5_lines cX5_lines 4 (some .int), .methodLink RX5 202 yX5_merged, .instanceMethod yX5_merged, .code yX5_merged cX5_merged 4 (some .int), .methodLink RX5 205 yX5_lineAt, .instanceMethod yX5_lineAt, .code yX5_lineAt cX5_lineAt 4 (some .int), .methodLink RL 88 yX5_swept, .instanceMethod yX5_swept]
set_option maxRecDepth 20000 in
theorem lw_c33_in : ∀ w ∈ lw_c33, w ∈ LW := LWsub lw_c33 [1032, 1033, 1034, 1035, 1036, 1037, 1039, 1040, 1041, 1042, 1043, 1044, 1045, 1046, 1047, 1048, 1049, 1051, 1052, 1053, 1055, 1056, 1057, 1058] (by decide +kernel) (by decide +kernel)
theorem wd_792 : Cond.code yX5_countOf cX5_countOf 2 (some .int) ∈ LW := lw_c33_in _ (List.mem_of_getElem? (i := 0) rfl)
theorem wd_793 : Cond.methodLink RL 76 yX5_sign ∈ LW := lw_c33_in _ (List.mem_of_getElem? (i := 1) rfl)
theorem wd_794 : Cond.instanceMethod yX5_sign ∈ LW := lw_c33_in _ (List.mem_of_getElem? (i := 2) rfl)
theorem wd_795 : Cond.selects RX5 yX5_sign yX5_sign ∈ LW := lw_c33_in _ (List.mem_of_getElem? (i := 3) rfl)
theorem wd_796 : Cond.code yX5_sign cX5_sign 2 (some .int) ∈ LW := lw_c33_in _ (List.mem_of_getElem? (i := 4) rfl)
theorem wd_797 : Cond.methodLink RX5 199 yX5_signOf ∈ LW := lw_c33_in _ (List.mem_of_getElem? (i := 5) rfl)
theorem wd_798 : Cond.instanceMethod yX5_signOf ∈ LW := lw_c33_in _ (List.mem_of_getElem? (i := 6) rfl)
theorem wd_799 : Cond.code yX5_signOf cX5_signOf 2 (some .int) ∈ LW := lw_c33_in _ (List.mem_of_getElem? (i := 7) rfl)
theorem wd_800 : Cond.methodLink RL 80 yX5_form ∈ LW := lw_c33_in _ (List.mem_of_getElem? (i := 8) rfl)
theorem wd_801 : Cond.instanceMethod yX5_form ∈ LW := lw_c33_in _ (List.mem_of_getElem? (i := 9) rfl)
theorem wd_802 : Cond.selects RX5 yX5_form yX5_form ∈ LW := lw_c33_in _ (List.mem_of_getElem? (i := 10) rfl)
theorem wd_803 : Cond.code yX5_form cX5_form 2 (some .int) ∈ LW := lw_c33_in _ (List.mem_of_getElem? (i := 11) rfl)
theorem wd_804 : Cond.methodLink RL 84 yX5_lines ∈ LW := lw_c33_in _ (List.mem_of_getElem? (i := 12) rfl)
theorem wd_805 : Cond.instanceMethod yX5_lines ∈ LW := lw_c33_in _ (List.mem_of_getElem? (i := 13) rfl)
theorem wd_806 : Cond.selects RX5 yX5_lines yX5_lines ∈ LW := lw_c33_in _ (List.mem_of_getElem? (i := 14) rfl)
theorem wd_807 : Cond.code yX5_lines cX5_lines 4 (some .int) ∈ LW := lw_c33_in _ (List.mem_of_getElem? (i := 15) rfl)
theorem wd_808 : Cond.methodLink RX5 202 yX5_merged ∈ LW := lw_c33_in _ (List.mem_of_getElem? (i := 16) rfl)
theorem wd_809 : Cond.instanceMethod yX5_merged ∈ LW := lw_c33_in _ (List.mem_of_getElem? (i := 17) rfl)
theorem wd_810 : Cond.code yX5_merged cX5_merged 4 (some .int) ∈ LW := lw_c33_in _ (List.mem_of_getElem? (i := 18) rfl)
theorem wd_811 : Cond.methodLink RX5 205 yX5_lineAt ∈ LW := lw_c33_in _ (List.mem_of_getElem? (i := 19) rfl)
theorem wd_812 : Cond.instanceMethod yX5_lineAt ∈ LW := lw_c33_in _ (List.mem_of_getElem? (i := 20) rfl)
theorem wd_813 : Cond.code yX5_lineAt cX5_lineAt 4 (some .int) ∈ LW := lw_c33_in _ (List.mem_of_getElem? (i := 21) rfl)
theorem wd_814 : Cond.methodLink RL 88 yX5_swept ∈ LW := lw_c33_in _ (List.mem_of_getElem? (i := 22) rfl)
theorem wd_815 : Cond.instanceMethod yX5_swept ∈ LW := lw_c33_in _ (List.mem_of_getElem? (i := 23) rfl)
def lw_c34 : List Cond := [.selects RX5 yX5_swept yX5_swept, .code yX5_swept cX5_swept 2 (some .int), .methodLink RX5 208 yX5_sweptOf, .instanceMethod yX5_sweptOf, .code yX5_sweptOf cX5_sweptOf 2 (some .int), .methodLink RL 92 yX5_row, .instanceMethod yX5_row, .selects RX5 yX5_row yX5_row, .code yX5_row cX5_row 2 (some .int), .methodLink RL 96 yX5_alike, .instanceMethod yX5_alike, .selects RX5 yX5_alike yX5_alike, .code yX5_alike cX5_alike 2 (some .int), .methodLink RX5 211 yX5_areOuts, .instanceMethod yX5_areOuts, .code yX5_areOuts cX5_areOuts 2 (some .boolean), .methodLink RX5 214 yX5_areAlike, .instanceMethod yX5_areAlike, .code yX5_areAlike cX5_areAlike 2 (some .boolean), .methodLink RL 100 yX5_witness, .instanceMethod yX5_witness, .selects RX5 yX5_witness yX5_witness, .code yX5_witness cX5_witness 4 (some .int), .methodLink RL 104 yX5_verdict]
set_option maxRecDepth 20000 in
theorem lw_c34_in : ∀ w ∈ lw_c34, w ∈ LW := LWsub lw_c34 [1059, 1060, 1061, 1063, 1064, 1065, 1066, 1067, 1068, 1069, 1070, 1071, 1072, 1073, 1075, 1076, 1077, 1079, 1080, 1081, 1082, 1083, 1084, 1085] (by decide +kernel) (by decide +kernel)
theorem wd_816 : Cond.selects RX5 yX5_swept yX5_swept ∈ LW := lw_c34_in _ (List.mem_of_getElem? (i := 0) rfl)
theorem wd_817 : Cond.code yX5_swept cX5_swept 2 (some .int) ∈ LW := lw_c34_in _ (List.mem_of_getElem? (i := 1) rfl)
theorem wd_818 : Cond.methodLink RX5 208 yX5_sweptOf ∈ LW := lw_c34_in _ (List.mem_of_getElem? (i := 2) rfl)
theorem wd_819 : Cond.instanceMethod yX5_sweptOf ∈ LW := lw_c34_in _ (List.mem_of_getElem? (i := 3) rfl)
theorem wd_820 : Cond.code yX5_sweptOf cX5_sweptOf 2 (some .int) ∈ LW := lw_c34_in _ (List.mem_of_getElem? (i := 4) rfl)
theorem wd_821 : Cond.methodLink RL 92 yX5_row ∈ LW := lw_c34_in _ (List.mem_of_getElem? (i := 5) rfl)
theorem wd_822 : Cond.instanceMethod yX5_row ∈ LW := lw_c34_in _ (List.mem_of_getElem? (i := 6) rfl)
theorem wd_823 : Cond.selects RX5 yX5_row yX5_row ∈ LW := lw_c34_in _ (List.mem_of_getElem? (i := 7) rfl)
theorem wd_824 : Cond.code yX5_row cX5_row 2 (some .int) ∈ LW := lw_c34_in _ (List.mem_of_getElem? (i := 8) rfl)
theorem wd_825 : Cond.methodLink RL 96 yX5_alike ∈ LW := lw_c34_in _ (List.mem_of_getElem? (i := 9) rfl)
theorem wd_826 : Cond.instanceMethod yX5_alike ∈ LW := lw_c34_in _ (List.mem_of_getElem? (i := 10) rfl)
theorem wd_827 : Cond.selects RX5 yX5_alike yX5_alike ∈ LW := lw_c34_in _ (List.mem_of_getElem? (i := 11) rfl)
theorem wd_828 : Cond.code yX5_alike cX5_alike 2 (some .int) ∈ LW := lw_c34_in _ (List.mem_of_getElem? (i := 12) rfl)
theorem wd_829 : Cond.methodLink RX5 211 yX5_areOuts ∈ LW := lw_c34_in _ (List.mem_of_getElem? (i := 13) rfl)
theorem wd_830 : Cond.instanceMethod yX5_areOuts ∈ LW := lw_c34_in _ (List.mem_of_getElem? (i := 14) rfl)
theorem wd_831 : Cond.code yX5_areOuts cX5_areOuts 2 (some .boolean) ∈ LW := lw_c34_in _ (List.mem_of_getElem? (i := 15) rfl)
theorem wd_832 : Cond.methodLink RX5 214 yX5_areAlike ∈ LW := lw_c34_in _ (List.mem_of_getElem? (i := 16) rfl)
theorem wd_833 : Cond.instanceMethod yX5_areAlike ∈ LW := lw_c34_in _ (List.mem_of_getElem? (i := 17) rfl)
theorem wd_834 : Cond.code yX5_areAlike cX5_areAlike 2 (some .boolean) ∈ LW := lw_c34_in _ (List.mem_of_getElem? (i := 18) rfl)
theorem wd_835 : Cond.methodLink RL 100 yX5_witness ∈ LW := lw_c34_in _ (List.mem_of_getElem? (i := 19) rfl)
theorem wd_836 : Cond.instanceMethod yX5_witness ∈ LW := lw_c34_in _ (List.mem_of_getElem? (i := 20) rfl)
theorem wd_837 : Cond.selects RX5 yX5_witness yX5_witness ∈ LW := lw_c34_in _ (List.mem_of_getElem? (i := 21) rfl)
theorem wd_838 : Cond.code yX5_witness cX5_witness 4 (some .int) ∈ LW := lw_c34_in _ (List.mem_of_getElem? (i := 22) rfl)
theorem wd_839 : Cond.methodLink RL 104 yX5_verdict ∈ LW := lw_c34_in _ (List.mem_of_getElem? (i := 23) rfl)
def lw_c35 : List Cond := [.instanceMethod yX5_verdict, .selects RX5 yX5_verdict yX5_verdict, .code yX5_verdict cX5_verdict 1 (some .int), .methodLink RX5 217 yX5_verdictNow, .instanceMethod yX5_verdictNow, .code yX5_verdictNow cX5_verdictNow 3 (some .int), .methodLink RL 108 yX5_type, .instanceMethod yX5_type, .selects RX5 yX5_type yX5_type, .code yX5_type cX5_type 2 (some .int), .methodLink RL 112 yX5_clear, .instanceMethod yX5_clear, .selects RX5 yX5_clear yX5_clear, .code yX5_clear cX5_clear 2 (some .int), .methodLink RL 116 yX5_does, .instanceMethod yX5_does, .selects RX5 yX5_does yX5_does, .code yX5_does cX5_does 3 (some .int), .methodLink RX5 248 yX5_reads, .instanceMethod yX5_reads, .code yX5_reads cX5_reads 1 (some .boolean), .methodLink RX5 229 yX5_blanks, .instanceMethod yX5_blanks, .code yX5_blanks cX5_blanks 1 none]
set_option maxRecDepth 20000 in
theorem lw_c35_in : ∀ w ∈ lw_c35, w ∈ LW := LWsub lw_c35 [1086, 1087, 1088, 1089, 1091, 1092, 1093, 1094, 1095, 1096, 1097, 1098, 1099, 1100, 1101, 1102, 1103, 1104, 1105, 1107, 1108, 1109, 1111, 1112] (by decide +kernel) (by decide +kernel)
theorem wd_840 : Cond.instanceMethod yX5_verdict ∈ LW := lw_c35_in _ (List.mem_of_getElem? (i := 0) rfl)
theorem wd_841 : Cond.selects RX5 yX5_verdict yX5_verdict ∈ LW := lw_c35_in _ (List.mem_of_getElem? (i := 1) rfl)
theorem wd_842 : Cond.code yX5_verdict cX5_verdict 1 (some .int) ∈ LW := lw_c35_in _ (List.mem_of_getElem? (i := 2) rfl)
theorem wd_843 : Cond.methodLink RX5 217 yX5_verdictNow ∈ LW := lw_c35_in _ (List.mem_of_getElem? (i := 3) rfl)
theorem wd_844 : Cond.instanceMethod yX5_verdictNow ∈ LW := lw_c35_in _ (List.mem_of_getElem? (i := 4) rfl)
theorem wd_845 : Cond.code yX5_verdictNow cX5_verdictNow 3 (some .int) ∈ LW := lw_c35_in _ (List.mem_of_getElem? (i := 5) rfl)
theorem wd_846 : Cond.methodLink RL 108 yX5_type ∈ LW := lw_c35_in _ (List.mem_of_getElem? (i := 6) rfl)
theorem wd_847 : Cond.instanceMethod yX5_type ∈ LW := lw_c35_in _ (List.mem_of_getElem? (i := 7) rfl)
theorem wd_848 : Cond.selects RX5 yX5_type yX5_type ∈ LW := lw_c35_in _ (List.mem_of_getElem? (i := 8) rfl)
theorem wd_849 : Cond.code yX5_type cX5_type 2 (some .int) ∈ LW := lw_c35_in _ (List.mem_of_getElem? (i := 9) rfl)
theorem wd_850 : Cond.methodLink RL 112 yX5_clear ∈ LW := lw_c35_in _ (List.mem_of_getElem? (i := 10) rfl)
theorem wd_851 : Cond.instanceMethod yX5_clear ∈ LW := lw_c35_in _ (List.mem_of_getElem? (i := 11) rfl)
theorem wd_852 : Cond.selects RX5 yX5_clear yX5_clear ∈ LW := lw_c35_in _ (List.mem_of_getElem? (i := 12) rfl)
theorem wd_853 : Cond.code yX5_clear cX5_clear 2 (some .int) ∈ LW := lw_c35_in _ (List.mem_of_getElem? (i := 13) rfl)
theorem wd_854 : Cond.methodLink RL 116 yX5_does ∈ LW := lw_c35_in _ (List.mem_of_getElem? (i := 14) rfl)
theorem wd_855 : Cond.instanceMethod yX5_does ∈ LW := lw_c35_in _ (List.mem_of_getElem? (i := 15) rfl)
theorem wd_856 : Cond.selects RX5 yX5_does yX5_does ∈ LW := lw_c35_in _ (List.mem_of_getElem? (i := 16) rfl)
theorem wd_857 : Cond.code yX5_does cX5_does 3 (some .int) ∈ LW := lw_c35_in _ (List.mem_of_getElem? (i := 17) rfl)
theorem wd_858 : Cond.methodLink RX5 248 yX5_reads ∈ LW := lw_c35_in _ (List.mem_of_getElem? (i := 18) rfl)
theorem wd_859 : Cond.instanceMethod yX5_reads ∈ LW := lw_c35_in _ (List.mem_of_getElem? (i := 19) rfl)
theorem wd_860 : Cond.code yX5_reads cX5_reads 1 (some .boolean) ∈ LW := lw_c35_in _ (List.mem_of_getElem? (i := 20) rfl)
theorem wd_861 : Cond.methodLink RX5 229 yX5_blanks ∈ LW := lw_c35_in _ (List.mem_of_getElem? (i := 21) rfl)
theorem wd_862 : Cond.instanceMethod yX5_blanks ∈ LW := lw_c35_in _ (List.mem_of_getElem? (i := 22) rfl)
theorem wd_863 : Cond.code yX5_blanks cX5_blanks 1 none ∈ LW := lw_c35_in _ (List.mem_of_getElem? (i := 23) rfl)
def lw_c36 : List Cond := [.methodLink RX5 226 yX5_isAt, .instanceMethod yX5_isAt, .code yX5_isAt cX5_isAt 3 (some .boolean), .methodLink RX5 245 yX5_readsOrder, .instanceMethod yX5_readsOrder, .code yX5_readsOrder cX5_readsOrder 4 none, .methodLink RX5 236 yX5_manyOf, .static yX5_manyOf, .code yX5_manyOf cX5_manyOf 1 (some .int), .methodLink RX5 242 yX5_number, .instanceMethod yX5_number, .code yX5_number cX5_number 3 (some .int), .methodLink RX5 252 yX5_doesOrder, .instanceMethod yX5_doesOrder, .code yX5_doesOrder cX5_doesOrder 4 (some .int), .methodLink RL 124 yX5_told, .instanceMethod yX5_told, .selects RX5 yX5_told yX5_told, .code yX5_told cX5_told 2 (some .int), .methodLink RX5 255 yX5_toldOf, .instanceMethod yX5_toldOf, .code yX5_toldOf cX5_toldOf 2 (some .int), .methodLink RL 129 yX5_digest, .instanceMethod yX5_digest]
set_option maxRecDepth 20000 in
theorem lw_c36_in : ∀ w ∈ lw_c36, w ∈ LW := LWsub lw_c36 [1113, 1115, 1116, 1117, 1119, 1120, 1121, 1122, 1123, 1124, 1126, 1127, 1128, 1130, 1131, 1132, 1133, 1134, 1135, 1136, 1138, 1139, 1140, 1141] (by decide +kernel) (by decide +kernel)
theorem wd_864 : Cond.methodLink RX5 226 yX5_isAt ∈ LW := lw_c36_in _ (List.mem_of_getElem? (i := 0) rfl)
theorem wd_865 : Cond.instanceMethod yX5_isAt ∈ LW := lw_c36_in _ (List.mem_of_getElem? (i := 1) rfl)
theorem wd_866 : Cond.code yX5_isAt cX5_isAt 3 (some .boolean) ∈ LW := lw_c36_in _ (List.mem_of_getElem? (i := 2) rfl)
theorem wd_867 : Cond.methodLink RX5 245 yX5_readsOrder ∈ LW := lw_c36_in _ (List.mem_of_getElem? (i := 3) rfl)
theorem wd_868 : Cond.instanceMethod yX5_readsOrder ∈ LW := lw_c36_in _ (List.mem_of_getElem? (i := 4) rfl)
theorem wd_869 : Cond.code yX5_readsOrder cX5_readsOrder 4 none ∈ LW := lw_c36_in _ (List.mem_of_getElem? (i := 5) rfl)
theorem wd_870 : Cond.methodLink RX5 236 yX5_manyOf ∈ LW := lw_c36_in _ (List.mem_of_getElem? (i := 6) rfl)
theorem wd_871 : Cond.static yX5_manyOf ∈ LW := lw_c36_in _ (List.mem_of_getElem? (i := 7) rfl)
theorem wd_872 : Cond.code yX5_manyOf cX5_manyOf 1 (some .int) ∈ LW := lw_c36_in _ (List.mem_of_getElem? (i := 8) rfl)
theorem wd_873 : Cond.methodLink RX5 242 yX5_number ∈ LW := lw_c36_in _ (List.mem_of_getElem? (i := 9) rfl)
theorem wd_874 : Cond.instanceMethod yX5_number ∈ LW := lw_c36_in _ (List.mem_of_getElem? (i := 10) rfl)
theorem wd_875 : Cond.code yX5_number cX5_number 3 (some .int) ∈ LW := lw_c36_in _ (List.mem_of_getElem? (i := 11) rfl)
theorem wd_876 : Cond.methodLink RX5 252 yX5_doesOrder ∈ LW := lw_c36_in _ (List.mem_of_getElem? (i := 12) rfl)
theorem wd_877 : Cond.instanceMethod yX5_doesOrder ∈ LW := lw_c36_in _ (List.mem_of_getElem? (i := 13) rfl)
theorem wd_878 : Cond.code yX5_doesOrder cX5_doesOrder 4 (some .int) ∈ LW := lw_c36_in _ (List.mem_of_getElem? (i := 14) rfl)
theorem wd_879 : Cond.methodLink RL 124 yX5_told ∈ LW := lw_c36_in _ (List.mem_of_getElem? (i := 15) rfl)
theorem wd_880 : Cond.instanceMethod yX5_told ∈ LW := lw_c36_in _ (List.mem_of_getElem? (i := 16) rfl)
theorem wd_881 : Cond.selects RX5 yX5_told yX5_told ∈ LW := lw_c36_in _ (List.mem_of_getElem? (i := 17) rfl)
theorem wd_882 : Cond.code yX5_told cX5_told 2 (some .int) ∈ LW := lw_c36_in _ (List.mem_of_getElem? (i := 18) rfl)
theorem wd_883 : Cond.methodLink RX5 255 yX5_toldOf ∈ LW := lw_c36_in _ (List.mem_of_getElem? (i := 19) rfl)
theorem wd_884 : Cond.instanceMethod yX5_toldOf ∈ LW := lw_c36_in _ (List.mem_of_getElem? (i := 20) rfl)
theorem wd_885 : Cond.code yX5_toldOf cX5_toldOf 2 (some .int) ∈ LW := lw_c36_in _ (List.mem_of_getElem? (i := 21) rfl)
theorem wd_886 : Cond.methodLink RL 129 yX5_digest ∈ LW := lw_c36_in _ (List.mem_of_getElem? (i := 22) rfl)
theorem wd_887 : Cond.instanceMethod yX5_digest ∈ LW := lw_c36_in _ (List.mem_of_getElem? (i := 23) rfl)
def lw_c37 : List Cond := [.selects RX5 yX5_digest yX5_digest, .code yX5_digest cX5_digest 2 (some .long), .constantLong RX5 267 (1675), .methodLink RX5 264 yX5_mix, .instanceMethod yX5_mix, .code yX5_mix cX5_mix 2 none, .constantLong RX5 258 (31), .methodLink RX5 269 yX5_mixNode, .instanceMethod yX5_mixNode, .code yX5_mixNode cX5_mixNode 2 none, .methodLink RX5 272 yX5_mixOuts, .instanceMethod yX5_mixOuts, .code yX5_mixOuts cX5_mixOuts 3 none, .fieldLink RJ0 15 "java/lang/String" "coder" "B", .fieldLink RJ0 9 "java/lang/String" "value" "[B"]
set_option maxRecDepth 20000 in
theorem lw_c37_in : ∀ w ∈ lw_c37, w ∈ LW := LWsub lw_c37 [1142, 1143, 1144, 1145, 1147, 1148, 1149, 1150, 1152, 1153, 1154, 1156, 1157, 1158, 1159] (by decide +kernel) (by decide +kernel)
theorem wd_888 : Cond.selects RX5 yX5_digest yX5_digest ∈ LW := lw_c37_in _ (List.mem_of_getElem? (i := 0) rfl)
theorem wd_889 : Cond.code yX5_digest cX5_digest 2 (some .long) ∈ LW := lw_c37_in _ (List.mem_of_getElem? (i := 1) rfl)
theorem wd_890 : Cond.constantLong RX5 267 (1675) ∈ LW := lw_c37_in _ (List.mem_of_getElem? (i := 2) rfl)
theorem wd_891 : Cond.methodLink RX5 264 yX5_mix ∈ LW := lw_c37_in _ (List.mem_of_getElem? (i := 3) rfl)
theorem wd_892 : Cond.instanceMethod yX5_mix ∈ LW := lw_c37_in _ (List.mem_of_getElem? (i := 4) rfl)
theorem wd_893 : Cond.code yX5_mix cX5_mix 2 none ∈ LW := lw_c37_in _ (List.mem_of_getElem? (i := 5) rfl)
theorem wd_894 : Cond.constantLong RX5 258 (31) ∈ LW := lw_c37_in _ (List.mem_of_getElem? (i := 6) rfl)
theorem wd_895 : Cond.methodLink RX5 269 yX5_mixNode ∈ LW := lw_c37_in _ (List.mem_of_getElem? (i := 7) rfl)
theorem wd_896 : Cond.instanceMethod yX5_mixNode ∈ LW := lw_c37_in _ (List.mem_of_getElem? (i := 8) rfl)
theorem wd_897 : Cond.code yX5_mixNode cX5_mixNode 2 none ∈ LW := lw_c37_in _ (List.mem_of_getElem? (i := 9) rfl)
theorem wd_898 : Cond.methodLink RX5 272 yX5_mixOuts ∈ LW := lw_c37_in _ (List.mem_of_getElem? (i := 10) rfl)
theorem wd_899 : Cond.instanceMethod yX5_mixOuts ∈ LW := lw_c37_in _ (List.mem_of_getElem? (i := 11) rfl)
theorem wd_900 : Cond.code yX5_mixOuts cX5_mixOuts 3 none ∈ LW := lw_c37_in _ (List.mem_of_getElem? (i := 12) rfl)
theorem wd_901 : Cond.fieldLink RJ0 15 "java/lang/String" "coder" "B" ∈ LW := lw_c37_in _ (List.mem_of_getElem? (i := 13) rfl)
theorem wd_902 : Cond.fieldLink RJ0 9 "java/lang/String" "value" "[B" ∈ LW := lw_c37_in _ (List.mem_of_getElem? (i := 14) rfl)
set_option maxRecDepth 20000 in
theorem inX0 : ∀ w ∈ u_ws RX0 TX0 10, w ∈ LW := LWsub _ [117, 119, 121, 123, 125, 127, 129, 131, 133, 135] (by decide +kernel) (by decide +kernel)
set_option maxRecDepth 20000 in
theorem inX1 : ∀ w ∈ u_ws RX1 TX1 3, w ∈ LW := LWsub _ [205, 207, 209] (by decide +kernel) (by decide +kernel)
set_option maxRecDepth 20000 in
theorem inX2 : ∀ w ∈ u_ws RX2 TX2 8, w ∈ LW := LWsub _ [229, 231, 233, 235, 237, 239, 241, 243] (by decide +kernel) (by decide +kernel)
set_option maxRecDepth 20000 in
theorem inX3 : ∀ w ∈ u_ws RX3 TX3 13, w ∈ LW := LWsub _ [165, 167, 169, 171, 173, 175, 177, 179, 181, 183, 185, 187, 189] (by decide +kernel) (by decide +kernel)
set_option maxRecDepth 20000 in
theorem inX4 : ∀ w ∈ u_ws RX4 TX4 9, w ∈ LW := LWsub _ [255, 257, 259, 261, 263, 265, 267, 269, 271] (by decide +kernel) (by decide +kernel)
set_option maxRecDepth 20000 in
theorem inX5 : ∀ w ∈ u_ws RX5 TX5 24, w ∈ LW := LWsub _ [768, 770, 772, 774, 776, 778, 780, 782, 784, 786, 788, 790, 792, 794, 796, 798, 800, 802, 804, 806, 808, 810, 812, 814] (by decide +kernel) (by decide +kernel)
end
section
theorem wdNative : Cond.native arraycopyName ∈ LW := wd_215
theorem wdStatic : Cond.static arraycopyName ∈ LW := wd_214
theorem wdSystem : Cond.initialized "java/lang/System" ∈ LW := wd_65
theorem wdMath : Cond.initialized "java/lang/Math" ∈ LW := wd_66
theorem wdS_max : Cond.static Lib.Math.max.name ∈ LW := wd_240
theorem wdS_min : Cond.static Lib.Math.min.name ∈ LW := wd_217
theorem wdC_max : Cond.code Lib.Math.max.name Lib.Math.max.code 2 (some .int) ∈ LW := wd_241
theorem wdC_min : Cond.code Lib.Math.min.name Lib.Math.min.code 2 (some .int) ∈ LW := wd_218
/-! what the class takes as given beside its own cells: nest links, two static arrays, a text -/
def iT : List Int32 := [-1431655766, -858993460, -252645136, -16711936, -65536]
def oN : List Int32 := [1, 2, 2, 3, 2, 1]
def oL : List Int32 := [105, 103, 120, 109, 111, 112]
abbrev nwM : Cond := .methodLinkNest RX3 121 yX4_leastRow RX4
abbrev nwS : Cond := .fieldLinkNest RX2 59 RX4 "ORDER_NUMBERS" "[I" RX4
abbrev nwC : Cond := .fieldLinkNest RX0 44 RX4 "INPUT_TRUTHS" "[I" RX4
def NS (A : Nat → Prop) (U : State) (H : Heap) : Prop :=
  va_Nw nwM U ∧ va_Nw nwS U ∧ va_Nw nwC U ∧
  (∃ t : Nat, va_Z RX4 "INPUT_TRUTHS" "[I" (.ref t) A U H ∧ va_T .int t 5 (fun j => .int (iT.getD j 0)) A U H) ∧
  (∃ t : Nat, va_Z RX4 "ORDER_NUMBERS" "[I" (.ref t) A U H ∧ va_T .int t 6 (fun j => .int (oN.getD j 0)) A U H) ∧
  (∃ adK adV : Nat → Nat, vk_R RX2 48 "igxmop" (adK 0) U ∧ vk_S 1 [6] [oL] adK adV A U H) ∧
  va_Z "java/lang/String" "COMPACT_STRINGS" "Z" (.int 1) A U H
theorem NS.go {A B : Nat → Prop} {s U : State} {H : Heap} (h : NS A s s.heap) (hW : s.WarmedH U.vm) (hq : ∀ a : Nat, a < s.heap.size → ¬ A a → H[a]? = s.heap[a]?) (hAB : ∀ q, B q → A q) : NS B U H := by
  obtain ⟨h1, h2, h3, ⟨t, z1, t1⟩, ⟨t', z2, t2⟩, ⟨aK, aV, r, v⟩, z⟩ := h
  exact ⟨va_Nw.warmM hW h1, va_Nw.warmF hW h2, va_Nw.warmF hW h3, ⟨t, ((z1.moved hW.alike).kept hq).narrow hAB, ((t1.moved hW.alike).kept hq).narrow hAB⟩, ⟨t', ((z2.moved hW.alike).kept hq).narrow hAB, ((t2.moved hW.alike).kept hq).narrow hAB⟩, ⟨aK, aV, vk_R.warm hW r, ((v.moved hW.alike).kept hq).narrow hAB⟩, ((z.moved hW.alike).kept hq).narrow hAB⟩
theorem NS.same {A : Nat → Prop} {u U : State} {H : Heap} (hv : u.vm = U.vm) (h : NS A u H) : NS A U H := by
  have hal : u.vm.Alike U.vm := by rw [hv]; exact Vm.Alike.refl _
  obtain ⟨h1, h2, h3, ⟨t, z1, t1⟩, ⟨t', z2, t2⟩, ⟨aK, aV, r, v⟩, z⟩ := h
  exact ⟨va_Nw.same rfl hv h1, va_Nw.same rfl hv h2, va_Nw.same rfl hv h3, ⟨t, z1.moved hal, t1.moved hal⟩, ⟨t', z2.moved hal, t2.moved hal⟩, ⟨aK, aV, vk_R.same hv.symm r, v.moved hal⟩, z.moved hal⟩
abbrev tyG (cI cC : ClassId) : List (ClassId × FieldType) := [(cI, .int), (cC, .object RX0)]
/-- what stays the same through a method's walk -/
def Cx (p : Program) (R : Room) (s : State) (m : MethodId) (args : Array Value) (meth : Method) (c : Code) (cc : ByteArray) (nL : Nat) (own : String) (ret : Option FieldType) (D : va_G) (cI cC : ClassId) (A : Nat → Prop) (kc ks : Nat) : Prop :=
  p.tables.exec = Jvm.exec ∧ c.code = cc ∧ c.maxLocals = nL ∧ s.vm.findClass own = some m.cls ∧ (∀ w ∈ LW, w.before args s = true) ∧ va_K D vwCl (tyG cI cC) s ∧ (∀ q, s.heap.size ≤ q → A q) ∧ NS A s s.heap ∧ meth.sig.returnType = ret ∧ meth.locks = false ∧ kc ≤ R.cells ∧ ks ≤ R.slots
/-- the machine at pc with the cells ws, the locals lv, the stack st comes to Q -/
def V (p : Program) (l : Launch) (e : Env) (R : Room) (s : State) (m : MethodId) (args : Array Value) (below : List Frame) (meth : Method) (c : Code) (D : va_G) (A : Nat → Prop) (nL kc ks : Nat) (Q : State → Prop) (ws : va_W) (lv : List (Nat × Value)) (pc : Nat) (st : List Value) : Prop :=
  ∀ (H : Heap) (locs : List Loc) (ls : Array Slot), va_P D vwCl ws H → va_D A ws → va_S A s.heap H locs → lv_has ls nL lv → W p l e R s m args below meth c H locs kc ks Q (F0 m pc ls st)
section VR
variable {p : Program} {l : Launch} {e : Env} {R : Room} {s : State} {m : MethodId} {args : Array Value} {below : List Frame} {meth : Method} {c : Code} {cc : ByteArray} {nL : Nat} {own : String} {ret : Option FieldType} {D : va_G} {cI cC : ClassId} {A : Nat → Prop} {kc ks : Nat} {Q : State → Prop} {ws ws' : va_W} {lv lv' : List (Nat × Value)} {pc tgt : Nat} {st : List Value}
theorem V_iconst (C : Cx p R s m args meth c cc nL own ret D cI cC A kc ks) {n : Int} {v : Int32} (d : decode cc pc = .ok (.iconst n, 1)) (hv : Int32.ofInt n = v) (k : V p l e R s m args below meth c D A nL kc ks Q ws lv (pc + 1) (.int v :: st)) : V p l e R s m args below meth c D A nL kc ks Q ws lv pc st := fun H locs ls hP hD hS hl => lv_iconst C.1 C.2.1 d hv (k H locs ls hP hD hS hl)
theorem V_bipush (C : Cx p R s m args meth c cc nL own ret D cI cC A kc ks) {n : Int} {v : Int32} (d : decode cc pc = .ok (.bipush n, 2)) (hv : (Int8.ofInt n).toInt32 = v) (k : V p l e R s m args below meth c D A nL kc ks Q ws lv (pc + 2) (.int v :: st)) : V p l e R s m args below meth c D A nL kc ks Q ws lv pc st := fun H locs ls hP hD hS hl => lv_bipush C.1 C.2.1 d hv (k H locs ls hP hD hS hl)
theorem V_sipush (C : Cx p R s m args meth c cc nL own ret D cI cC A kc ks) {n : Int} {v : Int32} (d : decode cc pc = .ok (.sipush n, 3)) (hv : (Int16.ofInt n).toInt32 = v) (k : V p l e R s m args below meth c D A nL kc ks Q ws lv (pc + 3) (.int v :: st)) : V p l e R s m args below meth c D A nL kc ks Q ws lv pc st := fun H locs ls hP hD hS hl => lv_sipush C.1 C.2.1 d hv (k H locs ls hP hD hS hl)
theorem V_lconst (C : Cx p R s m args meth c cc nL own ret D cI cC A kc ks) {n : Fin 2} {v : Int64} (d : decode cc pc = .ok (.lconst n, 1)) (hv : Int64.ofNat (n : Nat) = v) (k : V p l e R s m args below meth c D A nL kc ks Q ws lv (pc + 1) (.long v :: st)) : V p l e R s m args below meth c D A nL kc ks Q ws lv pc st := fun H locs ls hP hD hS hl => lv_lconst C.1 C.2.1 d hv (k H locs ls hP hD hS hl)
theorem V_iload_n (C : Cx p R s m args meth c cc nL own ret D cI cC A kc ks) (j : Nat) {k4 : Fin 4} {i : Nat} {x : Int32} (d : decode cc pc = .ok (.iload_n k4, 1)) (hi : (k4 : Nat) = i) (hj : lv[j]? = some (i, .int x)) (k : V p l e R s m args below meth c D A nL kc ks Q ws lv (pc + 1) (.int x :: st)) : V p l e R s m args below meth c D A nL kc ks Q ws lv pc st := fun H locs ls hP hD hS hl => lv_iload_n C.1 C.2.1 d hi (lv_at hl j hj) (k H locs ls hP hD hS hl)
theorem V_iload (C : Cx p R s m args meth c cc nL own ret D cI cC A kc ks) (j : Nat) {i : Nat} {x : Int32} (d : decode cc pc = .ok (.iload i, 2)) (hj : lv[j]? = some (i, .int x)) (k : V p l e R s m args below meth c D A nL kc ks Q ws lv (pc + 2) (.int x :: st)) : V p l e R s m args below meth c D A nL kc ks Q ws lv pc st := fun H locs ls hP hD hS hl => lv_iload C.1 C.2.1 d (lv_at hl j hj) (k H locs ls hP hD hS hl)
theorem V_lload_n (C : Cx p R s m args meth c cc nL own ret D cI cC A kc ks) (j : Nat) {k4 : Fin 4} {i : Nat} {x : Int64} (d : decode cc pc = .ok (.lload_n k4, 1)) (hi : (k4 : Nat) = i) (hj : lv[j]? = some (i, .long x)) (k : V p l e R s m args below meth c D A nL kc ks Q ws lv (pc + 1) (.long x :: st)) : V p l e R s m args below meth c D A nL kc ks Q ws lv pc st := fun H locs ls hP hD hS hl => lv_lload_n C.1 C.2.1 d hi (lv_at hl j hj) (k H locs ls hP hD hS hl)
theorem V_lload (C : Cx p R s m args meth c cc nL own ret D cI cC A kc ks) (j : Nat) {i : Nat} {x : Int64} (d : decode cc pc = .ok (.lload i, 2)) (hj : lv[j]? = some (i, .long x)) (k : V p l e R s m args below meth c D A nL kc ks Q ws lv (pc + 2) (.long x :: st)) : V p l e R s m args below meth c D A nL kc ks Q ws lv pc st := fun H locs ls hP hD hS hl => lv_lload C.1 C.2.1 d (lv_at hl j hj) (k H locs ls hP hD hS hl)
theorem V_aload_n (C : Cx p R s m args meth c cc nL own ret D cI cC A kc ks) (j : Nat) {k4 : Fin 4} {i : Nat} {x : Nat} (d : decode cc pc = .ok (.aload_n k4, 1)) (hi : (k4 : Nat) = i) (hj : lv[j]? = some (i, .ref x)) (k : V p l e R s m args below meth c D A nL kc ks Q ws lv (pc + 1) (.ref x :: st)) : V p l e R s m args below meth c D A nL kc ks Q ws lv pc st := fun H locs ls hP hD hS hl => lv_aload_n C.1 C.2.1 d hi (lv_at hl j hj) (k H locs ls hP hD hS hl)
theorem V_aload (C : Cx p R s m args meth c cc nL own ret D cI cC A kc ks) (j : Nat) {i : Nat} {x : Nat} (d : decode cc pc = .ok (.aload i, 2)) (hj : lv[j]? = some (i, .ref x)) (k : V p l e R s m args below meth c D A nL kc ks Q ws lv (pc + 2) (.ref x :: st)) : V p l e R s m args below meth c D A nL kc ks Q ws lv pc st := fun H locs ls hP hD hS hl => lv_aload C.1 C.2.1 d (lv_at hl j hj) (k H locs ls hP hD hS hl)
theorem V_istore_n (C : Cx p R s m args meth c cc nL own ret D cI cC A kc ks) {k4 : Fin 4} {i : Nat} (d : decode cc pc = .ok (.istore_n k4, 1)) (hi : (k4 : Nat) = i) {x : Int32} (jj : List Nat) (hn : i < nL) (hp : lv_pick ((i, Value.int x) :: lv.filter (fun q => !(q.1 == i) && !(q.1 + 1 == i && q.2.category == 2))) jj = lv') (k : V p l e R s m args below meth c D A nL kc ks Q ws lv' (pc + 1) st) : V p l e R s m args below meth c D A nL kc ks Q ws lv pc (.int x :: st) := fun H locs ls hP hD hS hl => lv_istore_n C.1 C.2.1 d hi hl hn rfl (fun ls' hl' => k H locs ls' hP hD hS (lv_sub hl' jj hp))
theorem V_istore (C : Cx p R s m args meth c cc nL own ret D cI cC A kc ks) {i : Nat} (d : decode cc pc = .ok (.istore i, 2)) {x : Int32} (jj : List Nat) (hn : i < nL) (hp : lv_pick ((i, Value.int x) :: lv.filter (fun q => !(q.1 == i) && !(q.1 + 1 == i && q.2.category == 2))) jj = lv') (k : V p l e R s m args below meth c D A nL kc ks Q ws lv' (pc + 2) st) : V p l e R s m args below meth c D A nL kc ks Q ws lv pc (.int x :: st) := fun H locs ls hP hD hS hl => lv_istore C.1 C.2.1 d hl hn rfl (fun ls' hl' => k H locs ls' hP hD hS (lv_sub hl' jj hp))
theorem V_lstore_n (C : Cx p R s m args meth c cc nL own ret D cI cC A kc ks) {k4 : Fin 4} {i : Nat} (d : decode cc pc = .ok (.lstore_n k4, 1)) (hi : (k4 : Nat) = i) {x : Int64} (jj : List Nat) (hn : i + 1 < nL) (hp : lv_pick ((i, Value.long x) :: lv.filter (fun q => !(q.1 == i) && (!(q.1 == i + 1) && !(q.1 + 1 == i && q.2.category == 2)))) jj = lv') (k : V p l e R s m args below meth c D A nL kc ks Q ws lv' (pc + 1) st) : V p l e R s m args below meth c D A nL kc ks Q ws lv pc (.long x :: st) := fun H locs ls hP hD hS hl => lv_lstore_n C.1 C.2.1 d hi hl hn rfl (fun ls' hl' => k H locs ls' hP hD hS (lv_sub hl' jj hp))
theorem V_lstore (C : Cx p R s m args meth c cc nL own ret D cI cC A kc ks) {i : Nat} (d : decode cc pc = .ok (.lstore i, 2)) {x : Int64} (jj : List Nat) (hn : i + 1 < nL) (hp : lv_pick ((i, Value.long x) :: lv.filter (fun q => !(q.1 == i) && (!(q.1 == i + 1) && !(q.1 + 1 == i && q.2.category == 2)))) jj = lv') (k : V p l e R s m args below meth c D A nL kc ks Q ws lv' (pc + 2) st) : V p l e R s m args below meth c D A nL kc ks Q ws lv pc (.long x :: st) := fun H locs ls hP hD hS hl => lv_lstore C.1 C.2.1 d hl hn rfl (fun ls' hl' => k H locs ls' hP hD hS (lv_sub hl' jj hp))
theorem V_astore_n (C : Cx p R s m args meth c cc nL own ret D cI cC A kc ks) {k4 : Fin 4} {i : Nat} (d : decode cc pc = .ok (.astore_n k4, 1)) (hi : (k4 : Nat) = i) {x : Nat} (jj : List Nat) (hn : i < nL) (hp : lv_pick ((i, Value.ref x) :: lv.filter (fun q => !(q.1 == i) && !(q.1 + 1 == i && q.2.category == 2))) jj = lv') (k : V p l e R s m args below meth c D A nL kc ks Q ws lv' (pc + 1) st) : V p l e R s m args below meth c D A nL kc ks Q ws lv pc (.ref x :: st) := fun H locs ls hP hD hS hl => lv_astore_n C.1 C.2.1 d hi hl hn rfl (fun ls' hl' => k H locs ls' hP hD hS (lv_sub hl' jj hp))
theorem V_astore (C : Cx p R s m args meth c cc nL own ret D cI cC A kc ks) {i : Nat} (d : decode cc pc = .ok (.astore i, 2)) {x : Nat} (jj : List Nat) (hn : i < nL) (hp : lv_pick ((i, Value.ref x) :: lv.filter (fun q => !(q.1 == i) && !(q.1 + 1 == i && q.2.category == 2))) jj = lv') (k : V p l e R s m args below meth c D A nL kc ks Q ws lv' (pc + 2) st) : V p l e R s m args below meth c D A nL kc ks Q ws lv pc (.ref x :: st) := fun H locs ls hP hD hS hl => lv_astore C.1 C.2.1 d hl hn rfl (fun ls' hl' => k H locs ls' hP hD hS (lv_sub hl' jj hp))
theorem V_iinc (C : Cx p R s m args meth c cc nL own ret D cI cC A kc ks) {i j : Nat} {n : Int} {x v : Int32} (d : decode cc pc = .ok (.iinc i n, 3)) (hj : lv[j]? = some (i, .int x)) (hv : x + Int32.ofInt n = v) (jj : List Nat) (hn : i < nL) (hp : lv_pick ((i, Value.int v) :: lv.filter (fun q => !(q.1 == i) && !(q.1 + 1 == i && q.2.category == 2))) jj = lv') (k : V p l e R s m args below meth c D A nL kc ks Q ws lv' (pc + 3) st) : V p l e R s m args below meth c D A nL kc ks Q ws lv pc st := fun H locs ls hP hD hS hl => lv_iinc C.1 C.2.1 d hl hj hv hn rfl (fun ls' hl' => k H locs ls' hP hD hS (lv_sub hl' jj hp))
theorem V_lv (jj : List Nat) (hp : lv_pick lv jj = lv') (k : V p l e R s m args below meth c D A nL kc ks Q ws lv' pc st) : V p l e R s m args below meth c D A nL kc ks Q ws lv pc st := fun H locs ls hP hD hS hl => k H locs ls hP hD hS (lv_sub hl jj hp)
theorem V_iadd (C : Cx p R s m args meth c cc nL own ret D cI cC A kc ks) {x y : Int32} (d : decode cc pc = .ok (.iadd, 1)) (k : V p l e R s m args below meth c D A nL kc ks Q ws lv (pc + 1) (.int (x + y) :: st)) : V p l e R s m args below meth c D A nL kc ks Q ws lv pc (.int y :: .int x :: st) := fun H locs ls hP hD hS hl => lv_iadd C.1 C.2.1 d (k H locs ls hP hD hS hl)
theorem V_isub (C : Cx p R s m args meth c cc nL own ret D cI cC A kc ks) {x y : Int32} (d : decode cc pc = .ok (.isub, 1)) (k : V p l e R s m args below meth c D A nL kc ks Q ws lv (pc + 1) (.int (x - y) :: st)) : V p l e R s m args below meth c D A nL kc ks Q ws lv pc (.int y :: .int x :: st) := fun H locs ls hP hD hS hl => lv_isub C.1 C.2.1 d (k H locs ls hP hD hS hl)
theorem V_imul (C : Cx p R s m args meth c cc nL own ret D cI cC A kc ks) {x y : Int32} (d : decode cc pc = .ok (.imul, 1)) (k : V p l e R s m args below meth c D A nL kc ks Q ws lv (pc + 1) (.int (x * y) :: st)) : V p l e R s m args below meth c D A nL kc ks Q ws lv pc (.int y :: .int x :: st) := fun H locs ls hP hD hS hl => lv_imul C.1 C.2.1 d (k H locs ls hP hD hS hl)
theorem V_iand (C : Cx p R s m args meth c cc nL own ret D cI cC A kc ks) {x y : Int32} (d : decode cc pc = .ok (.iand, 1)) (k : V p l e R s m args below meth c D A nL kc ks Q ws lv (pc + 1) (.int (x &&& y) :: st)) : V p l e R s m args below meth c D A nL kc ks Q ws lv pc (.int y :: .int x :: st) := fun H locs ls hP hD hS hl => lv_iand C.1 C.2.1 d (k H locs ls hP hD hS hl)
theorem V_ior (C : Cx p R s m args meth c cc nL own ret D cI cC A kc ks) {x y : Int32} (d : decode cc pc = .ok (.ior, 1)) (k : V p l e R s m args below meth c D A nL kc ks Q ws lv (pc + 1) (.int (x ||| y) :: st)) : V p l e R s m args below meth c D A nL kc ks Q ws lv pc (.int y :: .int x :: st) := fun H locs ls hP hD hS hl => lv_ior C.1 C.2.1 d (k H locs ls hP hD hS hl)
theorem V_ixor (C : Cx p R s m args meth c cc nL own ret D cI cC A kc ks) {x y : Int32} (d : decode cc pc = .ok (.ixor, 1)) (k : V p l e R s m args below meth c D A nL kc ks Q ws lv (pc + 1) (.int (x ^^^ y) :: st)) : V p l e R s m args below meth c D A nL kc ks Q ws lv pc (.int y :: .int x :: st) := fun H locs ls hP hD hS hl => lv_ixor C.1 C.2.1 d (k H locs ls hP hD hS hl)
theorem V_ishl (C : Cx p R s m args meth c cc nL own ret D cI cC A kc ks) {x y : Int32} (d : decode cc pc = .ok (.ishl, 1)) (k : V p l e R s m args below meth c D A nL kc ks Q ws lv (pc + 1) (.int (x <<< (y &&& 31)) :: st)) : V p l e R s m args below meth c D A nL kc ks Q ws lv pc (.int y :: .int x :: st) := fun H locs ls hP hD hS hl => lv_ishl C.1 C.2.1 d (k H locs ls hP hD hS hl)
theorem V_ishr (C : Cx p R s m args meth c cc nL own ret D cI cC A kc ks) {x y : Int32} (d : decode cc pc = .ok (.ishr, 1)) (k : V p l e R s m args below meth c D A nL kc ks Q ws lv (pc + 1) (.int (x >>> (y &&& 31)) :: st)) : V p l e R s m args below meth c D A nL kc ks Q ws lv pc (.int y :: .int x :: st) := fun H locs ls hP hD hS hl => lv_ishr C.1 C.2.1 d (k H locs ls hP hD hS hl)
theorem V_idiv (C : Cx p R s m args meth c cc nL own ret D cI cC A kc ks) {x y : Int32} (d : decode cc pc = .ok (.idiv, 1)) (hne : ¬ y = 0) (k : V p l e R s m args below meth c D A nL kc ks Q ws lv (pc + 1) (.int (x / y) :: st)) : V p l e R s m args below meth c D A nL kc ks Q ws lv pc (.int y :: .int x :: st) := fun H locs ls hP hD hS hl => lv_idiv C.1 C.2.1 d hne (k H locs ls hP hD hS hl)
theorem V_irem (C : Cx p R s m args meth c cc nL own ret D cI cC A kc ks) {x y : Int32} (d : decode cc pc = .ok (.irem, 1)) (hne : ¬ y = 0) (k : V p l e R s m args below meth c D A nL kc ks Q ws lv (pc + 1) (.int (x - x / y * y) :: st)) : V p l e R s m args below meth c D A nL kc ks Q ws lv pc (.int y :: .int x :: st) := fun H locs ls hP hD hS hl => lv_irem C.1 C.2.1 d hne (k H locs ls hP hD hS hl)
theorem V_iushr (C : Cx p R s m args meth c cc nL own ret D cI cC A kc ks) {x y : Int32} (d : decode cc pc = .ok (.iushr, 1)) (k : V p l e R s m args below meth c D A nL kc ks Q ws lv (pc + 1) (.int (x.toUInt32 >>> (y.toUInt32 &&& Int32.toUInt32 31)).toInt32 :: st)) : V p l e R s m args below meth c D A nL kc ks Q ws lv pc (.int y :: .int x :: st) := fun H locs ls hP hD hS hl => lv_iushr C.1 C.2.1 d rfl (k H locs ls hP hD hS hl)
theorem V_lushr (C : Cx p R s m args meth c cc nL own ret D cI cC A kc ks) {x : Int64} {y : Int32} (d : decode cc pc = .ok (.lushr, 1)) (k : V p l e R s m args below meth c D A nL kc ks Q ws lv (pc + 1) (.long (x.toUInt64 >>> (y.toInt64.toUInt64 &&& Int64.toUInt64 63)).toInt64 :: st)) : V p l e R s m args below meth c D A nL kc ks Q ws lv pc (.int y :: .long x :: st) := fun H locs ls hP hD hS hl => lv_lushr C.1 C.2.1 d rfl (k H locs ls hP hD hS hl)
theorem V_lshl (C : Cx p R s m args meth c cc nL own ret D cI cC A kc ks) {x : Int64} {y : Int32} (d : decode cc pc = .ok (.lshl, 1)) (k : V p l e R s m args below meth c D A nL kc ks Q ws lv (pc + 1) (.long (x <<< (y.toInt64 &&& 63)) :: st)) : V p l e R s m args below meth c D A nL kc ks Q ws lv pc (.int y :: .long x :: st) := fun H locs ls hP hD hS hl => lv_lshl C.1 C.2.1 d rfl (k H locs ls hP hD hS hl)
theorem V_lshr (C : Cx p R s m args meth c cc nL own ret D cI cC A kc ks) {x : Int64} {y : Int32} (d : decode cc pc = .ok (.lshr, 1)) (k : V p l e R s m args below meth c D A nL kc ks Q ws lv (pc + 1) (.long (x >>> (y.toInt64 &&& 63)) :: st)) : V p l e R s m args below meth c D A nL kc ks Q ws lv pc (.int y :: .long x :: st) := fun H locs ls hP hD hS hl => lv_lshr C.1 C.2.1 d rfl (k H locs ls hP hD hS hl)
theorem V_ladd (C : Cx p R s m args meth c cc nL own ret D cI cC A kc ks) {x y : Int64} (d : decode cc pc = .ok (.ladd, 1)) (k : V p l e R s m args below meth c D A nL kc ks Q ws lv (pc + 1) (.long (x + y) :: st)) : V p l e R s m args below meth c D A nL kc ks Q ws lv pc (.long y :: .long x :: st) := fun H locs ls hP hD hS hl => lv_ladd C.1 C.2.1 d (k H locs ls hP hD hS hl)
theorem V_lmul (C : Cx p R s m args meth c cc nL own ret D cI cC A kc ks) {x y : Int64} (d : decode cc pc = .ok (.lmul, 1)) (k : V p l e R s m args below meth c D A nL kc ks Q ws lv (pc + 1) (.long (x * y) :: st)) : V p l e R s m args below meth c D A nL kc ks Q ws lv pc (.long y :: .long x :: st) := fun H locs ls hP hD hS hl => lv_lmul C.1 C.2.1 d (k H locs ls hP hD hS hl)
theorem V_land (C : Cx p R s m args meth c cc nL own ret D cI cC A kc ks) {x y : Int64} (d : decode cc pc = .ok (.land, 1)) (k : V p l e R s m args below meth c D A nL kc ks Q ws lv (pc + 1) (.long (x &&& y) :: st)) : V p l e R s m args below meth c D A nL kc ks Q ws lv pc (.long y :: .long x :: st) := fun H locs ls hP hD hS hl => lv_land C.1 C.2.1 d (k H locs ls hP hD hS hl)
theorem V_lor (C : Cx p R s m args meth c cc nL own ret D cI cC A kc ks) {x y : Int64} (d : decode cc pc = .ok (.lor, 1)) (k : V p l e R s m args below meth c D A nL kc ks Q ws lv (pc + 1) (.long (x ||| y) :: st)) : V p l e R s m args below meth c D A nL kc ks Q ws lv pc (.long y :: .long x :: st) := fun H locs ls hP hD hS hl => lv_lor C.1 C.2.1 d (k H locs ls hP hD hS hl)
theorem V_i2l (C : Cx p R s m args meth c cc nL own ret D cI cC A kc ks) {x : Int32} (d : decode cc pc = .ok (.i2l, 1)) (k : V p l e R s m args below meth c D A nL kc ks Q ws lv (pc + 1) (.long x.toInt64 :: st)) : V p l e R s m args below meth c D A nL kc ks Q ws lv pc (.int x :: st) := fun H locs ls hP hD hS hl => lv_i2l C.1 C.2.1 d rfl (k H locs ls hP hD hS hl)
theorem V_i2c (C : Cx p R s m args meth c cc nL own ret D cI cC A kc ks) {x : Int32} (d : decode cc pc = .ok (.i2c, 1)) (k : V p l e R s m args below meth c D A nL kc ks Q ws lv (pc + 1) (.int (x.toUInt32 % 65536).toInt32 :: st)) : V p l e R s m args below meth c D A nL kc ks Q ws lv pc (.int x :: st) := fun H locs ls hP hD hS hl => lv_i2c C.1 C.2.1 d rfl (k H locs ls hP hD hS hl)
theorem V_lcmp (C : Cx p R s m args meth c cc nL own ret D cI cC A kc ks) {x y : Int64} (d : decode cc pc = .ok (.lcmp, 1)) (k : V p l e R s m args below meth c D A nL kc ks Q ws lv (pc + 1) (.int (lg_cmp x y) :: st)) : V p l e R s m args below meth c D A nL kc ks Q ws lv pc (.long y :: .long x :: st) := fun H locs ls hP hD hS hl => W.lcmp C.1 C.2.1 d (k H locs ls hP hD hS hl)
theorem V_dup (C : Cx p R s m args meth c cc nL own ret D cI cC A kc ks) {va : Value} (d : decode cc pc = .ok (.dup, 1)) (h1 : va.category = 1) (k : V p l e R s m args below meth c D A nL kc ks Q ws lv (pc + 1) (va :: va :: st)) : V p l e R s m args below meth c D A nL kc ks Q ws lv pc (va :: st) := fun H locs ls hP hD hS hl => lv_dup C.1 C.2.1 d h1 (k H locs ls hP hD hS hl)
theorem V_pop (C : Cx p R s m args meth c cc nL own ret D cI cC A kc ks) {va : Value} (d : decode cc pc = .ok (.pop, 1)) (h1 : va.category = 1) (k : V p l e R s m args below meth c D A nL kc ks Q ws lv (pc + 1) st) : V p l e R s m args below meth c D A nL kc ks Q ws lv pc (va :: st) := fun H locs ls hP hD hS hl => lv_pop C.1 C.2.1 d h1 (k H locs ls hP hD hS hl)
theorem V_dup2 (C : Cx p R s m args meth c cc nL own ret D cI cC A kc ks) {va vb : Value} (d : decode cc pc = .ok (.dup2, 1)) (h1 : va.category = 1) (h2 : vb.category = 1) (k : V p l e R s m args below meth c D A nL kc ks Q ws lv (pc + 1) (va :: vb :: va :: vb :: st)) : V p l e R s m args below meth c D A nL kc ks Q ws lv pc (va :: vb :: st) := fun H locs ls hP hD hS hl => lv_dup2_11 C.1 C.2.1 d h1 h2 (k H locs ls hP hD hS hl)
theorem V_goto (C : Cx p R s m args meth c cc nL own ret D cI cC A kc ks) {off : Int} (d : decode cc pc = .ok (.goto off, 3)) (ht : (pc : Int) + off = (tgt : Int)) (k : V p l e R s m args below meth c D A nL kc ks Q ws lv tgt st) : V p l e R s m args below meth c D A nL kc ks Q ws lv pc st := fun H locs ls hP hD hS hl => lv_goto C.1 C.2.1 d ht (k H locs ls hP hD hS hl)
theorem V_if_eq (C : Cx p R s m args meth c cc nL own ret D cI cC A kc ks) {x : Int32} {off : Int} (d : decode cc pc = .ok (.ifCond .eq off, 3)) (ht : (pc : Int) + off = (tgt : Int)) (kt : x = 0 → V p l e R s m args below meth c D A nL kc ks Q ws lv tgt st) (kf : ¬ (x = 0) → V p l e R s m args below meth c D A nL kc ks Q ws lv (pc + 3) st) : V p l e R s m args below meth c D A nL kc ks Q ws lv pc (.int x :: st) := fun H locs ls hP hD hS hl => lv_if_eq C.1 C.2.1 d ht (fun h => kt h H locs ls hP hD hS hl) (fun h => kf h H locs ls hP hD hS hl)
theorem V_icmp_eq (C : Cx p R s m args meth c cc nL own ret D cI cC A kc ks) {x y : Int32} {off : Int} (d : decode cc pc = .ok (.if_icmp .eq off, 3)) (ht : (pc : Int) + off = (tgt : Int)) (kt : x = y → V p l e R s m args below meth c D A nL kc ks Q ws lv tgt st) (kf : ¬ (x = y) → V p l e R s m args below meth c D A nL kc ks Q ws lv (pc + 3) st) : V p l e R s m args below meth c D A nL kc ks Q ws lv pc (.int y :: .int x :: st) := fun H locs ls hP hD hS hl => lv_icmp_eq C.1 C.2.1 d ht (fun h => kt h H locs ls hP hD hS hl) (fun h => kf h H locs ls hP hD hS hl)
theorem V_if_ne (C : Cx p R s m args meth c cc nL own ret D cI cC A kc ks) {x : Int32} {off : Int} (d : decode cc pc = .ok (.ifCond .ne off, 3)) (ht : (pc : Int) + off = (tgt : Int)) (kt : ¬ x = 0 → V p l e R s m args below meth c D A nL kc ks Q ws lv tgt st) (kf : x = 0 → V p l e R s m args below meth c D A nL kc ks Q ws lv (pc + 3) st) : V p l e R s m args below meth c D A nL kc ks Q ws lv pc (.int x :: st) := fun H locs ls hP hD hS hl => lv_if_ne C.1 C.2.1 d ht (fun h => kt h H locs ls hP hD hS hl) (fun h => kf h H locs ls hP hD hS hl)
theorem V_icmp_ne (C : Cx p R s m args meth c cc nL own ret D cI cC A kc ks) {x y : Int32} {off : Int} (d : decode cc pc = .ok (.if_icmp .ne off, 3)) (ht : (pc : Int) + off = (tgt : Int)) (kt : ¬ x = y → V p l e R s m args below meth c D A nL kc ks Q ws lv tgt st) (kf : x = y → V p l e R s m args below meth c D A nL kc ks Q ws lv (pc + 3) st) : V p l e R s m args below meth c D A nL kc ks Q ws lv pc (.int y :: .int x :: st) := fun H locs ls hP hD hS hl => lv_icmp_ne C.1 C.2.1 d ht (fun h => kt h H locs ls hP hD hS hl) (fun h => kf h H locs ls hP hD hS hl)
theorem V_if_lt (C : Cx p R s m args meth c cc nL own ret D cI cC A kc ks) {x : Int32} {off : Int} (d : decode cc pc = .ok (.ifCond .lt off, 3)) (ht : (pc : Int) + off = (tgt : Int)) (kt : x < 0 → V p l e R s m args below meth c D A nL kc ks Q ws lv tgt st) (kf : ¬ (x < 0) → V p l e R s m args below meth c D A nL kc ks Q ws lv (pc + 3) st) : V p l e R s m args below meth c D A nL kc ks Q ws lv pc (.int x :: st) := fun H locs ls hP hD hS hl => lv_if_lt C.1 C.2.1 d ht (fun h => kt h H locs ls hP hD hS hl) (fun h => kf h H locs ls hP hD hS hl)
theorem V_icmp_lt (C : Cx p R s m args meth c cc nL own ret D cI cC A kc ks) {x y : Int32} {off : Int} (d : decode cc pc = .ok (.if_icmp .lt off, 3)) (ht : (pc : Int) + off = (tgt : Int)) (kt : x < y → V p l e R s m args below meth c D A nL kc ks Q ws lv tgt st) (kf : ¬ (x < y) → V p l e R s m args below meth c D A nL kc ks Q ws lv (pc + 3) st) : V p l e R s m args below meth c D A nL kc ks Q ws lv pc (.int y :: .int x :: st) := fun H locs ls hP hD hS hl => lv_icmp_lt C.1 C.2.1 d ht (fun h => kt h H locs ls hP hD hS hl) (fun h => kf h H locs ls hP hD hS hl)
theorem V_if_ge (C : Cx p R s m args meth c cc nL own ret D cI cC A kc ks) {x : Int32} {off : Int} (d : decode cc pc = .ok (.ifCond .ge off, 3)) (ht : (pc : Int) + off = (tgt : Int)) (kt : 0 ≤ x → V p l e R s m args below meth c D A nL kc ks Q ws lv tgt st) (kf : ¬ (0 ≤ x) → V p l e R s m args below meth c D A nL kc ks Q ws lv (pc + 3) st) : V p l e R s m args below meth c D A nL kc ks Q ws lv pc (.int x :: st) := fun H locs ls hP hD hS hl => lv_if_ge C.1 C.2.1 d ht (fun h => kt h H locs ls hP hD hS hl) (fun h => kf h H locs ls hP hD hS hl)
theorem V_icmp_ge (C : Cx p R s m args meth c cc nL own ret D cI cC A kc ks) {x y : Int32} {off : Int} (d : decode cc pc = .ok (.if_icmp .ge off, 3)) (ht : (pc : Int) + off = (tgt : Int)) (kt : y ≤ x → V p l e R s m args below meth c D A nL kc ks Q ws lv tgt st) (kf : ¬ (y ≤ x) → V p l e R s m args below meth c D A nL kc ks Q ws lv (pc + 3) st) : V p l e R s m args below meth c D A nL kc ks Q ws lv pc (.int y :: .int x :: st) := fun H locs ls hP hD hS hl => lv_icmp_ge C.1 C.2.1 d ht (fun h => kt h H locs ls hP hD hS hl) (fun h => kf h H locs ls hP hD hS hl)
theorem V_if_gt (C : Cx p R s m args meth c cc nL own ret D cI cC A kc ks) {x : Int32} {off : Int} (d : decode cc pc = .ok (.ifCond .gt off, 3)) (ht : (pc : Int) + off = (tgt : Int)) (kt : 0 < x → V p l e R s m args below meth c D A nL kc ks Q ws lv tgt st) (kf : ¬ (0 < x) → V p l e R s m args below meth c D A nL kc ks Q ws lv (pc + 3) st) : V p l e R s m args below meth c D A nL kc ks Q ws lv pc (.int x :: st) := fun H locs ls hP hD hS hl => lv_if_gt C.1 C.2.1 d ht (fun h => kt h H locs ls hP hD hS hl) (fun h => kf h H locs ls hP hD hS hl)
theorem V_icmp_gt (C : Cx p R s m args meth c cc nL own ret D cI cC A kc ks) {x y : Int32} {off : Int} (d : decode cc pc = .ok (.if_icmp .gt off, 3)) (ht : (pc : Int) + off = (tgt : Int)) (kt : y < x → V p l e R s m args below meth c D A nL kc ks Q ws lv tgt st) (kf : ¬ (y < x) → V p l e R s m args below meth c D A nL kc ks Q ws lv (pc + 3) st) : V p l e R s m args below meth c D A nL kc ks Q ws lv pc (.int y :: .int x :: st) := fun H locs ls hP hD hS hl => lv_icmp_gt C.1 C.2.1 d ht (fun h => kt h H locs ls hP hD hS hl) (fun h => kf h H locs ls hP hD hS hl)
theorem V_if_le (C : Cx p R s m args meth c cc nL own ret D cI cC A kc ks) {x : Int32} {off : Int} (d : decode cc pc = .ok (.ifCond .le off, 3)) (ht : (pc : Int) + off = (tgt : Int)) (kt : x ≤ 0 → V p l e R s m args below meth c D A nL kc ks Q ws lv tgt st) (kf : ¬ (x ≤ 0) → V p l e R s m args below meth c D A nL kc ks Q ws lv (pc + 3) st) : V p l e R s m args below meth c D A nL kc ks Q ws lv pc (.int x :: st) := fun H locs ls hP hD hS hl => lv_if_le C.1 C.2.1 d ht (fun h => kt h H locs ls hP hD hS hl) (fun h => kf h H locs ls hP hD hS hl)
theorem V_icmp_le (C : Cx p R s m args meth c cc nL own ret D cI cC A kc ks) {x y : Int32} {off : Int} (d : decode cc pc = .ok (.if_icmp .le off, 3)) (ht : (pc : Int) + off = (tgt : Int)) (kt : x ≤ y → V p l e R s m args below meth c D A nL kc ks Q ws lv tgt st) (kf : ¬ (x ≤ y) → V p l e R s m args below meth c D A nL kc ks Q ws lv (pc + 3) st) : V p l e R s m args below meth c D A nL kc ks Q ws lv pc (.int y :: .int x :: st) := fun H locs ls hP hD hS hl => lv_icmp_le C.1 C.2.1 d ht (fun h => kt h H locs ls hP hD hS hl) (fun h => kf h H locs ls hP hD hS hl)
theorem V_tableIn (C : Cx p R s m args meth c cc nL own ret D cI cC A kc ks) {dflt lo hi : Int} {offs : Array Int} {len : Nat} {x : Int32} {off : Int} (d : decode cc pc = .ok (.tableswitch dflt lo hi offs, len)) (h1 : ¬ x.toInt < lo) (h2 : ¬ hi < x.toInt) (ho : offs[(x.toInt - lo).toNat]? = some off) (ht : (pc : Int) + off = (tgt : Int)) (k : V p l e R s m args below meth c D A nL kc ks Q ws lv tgt st) : V p l e R s m args below meth c D A nL kc ks Q ws lv pc (.int x :: st) := fun H locs ls hP hD hS hl => lv_tableIn C.1 C.2.1 d h1 h2 ho ht (k H locs ls hP hD hS hl)
theorem V_tableOut (C : Cx p R s m args meth c cc nL own ret D cI cC A kc ks) {dflt lo hi : Int} {offs : Array Int} {len : Nat} {x : Int32} (d : decode cc pc = .ok (.tableswitch dflt lo hi offs, len)) (h1 : x.toInt < lo ∨ hi < x.toInt) (ht : (pc : Int) + dflt = (tgt : Int)) (k : V p l e R s m args below meth c D A nL kc ks Q ws lv tgt st) : V p l e R s m args below meth c D A nL kc ks Q ws lv pc (.int x :: st) := fun H locs ls hP hD hS hl => lv_tableOut C.1 C.2.1 d h1 ht (k H locs ls hP hD hS hl)
theorem V_lookup (C : Cx p R s m args meth c cc nL own ret D cI cC A kc ks) {dflt : Int} {ps : Array (Int × Int)} {len : Nat} {x : Int32} {off : Int} (d : decode cc pc = .ok (.lookupswitch dflt ps, len)) (hp : (ps.toList.zip (ps.toList.drop 1)).all (fun (a, next) => a.1 < next.1) = true) (ho : Op.lookupswitch.offset ps.toList dflt x.toInt = off) (ht : (pc : Int) + off = (tgt : Int)) (k : V p l e R s m args below meth c D A nL kc ks Q ws lv tgt st) : V p l e R s m args below meth c D A nL kc ks Q ws lv pc (.int x :: st) := fun H locs ls hP hD hS hl => lv_lookup C.1 C.2.1 d hp ho ht (k H locs ls hP hD hS hl)
theorem V_ldc2 (C : Cx p R s m args meth c cc nL own ret D cI cC A kc ks) {i : Nat} {v : Int64} (hk : Cond.constantLong own i v ∈ LW) (d : decode cc pc = .ok (.ldc2_w i, 3)) (k : V p l e R s m args below meth c D A nL kc ks Q ws lv (pc + 3) (.long v :: st)) : V p l e R s m args below meth c D A nL kc ks Q ws lv pc st := fun H locs ls hP hD hS hl => lv_ldc2 C.1 C.2.1 C.2.2.2.1 (C.2.2.2.2.1 _ hk) d (k H locs ls hP hD hS hl)
theorem V_get (C : Cx p R s m args meth c cc nL own ret D cI cC A kc ks) {a ci N index : Nat} {fs : List Value} {Cn ref : String} {T : u_T} {v : Value} (q0 k0 : Nat) (hin : ∀ w ∈ u_ws Cn T N, w ∈ LW) (hk : Cond.fieldLink own index ref (T k0).2.1 (T k0).2.2.1 ∈ LW) (d : decode cc pc = .ok (.getfield index, 3)) (he : ws[q0]? = some (a, .inr (ci, fs))) (hc : vwCl[ci]? = some (Cn, T, N)) (hkN : k0 < N) (hr : (T k0).1 = ref) (hv : fs[k0]? = some v) (k : V p l e R s m args below meth c D A nL kc ks Q ws lv (pc + 3) (v :: st)) : V p l e R s m args below meth c D A nL kc ks Q ws lv pc (.ref a :: st) :=
  fun H locs ls hP hD hS hl => va_get C.1 C.2.1 C.2.2.2.2.1 hin C.2.2.2.1 C.2.2.2.2.2.1 hP q0 he hc k0 hkN (C.2.2.2.2.1 _ hk) (fun x hx => by rw [← hr]; exact hx) hv d (k H locs ls hP hD hS hl)
theorem V_put (C : Cx p R s m args meth c cc nL own ret D cI cC A kc ks) {a ci N index : Nat} {fs fs' : List Value} {Cn ref : String} {T : u_T} {v : Value} {ty : FieldType} {tf : Nat → FieldType} (q0 k0 : Nat) (hin : ∀ w ∈ u_ws Cn T N, w ∈ LW) (hty : ∀ k, k < N → parseFieldDescriptor (T k).2.2.1 = some (tf k)) (hnm : ∀ a, a < N → ∀ b, b < N → a ≠ b → (T a).2.1 ≠ (T b).2.1) (hk : Cond.fieldLink own index ref (T k0).2.1 (T k0).2.2.1 ∈ LW) (d : decode cc pc = .ok (.putfield index, 3)) (he : ws[q0]? = some (a, .inr (ci, fs))) (hc : vwCl[ci]? = some (Cn, T, N)) (hkN : k0 < N) (hr : (T k0).1 = ref) (hfin : (T k0).2.2.2 = false) (ht : tf k0 = ty) (hn : narrow ty v = v) (hf : fits ty v = true) (hl0 : k0 < fs.length) (hw : ws.set q0 (a, .inr (ci, fs.set k0 v)) = ws') (k : V p l e R s m args below meth c D A nL kc ks Q ws' lv (pc + 3) st) : V p l e R s m args below meth c D A nL kc ks Q ws lv pc (v :: .ref a :: st) :=
  fun H locs ls hP hD hS hl => va_put C.1 C.2.1 C.2.2.2.2.1 hin tf hty hnm C.2.2.2.1 C.2.2.2.2.2.1 hP hD hS q0 he hc k0 hkN (C.2.2.2.2.1 _ hk) (fun x hx => by rw [← hr]; exact hx) hfin (by rw [hty k0 hkN, ht]) hn hf hl0 d (fun H1 locs1 hP1 hD1 hS1 => by rw [hw] at hP1 hD1; exact k H1 locs1 ls hP1 hD1 hS1 hl)
theorem V_iald (C : Cx p R s m args meth c cc nL own ret D cI cC A kc ks) {a n : Nat} {f : Nat → Int32} {i : Int32} (q0 : Nat) (d : decode cc pc = .ok (.iaload, 1)) (he : ws[q0]? = some (a, .inl (cI, n, .inl f))) (hb : vp_in i n) (k : V p l e R s m args below meth c D A nL kc ks Q ws lv (pc + 1) (.int (f i.toNatClampNeg) :: st)) : V p l e R s m args below meth c D A nL kc ks Q ws lv pc (.int i :: .ref a :: st) :=
  fun H locs ls hP hD hS hl => va_iald C.1 C.2.1 C.2.2.2.2.2.1 hP q0 0 he rfl hb d (k H locs ls hP hD hS hl)
theorem V_iast (C : Cx p R s m args meth c cc nL own ret D cI cC A kc ks) {a n : Nat} {f f' : Nat → Int32} {i x : Int32} (q0 : Nat) (d : decode cc pc = .ok (.iastore, 1)) (he : ws[q0]? = some (a, .inl (cI, n, .inl f))) (hb : vp_in i n) (hf : f' = upd f i.toNatClampNeg x) (hw : ws.set q0 (a, .inl (cI, n, .inl f')) = ws') (k : V p l e R s m args below meth c D A nL kc ks Q ws' lv (pc + 1) st) : V p l e R s m args below meth c D A nL kc ks Q ws lv pc (.int x :: .int i :: .ref a :: st) :=
  fun H locs ls hP hD hS hl => va_iast C.1 C.2.1 C.2.2.2.2.2.1 hP hD hS q0 0 he rfl hb d (fun H1 locs1 hP1 hD1 hS1 => by rw [← hf, hw] at hP1 hD1; exact k H1 locs1 ls hP1 hD1 hS1 hl)
theorem V_copy (C : Cx p R s m args meth c cc nL own ret D cI cC A kc ks) {a0 a1 n0 n1 index : Nat} {f g g' : Nat → Int32} (q0 q1 n : Nat) {N : Int32} (hlk : Cond.methodLink own index arraycopyName ∈ LW) (d : decode cc pc = .ok (.invokestatic index, 3)) (h0 : ws[q0]? = some (a0, .inl (cI, n0, .inl f))) (h1 : ws[q1]? = some (a1, .inl (cI, n1, .inl g))) (hN : N = nI n) (h31 : n < 2147483648) (hn0 : n ≤ n0) (hn1 : n ≤ n1) (hg : g' = va_cpy f g 0 0 n) (hw : ws.set q1 (a1, .inl (cI, n1, .inl g')) = ws') (hfr : 1 ≤ R.frames) (hlo : (st.map fun v => v.category).sum + (nativeFrameWords "java/lang/System" "arraycopy" 5 + 11) ≤ R.locals) (k : V p l e R s m args below meth c D A nL kc ks Q ws' lv (pc + 3) st) : V p l e R s m args below meth c D A nL kc ks Q ws lv pc (.int N :: .int 0 :: .ref a1 :: .int 0 :: .ref a0 :: st) := by
  intro H locs ls hP hD hS hl
  have hc : N.toNatClampNeg = n := by rw [hN]; exact nI_clamp h31
  refine va_copyi C.1 C.2.1 (C.2.2.1.trans hl.1.symm) C.2.2.2.1 (C.2.2.2.2.1 _ hlk) (C.2.2.2.2.1 _ wdNative) (C.2.2.2.2.1 _ wdStatic) (C.2.2.2.2.1 _ wdSystem) C.2.2.2.2.2.1 hP hD hS q0 q1 0 0 h0 h1 rfl rfl rfl (by decide) (by decide) (by rw [hN]; exact nI_pos h31) (by rw [hc]; simpa using hn0) (by rw [hc]; simpa using hn1) (fun _ _ => rfl) hfr hlo d (fun H1 locs1 hP1 hD1 hS1 => ?_)
  have e0 : (0 : Int32).toNatClampNeg = 0 := by decide
  rw [hc, e0, ← hg, hw] at hP1 hD1
  exact k H1 locs1 ls hP1 hD1 hS1 hl
theorem V_mmax (C : Cx p R s m args meth c cc nL own ret D cI cC A kc ks) {index : Nat} {x y : Int32} (hlk : Cond.methodLink own index Lib.Math.max.name ∈ LW) (d : decode cc pc = .ok (.invokestatic index, 3)) (hfr : 1 ≤ R.frames) (hlo : (st.map fun v => v.category).sum + 13 ≤ R.locals) (k : V p l e R s m args below meth c D A nL kc ks Q ws lv (pc + 3) (.int (if x < y then y else x) :: st)) : V p l e R s m args below meth c D A nL kc ks Q ws lv pc (.int y :: .int x :: st) :=
  fun H locs ls hP hD hS hl => va_mmax C.1 C.2.1 (C.2.2.1.trans hl.1.symm) C.2.2.2.1 (C.2.2.2.2.1 _ hlk) (C.2.2.2.2.1 _ wdS_max) (C.2.2.2.2.1 _ wdMath) (C.2.2.2.2.1 _ wdC_max) hfr hlo C.2.2.2.2.2.2.2.2.2.2.1 C.2.2.2.2.2.2.2.2.2.2.2 d (k H locs ls hP hD hS hl)
theorem V_mmin (C : Cx p R s m args meth c cc nL own ret D cI cC A kc ks) {index : Nat} {x y : Int32} (hlk : Cond.methodLink own index Lib.Math.min.name ∈ LW) (d : decode cc pc = .ok (.invokestatic index, 3)) (hfr : 1 ≤ R.frames) (hlo : (st.map fun v => v.category).sum + 13 ≤ R.locals) (k : V p l e R s m args below meth c D A nL kc ks Q ws lv (pc + 3) (.int (if y < x then y else x) :: st)) : V p l e R s m args below meth c D A nL kc ks Q ws lv pc (.int y :: .int x :: st) :=
  fun H locs ls hP hD hS hl => va_mmin C.1 C.2.1 (C.2.2.1.trans hl.1.symm) C.2.2.2.1 (C.2.2.2.2.1 _ hlk) (C.2.2.2.2.1 _ wdS_min) (C.2.2.2.2.1 _ wdMath) (C.2.2.2.2.1 _ wdC_min) hfr hlo C.2.2.2.2.2.2.2.2.2.2.1 C.2.2.2.2.2.2.2.2.2.2.2 d (k H locs ls hP hD hS hl)
theorem V_iT (C : Cx p R s m args meth c cc nL own ret D cI cC A kc ks) (d : decode cc pc = .ok (.getstatic 44, 3)) (ho : own = RX0) (k : ∀ t : Nat, va_T .int t 5 (fun j => .int (iT.getD j 0)) A s s.heap → V p l e R s m args below meth c D A nL kc ks Q ws lv (pc + 3) (.ref t :: st)) : V p l e R s m args below meth c D A nL kc ks Q ws lv pc st := by
  intro H locs ls hP hD hS hl
  obtain ⟨t, z, tt⟩ := C.2.2.2.2.2.2.2.1.2.2.2.1
  subst ho
  exact va_getsN C.1 C.2.1 z hS C.2.2.2.1 (va_Nw.use rfl C.2.2.2.2.2.2.2.1.2.2.1) (fun _ h => h) d (k t tt H locs ls hP hD hS hl)
theorem V_oN (C : Cx p R s m args meth c cc nL own ret D cI cC A kc ks) (d : decode cc pc = .ok (.getstatic 59, 3)) (ho : own = RX2) (k : ∀ t : Nat, va_T .int t 6 (fun j => .int (oN.getD j 0)) A s s.heap → V p l e R s m args below meth c D A nL kc ks Q ws lv (pc + 3) (.ref t :: st)) : V p l e R s m args below meth c D A nL kc ks Q ws lv pc st := by
  intro H locs ls hP hD hS hl
  obtain ⟨t, z, tt⟩ := C.2.2.2.2.2.2.2.1.2.2.2.2.1
  subst ho
  exact va_getsN C.1 C.2.1 z hS C.2.2.2.1 (va_Nw.use rfl C.2.2.2.2.2.2.2.1.2.1) (fun _ h => h) d (k t tt H locs ls hP hD hS hl)
theorem V_tald (C : Cx p R s m args meth c cc nL own ret D cI cC A kc ks) {t N : Nat} {g : List Int32} {i : Int32} (hT : va_T .int t N (fun j => .int (g.getD j 0)) A s s.heap) (d : decode cc pc = .ok (.iaload, 1)) (hb : vp_in i N) (k : V p l e R s m args below meth c D A nL kc ks Q ws lv (pc + 1) (.int (g.getD i.toNatClampNeg 0) :: st)) : V p l e R s m args below meth c D A nL kc ks Q ws lv pc (.int i :: .ref t :: st) :=
  fun H locs ls hP hD hS hl => va_ti C.1 C.2.1 hT hS hb rfl d (k H locs ls hP hD hS hl)
end VR
end
section
/-! contracts over V: entry, return, calls -/
def Bw (D : va_G) (cI cC : ClassId) (A : Nat → Prop) (w : va_W) (t : State) : Prop := va_P D vwCl w t.heap ∧ va_K D vwCl (tyG cI cC) t ∧ va_D A w
def Pq (D : va_G) (cI cC : ClassId) (sz : Nat) (av : List Value) (w0 : va_W) : Array Value → State → Prop := va_Pc av (fun U => U.heap.size = sz ∧ va_P D vwCl w0 U.heap ∧ va_K D vwCl (tyG cI cC) U ∧ va_D (fun _ => True) w0 ∧ NS (va_A w0 sz) U U.heap)
abbrev rmC (fr lo : Nat) : Room := { frames := fr, cells := 0, slots := 0, locals := lo }
def Cn (l : Launch) (y : MethodName) (cc : ByteArray) (nL : Nat) (ret : Option FieldType) (fr lo : Nat) (D : va_G) (cI cC : ClassId) (av : List Value) (w0 : va_W) (Qf : (Nat → Prop) → Array Value → State → Outcome → State → Prop) : Prop :=
  ∀ sz : Nat, Met l y (.code y cc nL ret :: LW) (rmC fr lo) (Pq D cI cC sz av w0) (Qf (va_A w0 sz)) 0 0 (va_A w0 sz)
def QI (D : va_G) (cI cC : ClassId) {S : Type} (w1 : S → va_W) (post : Int32 → S → Prop) : (Nat → Prop) → Array Value → State → Outcome → State → Prop := fun A => va_Qi post (fun u t => Bw D cI cC A (w1 u) t) A
def QL (D : va_G) (cI cC : ClassId) {S : Type} (w1 : S → va_W) (post : Int64 → S → Prop) : (Nat → Prop) → Array Value → State → Outcome → State → Prop := fun A => va_Ql post (fun u t => Bw D cI cC A (w1 u) t) A
def QV (D : va_G) (cI cC : ClassId) {S : Type} (w1 : S → va_W) (post : S → Prop) : (Nat → Prop) → Array Value → State → Outcome → State → Prop := fun A => va_Qv post (fun u t => Bw D cI cC A (w1 u) t) A
def QR (D : va_G) (cI cC : ClassId) (b : Nat) {S : Type} (w1 : S → va_W) (post : S → Prop) : (Nat → Prop) → Array Value → State → Outcome → State → Prop := fun A => va_Qr post (fun u a t => a = b ∧ Bw D cI cC A (w1 u) t) A
theorem Pq.blind (D : va_G) (cI cC : ClassId) (sz : Nat) (av : List Value) (w0 : va_W) : FrameBlind (Pq D cI cC sz av w0) := by
  intro a U g mk h
  obtain ⟨h1, h2, h3, h4, h5, h6⟩ := h
  exact ⟨h1, h2, h3, va_K.moved (u := U) (U := U.calling g mk a) (Vm.Alike.refl U.vm) h4, h5, NS.same (u := U) (U := U.calling g mk a) rfl h6⟩
theorem Cn.ofV {l : Launch} {y : MethodName} {cc : ByteArray} {nL : Nat} {ret : Option FieldType} {fr lo : Nat} {D : va_G} {cI cC : ClassId} {av : List Value} {w0 : va_W} {Qf : (Nat → Prop) → Array Value → State → Outcome → State → Prop} (own : String) (hown : y.cls = own) (hy : plainName y.cls = true) (hnl : (lg_sl av).length ≤ nL)
    (body : ∀ (p : Program) (e : Env) (s : State) (m : MethodId) (below : List Frame) (meth : Method) (c : Code) (A : Nat → Prop), Cx p (rmC fr lo) s m av.toArray meth c cc nL own ret D cI cC A 0 0 → V p l e (rmC fr lo) s m av.toArray below meth c D A nL 0 0 (MQ below (Qf A) av.toArray s 0 0 A) w0 (lv_args 0 av) 0 []) : Cn l y cc nL ret fr lo D cI cC av w0 Qf := by
  intro sz
  refine Met.ofW (cc := cc) (maxL := nL) (ret := ret) hy rfl ?_
  intro p e s m args below meth c s₁ B hml hv
  obtain ⟨rfl, hsz, hP, hK, hD0, hN⟩ := hv
  have hx := B.exec
  have hb := B.bytes
  have hr := B.returns
  have hts := atoms_spec (ws := .code y cc nL ret :: LW) B.pre
  have hown2 : s.vm.findClass own = some m.cls := by rw [← hown]; exact findClass_of_methodNamed B.named
  have hlocks := B.notSynchronized
  subst hsz
  have hD := hD0.self (sz := s.heap.size)
  have hA : ∀ q, s.heap.size ≤ q → va_A w0 s.heap.size q := fun q h => Or.inr h
  have hl := lv_entry av (n := nL) hnl
  rw [lg_entry_eq]
  exact body p e s m below meth c (va_A w0 s.heap.size) ⟨hx, hb, hml, hown2, fun w h => hts w (List.mem_cons_of_mem _ h), hK, hA, hN, hr, hlocks, Nat.zero_le _, Nat.zero_le _⟩ s.heap [] _ hP hD va_S.rf hl
/-- a method's words among the common ones -/
def MW (y : MethodName) (cc : ByteArray) (nL : Nat) (ret : Option FieldType) (n : Nat) : Prop := Cond.instanceMethod y ∈ LW ∧ Cond.selects y.cls y y ∈ LW ∧ Cond.initialized y.cls ∈ LW ∧ Cond.code y cc nL ret ∈ LW ∧ y.cls ≠ "java/lang/invoke/MethodHandle" ∧ y.cls ≠ "java/lang/invoke/VarHandle" ∧ (parseMethodDescriptor y.desc).map (fun d => d.parameters.length) = some n
def MS (y : MethodName) (cc : ByteArray) (nL : Nat) (ret : Option FieldType) (n : Nat) : Prop := Cond.static y ∈ LW ∧ Cond.initialized y.cls ∈ LW ∧ Cond.code y cc nL ret ∈ LW ∧ y.cls ≠ "java/lang/invoke/MethodHandle" ∧ y.cls ≠ "java/lang/invoke/VarHandle" ∧ (parseMethodDescriptor y.desc).map (fun d => d.parameters.length) = some n
theorem LW_cons {w : Cond} (h : w ∈ LW) : GoodIn LW (w :: LW) := fun x hx => by
  rcases List.mem_cons.mp hx with rfl | hx
  · exact LW_self _ h
  · exact LW_self _ hx
theorem MW.good {y : MethodName} {cc : ByteArray} {nL n idx : Nat} {ret : Option FieldType} {own : String} (h : MW y cc nL ret n) (hl : Cond.methodLink own idx y ∈ LW) : GoodIn LW (wsV own idx y.cls y (.code y cc nL ret :: LW)) := by
  intro x hx
  rcases List.mem_append.mp hx with hx | hx
  · simp only [List.mem_cons, List.not_mem_nil, or_false] at hx
    rcases hx with rfl | rfl | rfl | rfl
    · exact LW_self _ hl
    · exact LW_self _ h.1
    · exact LW_self _ h.2.1
    · exact LW_self _ h.2.2.1
  · exact LW_cons h.2.2.2.1 x hx
theorem MS.good {y : MethodName} {cc : ByteArray} {nL n idx : Nat} {ret : Option FieldType} (h : MS y cc nL ret n) (hl : Cond.methodLink y.cls idx y ∈ LW) : GoodIn LW (wsS y.cls idx y (.code y cc nL ret :: LW)) := by
  intro x hx
  rcases List.mem_append.mp hx with hx | hx
  · simp only [List.mem_cons, List.not_mem_nil, or_false] at hx
    rcases hx with rfl | rfl | rfl
    · exact LW_self _ hl
    · exact LW_self _ h.1
    · exact LW_self _ h.2.1
  · exact LW_cons h.2.2.1 x hx
theorem va_P_cut {D : va_G} {ws w0 : va_W} {H : Heap} (hP : va_P D vwCl ws H) (isC : List Nat) (hC : isC.map (fun i => ws[i]?) = w0.map some) : va_P D vwCl w0 H := by
  intro k q hq
  have h1 : (isC.map (fun i => ws[i]?))[k]? = some (some q) := by rw [hC, List.getElem?_map, hq]; rfl
  rw [List.getElem?_map] at h1
  cases hi : isC[k]? with
  | none => rw [hi] at h1; cases h1
  | some i => rw [hi] at h1; exact hP i q (Option.some.inj h1)
theorem range_map_get {α : Type} (l : List α) : (List.range l.length).map (fun i => l[i]?) = l.map some := by
  apply List.ext_getElem?
  intro i
  rw [List.getElem?_map, List.getElem?_map]
  by_cases h : i < l.length
  · rw [List.getElem?_range h, List.getElem?_eq_getElem h]; rfl
  · rw [List.getElem?_eq_none (by simpa using h), List.getElem?_eq_none (by omega)]; rfl
/-- which places of the caller's cells are the callee's, which stay, in which order they are told behind the call -/
def Cut (ws w0 wr : va_W) (isC isR : List Nat) : Prop := isC.map (fun i => ws[i]?) = w0.map some ∧ isR.map (fun i => ws[i]?) = wr.map some ∧ va_nd isC = true ∧ va_nd isR = true ∧ ∀ i ∈ isR, i ∉ isC
section VC
variable {p : Program} {l : Launch} {e : Env} {R : Room} {s : State} {m : MethodId} {args : Array Value} {below : List Frame} {meth : Method} {c : Code} {cc : ByteArray} {nL : Nat} {own : String} {ret : Option FieldType} {D : va_G} {cI cC : ClassId} {A : Nat → Prop} {kc ks : Nat} {Q : State → Prop} {ws ws' : va_W} {lv lv' : List (Nat × Value)} {pc tgt : Nat} {st : List Value}
theorem V_iret {ty : FieldType} (C : Cx p R s m args meth c cc nL own (some ty) D cI cC A kc ks) {S : Type} {w1 : S → va_W} {post : Int32 → S → Prop} {v : Int32} (u : S) (d : decode cc pc = .ok (.ireturn, 1)) (hn : narrow ty (.int v) = .int v) (hw : w1 u = ws) (hp : post v u) : V p l e R s m args below meth c D A nL kc ks (MQ below (QI D cI cC w1 post A) args s kc ks A) ws lv pc [.int v] := by
  intro H locs ls hP hD hS hl
  refine W.zret C.1 C.2.1 C.2.2.2.2.2.2.2.2.1 hn (fun t ht hW => ⟨⟨v, u, rfl, hp, ?_, ?_, ?_⟩, hS.F ht⟩) hS.2.2 d C.2.2.2.2.2.2.2.2.2.1
  · rw [hw, ht]; exact hP
  · exact va_K.moved hW.alike C.2.2.2.2.2.1
  · rw [hw]; exact hD
theorem V_lret (C : Cx p R s m args meth c cc nL own (some .long) D cI cC A kc ks) {S : Type} {w1 : S → va_W} {post : Int64 → S → Prop} {v : Int64} (u : S) (d : decode cc pc = .ok (.lreturn, 1)) (hw : w1 u = ws) (hp : post v u) : V p l e R s m args below meth c D A nL kc ks (MQ below (QL D cI cC w1 post A) args s kc ks A) ws lv pc [.long v] := by
  intro H locs ls hP hD hS hl
  refine W.lret C.1 C.2.1 C.2.2.2.2.2.2.2.2.1 (fun t ht hW => ⟨⟨v, u, rfl, hp, ?_, ?_, ?_⟩, hS.F ht⟩) hS.2.2 d C.2.2.2.2.2.2.2.2.2.1
  · rw [hw, ht]; exact hP
  · exact va_K.moved hW.alike C.2.2.2.2.2.1
  · rw [hw]; exact hD
theorem V_vret (C : Cx p R s m args meth c cc nL own none D cI cC A kc ks) {S : Type} {w1 : S → va_W} {post : S → Prop} (u : S) (d : decode cc pc = .ok (.return_, 1)) (hw : w1 u = ws) (hp : post u) : V p l e R s m args below meth c D A nL kc ks (MQ below (QV D cI cC w1 post A) args s kc ks A) ws lv pc [] := by
  intro H locs ls hP hD hS hl
  refine W.vret C.1 C.2.1 C.2.2.2.2.2.2.2.2.1 (fun t ht hW => ⟨⟨u, rfl, hp, ?_, ?_, ?_⟩, hS.F ht⟩) hS.2.2 d C.2.2.2.2.2.2.2.2.2.1
  · rw [hw, ht]; exact hP
  · exact va_K.moved hW.alike C.2.2.2.2.2.1
  · rw [hw]; exact hD
theorem V_aret {n : String} (C : Cx p R s m args meth c cc nL own (some (.object n)) D cI cC A kc ks) {S : Type} {w1 : S → va_W} {post : S → Prop} {b : Nat} (u : S) (d : decode cc pc = .ok (.areturn, 1)) (hw : w1 u = ws) (hp : post u) : V p l e R s m args below meth c D A nL kc ks (MQ below (QR D cI cC b w1 post A) args s kc ks A) ws lv pc [.ref b] := by
  intro H locs ls hP hD hS hl
  refine W.aret C.1 C.2.1 C.2.2.2.2.2.2.2.2.1 (Or.inl ⟨n, rfl⟩) (Or.inr ⟨b, rfl⟩) (fun t ht hW => ⟨⟨u, b, rfl, hp, rfl, ?_, ?_, ?_⟩, hS.F ht⟩) hS.2.2 d C.2.2.2.2.2.2.2.2.2.1
  · rw [hw, ht]; exact hP
  · exact va_K.moved hW.alike C.2.2.2.2.2.1
  · rw [hw]; exact hD
/-- what a callee may take as given -/
theorem V_pre (C : Cx p R s m args meth c cc nL own ret D cI cC A kc ks) {H : Heap} {locs : List Loc} {w0 : va_W} {av : List Value} (hP : va_P D vwCl ws H) (hD : va_D A ws) (hS : va_S A s.heap H locs) (isC : List Nat) (hC : isC.map (fun i => ws[i]?) = w0.map some) (hnd : va_nd isC = true) :
    (∀ q, va_A w0 H.size q → A q) ∧ ∀ U : State, U.heap = H → s.WarmedH U.vm → Pq D cI cC H.size av w0 av.toArray U := by
  have hF := va_free (wc := w0) hD hS C.2.2.2.2.2.2.1 isC hC
  refine ⟨hF, fun U hU hW => ⟨rfl, by rw [hU], by rw [hU]; exact va_P_cut hP isC hC, va_K.moved hW.alike C.2.2.2.2.2.1, (hD.sub isC hnd hC).weaken (fun _ _ _ _ => trivial), ?_⟩⟩
  rw [hU]
  exact NS.go C.2.2.2.2.2.2.2.1 hW hS.2.1 hF
/-- the caller's cells behind a call -/
theorem V_post {H H1 : Heap} {w0 wr w1 : va_W} {t : State} (hP : va_P D vwCl ws H) (hD : va_D A ws) {isC isR isN : List Nat} (hC : Cut ws w0 wr isC isR) (hF : ∀ q, va_A w0 H.size q → A q) (ht : t.heap = H1) (hk : ∀ q : Nat, q < H.size → ¬ va_A w0 H.size q → H1[q]? = H[q]?) (hB : Bw D cI cC (va_A w0 H.size) w1 t) (hn : va_nd isN = true) (hN : isN.map (fun i => (wr ++ w1)[i]?) = ws'.map some) : va_P D vwCl ws' H1 ∧ va_D A ws' := by
  obtain ⟨hP1, -, hD1⟩ := hB
  rw [ht] at hP1
  obtain ⟨hP2, hD2⟩ := va_join (wr := wr) (w1 := w1) hP hD isC isR hC.1 hC.2.1 hC.2.2.2.1 hC.2.2.2.2 hk hF hP1 hD1
  exact ⟨va_P_cut hP2 isN hN, hD2.sub isN hn hN⟩
/-- a callee that works on all of the caller's cells -/
theorem V_preS (C : Cx p R s m args meth c cc nL own ret D cI cC A kc ks) {H : Heap} {locs : List Loc} {av : List Value} (hP : va_P D vwCl ws H) (hD : va_D A ws) (hS : va_S A s.heap H locs) :
    (∀ q, va_A ws H.size q → A q) ∧ ∀ U : State, U.heap = H → s.WarmedH U.vm → Pq D cI cC H.size av ws av.toArray U := by
  have hF : ∀ q, va_A ws H.size q → A q := by
    intro q h
    rcases h with ⟨k, e, h⟩ | h
    · exact hD.2 k (q, e) h
    · exact C.2.2.2.2.2.2.1 q (Nat.le_trans hS.1 h)
  refine ⟨hF, fun U hU hW => ⟨rfl, by rw [hU], by rw [hU]; exact hP, va_K.moved hW.alike C.2.2.2.2.2.1, hD.weaken (fun _ _ _ _ => trivial), ?_⟩⟩
  rw [hU]
  exact NS.go C.2.2.2.2.2.2.2.1 hW hS.2.1 hF
theorem V_postS {H H1 : Heap} {w1 : va_W} {t : State} (hF : ∀ q, va_A ws H.size q → A q) (ht : t.heap = H1) (hB : Bw D cI cC (va_A ws H.size) w1 t) : va_P D vwCl w1 H1 ∧ va_D A w1 := by
  obtain ⟨hP1, -, hD1⟩ := hB
  rw [ht] at hP1
  exact ⟨hP1, hD1.weaken (fun _ q _ h => hF _ h)⟩
theorem V_runV (C : Cx p R s m args meth c cc nL own ret D cI cC A kc ks) {y : MethodName} {bytes : ByteArray} {maxL n index fr lo ci q0 N b : Nat} {ret' : Option FieldType} {w0 : va_W} {Qf : (Nat → Prop) → Array Value → State → Outcome → State → Prop} {As fs : List Value} {T : u_T} (hM : Cn l y bytes maxL ret' fr lo D cI cC (.ref b :: As) w0 Qf) (mk : MW y bytes maxL ret' n) (hlk : Cond.methodLink own index y ∈ LW) (d : decode cc pc = .ok (.invokevirtual index, 3)) (hn : As.length = n) (he : ws[q0]? = some (b, .inr (ci, fs))) (hci : vwCl[ci]? = some (y.cls, T, N)) (hR : fr + 1 ≤ R.frames ∧ 8 + (maxL + 11) + lo ≤ R.locals) (hst : (st.map fun v => v.category).sum ≤ 8) {H : Heap} {locs : List Loc} {ls : Array Slot} (hP : va_P D vwCl ws H) (hl : lv_has ls nL lv) (hU : ∀ U : State, U.heap = H → s.WarmedH U.vm → Pq D cI cC H.size (.ref b :: As) w0 (Value.ref b :: As).toArray U) :
    va_Run p l e R s m args below meth c H locs kc ks 0 0 (F0 m pc ls (As.reverse ++ .ref b :: st)) st (Qf (va_A w0 H.size) (Value.ref b :: As).toArray) (va_A w0 H.size) :=
  va_runV (As := As) (rest := st) ⟨C.1, C.2.1, C.2.2.1, C.2.2.2.1, C.2.2.2.2.1⟩ (hM H.size) (cwV n C.2.2.2.2.1 (mk.good hlk) rfl rfl rfl ⟨rfl, mk.2.2.2.2⟩ hR) ⟨Pq.blind D cI cC H.size _ w0, va_recv C.2.2.2.2.2.1 hP hci he, hU⟩ rfl hn hl.1 rfl (lv_room hst) d ⟨C.2.2.2.2.2.2.2.2.2.2.1, C.2.2.2.2.2.2.2.2.2.2.2⟩
theorem V_runS (C : Cx p R s m args meth c cc nL own ret D cI cC A kc ks) {y : MethodName} {bytes : ByteArray} {maxL n index fr lo : Nat} {ret' : Option FieldType} {w0 : va_W} {Qf : (Nat → Prop) → Array Value → State → Outcome → State → Prop} {As : List Value} (hM : Cn l y bytes maxL ret' fr lo D cI cC As w0 Qf) (mk : MS y bytes maxL ret' n) (ho : y.cls = own) (hlk : Cond.methodLink y.cls index y ∈ LW) (d : decode cc pc = .ok (.invokestatic index, 3)) (hn : As.length = n) (hR : fr + 1 ≤ R.frames ∧ 8 + (maxL + 11) + lo ≤ R.locals) (hst : (st.map fun v => v.category).sum ≤ 8) {H : Heap} {locs : List Loc} {ls : Array Slot} (hl : lv_has ls nL lv) (hU : ∀ U : State, U.heap = H → s.WarmedH U.vm → Pq D cI cC H.size As w0 As.toArray U) :
    va_Run p l e R s m args below meth c H locs kc ks 0 0 (F0 m pc ls (As.reverse ++ st)) st (Qf (va_A w0 H.size) As.toArray) (va_A w0 H.size) := by
  subst ho
  exact va_runS (As := As) (rest := st) ⟨C.1, C.2.1, C.2.2.1, C.2.2.2.1, C.2.2.2.2.1⟩ (hM H.size) (cwS n C.2.2.2.2.1 (mk.good hlk) rfl rfl rfl ⟨rfl, mk.2.2.2⟩ hR) ⟨Pq.blind D cI cC H.size _ w0, hU⟩ rfl hn hl.1 rfl (lv_room hst) d ⟨C.2.2.2.2.2.2.2.2.2.2.1, C.2.2.2.2.2.2.2.2.2.2.2⟩
theorem V_runN (C : Cx p R s m args meth c cc nL own ret D cI cC A kc ks) {fr lo : Nat} {w0 : va_W} {Qf : (Nat → Prop) → Array Value → State → Outcome → State → Prop} {As : List Value} (hM : Cn l yX4_leastRow cX4_leastRow 2 (some .int) fr lo D cI cC As w0 Qf) (mk : MS yX4_leastRow cX4_leastRow 2 (some .int) 1) (ho : own = RX3) (d : decode cc pc = .ok (.invokestatic 121, 3)) (hn : As.length = 1) (hR : fr + 1 ≤ R.frames ∧ 8 + (2 + 11) + lo ≤ R.locals) (hst : (st.map fun v => v.category).sum ≤ 8) {H : Heap} {locs : List Loc} {ls : Array Slot} (hl : lv_has ls nL lv) (hU : ∀ U : State, U.heap = H → s.WarmedH U.vm → Pq D cI cC H.size As w0 As.toArray U) :
    va_Run p l e R s m args below meth c H locs kc ks 0 0 (F0 m pc ls (As.reverse ++ st)) st (Qf (va_A w0 H.size) As.toArray) (va_A w0 H.size) := by
  subst ho
  exact va_runSN (host := RX4) (As := As) (rest := st) ⟨C.1, C.2.1, C.2.2.1, C.2.2.2.1, C.2.2.2.2.1⟩ (hM H.size) ⟨va_cnB 1 C.2.2.2.2.1 (LW_cons mk.2.2.1) rfl rfl rfl C.2.2.2.2.2.2.2.1.1 (C.2.2.2.2.1 _ mk.2.1) mk.2.2.2 hR, C.2.2.2.2.1 _ mk.1, trivial⟩ ⟨Pq.blind D cI cC H.size _ w0, hU⟩ rfl hn hl.1 rfl (lv_room hst) d ⟨C.2.2.2.2.2.2.2.2.2.2.1, C.2.2.2.2.2.2.2.2.2.2.2⟩
theorem V_callVi (C : Cx p R s m args meth c cc nL own ret D cI cC A kc ks) {y : MethodName} {bytes : ByteArray} {maxL n index fr lo ci N b : Nat} {ret' : Option FieldType} {As fs : List Value} {T : u_T} {S : Type} {w1 : S → va_W} {post : Int32 → S → Prop} {stk : List Value} (hM : Cn l y bytes maxL ret' fr lo D cI cC (.ref b :: As) ws (QI D cI cC w1 post)) (mk : MW y bytes maxL ret' n) (hlk : Cond.methodLink own index y ∈ LW) (d : decode cc pc = .ok (.invokevirtual index, 3)) (q0 : Nat) (hn : As.length = n) (he : ws[q0]? = some (b, .inr (ci, fs))) (hci : vwCl[ci]? = some (y.cls, T, N)) (hR : fr + 1 ≤ R.frames ∧ 8 + (maxL + 11) + lo ≤ R.locals) (hst : (st.map fun v => v.category).sum ≤ 8) (hstk : stk = As.reverse ++ .ref b :: st) (k : ∀ (r : Int32) (u : S), post r u → V p l e R s m args below meth c D A nL kc ks Q (w1 u) lv (pc + 3) (.int r :: st)) : V p l e R s m args below meth c D A nL kc ks Q ws lv pc stk := by
  subst hstk
  intro H locs ls hP hD hS hl
  obtain ⟨hF, hU⟩ := V_preS (av := (.ref b :: As)) C hP hD hS
  refine va_calli (V_runV C hM mk hlk d hn he hci hR hst hP hl hU) hS (fun q _ h => hF q h) hF (fun r u t H1 locs1 ht hvm hw hB hz1 hk1 hS1 => ?_)
  obtain ⟨hP2, hD2⟩ := V_postS hF ht hB
  exact k r u hw H1 locs1 ls hP2 hD2 hS1 hl
theorem V_cutVi (C : Cx p R s m args meth c cc nL own ret D cI cC A kc ks) {y : MethodName} {bytes : ByteArray} {maxL n index fr lo ci N b : Nat} {ret' : Option FieldType} {As fs : List Value} {T : u_T} {S : Type} {w0 wr : va_W} {w1 w2 : S → va_W} {post : Int32 → S → Prop} {stk : List Value} (hM : Cn l y bytes maxL ret' fr lo D cI cC (.ref b :: As) w0 (QI D cI cC w1 post)) (mk : MW y bytes maxL ret' n) (hlk : Cond.methodLink own index y ∈ LW) (d : decode cc pc = .ok (.invokevirtual index, 3)) (q0 : Nat) (hn : As.length = n) (he : ws[q0]? = some (b, .inr (ci, fs))) (hci : vwCl[ci]? = some (y.cls, T, N)) (hR : fr + 1 ≤ R.frames ∧ 8 + (maxL + 11) + lo ≤ R.locals) (isC isR isN : List Nat) (hC : Cut ws w0 wr isC isR) (hN : va_nd isN = true) (hw2 : ∀ u : S, isN.map (fun i => (wr ++ w1 u)[i]?) = (w2 u).map some) (hst : (st.map fun v => v.category).sum ≤ 8) (hstk : stk = As.reverse ++ .ref b :: st) (k : ∀ (r : Int32) (u : S), post r u → V p l e R s m args below meth c D A nL kc ks Q (w2 u) lv (pc + 3) (.int r :: st)) : V p l e R s m args below meth c D A nL kc ks Q ws lv pc stk := by
  subst hstk
  intro H locs ls hP hD hS hl
  obtain ⟨hF, hU⟩ := V_pre (av := (.ref b :: As)) C hP hD hS isC hC.1 hC.2.2.1
  refine va_calli (V_runV C hM mk hlk d hn he hci hR hst hP hl hU) hS (fun q _ h => hF q h) hF (fun r u t H1 locs1 ht hvm hw hB hz1 hk1 hS1 => ?_)
  obtain ⟨hP2, hD2⟩ := V_post (ws' := w2 u) hP hD hC hF ht hk1 hB hN (hw2 u)
  exact k r u hw H1 locs1 ls hP2 hD2 hS1 hl
theorem V_callVl (C : Cx p R s m args meth c cc nL own ret D cI cC A kc ks) {y : MethodName} {bytes : ByteArray} {maxL n index fr lo ci N b : Nat} {ret' : Option FieldType} {As fs : List Value} {T : u_T} {S : Type} {w1 : S → va_W} {post : Int64 → S → Prop} {stk : List Value} (hM : Cn l y bytes maxL ret' fr lo D cI cC (.ref b :: As) ws (QL D cI cC w1 post)) (mk : MW y bytes maxL ret' n) (hlk : Cond.methodLink own index y ∈ LW) (d : decode cc pc = .ok (.invokevirtual index, 3)) (q0 : Nat) (hn : As.length = n) (he : ws[q0]? = some (b, .inr (ci, fs))) (hci : vwCl[ci]? = some (y.cls, T, N)) (hR : fr + 1 ≤ R.frames ∧ 8 + (maxL + 11) + lo ≤ R.locals) (hst : (st.map fun v => v.category).sum ≤ 8) (hstk : stk = As.reverse ++ .ref b :: st) (k : ∀ (r : Int64) (u : S), post r u → V p l e R s m args below meth c D A nL kc ks Q (w1 u) lv (pc + 3) (.long r :: st)) : V p l e R s m args below meth c D A nL kc ks Q ws lv pc stk := by
  subst hstk
  intro H locs ls hP hD hS hl
  obtain ⟨hF, hU⟩ := V_preS (av := (.ref b :: As)) C hP hD hS
  refine va_calll (V_runV C hM mk hlk d hn he hci hR hst hP hl hU) hS (fun q _ h => hF q h) hF (fun r u t H1 locs1 ht hvm hw hB hz1 hk1 hS1 => ?_)
  obtain ⟨hP2, hD2⟩ := V_postS hF ht hB
  exact k r u hw H1 locs1 ls hP2 hD2 hS1 hl
theorem V_cutVl (C : Cx p R s m args meth c cc nL own ret D cI cC A kc ks) {y : MethodName} {bytes : ByteArray} {maxL n index fr lo ci N b : Nat} {ret' : Option FieldType} {As fs : List Value} {T : u_T} {S : Type} {w0 wr : va_W} {w1 w2 : S → va_W} {post : Int64 → S → Prop} {stk : List Value} (hM : Cn l y bytes maxL ret' fr lo D cI cC (.ref b :: As) w0 (QL D cI cC w1 post)) (mk : MW y bytes maxL ret' n) (hlk : Cond.methodLink own index y ∈ LW) (d : decode cc pc = .ok (.invokevirtual index, 3)) (q0 : Nat) (hn : As.length = n) (he : ws[q0]? = some (b, .inr (ci, fs))) (hci : vwCl[ci]? = some (y.cls, T, N)) (hR : fr + 1 ≤ R.frames ∧ 8 + (maxL + 11) + lo ≤ R.locals) (isC isR isN : List Nat) (hC : Cut ws w0 wr isC isR) (hN : va_nd isN = true) (hw2 : ∀ u : S, isN.map (fun i => (wr ++ w1 u)[i]?) = (w2 u).map some) (hst : (st.map fun v => v.category).sum ≤ 8) (hstk : stk = As.reverse ++ .ref b :: st) (k : ∀ (r : Int64) (u : S), post r u → V p l e R s m args below meth c D A nL kc ks Q (w2 u) lv (pc + 3) (.long r :: st)) : V p l e R s m args below meth c D A nL kc ks Q ws lv pc stk := by
  subst hstk
  intro H locs ls hP hD hS hl
  obtain ⟨hF, hU⟩ := V_pre (av := (.ref b :: As)) C hP hD hS isC hC.1 hC.2.2.1
  refine va_calll (V_runV C hM mk hlk d hn he hci hR hst hP hl hU) hS (fun q _ h => hF q h) hF (fun r u t H1 locs1 ht hvm hw hB hz1 hk1 hS1 => ?_)
  obtain ⟨hP2, hD2⟩ := V_post (ws' := w2 u) hP hD hC hF ht hk1 hB hN (hw2 u)
  exact k r u hw H1 locs1 ls hP2 hD2 hS1 hl
theorem V_callVv (C : Cx p R s m args meth c cc nL own ret D cI cC A kc ks) {y : MethodName} {bytes : ByteArray} {maxL n index fr lo ci N b : Nat} {ret' : Option FieldType} {As fs : List Value} {T : u_T} {S : Type} {w1 : S → va_W} {post : S → Prop} {stk : List Value} (hM : Cn l y bytes maxL ret' fr lo D cI cC (.ref b :: As) ws (QV D cI cC w1 post)) (mk : MW y bytes maxL ret' n) (hlk : Cond.methodLink own index y ∈ LW) (d : decode cc pc = .ok (.invokevirtual index, 3)) (q0 : Nat) (hn : As.length = n) (he : ws[q0]? = some (b, .inr (ci, fs))) (hci : vwCl[ci]? = some (y.cls, T, N)) (hR : fr + 1 ≤ R.frames ∧ 8 + (maxL + 11) + lo ≤ R.locals) (hst : (st.map fun v => v.category).sum ≤ 8) (hstk : stk = As.reverse ++ .ref b :: st) (k : ∀ (u : S), post u → V p l e R s m args below meth c D A nL kc ks Q (w1 u) lv (pc + 3) st) : V p l e R s m args below meth c D A nL kc ks Q ws lv pc stk := by
  subst hstk
  intro H locs ls hP hD hS hl
  obtain ⟨hF, hU⟩ := V_preS (av := (.ref b :: As)) C hP hD hS
  refine va_callv (V_runV C hM mk hlk d hn he hci hR hst hP hl hU) hS (fun q _ h => hF q h) hF (fun u t H1 locs1 ht hvm hw hB hz1 hk1 hS1 => ?_)
  obtain ⟨hP2, hD2⟩ := V_postS hF ht hB
  exact k u hw H1 locs1 ls hP2 hD2 hS1 hl
theorem V_cutVv (C : Cx p R s m args meth c cc nL own ret D cI cC A kc ks) {y : MethodName} {bytes : ByteArray} {maxL n index fr lo ci N b : Nat} {ret' : Option FieldType} {As fs : List Value} {T : u_T} {S : Type} {w0 wr : va_W} {w1 w2 : S → va_W} {post : S → Prop} {stk : List Value} (hM : Cn l y bytes maxL ret' fr lo D cI cC (.ref b :: As) w0 (QV D cI cC w1 post)) (mk : MW y bytes maxL ret' n) (hlk : Cond.methodLink own index y ∈ LW) (d : decode cc pc = .ok (.invokevirtual index, 3)) (q0 : Nat) (hn : As.length = n) (he : ws[q0]? = some (b, .inr (ci, fs))) (hci : vwCl[ci]? = some (y.cls, T, N)) (hR : fr + 1 ≤ R.frames ∧ 8 + (maxL + 11) + lo ≤ R.locals) (isC isR isN : List Nat) (hC : Cut ws w0 wr isC isR) (hN : va_nd isN = true) (hw2 : ∀ u : S, isN.map (fun i => (wr ++ w1 u)[i]?) = (w2 u).map some) (hst : (st.map fun v => v.category).sum ≤ 8) (hstk : stk = As.reverse ++ .ref b :: st) (k : ∀ (u : S), post u → V p l e R s m args below meth c D A nL kc ks Q (w2 u) lv (pc + 3) st) : V p l e R s m args below meth c D A nL kc ks Q ws lv pc stk := by
  subst hstk
  intro H locs ls hP hD hS hl
  obtain ⟨hF, hU⟩ := V_pre (av := (.ref b :: As)) C hP hD hS isC hC.1 hC.2.2.1
  refine va_callv (V_runV C hM mk hlk d hn he hci hR hst hP hl hU) hS (fun q _ h => hF q h) hF (fun u t H1 locs1 ht hvm hw hB hz1 hk1 hS1 => ?_)
  obtain ⟨hP2, hD2⟩ := V_post (ws' := w2 u) hP hD hC hF ht hk1 hB hN (hw2 u)
  exact k u hw H1 locs1 ls hP2 hD2 hS1 hl
theorem V_callVr (C : Cx p R s m args meth c cc nL own ret D cI cC A kc ks) {y : MethodName} {bytes : ByteArray} {maxL n index fr lo ci N b : Nat} {ret' : Option FieldType} {As fs : List Value} {T : u_T} {br : Nat} {S : Type} {w1 : S → va_W} {post : S → Prop} {stk : List Value} (hM : Cn l y bytes maxL ret' fr lo D cI cC (.ref b :: As) ws (QR D cI cC br w1 post)) (mk : MW y bytes maxL ret' n) (hlk : Cond.methodLink own index y ∈ LW) (d : decode cc pc = .ok (.invokevirtual index, 3)) (q0 : Nat) (hn : As.length = n) (he : ws[q0]? = some (b, .inr (ci, fs))) (hci : vwCl[ci]? = some (y.cls, T, N)) (hR : fr + 1 ≤ R.frames ∧ 8 + (maxL + 11) + lo ≤ R.locals) (hst : (st.map fun v => v.category).sum ≤ 8) (hstk : stk = As.reverse ++ .ref b :: st) (k : ∀ (u : S), post u → V p l e R s m args below meth c D A nL kc ks Q (w1 u) lv (pc + 3) (.ref br :: st)) : V p l e R s m args below meth c D A nL kc ks Q ws lv pc stk := by
  subst hstk
  intro H locs ls hP hD hS hl
  obtain ⟨hF, hU⟩ := V_preS (av := (.ref b :: As)) C hP hD hS
  refine va_callr (V_runV C hM mk hlk d hn he hci hR hst hP hl hU) hS (fun q _ h => hF q h) hF (fun u a t H1 locs1 ht hvm hw hB hz1 hk1 hS1 => ?_)
  obtain ⟨rfl, hB⟩ := hB
  obtain ⟨hP2, hD2⟩ := V_postS hF ht hB
  exact k u hw H1 locs1 ls hP2 hD2 hS1 hl
theorem V_cutVr (C : Cx p R s m args meth c cc nL own ret D cI cC A kc ks) {y : MethodName} {bytes : ByteArray} {maxL n index fr lo ci N b : Nat} {ret' : Option FieldType} {As fs : List Value} {T : u_T} {br : Nat} {S : Type} {w0 wr : va_W} {w1 w2 : S → va_W} {post : S → Prop} {stk : List Value} (hM : Cn l y bytes maxL ret' fr lo D cI cC (.ref b :: As) w0 (QR D cI cC br w1 post)) (mk : MW y bytes maxL ret' n) (hlk : Cond.methodLink own index y ∈ LW) (d : decode cc pc = .ok (.invokevirtual index, 3)) (q0 : Nat) (hn : As.length = n) (he : ws[q0]? = some (b, .inr (ci, fs))) (hci : vwCl[ci]? = some (y.cls, T, N)) (hR : fr + 1 ≤ R.frames ∧ 8 + (maxL + 11) + lo ≤ R.locals) (isC isR isN : List Nat) (hC : Cut ws w0 wr isC isR) (hN : va_nd isN = true) (hw2 : ∀ u : S, isN.map (fun i => (wr ++ w1 u)[i]?) = (w2 u).map some) (hst : (st.map fun v => v.category).sum ≤ 8) (hstk : stk = As.reverse ++ .ref b :: st) (k : ∀ (u : S), post u → V p l e R s m args below meth c D A nL kc ks Q (w2 u) lv (pc + 3) (.ref br :: st)) : V p l e R s m args below meth c D A nL kc ks Q ws lv pc stk := by
  subst hstk
  intro H locs ls hP hD hS hl
  obtain ⟨hF, hU⟩ := V_pre (av := (.ref b :: As)) C hP hD hS isC hC.1 hC.2.2.1
  refine va_callr (V_runV C hM mk hlk d hn he hci hR hst hP hl hU) hS (fun q _ h => hF q h) hF (fun u a t H1 locs1 ht hvm hw hB hz1 hk1 hS1 => ?_)
  obtain ⟨rfl, hB⟩ := hB
  obtain ⟨hP2, hD2⟩ := V_post (ws' := w2 u) hP hD hC hF ht hk1 hB hN (hw2 u)
  exact k u hw H1 locs1 ls hP2 hD2 hS1 hl
theorem V_callSi (C : Cx p R s m args meth c cc nL own ret D cI cC A kc ks) {y : MethodName} {bytes : ByteArray} {maxL n index fr lo : Nat} {ret' : Option FieldType} {As : List Value} {S : Type} {w1 : S → va_W} {post : Int32 → S → Prop} {stk : List Value} (hM : Cn l y bytes maxL ret' fr lo D cI cC As ws (QI D cI cC w1 post)) (mk : MS y bytes maxL ret' n) (hlk : Cond.methodLink y.cls index y ∈ LW) (d : decode cc pc = .ok (.invokestatic index, 3)) (ho : y.cls = own) (hn : As.length = n) (hR : fr + 1 ≤ R.frames ∧ 8 + (maxL + 11) + lo ≤ R.locals) (hst : (st.map fun v => v.category).sum ≤ 8) (hstk : stk = As.reverse ++ st) (k : ∀ (r : Int32) (u : S), post r u → V p l e R s m args below meth c D A nL kc ks Q (w1 u) lv (pc + 3) (.int r :: st)) : V p l e R s m args below meth c D A nL kc ks Q ws lv pc stk := by
  subst hstk
  intro H locs ls hP hD hS hl
  obtain ⟨hF, hU⟩ := V_preS (av := As) C hP hD hS
  refine va_calli (V_runS C hM mk ho hlk d hn hR hst hl hU) hS (fun q _ h => hF q h) hF (fun r u t H1 locs1 ht hvm hw hB hz1 hk1 hS1 => ?_)
  obtain ⟨hP2, hD2⟩ := V_postS hF ht hB
  exact k r u hw H1 locs1 ls hP2 hD2 hS1 hl
theorem V_cutSi (C : Cx p R s m args meth c cc nL own ret D cI cC A kc ks) {y : MethodName} {bytes : ByteArray} {maxL n index fr lo : Nat} {ret' : Option FieldType} {As : List Value} {S : Type} {w0 wr : va_W} {w1 w2 : S → va_W} {post : Int32 → S → Prop} {stk : List Value} (hM : Cn l y bytes maxL ret' fr lo D cI cC As w0 (QI D cI cC w1 post)) (mk : MS y bytes maxL ret' n) (hlk : Cond.methodLink y.cls index y ∈ LW) (d : decode cc pc = .ok (.invokestatic index, 3)) (ho : y.cls = own) (hn : As.length = n) (hR : fr + 1 ≤ R.frames ∧ 8 + (maxL + 11) + lo ≤ R.locals) (isC isR isN : List Nat) (hC : Cut ws w0 wr isC isR) (hN : va_nd isN = true) (hw2 : ∀ u : S, isN.map (fun i => (wr ++ w1 u)[i]?) = (w2 u).map some) (hst : (st.map fun v => v.category).sum ≤ 8) (hstk : stk = As.reverse ++ st) (k : ∀ (r : Int32) (u : S), post r u → V p l e R s m args below meth c D A nL kc ks Q (w2 u) lv (pc + 3) (.int r :: st)) : V p l e R s m args below meth c D A nL kc ks Q ws lv pc stk := by
  subst hstk
  intro H locs ls hP hD hS hl
  obtain ⟨hF, hU⟩ := V_pre (av := As) C hP hD hS isC hC.1 hC.2.2.1
  refine va_calli (V_runS C hM mk ho hlk d hn hR hst hl hU) hS (fun q _ h => hF q h) hF (fun r u t H1 locs1 ht hvm hw hB hz1 hk1 hS1 => ?_)
  obtain ⟨hP2, hD2⟩ := V_post (ws' := w2 u) hP hD hC hF ht hk1 hB hN (hw2 u)
  exact k r u hw H1 locs1 ls hP2 hD2 hS1 hl
theorem V_callSv (C : Cx p R s m args meth c cc nL own ret D cI cC A kc ks) {y : MethodName} {bytes : ByteArray} {maxL n index fr lo : Nat} {ret' : Option FieldType} {As : List Value} {S : Type} {w1 : S → va_W} {post : S → Prop} {stk : List Value} (hM : Cn l y bytes maxL ret' fr lo D cI cC As ws (QV D cI cC w1 post)) (mk : MS y bytes maxL ret' n) (hlk : Cond.methodLink y.cls index y ∈ LW) (d : decode cc pc = .ok (.invokestatic index, 3)) (ho : y.cls = own) (hn : As.length = n) (hR : fr + 1 ≤ R.frames ∧ 8 + (maxL + 11) + lo ≤ R.locals) (hst : (st.map fun v => v.category).sum ≤ 8) (hstk : stk = As.reverse ++ st) (k : ∀ (u : S), post u → V p l e R s m args below meth c D A nL kc ks Q (w1 u) lv (pc + 3) st) : V p l e R s m args below meth c D A nL kc ks Q ws lv pc stk := by
  subst hstk
  intro H locs ls hP hD hS hl
  obtain ⟨hF, hU⟩ := V_preS (av := As) C hP hD hS
  refine va_callv (V_runS C hM mk ho hlk d hn hR hst hl hU) hS (fun q _ h => hF q h) hF (fun u t H1 locs1 ht hvm hw hB hz1 hk1 hS1 => ?_)
  obtain ⟨hP2, hD2⟩ := V_postS hF ht hB
  exact k u hw H1 locs1 ls hP2 hD2 hS1 hl
theorem V_cutSv (C : Cx p R s m args meth c cc nL own ret D cI cC A kc ks) {y : MethodName} {bytes : ByteArray} {maxL n index fr lo : Nat} {ret' : Option FieldType} {As : List Value} {S : Type} {w0 wr : va_W} {w1 w2 : S → va_W} {post : S → Prop} {stk : List Value} (hM : Cn l y bytes maxL ret' fr lo D cI cC As w0 (QV D cI cC w1 post)) (mk : MS y bytes maxL ret' n) (hlk : Cond.methodLink y.cls index y ∈ LW) (d : decode cc pc = .ok (.invokestatic index, 3)) (ho : y.cls = own) (hn : As.length = n) (hR : fr + 1 ≤ R.frames ∧ 8 + (maxL + 11) + lo ≤ R.locals) (isC isR isN : List Nat) (hC : Cut ws w0 wr isC isR) (hN : va_nd isN = true) (hw2 : ∀ u : S, isN.map (fun i => (wr ++ w1 u)[i]?) = (w2 u).map some) (hst : (st.map fun v => v.category).sum ≤ 8) (hstk : stk = As.reverse ++ st) (k : ∀ (u : S), post u → V p l e R s m args below meth c D A nL kc ks Q (w2 u) lv (pc + 3) st) : V p l e R s m args below meth c D A nL kc ks Q ws lv pc stk := by
  subst hstk
  intro H locs ls hP hD hS hl
  obtain ⟨hF, hU⟩ := V_pre (av := As) C hP hD hS isC hC.1 hC.2.2.1
  refine va_callv (V_runS C hM mk ho hlk d hn hR hst hl hU) hS (fun q _ h => hF q h) hF (fun u t H1 locs1 ht hvm hw hB hz1 hk1 hS1 => ?_)
  obtain ⟨hP2, hD2⟩ := V_post (ws' := w2 u) hP hD hC hF ht hk1 hB hN (hw2 u)
  exact k u hw H1 locs1 ls hP2 hD2 hS1 hl
theorem V_callNi (C : Cx p R s m args meth c cc nL own ret D cI cC A kc ks) {fr lo : Nat} {As : List Value} {S : Type} {w1 : S → va_W} {post : Int32 → S → Prop} {stk : List Value} (hM : Cn l yX4_leastRow cX4_leastRow 2 (some .int) fr lo D cI cC As ws (QI D cI cC w1 post)) (mk : MS yX4_leastRow cX4_leastRow 2 (some .int) 1) (d : decode cc pc = .ok (.invokestatic 121, 3)) (ho : own = RX3) (hn : As.length = 1) (hR : fr + 1 ≤ R.frames ∧ 8 + (2 + 11) + lo ≤ R.locals) (hst : (st.map fun v => v.category).sum ≤ 8) (hstk : stk = As.reverse ++ st) (k : ∀ (r : Int32) (u : S), post r u → V p l e R s m args below meth c D A nL kc ks Q (w1 u) lv (pc + 3) (.int r :: st)) : V p l e R s m args below meth c D A nL kc ks Q ws lv pc stk := by
  subst hstk
  intro H locs ls hP hD hS hl
  obtain ⟨hF, hU⟩ := V_preS (av := As) C hP hD hS
  refine va_calli (V_runN C hM mk ho d hn hR hst hl hU) hS (fun q _ h => hF q h) hF (fun r u t H1 locs1 ht hvm hw hB hz1 hk1 hS1 => ?_)
  obtain ⟨hP2, hD2⟩ := V_postS hF ht hB
  exact k r u hw H1 locs1 ls hP2 hD2 hS1 hl
theorem V_cutNi (C : Cx p R s m args meth c cc nL own ret D cI cC A kc ks) {fr lo : Nat} {As : List Value} {S : Type} {w0 wr : va_W} {w1 w2 : S → va_W} {post : Int32 → S → Prop} {stk : List Value} (hM : Cn l yX4_leastRow cX4_leastRow 2 (some .int) fr lo D cI cC As w0 (QI D cI cC w1 post)) (mk : MS yX4_leastRow cX4_leastRow 2 (some .int) 1) (d : decode cc pc = .ok (.invokestatic 121, 3)) (ho : own = RX3) (hn : As.length = 1) (hR : fr + 1 ≤ R.frames ∧ 8 + (2 + 11) + lo ≤ R.locals) (isC isR isN : List Nat) (hC : Cut ws w0 wr isC isR) (hN : va_nd isN = true) (hw2 : ∀ u : S, isN.map (fun i => (wr ++ w1 u)[i]?) = (w2 u).map some) (hst : (st.map fun v => v.category).sum ≤ 8) (hstk : stk = As.reverse ++ st) (k : ∀ (r : Int32) (u : S), post r u → V p l e R s m args below meth c D A nL kc ks Q (w2 u) lv (pc + 3) (.int r :: st)) : V p l e R s m args below meth c D A nL kc ks Q ws lv pc stk := by
  subst hstk
  intro H locs ls hP hD hS hl
  obtain ⟨hF, hU⟩ := V_pre (av := As) C hP hD hS isC hC.1 hC.2.2.1
  refine va_calli (V_runN C hM mk ho d hn hR hst hl hU) hS (fun q _ h => hF q h) hF (fun r u t H1 locs1 ht hvm hw hB hz1 hk1 hS1 => ?_)
  obtain ⟨hP2, hD2⟩ := V_post (ws' := w2 u) hP hD hC hF ht hk1 hB hN (hw2 u)
  exact k r u hw H1 locs1 ls hP2 hD2 hS1 hl
end VC
/-! pure programs: what may fail is an Option; wpO: it doesn't, and what it gives meets post -/
def wpO {α : Type} (o : Option α) (post : α → Prop) : Prop := ∃ a, o = some a ∧ post a
theorem wp_s {α : Type} {a : α} {post : α → Prop} (h : wpO (some a) post) : post a := by obtain ⟨b, e, h⟩ := h; cases e; exact h
theorem wp_b {α β : Type} {o : Option α} {k : α → Option β} {post : β → Prop} (h : wpO (o.bind k) post) : wpO o (fun a => wpO (k a) post) := by
  obtain ⟨b, e, h⟩ := h
  cases o with
  | none => cases e
  | some a => exact ⟨a, rfl, b, e, h⟩
theorem wp_t {α : Type} {c : Prop} [Decidable c] {a b : Option α} {post : α → Prop} (h : wpO (if c then a else b) post) (hc : c) : wpO a post := by rw [if_pos hc] at h; exact h
theorem wp_f {α : Type} {c : Prop} [Decidable c] {a b : Option α} {post : α → Prop} (h : wpO (if c then a else b) post) (hc : ¬ c) : wpO b post := by rw [if_neg hc] at h; exact h
/-- a place that must be there -/
def bnd (i : Int32) (n : Nat) : Bool := decide (¬ (i < 0 ∨ n ≤ i.toNatClampNeg))
theorem bnd_iff {i : Int32} {n : Nat} : bnd i n = true ↔ vp_in i n := by unfold bnd vp_in; exact decide_eq_true_iff
def chk {α : Type} (b : Bool) (o : Option α) : Option α := if b = true then o else none
theorem wp_c {α : Type} {i : Int32} {n : Nat} {o : Option α} {post : α → Prop} (h : wpO (chk (bnd i n) o) post) : vp_in i n ∧ wpO o post := by
  unfold chk at h
  by_cases hb : bnd i n = true
  · rw [if_pos hb] at h; exact ⟨bnd_iff.mp hb, h⟩
  · rw [if_neg hb] at h; obtain ⟨_, e, _⟩ := h; cases e
theorem wp_c2 {α : Type} {b : Bool} {o : Option α} {post : α → Prop} (h : wpO (chk b o) post) : b = true ∧ wpO o post := by
  unfold chk at h
  by_cases hb : b = true
  · rw [if_pos hb] at h; exact ⟨hb, h⟩
  · rw [if_neg hb] at h; obtain ⟨_, e, _⟩ := h; cases e
/-- a value that gets a name -/
def lt_ {α β : Type} (x : α) (k : α → β) : β := k x
theorem wp_l {α β : Type} {x : α} {k : α → Option β} {post : β → Prop} (h : wpO (lt_ x k) post) : ∃ y, y = x ∧ wpO (k y) post := ⟨x, rfl, h⟩
theorem wp_n {α : Type} {post : α → Prop} (h : wpO none post) : False := by obtain ⟨_, e, _⟩ := h; cases e
theorem wpO.mono {α : Type} {o : Option α} {p q : α → Prop} (h : wpO o p) (hpq : ∀ a, p a → q a) : wpO o q := by obtain ⟨a, e, h⟩ := h; exact ⟨a, e, hpq a h⟩
end
