section
-- ===== PART A: goes FIRST, ahead of the names: the tables' words, and 'selects' of the private methods out of them =====
/-- a private method of a class that the tables say can be made, by its rows of tables_1 -/
def lw_okq (q : MethodName × Nat) : Prop := (q.1.cls ≠ "java/lang/invoke/MethodHandle" ∧ q.1.cls ≠ "java/lang/invoke/VarHandle") ∧ Cond.instantiable q.1.cls q.2 ∈ tables_1 ∧ Cond.privateMethod q.1 ∈ tables_1 ∧ Cond.instanceMethod q.1 ∈ tables_1
theorem lw_p0 : lw_okq (⟨"TermGate", "deskFor", "(Z)LTermGate$Line;"⟩, 13) := ⟨⟨by decide +kernel, by decide +kernel⟩, List.mem_of_getElem? (i := 19) (by decide +kernel), List.mem_of_getElem? (i := 169) (by decide +kernel), List.mem_of_getElem? (i := 170) (by decide +kernel)⟩
theorem lw_p1 : lw_okq (⟨"java/lang/Throwable", "fillInStackTrace", "(I)Ljava/lang/Throwable;"⟩, 6) := ⟨⟨by decide +kernel, by decide +kernel⟩, List.mem_of_getElem? (i := 235) (by decide +kernel), List.mem_of_getElem? (i := 233) (by decide +kernel), List.mem_of_getElem? (i := 234) (by decide +kernel)⟩
theorem lw_p2 : lw_okq (⟨"TermGate", "soldSentence", "(I)LTermGate$Sentence;"⟩, 13) := ⟨⟨by decide +kernel, by decide +kernel⟩, List.mem_of_getElem? (i := 19) (by decide +kernel), List.mem_of_getElem? (i := 287) (by decide +kernel), List.mem_of_getElem? (i := 288) (by decide +kernel)⟩
theorem lw_p3 : lw_okq (⟨"TermGate", "refuseEmptyDraft", "()V"⟩, 13) := ⟨⟨by decide +kernel, by decide +kernel⟩, List.mem_of_getElem? (i := 19) (by decide +kernel), List.mem_of_getElem? (i := 310) (by decide +kernel), List.mem_of_getElem? (i := 311) (by decide +kernel)⟩
theorem lw_p4 : lw_okq (⟨"TermGate$Edits", "least", "(IIZ)I"⟩, 1) := ⟨⟨by decide +kernel, by decide +kernel⟩, List.mem_of_getElem? (i := 88) (by decide +kernel), List.mem_of_getElem? (i := 326) (by decide +kernel), List.mem_of_getElem? (i := 327) (by decide +kernel)⟩
theorem lw_p5 : lw_okq (⟨"TermGate$Edits", "put", "(III)V"⟩, 1) := ⟨⟨by decide +kernel, by decide +kernel⟩, List.mem_of_getElem? (i := 88) (by decide +kernel), List.mem_of_getElem? (i := 337) (by decide +kernel), List.mem_of_getElem? (i := 338) (by decide +kernel)⟩
theorem lw_p6 : lw_okq (⟨"TermGate", "bestFor", "(ILTermGate$Row;)I"⟩, 13) := ⟨⟨by decide +kernel, by decide +kernel⟩, List.mem_of_getElem? (i := 19) (by decide +kernel), List.mem_of_getElem? (i := 354) (by decide +kernel), List.mem_of_getElem? (i := 355) (by decide +kernel)⟩
theorem lw_p7 : lw_okq (⟨"TermGate", "costOf", "(IIZ)I"⟩, 13) := ⟨⟨by decide +kernel, by decide +kernel⟩, List.mem_of_getElem? (i := 19) (by decide +kernel), List.mem_of_getElem? (i := 400) (by decide +kernel), List.mem_of_getElem? (i := 401) (by decide +kernel)⟩
theorem lw_p8 : lw_okq (⟨"TermGate", "handOf", "(I)LTermGate$Order;"⟩, 13) := ⟨⟨by decide +kernel, by decide +kernel⟩, List.mem_of_getElem? (i := 19) (by decide +kernel), List.mem_of_getElem? (i := 485) (by decide +kernel), List.mem_of_getElem? (i := 486) (by decide +kernel)⟩
theorem lw_p9 : lw_okq (⟨"TermGate", "orderNumbered", "(I)LTermGate$Order;"⟩, 13) := ⟨⟨by decide +kernel, by decide +kernel⟩, List.mem_of_getElem? (i := 19) (by decide +kernel), List.mem_of_getElem? (i := 490) (by decide +kernel), List.mem_of_getElem? (i := 491) (by decide +kernel)⟩
theorem lw_p10 : lw_okq (⟨"TermGate", "putInHand", "(ILTermGate$Order;)V"⟩, 13) := ⟨⟨by decide +kernel, by decide +kernel⟩, List.mem_of_getElem? (i := 19) (by decide +kernel), List.mem_of_getElem? (i := 502) (by decide +kernel), List.mem_of_getElem? (i := 503) (by decide +kernel)⟩
theorem lw_p11 : lw_okq (⟨"TermGate", "begin", "(LTermGate$Order;)V"⟩, 13) := ⟨⟨by decide +kernel, by decide +kernel⟩, List.mem_of_getElem? (i := 19) (by decide +kernel), List.mem_of_getElem? (i := 506) (by decide +kernel), List.mem_of_getElem? (i := 507) (by decide +kernel)⟩
theorem lw_p12 : lw_okq (⟨"TermGate", "orderInHandOf", "(I)LTermGate$Order;"⟩, 13) := ⟨⟨by decide +kernel, by decide +kernel⟩, List.mem_of_getElem? (i := 19) (by decide +kernel), List.mem_of_getElem? (i := 534) (by decide +kernel), List.mem_of_getElem? (i := 535) (by decide +kernel)⟩
theorem lw_p13 : lw_okq (⟨"TermGate$Order", "firstBroken", "(LTermGate$Rulings;)I"⟩, 7) := ⟨⟨by decide +kernel, by decide +kernel⟩, List.mem_of_getElem? (i := 410) (by decide +kernel), List.mem_of_getElem? (i := 579) (by decide +kernel), List.mem_of_getElem? (i := 580) (by decide +kernel)⟩
theorem lw_p14 : lw_okq (⟨"TermGate$Rulings", "agreedOn", "(I)I"⟩, 3) := ⟨⟨by decide +kernel, by decide +kernel⟩, List.mem_of_getElem? (i := 45) (by decide +kernel), List.mem_of_getElem? (i := 668) (by decide +kernel), List.mem_of_getElem? (i := 669) (by decide +kernel)⟩
theorem lw_p15 : lw_okq (⟨"TermGate$Rulings", "saidBy", "(II)I"⟩, 3) := ⟨⟨by decide +kernel, by decide +kernel⟩, List.mem_of_getElem? (i := 45) (by decide +kernel), List.mem_of_getElem? (i := 672) (by decide +kernel), List.mem_of_getElem? (i := 673) (by decide +kernel)⟩
def lw_privs_1 : List (MethodName × Nat) := [(⟨"TermGate", "deskFor", "(Z)LTermGate$Line;"⟩, 13), (⟨"java/lang/Throwable", "fillInStackTrace", "(I)Ljava/lang/Throwable;"⟩, 6), (⟨"TermGate", "soldSentence", "(I)LTermGate$Sentence;"⟩, 13), (⟨"TermGate", "refuseEmptyDraft", "()V"⟩, 13), (⟨"TermGate$Edits", "least", "(IIZ)I"⟩, 1), (⟨"TermGate$Edits", "put", "(III)V"⟩, 1), (⟨"TermGate", "bestFor", "(ILTermGate$Row;)I"⟩, 13), (⟨"TermGate", "costOf", "(IIZ)I"⟩, 13), (⟨"TermGate", "handOf", "(I)LTermGate$Order;"⟩, 13), (⟨"TermGate", "orderNumbered", "(I)LTermGate$Order;"⟩, 13), (⟨"TermGate", "putInHand", "(ILTermGate$Order;)V"⟩, 13), (⟨"TermGate", "begin", "(LTermGate$Order;)V"⟩, 13), (⟨"TermGate", "orderInHandOf", "(I)LTermGate$Order;"⟩, 13), (⟨"TermGate$Order", "firstBroken", "(LTermGate$Rulings;)I"⟩, 7), (⟨"TermGate$Rulings", "agreedOn", "(I)I"⟩, 3), (⟨"TermGate$Rulings", "saidBy", "(II)I"⟩, 3)]
theorem lw_r1 : ∀ q ∈ lw_privs_1, lw_okq q := List.forall_mem_cons.mpr ⟨lw_p0, List.forall_mem_cons.mpr ⟨lw_p1, List.forall_mem_cons.mpr ⟨lw_p2, List.forall_mem_cons.mpr ⟨lw_p3, List.forall_mem_cons.mpr ⟨lw_p4, List.forall_mem_cons.mpr ⟨lw_p5, List.forall_mem_cons.mpr ⟨lw_p6, List.forall_mem_cons.mpr ⟨lw_p7, List.forall_mem_cons.mpr ⟨lw_p8, List.forall_mem_cons.mpr ⟨lw_p9, List.forall_mem_cons.mpr ⟨lw_p10, List.forall_mem_cons.mpr ⟨lw_p11, List.forall_mem_cons.mpr ⟨lw_p12, List.forall_mem_cons.mpr ⟨lw_p13, List.forall_mem_cons.mpr ⟨lw_p14, List.forall_mem_cons.mpr ⟨lw_p15, fun _ h => absurd h List.not_mem_nil⟩⟩⟩⟩⟩⟩⟩⟩⟩⟩⟩⟩⟩⟩⟩⟩
theorem lw_p16 : lw_okq (⟨"TermGate", "mendingPrice", "(III)I"⟩, 13) := ⟨⟨by decide +kernel, by decide +kernel⟩, List.mem_of_getElem? (i := 19) (by decide +kernel), List.mem_of_getElem? (i := 729) (by decide +kernel), List.mem_of_getElem? (i := 730) (by decide +kernel)⟩
theorem lw_p17 : lw_okq (⟨"TermGateModel", "holds", "(I)Z"⟩, 35) := ⟨⟨by decide +kernel, by decide +kernel⟩, List.mem_of_getElem? (i := 758) (by decide +kernel), List.mem_of_getElem? (i := 882) (by decide +kernel), List.mem_of_getElem? (i := 883) (by decide +kernel)⟩
theorem lw_p18 : lw_okq (⟨"TermGateModel", "rulingOf", "(II)I"⟩, 35) := ⟨⟨by decide +kernel, by decide +kernel⟩, List.mem_of_getElem? (i := 758) (by decide +kernel), List.mem_of_getElem? (i := 886) (by decide +kernel), List.mem_of_getElem? (i := 887) (by decide +kernel)⟩
theorem lw_p19 : lw_okq (⟨"TermGateModel", "lists", "()V"⟩, 35) := ⟨⟨by decide +kernel, by decide +kernel⟩, List.mem_of_getElem? (i := 758) (by decide +kernel), List.mem_of_getElem? (i := 893) (by decide +kernel), List.mem_of_getElem? (i := 894) (by decide +kernel)⟩
theorem lw_p20 : lw_okq (⟨"TermGateModel", "isDueNow", "(I)Z"⟩, 35) := ⟨⟨by decide +kernel, by decide +kernel⟩, List.mem_of_getElem? (i := 758) (by decide +kernel), List.mem_of_getElem? (i := 897) (by decide +kernel), List.mem_of_getElem? (i := 898) (by decide +kernel)⟩
theorem lw_p21 : lw_okq (⟨"TermGateModel", "isAgainst", "(III)Z"⟩, 35) := ⟨⟨by decide +kernel, by decide +kernel⟩, List.mem_of_getElem? (i := 758) (by decide +kernel), List.mem_of_getElem? (i := 901) (by decide +kernel), List.mem_of_getElem? (i := 902) (by decide +kernel)⟩
theorem lw_p22 : lw_okq (⟨"TermGateModel", "dueNow", "()I"⟩, 35) := ⟨⟨by decide +kernel, by decide +kernel⟩, List.mem_of_getElem? (i := 758) (by decide +kernel), List.mem_of_getElem? (i := 905) (by decide +kernel), List.mem_of_getElem? (i := 906) (by decide +kernel)⟩
theorem lw_p23 : lw_okq (⟨"TermGateModel", "isSentence", "(I)Z"⟩, 35) := ⟨⟨by decide +kernel, by decide +kernel⟩, List.mem_of_getElem? (i := 758) (by decide +kernel), List.mem_of_getElem? (i := 925) (by decide +kernel), List.mem_of_getElem? (i := 926) (by decide +kernel)⟩
theorem lw_p24 : lw_okq (⟨"TermGateModel", "takesDraft", "()V"⟩, 35) := ⟨⟨by decide +kernel, by decide +kernel⟩, List.mem_of_getElem? (i := 758) (by decide +kernel), List.mem_of_getElem? (i := 929) (by decide +kernel), List.mem_of_getElem? (i := 930) (by decide +kernel)⟩
theorem lw_p25 : lw_okq (⟨"TermGateModel", "likenessOf", "(I)I"⟩, 35) := ⟨⟨by decide +kernel, by decide +kernel⟩, List.mem_of_getElem? (i := 758) (by decide +kernel), List.mem_of_getElem? (i := 933) (by decide +kernel), List.mem_of_getElem? (i := 934) (by decide +kernel)⟩
theorem lw_p26 : lw_okq (⟨"TermGateModel", "compares", "(I)V"⟩, 35) := ⟨⟨by decide +kernel, by decide +kernel⟩, List.mem_of_getElem? (i := 758) (by decide +kernel), List.mem_of_getElem? (i := 937) (by decide +kernel), List.mem_of_getElem? (i := 938) (by decide +kernel)⟩
theorem lw_p27 : lw_okq (⟨"TermGateModel", "isAsked", "(I)Z"⟩, 35) := ⟨⟨by decide +kernel, by decide +kernel⟩, List.mem_of_getElem? (i := 758) (by decide +kernel), List.mem_of_getElem? (i := 948) (by decide +kernel), List.mem_of_getElem? (i := 949) (by decide +kernel)⟩
theorem lw_p28 : lw_okq (⟨"TermGateModel", "bestOf", "(I)I"⟩, 35) := ⟨⟨by decide +kernel, by decide +kernel⟩, List.mem_of_getElem? (i := 758) (by decide +kernel), List.mem_of_getElem? (i := 952) (by decide +kernel), List.mem_of_getElem? (i := 953) (by decide +kernel)⟩
theorem lw_p29 : lw_okq (⟨"TermGateModel", "costOf", "(IZ)I"⟩, 35) := ⟨⟨by decide +kernel, by decide +kernel⟩, List.mem_of_getElem? (i := 758) (by decide +kernel), List.mem_of_getElem? (i := 964) (by decide +kernel), List.mem_of_getElem? (i := 965) (by decide +kernel)⟩
theorem lw_p30 : lw_okq (⟨"TermGateModel", "shareOf", "(I)I"⟩, 35) := ⟨⟨by decide +kernel, by decide +kernel⟩, List.mem_of_getElem? (i := 758) (by decide +kernel), List.mem_of_getElem? (i := 968) (by decide +kernel), List.mem_of_getElem? (i := 969) (by decide +kernel)⟩
theorem lw_p31 : lw_okq (⟨"TermGateModel", "orderOf", "(I)I"⟩, 35) := ⟨⟨by decide +kernel, by decide +kernel⟩, List.mem_of_getElem? (i := 758) (by decide +kernel), List.mem_of_getElem? (i := 980) (by decide +kernel), List.mem_of_getElem? (i := 981) (by decide +kernel)⟩
def lw_privs_2 : List (MethodName × Nat) := [(⟨"TermGate", "mendingPrice", "(III)I"⟩, 13), (⟨"TermGateModel", "holds", "(I)Z"⟩, 35), (⟨"TermGateModel", "rulingOf", "(II)I"⟩, 35), (⟨"TermGateModel", "lists", "()V"⟩, 35), (⟨"TermGateModel", "isDueNow", "(I)Z"⟩, 35), (⟨"TermGateModel", "isAgainst", "(III)Z"⟩, 35), (⟨"TermGateModel", "dueNow", "()I"⟩, 35), (⟨"TermGateModel", "isSentence", "(I)Z"⟩, 35), (⟨"TermGateModel", "takesDraft", "()V"⟩, 35), (⟨"TermGateModel", "likenessOf", "(I)I"⟩, 35), (⟨"TermGateModel", "compares", "(I)V"⟩, 35), (⟨"TermGateModel", "isAsked", "(I)Z"⟩, 35), (⟨"TermGateModel", "bestOf", "(I)I"⟩, 35), (⟨"TermGateModel", "costOf", "(IZ)I"⟩, 35), (⟨"TermGateModel", "shareOf", "(I)I"⟩, 35), (⟨"TermGateModel", "orderOf", "(I)I"⟩, 35)]
theorem lw_r2 : ∀ q ∈ lw_privs_2, lw_okq q := List.forall_mem_cons.mpr ⟨lw_p16, List.forall_mem_cons.mpr ⟨lw_p17, List.forall_mem_cons.mpr ⟨lw_p18, List.forall_mem_cons.mpr ⟨lw_p19, List.forall_mem_cons.mpr ⟨lw_p20, List.forall_mem_cons.mpr ⟨lw_p21, List.forall_mem_cons.mpr ⟨lw_p22, List.forall_mem_cons.mpr ⟨lw_p23, List.forall_mem_cons.mpr ⟨lw_p24, List.forall_mem_cons.mpr ⟨lw_p25, List.forall_mem_cons.mpr ⟨lw_p26, List.forall_mem_cons.mpr ⟨lw_p27, List.forall_mem_cons.mpr ⟨lw_p28, List.forall_mem_cons.mpr ⟨lw_p29, List.forall_mem_cons.mpr ⟨lw_p30, List.forall_mem_cons.mpr ⟨lw_p31, fun _ h => absurd h List.not_mem_nil⟩⟩⟩⟩⟩⟩⟩⟩⟩⟩⟩⟩⟩⟩⟩⟩
theorem lw_p32 : lw_okq (⟨"TermGateModel", "next", "()I"⟩, 35) := ⟨⟨by decide +kernel, by decide +kernel⟩, List.mem_of_getElem? (i := 758) (by decide +kernel), List.mem_of_getElem? (i := 984) (by decide +kernel), List.mem_of_getElem? (i := 985) (by decide +kernel)⟩
theorem lw_p33 : lw_okq (⟨"TermGateModel", "takes", "(II)V"⟩, 35) := ⟨⟨by decide +kernel, by decide +kernel⟩, List.mem_of_getElem? (i := 758) (by decide +kernel), List.mem_of_getElem? (i := 988) (by decide +kernel), List.mem_of_getElem? (i := 989) (by decide +kernel)⟩
theorem lw_p34 : lw_okq (⟨"TermGateModel", "pairs", "(II)V"⟩, 35) := ⟨⟨by decide +kernel, by decide +kernel⟩, List.mem_of_getElem? (i := 758) (by decide +kernel), List.mem_of_getElem? (i := 992) (by decide +kernel), List.mem_of_getElem? (i := 993) (by decide +kernel)⟩
theorem lw_p35 : lw_okq (⟨"TermGateModel", "isAtWork", "(I)Z"⟩, 35) := ⟨⟨by decide +kernel, by decide +kernel⟩, List.mem_of_getElem? (i := 758) (by decide +kernel), List.mem_of_getElem? (i := 1000) (by decide +kernel), List.mem_of_getElem? (i := 1001) (by decide +kernel)⟩
theorem lw_p36 : lw_okq (⟨"TermGateModel", "open", "(I)I"⟩, 35) := ⟨⟨by decide +kernel, by decide +kernel⟩, List.mem_of_getElem? (i := 758) (by decide +kernel), List.mem_of_getElem? (i := 1008) (by decide +kernel), List.mem_of_getElem? (i := 1009) (by decide +kernel)⟩
theorem lw_p37 : lw_okq (⟨"TermGateModel", "hindered", "(I)I"⟩, 35) := ⟨⟨by decide +kernel, by decide +kernel⟩, List.mem_of_getElem? (i := 758) (by decide +kernel), List.mem_of_getElem? (i := 1016) (by decide +kernel), List.mem_of_getElem? (i := 1017) (by decide +kernel)⟩
theorem lw_p38 : lw_okq (⟨"TermGateModel", "sells", "(I)V"⟩, 35) := ⟨⟨by decide +kernel, by decide +kernel⟩, List.mem_of_getElem? (i := 758) (by decide +kernel), List.mem_of_getElem? (i := 1020) (by decide +kernel), List.mem_of_getElem? (i := 1021) (by decide +kernel)⟩
theorem lw_p39 : lw_okq (⟨"TermGateModel", "isPlace", "(II)Z"⟩, 35) := ⟨⟨by decide +kernel, by decide +kernel⟩, List.mem_of_getElem? (i := 758) (by decide +kernel), List.mem_of_getElem? (i := 1060) (by decide +kernel), List.mem_of_getElem? (i := 1061) (by decide +kernel)⟩
def lw_privs_3 : List (MethodName × Nat) := [(⟨"TermGateModel", "next", "()I"⟩, 35), (⟨"TermGateModel", "takes", "(II)V"⟩, 35), (⟨"TermGateModel", "pairs", "(II)V"⟩, 35), (⟨"TermGateModel", "isAtWork", "(I)Z"⟩, 35), (⟨"TermGateModel", "open", "(I)I"⟩, 35), (⟨"TermGateModel", "hindered", "(I)I"⟩, 35), (⟨"TermGateModel", "sells", "(I)V"⟩, 35), (⟨"TermGateModel", "isPlace", "(II)Z"⟩, 35)]
theorem lw_r3 : ∀ q ∈ lw_privs_3, lw_okq q := List.forall_mem_cons.mpr ⟨lw_p32, List.forall_mem_cons.mpr ⟨lw_p33, List.forall_mem_cons.mpr ⟨lw_p34, List.forall_mem_cons.mpr ⟨lw_p35, List.forall_mem_cons.mpr ⟨lw_p36, List.forall_mem_cons.mpr ⟨lw_p37, List.forall_mem_cons.mpr ⟨lw_p38, List.forall_mem_cons.mpr ⟨lw_p39, fun _ h => absurd h List.not_mem_nil⟩⟩⟩⟩⟩⟩⟩⟩
def lw_privs : List (MethodName × Nat) := lw_privs_1 ++ (lw_privs_2 ++ (lw_privs_3))
def lw_tbl : List Cond := k2_sels lw_privs ++ tables_1
theorem lw_privs_ok : ∀ q ∈ lw_privs, lw_okq q := by
  show ∀ q ∈ lw_privs_1 ++ (lw_privs_2 ++ (lw_privs_3)), lw_okq q
  exact List.forall_mem_append.mpr ⟨lw_r1, List.forall_mem_append.mpr ⟨lw_r2, lw_r3⟩⟩
-- ===== end of PART A; then your names; then what follows =====
end
section
/-! ===== BEGIN words of one list among another's, by their places ===== -/
theorem goodIn_r {big : List Cond} (ws : List Cond) (ps : List Nat) (hp : ws = ps.filterMap (fun i => big[i]?)) (h : ws.all goodWord = true) : GoodIn big ws := by
  intro w hw
  have h1 := List.all_eq_true.mp h w hw
  rw [hp] at hw
  obtain ⟨i, -, hi⟩ := List.mem_filterMap.mp hw
  have hm : w ∈ big := by first | exact List.mem_of_getElem? hi | exact List.getElem?_mem hi
  exact ⟨hm, good_of_word h1⟩
theorem goodIn_app {big a b : List Cond} (ha : GoodIn big a) (hb : GoodIn big b) : GoodIn big (a ++ b) := fun w h => (List.mem_append.mp h).elim (ha w) (hb w)
theorem goodIn_ca {big a b : List Cond} {c : Cond} (ha : GoodIn big (c :: a)) (hb : GoodIn big b) : GoodIn big (c :: (a ++ b)) := fun w h => (List.mem_cons.mp h).elim (fun e => ha w (List.mem_cons.mpr (Or.inl e))) (fun h => (List.mem_append.mp h).elim (fun h => ha w (List.mem_cons.mpr (Or.inr h))) (hb w))
theorem goodIn_sub {big ws : List Cond} (hm : ∀ w ∈ ws, w ∈ big) (h : ws.all goodWord = true) : GoodIn big ws := fun w hw => ⟨hm w hw, good_of_word (List.all_eq_true.mp h w hw)⟩
/-! ===== END ===== -/

/-! ===== BEGIN exceptions that leave a method, and their catching by the caller (launches without stack traces) ===== -/
section VXA
/-! The laws vx_back, vx_callV, vx_callS, vx_callSW, vx_throw0, vx_throwS follow proofs of the library, with one case more: JvmDerived/Free/Laws.lean (Back.of_free), Shelf42/LK1.lean (callV, callS), Shelf/KitTraced.lean (throwNew0V, throwNewS). -/
/-- where a method has thrown q: the class by its name, the cell, what was written, the world -/
def vx_T (XC : String → State → State → Prop) (st : State) (q : Addr) (t : State) (mc ms : Nat) (free : Addr → Prop) : Prop :=
  ∃ (E : String) (ce : Cell) (L : List Loc), XC E st t ∧ t.heap[q]? = some ce ∧ ce.vm = .none ∧ st.vm.findClass E = some ce.cls ∧ st.WarmedH t.vm ∧ st.sameButNew ({ t with vm := st.vm } : State) L mc ms ∧ ∀ z ∈ L, free z.base
def vx_Q (Qc : Array Value → State → Outcome → State → Prop) (XC : String → State → State → Prop) (mc ms : Nat) (free : Addr → Prop) : Array Value → State → Outcome → State → Prop := fun a st o t =>
  (Qc a st o t ∧ ∃ L, FrameEnd st o t L mc ms ∧ ∀ q ∈ L, free q.base) ∨ ∃ q, o = .threw q ∧ vx_T XC st q t mc ms free
/-- a callee that returns or throws -/
def vx_Met (l : Launch) (y : MethodName) (ws : List Cond) (rm : Room) (Pc : Array Value → State → Prop) (Qc : Array Value → State → Outcome → State → Prop) (XC : String → State → State → Prop) (mc ms : Nat) (free : Addr → Prop) : Prop :=
  MetFree l y (headSpec ws rm) Pc (fun _ _ _ _ _ => True) (vx_Q Qc XC mc ms free)
def vx_Post (XC : String → State → State → Prop) (mc ms : Nat) (free : Addr → Prop) : Pt → Array Value → Addr → Pt → Prop := fun A a q B =>
  ∃ (g : JFrame) (mk : MethodId) (t : State) (L : List Loc) (E : String) (ce : Cell), B.U.heap = t.heap ∧ B.U.vm = t.vm ∧ XC E (A.U.calling g mk a) t ∧ t.heap[q]? = some ce ∧ ce.vm = .none ∧ A.U.vm.findClass E = some ce.cls ∧ B.locs = A.locs ++ L ∧ (∀ z ∈ L, free z.base) ∧ B.cells = A.cells + mc ∧ B.slots = A.slots + ms
def vx_Back (l : Launch) (R : Room) (p : Program) (e : Env) (below : List Frame) (s : State) (sargs : Array Value) (y : MethodName) (len W9 : Nat)
    (Pre : Pt → Array Value → Prop) (Post : Pt → Array Value → Option Value → Pt → Prop) (PostX : Pt → Array Value → Addr → Pt → Prop) : Prop :=
  ∀ (m : MethodId) (meth : Method) (c : Code) (A : Pt) (g : JFrame) (ig : Instr) (mk : MethodId) (a : Array Value),
    Stand p l e R s m sargs below meth c A.U A.locs A.cells A.slots → g.method = m → g.locals.size = c.maxLocals → decode c.code g.pc = .ok (ig, len) →
    2 * g.monitorRoom + (g.stack.map fun v => v.category).sum ≤ W9 → A.U.methodNamed? y = some mk → Pre A a →
    (∃ (v : Option Value) (B : Pt), Stand p l e R s m sargs below meth c B.U B.locs B.cells B.slots ∧ Post A a v B ∧
      Steps p.tables e below (doInvoke e (A.U.setTop g) [] mk a).1 (B.U.setTop { g with pc := g.pc + len, stack := v.toList ++ g.stack })) ∨
    (∃ (q : Addr) (B : Pt), Stand p l e R s m sargs below meth c B.U B.locs B.cells B.slots ∧ PostX A a q B ∧
      Steps p.tables e below (doInvoke e (A.U.setTop g) [] mk a).1 ((B.U.setTop g).pushFrame (.throwing q)))
section Payer
variable {l : Launch} {R : Room} {p : Program} {e : Env} {below : List Frame} {s : State} {sargs : Array Value} {y : MethodName} {len W9 : Nat}
theorem vx_back {ws : List Cond} {rm : Room} {Pc : Array Value → State → Prop} {Qc : Array Value → State → Outcome → State → Prop} {XC : String → State → State → Prop} {mc ms : Nat} {free : Addr → Prop} {bytes : ByteArray} {maxL : Nat} {ret : Option FieldType}
    (hM : vx_Met l y ws rm Pc Qc XC mc ms free) (hblind : FrameBlind Pc) (hrc : rm.cells = mc) (hrs : rm.slots = ms)
    (hframes : rm.frames + 1 ≤ R.frames) (hlocals : W9 + (maxL + 11) + rm.locals ≤ R.locals)
    (hws : ∀ w ∈ ws, ∀ a' U, s.WarmedH U.vm → w.before a' U = true) (hcode : Cond.code y bytes maxL ret ∈ ws) (hinit : ∀ a' U, s.WarmedH U.vm → (Cond.initialized y.cls).before a' U = true) :
    vx_Back l R p e below s sargs y len W9 (PreOf R mc ms Pc) (PostOf Qc mc ms free) (vx_Post XC mc ms free) := by
  intro m meth c A g ig mk a X hg hsize hdg hW hn hp
  have h1 : (headSpec ws rm).pre.before a A.U = true := atoms_intro fun w hw => hws w hw _ _ X.warmed
  have h2 : (Cond.code y bytes maxL ret).before a A.U = true := hws _ hcode _ _ X.warmed
  have h3 : (Cond.initialized y.cls).before a A.U = true := hinit _ _ X.warmed
  have h4 : A.cells + (headSpec ws rm).room.cells ≤ R.cells := by rw [show (headSpec ws rm).room.cells = mc from hrc]; exact hp.1
  have h5 : A.slots + (headSpec ws rm).room.slots ≤ R.slots := by rw [show (headSpec ws rm).room.slots = ms from hrs]; exact hp.2.1
  have hPc : Pc a (A.U.calling g mk a) := hblind _ _ _ _ hp.2.2
  obtain ⟨U, Ls, c0, s0⟩ := A
  dsimp only [Pt.U, Pt.locs, Pt.cells, Pt.slots] at h1 h2 h3 h4 h5 X hn hPc ⊢
  obtain ⟨methY, cY, hmY, hcY, -, hlY, -, -, -, -⟩ := Cond.code_spec hn h2
  obtain ⟨kY, hkY, -⟩ := className_of_methodNamed hn
  have hinitY : kY.init = .initialized := Cond.initialized_spec (findClass_of_methodNamed hn) hkY h3
  have h : At U g.method c below := by rw [hg]; exact X.here
  have hlocals9 : W9 + (maxL + 11) + (headSpec ws rm).room.locals ≤ R.locals := hlocals
  have happ : (headSpec ws rm).appliesLoose y e.platform (U.calling g mk a) = true :=
    Spec.appliesLoose_calling (g := g) h hdg hn hkY hinitY
      (X.room_calling (g := g) (R' := (headSpec ws rm).room) hsize hmY hcY hframes (by rw [hlY]; omega) h4 h5) h1
  obtain ⟨mid, hmid⟩ := h.above
  have hfr : (U.setTop g).frames = (.java g :: mid) ++ below := by rw [State.frames_setTop' g h.top, hmid]; rfl
  obtain ⟨o, s₂, hsteps, -, hend, hq⟩ := Steps.callFree hM p X.admits X.cas X.clock (acts := []) hfr happ hPc trivial
  have hq' : vx_Q Qc XC mc ms free a (U.calling g mk a) o s₂ := hq
  rw [State.frames_setTop' g h.top] at hend
  obtain ⟨g₀, hg0⟩ := Option.isSome_iff_exists.mp h.top
  obtain ⟨r, hr⟩ := State.topJava?_eq_some.mp hg0
  have hr' : (({ U with heap := s₂.heap, slotsUsed := s₂.slotsUsed } : State).setVm s₂.vm).frames = .java g₀ :: r := hr
  rcases hq' with ⟨hqc, L, hfe, hL⟩ | ⟨q, rfl, E, ce, L, hx, hce, hcv, hcl, hW₂, hsm, hL⟩
  · obtain ⟨⟨v, rfl⟩, hW₂, e2, q2, q3, q4, q5, q6⟩ := id hfe
    have e3 : s₂ = ({ (U.calling g mk a).setFrames s₂.frames with heap := s₂.heap, slotsUsed := s₂.slotsUsed } : State).setVm s₂.vm := by
      have : s₂ = ({ s₂ with vm := (U.calling g mk a).vm } : State).setVm s₂.vm := rfl
      rw [e2] at this
      exact this
    obtain ⟨c₂, i₂, len₂, hc₂, hd₂, hf₂⟩ := hend
    have hW' : U.WarmedH s₂.vm := hW₂
    have hcc : c₂ = c := by
      have h1 : s₂.code? g.method = U.code? g.method := by
        rw [State.code?_eq, State.code?_eq, hW'.alike.method?]
      exact Option.some.inj (hc₂.symm.trans (h1.trans h.code))
    subst hcc
    have hlen : len₂ = len := by rw [hdg] at hd₂; cases hd₂; rfl
    subst hlen
    have hs₂ : s₂ = (({ U with heap := s₂.heap, slotsUsed := s₂.slotsUsed } : State).setVm s₂.vm).setTop { g with pc := g.pc + len₂, stack := v.toList ++ g.stack } := by
      refine e3.trans ?_
      rw [hf₂, State.calling_eq h.top, State.setFrames_setFrames, State.setTop_of_frames _ hr', hr]
      rfl
    have hsame : U.sameButNew ({ U with heap := s₂.heap, slotsUsed := s₂.slotsUsed } : State) L mc ms := by
      refine ⟨?_, q2, q3, q4, q5, q6⟩
      obtain ⟨t, ht, -⟩ := State.frames_cons hr
      show ({ U with heap := s₂.heap, slotsUsed := s₂.slotsUsed } : State) = { U.setFrames U.frames with heap := s₂.heap, slotsUsed := s₂.slotsUsed }
      rw [State.setFrames_self ht]
    subst hg
    refine Or.inl ⟨v, ⟨(({ U with heap := s₂.heap, slotsUsed := s₂.slotsUsed } : State).setVm s₂.vm), Ls ++ L, c0 + mc, s0 + ms⟩,
      ⟨X.admits, X.cas, X.clock, X.frames, X.room, X.hears, X.method, X.code, (X.here.setHeapUsed s₂.heap s₂.slotsUsed).setVm hW'.alike, X.tail, State.WarmedH.trans X.warmed hW', X.limits, X.bytes, X.same.trans (hsame.setVm s.vm)⟩,
      ⟨g, mk, s₂, L, rfl, rfl, hqc, rfl, hL, rfl, rfl⟩, ?_⟩
    show Steps p.tables e below _ ((({ U with heap := s₂.heap, slotsUsed := s₂.slotsUsed } : State).setVm s₂.vm).setTop { g with pc := g.pc + len₂, stack := v.toList ++ g.stack })
    rw [← hs₂]
    exact hsteps
  · obtain ⟨e2, q2, q3, q4, q5, q6⟩ := id hsm
    have e3 : s₂ = ({ (U.calling g mk a).setFrames s₂.frames with heap := s₂.heap, slotsUsed := s₂.slotsUsed } : State).setVm s₂.vm := by
      have : s₂ = ({ s₂ with vm := (U.calling g mk a).vm } : State).setVm s₂.vm := rfl
      rw [e2] at this
      exact this
    have hf₂ : s₂.frames = .throwing q :: .java g :: U.frames.tail := hend
    have hW' : U.WarmedH s₂.vm := hW₂
    have hs₂ : s₂ = ((({ U with heap := s₂.heap, slotsUsed := s₂.slotsUsed } : State).setVm s₂.vm).setTop g).pushFrame (.throwing q) := by
      refine e3.trans ?_
      rw [hf₂, State.calling_eq h.top, State.setFrames_setFrames, State.pushFrame, State.frames_setTop _ hr', State.setTop_of_frames _ hr', State.setFrames_setFrames, hr]
      rfl
    have hsame : U.sameButNew ({ U with heap := s₂.heap, slotsUsed := s₂.slotsUsed } : State) L mc ms := by
      refine ⟨?_, q2, q3, q4, q5, q6⟩
      obtain ⟨t, ht, -⟩ := State.frames_cons hr
      show ({ U with heap := s₂.heap, slotsUsed := s₂.slotsUsed } : State) = { U.setFrames U.frames with heap := s₂.heap, slotsUsed := s₂.slotsUsed }
      rw [State.setFrames_self ht]
    subst hg
    refine Or.inr ⟨q, ⟨(({ U with heap := s₂.heap, slotsUsed := s₂.slotsUsed } : State).setVm s₂.vm), Ls ++ L, c0 + mc, s0 + ms⟩,
      ⟨X.admits, X.cas, X.clock, X.frames, X.room, X.hears, X.method, X.code, (X.here.setHeapUsed s₂.heap s₂.slotsUsed).setVm hW'.alike, X.tail, State.WarmedH.trans X.warmed hW', X.limits, X.bytes, X.same.trans (hsame.setVm s.vm)⟩,
      ⟨g, mk, s₂, L, E, ce, rfl, rfl, hx, hce, hcv, hcl, rfl, hL, rfl, rfl⟩, ?_⟩
    show Steps p.tables e below _ (((({ U with heap := s₂.heap, slotsUsed := s₂.slotsUsed } : State).setVm s₂.vm).setTop g).pushFrame (.throwing q))
    rw [← hs₂]
    exact hsteps
end Payer
section Calls
variable {p : Program} {l : Launch} {e : Env} {R : Room} {s : State} {m : MethodId} {args : Array Value} {below : List Frame} {meth : Method} {c : Code} {T : State} {locs : List Loc} {cells slots : Nat}
theorem vx_callV (X : Stand p l e R s m args below meth c T locs cells slots) (hexec : p.tables.exec = Jvm.exec) {own C : String} {index : Nat} {y : MethodName} {bytes : ByteArray} {maxL : Nat} {ret : Option FieldType}
    (hown : s.vm.findClass own = some m.cls) (hlink : (Cond.methodLink own index y).before args s = true) (hinst : (Cond.instanceMethod y).before args s = true) (hsel : (Cond.selects C y y).before args s = true)
    (hcode : (Cond.code y bytes maxL ret).before args s = true) (hy : y.cls ≠ "java/lang/invoke/MethodHandle" ∧ y.cls ≠ "java/lang/invoke/VarHandle")
    {W9 : Nat} {Pre : Pt → Array Value → Prop} {Post : Pt → Array Value → Option Value → Pt → Prop} {PostX : Pt → Array Value → Addr → Pt → Prop} (hK : vx_Back l R p e below s args y 3 W9 Pre Post PostX)
    {b : Addr} {cellB : Cell} (hcell : T.heap[b]? = some cellB) (hobj : cellB.vm.isStatics = false) (hcls : s.vm.findClass C = some cellB.cls)
    {g : JFrame} (hg : g.method = m) (hsize : g.locals.size = c.maxLocals) {argsL rest : List Value} (hlen : ∀ sig, parseMethodDescriptor y.desc = some sig → argsL.length = sig.parameters.length)
    (hstack : g.stack = argsL.reverse ++ .ref b :: rest) (hW : 2 * g.monitorRoom + (rest.map fun v => v.category).sum ≤ W9) (hdg : decode c.code g.pc = .ok (.invokevirtual index, 3))
    (hpre : ∀ vm₁, s.WarmedH vm₁ → Pre ⟨T.setVm vm₁, locs, cells, slots⟩ (Value.ref b :: argsL).toArray) :
    (∃ (v : Option Value) (vm₁ : Vm) (B : Pt), s.WarmedH vm₁ ∧ Stand p l e R s m args below meth c B.U B.locs B.cells B.slots ∧ Post ⟨T.setVm vm₁, locs, cells, slots⟩ (Value.ref b :: argsL).toArray v B ∧
      ∀ target, Steps p.tables e below (B.U.setTop { g with pc := g.pc + 3, stack := v.toList ++ rest }) target → Steps p.tables e below (T.setTop g) target) ∨
    (∃ (q : Addr) (vm₁ : Vm) (B : Pt), s.WarmedH vm₁ ∧ Stand p l e R s m args below meth c B.U B.locs B.cells B.slots ∧ PostX ⟨T.setVm vm₁, locs, cells, slots⟩ (Value.ref b :: argsL).toArray q B ∧
      Steps p.tables e below (T.setTop g) ((B.U.setTop { g with stack := rest }).pushFrame (.throwing q))) := by
  obtain ⟨mk, methM, hnamed, hmethM, hstM, habM⟩ := Cond.instanceMethod_spec hinst
  obtain ⟨methM', cM, hmethM', -, -, -, -, -, -, hsigM⟩ := Cond.code_spec hnamed hcode
  cases hmethM.symm.trans hmethM'
  obtain ⟨c2, r2, m2, q1, q2, q3, q4, kP, hkP, hkPi⟩ := Cond.selects_spec hsel
  cases hcls.symm.trans q1
  cases (State.methodFound?_of_named hnamed hy).symm.trans q2
  cases hnamed.symm.trans q3
  have hselP : selectMethod e.platform s.vm cellB.cls mk = .method mk := by rw [Launch.admits_selectMethod X.admits]; exact q4
  obtain ⟨vm₁, X₁, hstep₁⟩ := X.invokevirtual hexec hown hlink hnamed hmethM hstM hkP hkPi hy (a := b) (cell := cellB) hcell
    (fun z h => by rw [h] at hobj; cases hobj) hselP hmethM habM hkP hkPi (g := g) hg (argsL := argsL) (rest := rest) (hlen _ hsigM) hstack hdg
  rcases hK m meth c ⟨T.setVm vm₁, locs, cells, slots⟩ { g with stack := rest } (.invokevirtual index) mk (Value.ref b :: argsL).toArray X₁ hg hsize hdg hW (X₁.named hnamed) (hpre vm₁ X₁.warmed) with ⟨v, B, X', hpost, hsteps⟩ | ⟨q, B, X', hpost, hsteps⟩
  · exact Or.inl ⟨v, vm₁, B, X₁.warmed, X', hpost, fun target h => hstep₁ _ fun acts => by rw [doInvoke_state]; exact hsteps.trans h⟩
  · exact Or.inr ⟨q, vm₁, B, X₁.warmed, X', hpost, hstep₁ _ fun acts => by rw [doInvoke_state]; exact hsteps⟩
theorem vx_callS (X : Stand p l e R s m args below meth c T locs cells slots) (hexec : p.tables.exec = Jvm.exec) {own : String} {index : Nat} {y : MethodName} {bytes : ByteArray} {maxL : Nat} {ret : Option FieldType}
    (hown : s.vm.findClass own = some m.cls) (hlink : (Cond.methodLink own index y).before args s = true) (hstat : (Cond.static y).before args s = true) (hinit : (Cond.initialized y.cls).before args s = true)
    (hcode : (Cond.code y bytes maxL ret).before args s = true) (hy : y.cls ≠ "java/lang/invoke/MethodHandle" ∧ y.cls ≠ "java/lang/invoke/VarHandle")
    {W9 : Nat} {Pre : Pt → Array Value → Prop} {Post : Pt → Array Value → Option Value → Pt → Prop} {PostX : Pt → Array Value → Addr → Pt → Prop} (hK : vx_Back l R p e below s args y 3 W9 Pre Post PostX)
    {g : JFrame} (hg : g.method = m) (hsize : g.locals.size = c.maxLocals) {argsL rest : List Value} (hlen : ∀ sig, parseMethodDescriptor y.desc = some sig → argsL.length = sig.parameters.length)
    (hstack : g.stack = argsL.reverse ++ rest) (hW : 2 * g.monitorRoom + (rest.map fun v => v.category).sum ≤ W9) (hdg : decode c.code g.pc = .ok (.invokestatic index, 3))
    (hpre : ∀ vm₁, s.WarmedH vm₁ → Pre ⟨T.setVm vm₁, locs, cells, slots⟩ argsL.toArray) :
    (∃ (v : Option Value) (vm₁ : Vm) (B : Pt), s.WarmedH vm₁ ∧ Stand p l e R s m args below meth c B.U B.locs B.cells B.slots ∧ Post ⟨T.setVm vm₁, locs, cells, slots⟩ argsL.toArray v B ∧
      ∀ target, Steps p.tables e below (B.U.setTop { g with pc := g.pc + 3, stack := v.toList ++ rest }) target → Steps p.tables e below (T.setTop g) target) ∨
    (∃ (q : Addr) (vm₁ : Vm) (B : Pt), s.WarmedH vm₁ ∧ Stand p l e R s m args below meth c B.U B.locs B.cells B.slots ∧ PostX ⟨T.setVm vm₁, locs, cells, slots⟩ argsL.toArray q B ∧
      Steps p.tables e below (T.setTop g) ((B.U.setTop { g with stack := rest }).pushFrame (.throwing q))) := by
  obtain ⟨mk, hnamed⟩ := Cond.code_named hcode
  obtain ⟨methM, cM, hmethM, -, -, -, -, -, -, hsigM⟩ := Cond.code_spec hnamed hcode
  have hstatic : methM.isStatic = true := Cond.static_spec hnamed hmethM hstat
  obtain ⟨kP, hkP, -⟩ := className_of_methodNamed hnamed
  have hinitP : kP.init = .initialized := Cond.initialized_spec (findClass_of_methodNamed hnamed) hkP hinit
  obtain ⟨vm₁, X₁, hstep₁⟩ := X.invokestatic hexec hown hlink hnamed hmethM hstatic hkP hinitP hy (g := g) hg (argsL := argsL) (rest := rest) (hlen _ hsigM) hstack hdg
  rcases hK m meth c ⟨T.setVm vm₁, locs, cells, slots⟩ { g with stack := rest } (.invokestatic index) mk argsL.toArray X₁ hg hsize hdg hW (X₁.named hnamed) (hpre vm₁ X₁.warmed) with ⟨v, B, X', hpost, hsteps⟩ | ⟨q, B, X', hpost, hsteps⟩
  · exact Or.inl ⟨v, vm₁, B, X₁.warmed, X', hpost, fun target h => hstep₁ _ fun acts => by rw [doInvoke_state]; exact hsteps.trans h⟩
  · exact Or.inr ⟨q, vm₁, B, X₁.warmed, X', hpost, hstep₁ _ fun acts => by rw [doInvoke_state]; exact hsteps⟩
end Calls
theorem vx_cls {s : State} {T : State} {vm₁ : Vm} {E : String} {k : ClassId} (hW : s.WarmedH vm₁) (h : (T.setVm vm₁).vm.findClass E = some k) : s.vm.findClass E = some k := by
  have h1 : vm₁.findClass E = some k := h
  rw [hW.alike.findClass] at h1
  exact h1
/-- the method's frame g, with q thrown over it -/
def vx_W (p : Program) (l : Launch) (e : Env) (R : Room) (s : State) (m : MethodId) (args : Array Value) (below : List Frame) (meth : Method) (c : Code) (H : Heap) (locs : List Loc) (cells slots : Nat) (Q : State → Prop) (g : JFrame) (q : Addr) : Prop :=
  ∀ T : State, T.heap = H → Stand p l e R s m args below meth c T locs cells slots → ∃ t, Steps p.tables e below ((T.setTop g).pushFrame (.throwing q)) t ∧ Q t
def vx_Run (p : Program) (l : Launch) (e : Env) (R : Room) (s : State) (m : MethodId) (args : Array Value) (below : List Frame) (meth : Method) (c : Code) (H : Heap) (locs : List Loc) (cells slots mc ms : Nat) (g : JFrame) (rest : List Value) (Qa : State → Outcome → State → Prop) (XC : String → State → State → Prop) (free : Addr → Prop) : Prop :=
  ∀ T : State, T.heap = H → Stand p l e R s m args below meth c T locs cells slots →
    (∃ (v : Option Value) (st₀ t T' : State) (L : List Loc), st₀.heap = H ∧ Stand p l e R s m args below meth c T' (locs ++ L) (cells + mc) (slots + ms) ∧ (∀ q ∈ L, free q.base) ∧ T'.heap = t.heap ∧ T'.vm = t.vm ∧ Qa st₀ (.returned v) t ∧
      Goes p e below T g T' { g with pc := g.pc + 3, stack := v.toList ++ rest }) ∨
    (∃ (q : Addr) (st₀ t T' : State) (L : List Loc) (E : String) (ce : Cell), st₀.heap = H ∧ Stand p l e R s m args below meth c T' (locs ++ L) (cells + mc) (slots + ms) ∧ (∀ z ∈ L, free z.base) ∧ T'.heap = t.heap ∧ T'.vm = t.vm ∧ XC E st₀ t ∧ t.heap[q]? = some ce ∧ ce.vm = .none ∧ s.vm.findClass E = some ce.cls ∧
      Steps p.tables e below (T.setTop g) ((T'.setTop { g with stack := rest }).pushFrame (.throwing q)))
def vx_X {S : Type} (px : S → Prop) (B : String → S → State → Prop) (A : Nat → Prop) : String → State → State → Prop := fun E st t => ∃ u : S, px u ∧ B E u t ∧ va_F A st t
section Runs
variable {p : Program} {l : Launch} {e : Env} {R : Room} {s : State} {m : MethodId} {args : Array Value} {below : List Frame} {meth : Method} {c : Code} {H : Heap} {locs : List Loc} {cells slots : Nat}
variable {y : MethodName} {bytes cc : ByteArray} {maxL nL mc ms n index : Nat} {ret : Option FieldType} {ws : List Cond} {rm : Room} {Pc : Array Value → State → Prop} {Qc : Array Value → State → Outcome → State → Prop} {XC : String → State → State → Prop} {free : Addr → Prop} {Ts : List Cond} {own C : String} {b : Addr} {As rest : List Value} {g : JFrame}
theorem vx_callBack (cb : CallB R s args own index y bytes maxL ret ws rm mc ms n) (hM : vx_Met l y ws rm Pc Qc XC mc ms free) (hbl : FrameBlind Pc) : vx_Back l R p e below s args y 3 8 (PreOf R mc ms Pc) (PostOf Qc mc ms free) (vx_Post XC mc ms free) := by
  obtain ⟨hrc, hrs, hfr, hlo, hws, hcw, -, hini, -⟩ := cb
  exact vx_back (bytes := bytes) (maxL := maxL) (ret := ret) hM hbl hrc hrs hfr hlo hws hcw (fun a' U hW => word_at hW (Or.inl (by first | rfl | simp [Cond.onTables, Cond.keeps, Cond.steady])) hini)
theorem vx_runV (S : CallFix p m c cc nL s args Ts own) (hM : vx_Met l y ws rm Pc Qc XC mc ms free) (cw : CallW R s args own C index y bytes maxL ret ws rm mc ms n) (hp : PreV s H C b Pc As)
    (hg : g.method = m) (hn : As.length = n) (hsize : g.locals.size = nL) (hstack : g.stack = As.reverse ++ .ref b :: rest) (hW : 2 * g.monitorRoom + (rest.map fun v => v.category).sum ≤ 8) (hdg : decode cc g.pc = .ok (.invokevirtual index, 3)) (hf : cells + mc ≤ R.cells ∧ slots + ms ≤ R.slots) :
    vx_Run p l e R s m args below meth c H locs cells slots mc ms g rest (Qc (Value.ref b :: As).toArray) XC free := by
  have hK : vx_Back l R p e below s args y 3 8 (PreOf R mc ms Pc) (PostOf Qc mc ms free) (vx_Post XC mc ms free) := vx_callBack cw.1 hM hp.1
  obtain ⟨⟨-, -, -, -, -, -, hcode, -, hy, hlen, hl⟩, hin, hse⟩ := cw
  obtain ⟨hx, hb, hml, ho, -⟩ := S
  obtain ⟨-, ⟨cellB, hcB, hoB, hclB⟩, hPc⟩ := hp
  intro T hT X
  rcases vx_callV X hx (C := C) (bytes := bytes) (maxL := maxL) (ret := ret) ho hl hin hse hcode hy hK (by rw [hT]; exact hcB) hoB hclB hg (hsize.trans hml.symm) (argsL := As) (rest := rest) (fun sig h => hn.trans (hlen sig h)) hstack hW (by rw [hb]; exact hdg)
    (fun vm₁ hW₁ => ⟨hf.1, hf.2, hPc (T.setVm vm₁) hT hW₁⟩) with ⟨v, vm₁, ⟨U', l2, c2, s2⟩, hW₁, X', ⟨g', mk, t, L, e1, e2, hq, h1, hL, h2, h3⟩, st⟩ | ⟨q, vm₁, ⟨U', l2, c2, s2⟩, hW₁, X', ⟨g', mk, t, L, E, ce, e1, e2, hq, hce, hcv, hcl, h1, hL, h2, h3⟩, st⟩
  · dsimp only [Pt.U, Pt.locs, Pt.cells, Pt.slots] at X' e1 e2 h1 h2 h3 st
    subst h1; subst h2; subst h3
    exact Or.inl ⟨v, (T.setVm vm₁).calling g' mk (Value.ref b :: As).toArray, t, U', L, hT, X', hL, e1, e2, hq, st⟩
  · dsimp only [Pt.U, Pt.locs, Pt.cells, Pt.slots] at X' e1 e2 h1 h2 h3 st hcl
    subst h1; subst h2; subst h3
    exact Or.inr ⟨q, (T.setVm vm₁).calling g' mk (Value.ref b :: As).toArray, t, U', L, E, ce, hT, X', hL, e1, e2, hq, hce, hcv, vx_cls hW₁ hcl, st⟩
theorem vx_runS (S : CallFix p m c cc nL s args Ts own) (hM : vx_Met l y ws rm Pc Qc XC mc ms free) (cw : CallB R s args own index y bytes maxL ret ws rm mc ms n ∧ (Cond.static y).before args s = true) (hp : PreS s H Pc As)
    (hg : g.method = m) (hn : As.length = n) (hsize : g.locals.size = nL) (hstack : g.stack = As.reverse ++ rest) (hW : 2 * g.monitorRoom + (rest.map fun v => v.category).sum ≤ 8) (hdg : decode cc g.pc = .ok (.invokestatic index, 3)) (hf : cells + mc ≤ R.cells ∧ slots + ms ≤ R.slots) :
    vx_Run p l e R s m args below meth c H locs cells slots mc ms g rest (Qc As.toArray) XC free := by
  have hK : vx_Back l R p e below s args y 3 8 (PreOf R mc ms Pc) (PostOf Qc mc ms free) (vx_Post XC mc ms free) := vx_callBack cw.1 hM hp.1
  obtain ⟨⟨-, -, -, -, -, -, hcode, hini, hy, hlen, hl⟩, hstt⟩ := cw
  obtain ⟨hx, hb, hml, ho, -⟩ := S
  intro T hT X
  rcases vx_callS X hx (bytes := bytes) (maxL := maxL) (ret := ret) ho hl hstt hini hcode hy hK hg (hsize.trans hml.symm) (argsL := As) (rest := rest) (fun sig h => hn.trans (hlen sig h)) hstack hW (by rw [hb]; exact hdg)
    (fun vm₁ hW₁ => ⟨hf.1, hf.2, hp.2 (T.setVm vm₁) hT hW₁⟩) with ⟨v, vm₁, ⟨U', l2, c2, s2⟩, hW₁, X', ⟨g', mk, t, L, e1, e2, hq, h1, hL, h2, h3⟩, st⟩ | ⟨q, vm₁, ⟨U', l2, c2, s2⟩, hW₁, X', ⟨g', mk, t, L, E, ce, e1, e2, hq, hce, hcv, hcl, h1, hL, h2, h3⟩, st⟩
  · dsimp only [Pt.U, Pt.locs, Pt.cells, Pt.slots] at X' e1 e2 h1 h2 h3 st
    subst h1; subst h2; subst h3
    exact Or.inl ⟨v, (T.setVm vm₁).calling g' mk As.toArray, t, U', L, hT, X', hL, e1, e2, hq, st⟩
  · dsimp only [Pt.U, Pt.locs, Pt.cells, Pt.slots] at X' e1 e2 h1 h2 h3 st hcl
    subst h1; subst h2; subst h3
    exact Or.inr ⟨q, (T.setVm vm₁).calling g' mk As.toArray, t, U', L, E, ce, hT, X', hL, e1, e2, hq, hce, hcv, vx_cls hW₁ hcl, st⟩
end Runs
section Rows
variable {p : Program} {l : Launch} {e : Env} {R : Room} {s : State} {m : MethodId} {args : Array Value} {below : List Frame} {meth : Method} {c : Code} {H : Heap} {locs : List Loc} {cells slots : Nat} {Q : State → Prop}
variable {mc ms : Nat} {free : Addr → Prop} {A0 A1 : Nat → Prop} {H0 : Heap} {a : Array Value} {pc : Nat} {ls : Array Slot} {st0 rest : List Value}
theorem vx_keep {st₀ t T' : State} {L : List Loc} (h0 : st₀.heap = H) (e1 : T'.heap = t.heap) (hS : va_S A0 H0 H locs) (hA : ∀ q, q < H.size → A1 q → A0 q) (hf : ∀ q, free q → A0 q) (hL : ∀ q ∈ L, free q.base) (hF : va_F A1 st₀ t) :
    H.size ≤ T'.heap.size ∧ (∀ q : Nat, q < H.size → ¬ A1 q → T'.heap[q]? = H[q]?) ∧ va_S A0 H0 T'.heap (locs ++ L) := by
  obtain ⟨hz, hk⟩ := hF
  rw [h0] at hz hk
  exact ⟨by rw [e1]; exact hz, fun q h1 h2 => by rw [e1]; exact hk q h1 h2,
    ⟨Nat.le_trans hS.1 (by rw [e1]; exact hz), fun q h1 h2 => by rw [e1, hk q (Nat.lt_of_lt_of_le h1 hS.1) (fun z => h2 (hA q (Nat.lt_of_lt_of_le h1 hS.1) z))]; exact hS.2.1 q h1 h2, fun q hq => by
      rcases List.mem_append.mp hq with h | h
      · exact hS.2.2 q h
      · exact hf _ (hL q h)⟩⟩
theorem vx_calli {S SX : Type} {post : Int32 → S → Prop} {px : SX → Prop} {B : S → State → Prop} {BX : String → SX → State → Prop} {AX : Nat → Prop} (hr : vx_Run p l e R s m args below meth c H locs cells slots mc ms (F0 m pc ls st0) rest (va_Qi post B A1 a) (vx_X px BX AX) free) (hS : va_S A0 H0 H locs) (hA : ∀ q, q < H.size → A1 q → A0 q) (hf : ∀ q, free q → A0 q) (hAX : ∀ q, q < H.size → AX q → A0 q)
    (kx : ∀ (E : String) (ce : Cell) (q9 : Addr) (u : SX) (t : State) (H1 : Heap) (locs1 : List Loc), t.heap = H1 → s.vm.Alike t.vm → px u → BX E u t → H.size ≤ H1.size → (∀ q : Nat, q < H.size → ¬ AX q → H1[q]? = H[q]?) → va_S A0 H0 H1 locs1 → H1[q9]? = some ce → ce.vm = .none → s.vm.findClass E = some ce.cls → vx_W p l e R s m args below meth c H1 locs1 (cells + mc) (slots + ms) Q (F0 m pc ls rest) q9)
    (kk : ∀ (r : Int32) (u : S) (t : State) (H1 : Heap) (locs1 : List Loc), t.heap = H1 → s.vm.Alike t.vm → post r u → B u t → H.size ≤ H1.size → (∀ q : Nat, q < H.size → ¬ A1 q → H1[q]? = H[q]?) → va_S A0 H0 H1 locs1 → W p l e R s m args below meth c H1 locs1 (cells + mc) (slots + ms) Q (F0 m (pc + 3) ls (.int r :: rest))) : W p l e R s m args below meth c H locs cells slots Q (F0 m pc ls st0) := by
  intro T hT X
  rcases hr T hT X with ⟨v, st₀, t, T', L, h0, X', hL, e1, e2, ⟨⟨r, u, hv, hp, hb⟩, hF⟩, st⟩ | ⟨q, st₀, t, T', L, E, ce, h0, X', hL, e1, e2, ⟨u, hp, hb, hF⟩, hce, hcv, hcl, st⟩
  · cases hv
    obtain ⟨k1, k2, k3⟩ := vx_keep h0 e1 hS hA hf hL hF
    obtain ⟨t2, a1, b1⟩ := kk r u t T'.heap (locs ++ L) e1.symm (by rw [← e2]; exact X'.warmed.alike) hp hb k1 k2 k3 T' rfl X'
    exact ⟨t2, st t2 a1, b1⟩
  · obtain ⟨k1, k2, k3⟩ := vx_keep h0 e1 hS hAX hf hL hF
    obtain ⟨t2, a1, b1⟩ := kx E ce q u t T'.heap (locs ++ L) e1.symm (by rw [← e2]; exact X'.warmed.alike) hp hb k1 k2 k3 (by rw [e1]; exact hce) hcv hcl T' rfl X'
    exact ⟨t2, st.trans a1, b1⟩
theorem vx_calll {S SX : Type} {post : Int64 → S → Prop} {px : SX → Prop} {B : S → State → Prop} {BX : String → SX → State → Prop} {AX : Nat → Prop} (hr : vx_Run p l e R s m args below meth c H locs cells slots mc ms (F0 m pc ls st0) rest (va_Ql post B A1 a) (vx_X px BX AX) free) (hS : va_S A0 H0 H locs) (hA : ∀ q, q < H.size → A1 q → A0 q) (hf : ∀ q, free q → A0 q) (hAX : ∀ q, q < H.size → AX q → A0 q)
    (kx : ∀ (E : String) (ce : Cell) (q9 : Addr) (u : SX) (t : State) (H1 : Heap) (locs1 : List Loc), t.heap = H1 → s.vm.Alike t.vm → px u → BX E u t → H.size ≤ H1.size → (∀ q : Nat, q < H.size → ¬ AX q → H1[q]? = H[q]?) → va_S A0 H0 H1 locs1 → H1[q9]? = some ce → ce.vm = .none → s.vm.findClass E = some ce.cls → vx_W p l e R s m args below meth c H1 locs1 (cells + mc) (slots + ms) Q (F0 m pc ls rest) q9)
    (kk : ∀ (r : Int64) (u : S) (t : State) (H1 : Heap) (locs1 : List Loc), t.heap = H1 → s.vm.Alike t.vm → post r u → B u t → H.size ≤ H1.size → (∀ q : Nat, q < H.size → ¬ A1 q → H1[q]? = H[q]?) → va_S A0 H0 H1 locs1 → W p l e R s m args below meth c H1 locs1 (cells + mc) (slots + ms) Q (F0 m (pc + 3) ls (.long r :: rest))) : W p l e R s m args below meth c H locs cells slots Q (F0 m pc ls st0) := by
  intro T hT X
  rcases hr T hT X with ⟨v, st₀, t, T', L, h0, X', hL, e1, e2, ⟨⟨r, u, hv, hp, hb⟩, hF⟩, st⟩ | ⟨q, st₀, t, T', L, E, ce, h0, X', hL, e1, e2, ⟨u, hp, hb, hF⟩, hce, hcv, hcl, st⟩
  · cases hv
    obtain ⟨k1, k2, k3⟩ := vx_keep h0 e1 hS hA hf hL hF
    obtain ⟨t2, a1, b1⟩ := kk r u t T'.heap (locs ++ L) e1.symm (by rw [← e2]; exact X'.warmed.alike) hp hb k1 k2 k3 T' rfl X'
    exact ⟨t2, st t2 a1, b1⟩
  · obtain ⟨k1, k2, k3⟩ := vx_keep h0 e1 hS hAX hf hL hF
    obtain ⟨t2, a1, b1⟩ := kx E ce q u t T'.heap (locs ++ L) e1.symm (by rw [← e2]; exact X'.warmed.alike) hp hb k1 k2 k3 (by rw [e1]; exact hce) hcv hcl T' rfl X'
    exact ⟨t2, st.trans a1, b1⟩
theorem vx_callf {S SX : Type} {post : UInt32 → S → Prop} {px : SX → Prop} {B : S → State → Prop} {BX : String → SX → State → Prop} {AX : Nat → Prop} (hr : vx_Run p l e R s m args below meth c H locs cells slots mc ms (F0 m pc ls st0) rest (va_Qf post B A1 a) (vx_X px BX AX) free) (hS : va_S A0 H0 H locs) (hA : ∀ q, q < H.size → A1 q → A0 q) (hf : ∀ q, free q → A0 q) (hAX : ∀ q, q < H.size → AX q → A0 q)
    (kx : ∀ (E : String) (ce : Cell) (q9 : Addr) (u : SX) (t : State) (H1 : Heap) (locs1 : List Loc), t.heap = H1 → s.vm.Alike t.vm → px u → BX E u t → H.size ≤ H1.size → (∀ q : Nat, q < H.size → ¬ AX q → H1[q]? = H[q]?) → va_S A0 H0 H1 locs1 → H1[q9]? = some ce → ce.vm = .none → s.vm.findClass E = some ce.cls → vx_W p l e R s m args below meth c H1 locs1 (cells + mc) (slots + ms) Q (F0 m pc ls rest) q9)
    (kk : ∀ (r : UInt32) (u : S) (t : State) (H1 : Heap) (locs1 : List Loc), t.heap = H1 → s.vm.Alike t.vm → post r u → B u t → H.size ≤ H1.size → (∀ q : Nat, q < H.size → ¬ A1 q → H1[q]? = H[q]?) → va_S A0 H0 H1 locs1 → W p l e R s m args below meth c H1 locs1 (cells + mc) (slots + ms) Q (F0 m (pc + 3) ls (.float r :: rest))) : W p l e R s m args below meth c H locs cells slots Q (F0 m pc ls st0) := by
  intro T hT X
  rcases hr T hT X with ⟨v, st₀, t, T', L, h0, X', hL, e1, e2, ⟨⟨r, u, hv, hp, hb⟩, hF⟩, st⟩ | ⟨q, st₀, t, T', L, E, ce, h0, X', hL, e1, e2, ⟨u, hp, hb, hF⟩, hce, hcv, hcl, st⟩
  · cases hv
    obtain ⟨k1, k2, k3⟩ := vx_keep h0 e1 hS hA hf hL hF
    obtain ⟨t2, a1, b1⟩ := kk r u t T'.heap (locs ++ L) e1.symm (by rw [← e2]; exact X'.warmed.alike) hp hb k1 k2 k3 T' rfl X'
    exact ⟨t2, st t2 a1, b1⟩
  · obtain ⟨k1, k2, k3⟩ := vx_keep h0 e1 hS hAX hf hL hF
    obtain ⟨t2, a1, b1⟩ := kx E ce q u t T'.heap (locs ++ L) e1.symm (by rw [← e2]; exact X'.warmed.alike) hp hb k1 k2 k3 (by rw [e1]; exact hce) hcv hcl T' rfl X'
    exact ⟨t2, st.trans a1, b1⟩
theorem vx_calld {S SX : Type} {post : UInt64 → S → Prop} {px : SX → Prop} {B : S → State → Prop} {BX : String → SX → State → Prop} {AX : Nat → Prop} (hr : vx_Run p l e R s m args below meth c H locs cells slots mc ms (F0 m pc ls st0) rest (va_Qd post B A1 a) (vx_X px BX AX) free) (hS : va_S A0 H0 H locs) (hA : ∀ q, q < H.size → A1 q → A0 q) (hf : ∀ q, free q → A0 q) (hAX : ∀ q, q < H.size → AX q → A0 q)
    (kx : ∀ (E : String) (ce : Cell) (q9 : Addr) (u : SX) (t : State) (H1 : Heap) (locs1 : List Loc), t.heap = H1 → s.vm.Alike t.vm → px u → BX E u t → H.size ≤ H1.size → (∀ q : Nat, q < H.size → ¬ AX q → H1[q]? = H[q]?) → va_S A0 H0 H1 locs1 → H1[q9]? = some ce → ce.vm = .none → s.vm.findClass E = some ce.cls → vx_W p l e R s m args below meth c H1 locs1 (cells + mc) (slots + ms) Q (F0 m pc ls rest) q9)
    (kk : ∀ (r : UInt64) (u : S) (t : State) (H1 : Heap) (locs1 : List Loc), t.heap = H1 → s.vm.Alike t.vm → post r u → B u t → H.size ≤ H1.size → (∀ q : Nat, q < H.size → ¬ A1 q → H1[q]? = H[q]?) → va_S A0 H0 H1 locs1 → W p l e R s m args below meth c H1 locs1 (cells + mc) (slots + ms) Q (F0 m (pc + 3) ls (.double r :: rest))) : W p l e R s m args below meth c H locs cells slots Q (F0 m pc ls st0) := by
  intro T hT X
  rcases hr T hT X with ⟨v, st₀, t, T', L, h0, X', hL, e1, e2, ⟨⟨r, u, hv, hp, hb⟩, hF⟩, st⟩ | ⟨q, st₀, t, T', L, E, ce, h0, X', hL, e1, e2, ⟨u, hp, hb, hF⟩, hce, hcv, hcl, st⟩
  · cases hv
    obtain ⟨k1, k2, k3⟩ := vx_keep h0 e1 hS hA hf hL hF
    obtain ⟨t2, a1, b1⟩ := kk r u t T'.heap (locs ++ L) e1.symm (by rw [← e2]; exact X'.warmed.alike) hp hb k1 k2 k3 T' rfl X'
    exact ⟨t2, st t2 a1, b1⟩
  · obtain ⟨k1, k2, k3⟩ := vx_keep h0 e1 hS hAX hf hL hF
    obtain ⟨t2, a1, b1⟩ := kx E ce q u t T'.heap (locs ++ L) e1.symm (by rw [← e2]; exact X'.warmed.alike) hp hb k1 k2 k3 (by rw [e1]; exact hce) hcv hcl T' rfl X'
    exact ⟨t2, st.trans a1, b1⟩
theorem vx_callv {S SX : Type} {post : S → Prop} {px : SX → Prop} {B : S → State → Prop} {BX : String → SX → State → Prop} {AX : Nat → Prop} (hr : vx_Run p l e R s m args below meth c H locs cells slots mc ms (F0 m pc ls st0) rest (va_Qv post B A1 a) (vx_X px BX AX) free) (hS : va_S A0 H0 H locs) (hA : ∀ q, q < H.size → A1 q → A0 q) (hf : ∀ q, free q → A0 q) (hAX : ∀ q, q < H.size → AX q → A0 q)
    (kx : ∀ (E : String) (ce : Cell) (q9 : Addr) (u : SX) (t : State) (H1 : Heap) (locs1 : List Loc), t.heap = H1 → s.vm.Alike t.vm → px u → BX E u t → H.size ≤ H1.size → (∀ q : Nat, q < H.size → ¬ AX q → H1[q]? = H[q]?) → va_S A0 H0 H1 locs1 → H1[q9]? = some ce → ce.vm = .none → s.vm.findClass E = some ce.cls → vx_W p l e R s m args below meth c H1 locs1 (cells + mc) (slots + ms) Q (F0 m pc ls rest) q9)
    (kk : ∀ (u : S) (t : State) (H1 : Heap) (locs1 : List Loc), t.heap = H1 → s.vm.Alike t.vm → post u → B u t → H.size ≤ H1.size → (∀ q : Nat, q < H.size → ¬ A1 q → H1[q]? = H[q]?) → va_S A0 H0 H1 locs1 → W p l e R s m args below meth c H1 locs1 (cells + mc) (slots + ms) Q (F0 m (pc + 3) ls (rest))) : W p l e R s m args below meth c H locs cells slots Q (F0 m pc ls st0) := by
  intro T hT X
  rcases hr T hT X with ⟨v, st₀, t, T', L, h0, X', hL, e1, e2, ⟨⟨u, hv, hp, hb⟩, hF⟩, st⟩ | ⟨q, st₀, t, T', L, E, ce, h0, X', hL, e1, e2, ⟨u, hp, hb, hF⟩, hce, hcv, hcl, st⟩
  · cases hv
    obtain ⟨k1, k2, k3⟩ := vx_keep h0 e1 hS hA hf hL hF
    obtain ⟨t2, a1, b1⟩ := kk u t T'.heap (locs ++ L) e1.symm (by rw [← e2]; exact X'.warmed.alike) hp hb k1 k2 k3 T' rfl X'
    exact ⟨t2, st t2 a1, b1⟩
  · obtain ⟨k1, k2, k3⟩ := vx_keep h0 e1 hS hAX hf hL hF
    obtain ⟨t2, a1, b1⟩ := kx E ce q u t T'.heap (locs ++ L) e1.symm (by rw [← e2]; exact X'.warmed.alike) hp hb k1 k2 k3 (by rw [e1]; exact hce) hcv hcl T' rfl X'
    exact ⟨t2, st.trans a1, b1⟩
/-- caught by the row x of this method's table; the rows ahead don't take it -/
theorem vx_catch {own name : String} {E : String} {ce : Cell} {q : Addr} (hown : s.vm.findClass own = some m.cls) (pre : List ExceptionTableEntry) (x : ExceptionTableEntry) (suf : List ExceptionTableEntry) (hsplit : c.exceptionTable.toList = pre ++ x :: suf)
    (hpass : ∀ z ∈ pre, covers z pc = false ∨ (z.catchType ≠ 0 ∧ ∃ nm : String, (Cond.classLink own z.catchType nm).before args s = true ∧ va_Nc E nm s)) (hx : covers x pc = true) (h0 : x.catchType ≠ 0)
    (hlink : (Cond.classLink own x.catchType name).before args s = true) (hcast : (Cond.castable E name).before args s = true) (hcell : H[q]? = some ce) (hv : ce.vm = .none) (hcl : s.vm.findClass E = some ce.cls)
    (kk : W p l e R s m args below meth c H locs cells slots Q (F0 m x.handlerPc ls [.ref q])) : vx_W p l e R s m args below meth c H locs cells slots Q (F0 m pc ls rest) q := by
  intro T hT X
  have hpl : e.platform.magicAccessors = ({} : Platform).magicAccessors := by rw [X.admits.platform]
  obtain ⟨c3, c4, hc3, hc4, hasg⟩ := Cond.castable_spec hcast
  cases Option.some.inj (hc3.symm.trans hcl)
  obtain ⟨c5, hc5, hcl5⟩ := Cond.classLink_spec hown hlink e.platform hpl
  cases Option.some.inj (hc4.symm.trans hc5)
  obtain ⟨vm', X', st⟩ := X.thenCaughtThrough q (g := F0 m pc ls rest) rfl (Steps.refl _) (by rw [hT]; exact hcell) (by rw [hv]; rfl) (by obtain ⟨k9, h9, -⟩ := Vm.findClass_spec hcl; exact ⟨k9, h9⟩) pre x suf hsplit
    (fun z hz => by
      rcases hpass z hz with h | ⟨hz0, nm, hl1, hn1⟩
      · exact Or.inl h
      · obtain ⟨c6, hc6, hcl6⟩ := Cond.classLink_spec hown hl1 e.platform hpl
        obtain ⟨a8, b8, h1, h2, h3⟩ := hn1
        cases Option.some.inj (h1.symm.trans hcl)
        cases Option.some.inj (h2.symm.trans hc6)
        exact Or.inr ⟨hz0, _, hcl6, h3⟩) hx (Or.inr ⟨h0, c4, hcl5, hasg⟩)
  obtain ⟨t, a1, b1⟩ := kk (T.setVm vm') hT X'
  exact ⟨t, st.trans a1, b1⟩
end Rows
section Ends
variable {p : Program} {l : Launch} {e : Env} {R : Room} {s : State} {m : MethodId} {args : Array Value} {below : List Frame} {meth : Method} {c : Code} {H : Heap} {locs : List Loc} {cells slots : Nat} {Q : State → Prop}
variable {mc ms : Nat} {free : Addr → Prop} {A0 A1 : Nat → Prop} {H0 : Heap} {a : Array Value} {ls : Array Slot} {st0 rest : List Value}
variable {Qc : Array Value → State → Outcome → State → Prop} {XC : String → State → State → Prop}
/-- what a body that may throw owes at its end -/
def vx_MQ (below : List Frame) (Qc : Array Value → State → Outcome → State → Prop) (XC : String → State → State → Prop) (a : Array Value) (s : State) (mc ms : Nat) (free : Addr → Prop) : State → Prop := fun t =>
  ∃ o, t.status = .running ∧ Ended t below o ∧ vx_Q Qc XC mc ms free a s o t
theorem vx_ret {g : JFrame} {mc ms : Nat} (k : W p l e R s m args below meth c H locs cells slots (MQ below Qc args s mc ms free) g) : W p l e R s m args below meth c H locs cells slots (vx_MQ below Qc XC args s mc ms free) g := by
  intro T hT X
  obtain ⟨t, a1, o, b1, b2, b3, b4⟩ := k T hT X
  exact ⟨t, a1, o, b1, b2, Or.inl ⟨b3, b4⟩⟩
/-- not caught here: it goes on to the caller -/
theorem vx_widen {g : JFrame} {q : Addr} {k n : Nat} (h1 : cells ≤ k) (h2 : slots ≤ n) (kk : vx_W p l e R s m args below meth c H locs k n Q g q) : vx_W p l e R s m args below meth c H locs cells slots Q g q := fun T hT X => kk T hT (stand_widen X h1 h2)
theorem vx_out {pc : Nat} {E : String} {ce : Cell} {q : Addr} {mc ms : Nat} (hout : ∀ x ∈ c.exceptionTable.toList, covers x pc = false) (hlocks : meth.locks = false) (hcell : H[q]? = some ce) (hv : ce.vm = .none) (hcl : s.vm.findClass E = some ce.cls)
    (hx : ∀ t : State, t.heap = H → s.vm.Alike t.vm → XC E s t) (hf : ∀ z ∈ locs, free z.base) (hc : cells ≤ mc) (hs : slots ≤ ms) :
    vx_W p l e R s m args below meth c H locs cells slots (vx_MQ below Qc XC args s mc ms free) (F0 m pc ls rest) q := by
  intro T hT X
  obtain ⟨st1, hrun, hend, hW, hsm⟩ := X.leaveThrown q (g := F0 m pc ls rest) rfl rfl rfl hout hlocks
  have hcell9 : (T.setFrames (.throwing q :: below)).heap[q]? = some ce := by
    show T.heap[q]? = some ce
    rw [hT]; exact hcell
  exact ⟨_, st1, .threw q, hrun, hend, Or.inr ⟨q, rfl, E, ce, locs, hx _ hT hW.alike, hcell9, hv, hcl, hW, hsm.mono hc hs, hf⟩⟩
theorem vx_frame {U : State} {k n : Nat} (h : s.sameButNew ({ U with vm := s.vm } : State) locs k n) : s.heap.size ≤ U.heap.size ∧ ∀ q : Nat, q < s.heap.size → (∀ z ∈ locs, z.base ≠ q) → U.heap[q]? = s.heap[q]? := by
  obtain ⟨-, h2, -, -, -, h6⟩ := h
  refine ⟨h2, fun q hq hz => ?_⟩
  obtain ⟨c9, e1, e2, e3, e4⟩ := h6 q _ (Array.getElem?_eq_getElem hq)
  have hs : c9.slots = (s.heap[q]).slots := Array.ext_getElem? fun i => e4 i fun hm => hz _ hm rfl
  have h9 : c9 = s.heap[q] := by
    rw [hs] at e2
    exact e2
  have e5 : U.heap[q]? = some c9 := e1
  rw [e5, h9, Array.getElem?_eq_getElem hq]
/-- the words of a throw but the four that speak of the heap -/
def vx_no (w : Cond) : Bool := decide (w ≠ .isRef (.static Bundle.tN "UNASSIGNED_STACK" Bundle.steD)) && decide (w ≠ .isRef (.static Bundle.tN "SUPPRESSED_SENTINEL" Bundle.listD)) && decide (w ≠ .laysStatic Bundle.tN "UNASSIGNED_STACK" Bundle.steD) && decide (w ≠ .laysStatic Bundle.tN "SUPPRESSED_SENTINEL" Bundle.listD)
def vx_at0 (own : String) (ic : Nat) (X : String) (names : List String) : List Cond := (Bundle.ownAtoms0 own ic X names).filter vx_no
def vx_atS (own : String) (ic : Nat) (X : String) (names : List String) : List Cond := (Bundle.ownAtoms own ic X names).filter vx_no
/-- a word that the tables alone decide, or a good one -/
def vx_ot (w : Cond) : Bool := w.onTables || goodWord w
theorem vx_ot_at {args a' : Array Value} {s U : State} {w : Cond} (hW : s.WarmedH U.vm) (hvm : s.vm = U.vm) (hg : vx_ot w = true) (h : w.before args s = true) : w.before a' U = true := by
  simp only [vx_ot, Bool.or_eq_true] at hg
  rcases hg with hg | hg
  · exact va_tabs hg hvm h
  · exact word_at hW (good_of_word hg) h
/-- a list's words: the good ones out of the method's own list, the others by premises of their own -/
theorem vx_hat {args : Array Value} {s : State} {L B : List Cond} (h1 : ∀ w ∈ L.filter goodWord, w.before args s = true) (h2 : ∀ w ∈ L.filter (fun w => !goodWord w), w ∈ B) (h3 : ∀ w ∈ B, w.before args s = true) : ∀ w ∈ L, w.before args s = true := by
  intro w hw
  by_cases g : goodWord w = true
  · exact h1 w (List.mem_filter.mpr ⟨hw, g⟩)
  · refine h3 w (h2 w (List.mem_filter.mpr ⟨hw, ?_⟩))
    show (!goodWord w) = true
    cases hgw : goodWord w
    · rfl
    · exact absurd hgw g
theorem vx_c {args : Array Value} {s : State} {w : Cond} {B : List Cond} (h : w.before args s = true) (t : ∀ w ∈ B, w.before args s = true) : ∀ w' ∈ w :: B, w'.before args s = true := fun w' h' => (List.mem_cons.mp h').elim (fun e => by rw [e]; exact h) (t w')
theorem vx_n {args : Array Value} {s : State} : ∀ w ∈ ([] : List Cond), w.before args s = true := fun _ h => nomatch h
theorem vx_own {args : Array Value} {s : State} {L : List Cond} (h1 : ∀ w ∈ L.filter vx_no, w.before args s = true)
    (hU : (Cond.isRef (.static Bundle.tN "UNASSIGNED_STACK" Bundle.steD)).before args s = true) (hN : (Cond.isRef (.static Bundle.tN "SUPPRESSED_SENTINEL" Bundle.listD)).before args s = true)
    (lU : (Cond.laysStatic Bundle.tN "UNASSIGNED_STACK" Bundle.steD).before args s = true) (lN : (Cond.laysStatic Bundle.tN "SUPPRESSED_SENTINEL" Bundle.listD).before args s = true) : ∀ w ∈ L, w.before args s = true := by
  intro w hw
  by_cases e1 : w = .isRef (.static Bundle.tN "UNASSIGNED_STACK" Bundle.steD)
  · rw [e1]; exact hU
  · by_cases e2 : w = .isRef (.static Bundle.tN "SUPPRESSED_SENTINEL" Bundle.listD)
    · rw [e2]; exact hN
    · by_cases e3 : w = .laysStatic Bundle.tN "UNASSIGNED_STACK" Bundle.steD
      · rw [e3]; exact lU
      · by_cases e4 : w = .laysStatic Bundle.tN "SUPPRESSED_SENTINEL" Bundle.listD
        · rw [e4]; exact lN
        · exact h1 w (List.mem_filter.mpr ⟨hw, by unfold vx_no; rw [decide_eq_true e1, decide_eq_true e2, decide_eq_true e3, decide_eq_true e4]; rfl⟩)
/-- where a static field lies, its class's statics cell in H -/
def vx_L (C n d : String) (A : Nat → Prop) (U : State) (H : Heap) : Prop := ∃ (c : ClassId) (k : Class) (i : Nat) (f : Field) (a : Nat) (cell : Cell), U.vm.findClass C = some c ∧ U.fieldFound? C n d = some (c, k, i, f) ∧ f.isStatic = true ∧ k.statics = some a ∧ H[a]? = some cell ∧ cell.vm.isStatics = true ∧ cell.cls = c ∧ f.slot < cell.slots.size ∧ k.staticTypes[f.slot]? = some f.type ∧ ¬ A a
theorem vx_L.moved {C n d : String} {A : Nat → Prop} {u U : State} {H : Heap} (hvm : u.vm.Alike U.vm) (h : vx_L C n d A u H) : vx_L C n d A U H := by
  obtain ⟨c, k, i, f, a, cell, h1, h2, h3, h4, h5, h6, h7, h8, h9, h10⟩ := h
  obtain ⟨k', hi', he⟩ := State.fieldFound?_setVm hvm h2
  exact ⟨c, k', i, f, a, cell, by rw [hvm.findClass]; exact h1, hi', h3, by rw [he]; exact h4, h5, h6, h7, h8, by rw [he]; exact h9, h10⟩
theorem vx_L.kept {C n d : String} {A : Nat → Prop} {U : State} {H H1 : Heap} (h : vx_L C n d A U H) (hq : ∀ a : Nat, a < H.size → ¬ A a → H1[a]? = H[a]?) : vx_L C n d A U H1 := by
  obtain ⟨c, k, i, f, a, cell, h1, h2, h3, h4, h5, h6, h7, h8, h9, h10⟩ := h
  exact ⟨c, k, i, f, a, cell, h1, h2, h3, h4, by rw [hq a (Array.getElem?_eq_some_iff.mp h5).1 h10]; exact h5, h6, h7, h8, h9, h10⟩
theorem vx_L.narrow {C n d : String} {A B : Nat → Prop} {U : State} {H : Heap} (h : vx_L C n d A U H) (hAB : ∀ q, B q → A q) : vx_L C n d B U H := by
  obtain ⟨c, k, i, f, a, cell, h1, h2, h3, h4, h5, h6, h7, h8, h9, h10⟩ := h
  exact ⟨c, k, i, f, a, cell, h1, h2, h3, h4, h5, h6, h7, h8, h9, fun z => h10 (hAB _ z)⟩
theorem vx_L.word {C n d : String} {A : Nat → Prop} {s : State} {args : Array Value} (h : vx_L C n d A s s.heap) : (Cond.laysStatic C n d).before args s = true := by
  obtain ⟨c, k, i, f, a, cell, h1, h2, h3, h4, h5, h6, h7, h8, h9, -⟩ := h
  show (Cond.laysStatic C n d).holds args s none s [] = true
  exact Cond.laysStatic_of h1 h2 h3 h4 h5 h6 h7 h8 h9
/-- .. and what it holds: null or some reference -/
def vx_Zq (C n d : String) (A : Nat → Prop) (U : State) (H : Heap) : Prop := va_Zq C n d A U H ∧ vx_L C n d A U H
theorem vx_Zq.moved {C n d : String} {A : Nat → Prop} {u U : State} {H : Heap} (hvm : u.vm.Alike U.vm) (h : vx_Zq C n d A u H) : vx_Zq C n d A U H := ⟨va_Zq.moved hvm h.1, vx_L.moved hvm h.2⟩
theorem vx_Zq.kept {C n d : String} {A : Nat → Prop} {U : State} {H H1 : Heap} (h : vx_Zq C n d A U H) (hq : ∀ a : Nat, a < H.size → ¬ A a → H1[a]? = H[a]?) : vx_Zq C n d A U H1 := ⟨va_Zq.kept h.1 hq, vx_L.kept h.2 hq⟩
theorem vx_Zq.narrow {C n d : String} {A B : Nat → Prop} {U : State} {H : Heap} (h : vx_Zq C n d A U H) (hAB : ∀ q, B q → A q) : vx_Zq C n d B U H := ⟨va_Zq.narrow h.1 hAB, vx_L.narrow h.2 hAB⟩
theorem vx_Zqof {args : Array Value} {s : State} {C n d : String} {A : Nat → Prop} (hl : (Cond.laysStatic C n d).before args s = true) (hini : (Cond.initialized C).before args s = true) (h : (Cond.isRef (.static C n d)).before args s = true) (hA : ∀ a : Nat, a < s.heap.size → ¬ A a) : vx_Zq C n d A s s.heap := by
  refine ⟨va_Zqof hl hini h hA, ?_⟩
  obtain ⟨c, k, i, f, a, cell, h1, h2, h3, h4, h5, h6, h7, h8, h9⟩ := Cond.laysStatic_spec hl
  exact ⟨c, k, i, f, a, cell, h1, h2, h3, h4, h5, h6, h7, h8, h9, hA a (Array.getElem?_eq_some_iff.mp h5).1⟩
theorem vx_isRef {C n d : String} {v : Value} {A : Nat → Prop} {s : State} {args : Array Value} (h : va_Z C n d v A s s.heap) (hv : v.isRef = true) : (Cond.isRef (.static C n d)).before args s = true := by
  obtain ⟨cf, kf, fi, f, a, cell, h1, h2, h3, h4, h5, h6, h7, -⟩ := h
  have he : (Term.static C n d).eval args s none [] s = some v := by
    simp [Term.eval, State.fieldNamed?, h1, h2, h4, h5, h6, h7]
  simp only [Cond.before, Cond.holds, Cond.value, he]
  cases v <;> simp_all [Value.isRef]
theorem vx_isRefq {C n d : String} {A : Nat → Prop} {s : State} {args : Array Value} (h : va_Zq C n d A s s.heap) : (Cond.isRef (.static C n d)).before args s = true := by
  rcases h with h | ⟨t, h⟩
  · exact vx_isRef h rfl
  · exact vx_isRef h rfl
/-- the same frame, seen from here: as if the method were called anew in this heap -/
theorem vx_rebase {T : State} (X : Stand p l e R s m args below meth c T locs cells slots) {R' : Room} (hf : R'.frames ≤ R.frames) (hl : R'.locals ≤ R.locals) (hc : cells + R'.cells ≤ R.cells) (hs : slots + R'.slots ≤ R.slots) :
    Stand p l e R' ((T.setVm s.vm).setFrames (.invoking m args :: below)) m args below meth c T [] 0 0 := by
  have htop : (T.setVm s.vm).topJava?.isSome := X.here.top
  have hF : ((T.setVm s.vm).setFrames (.invoking m args :: below)).frames = .invoking m args :: below := State.frames_setFrames _ (State.cur_lt_of_top htop)
  obtain ⟨g₀, hg0⟩ := Option.isSome_iff_exists.mp htop
  obtain ⟨r, hr⟩ := State.topJava?_eq_some.mp hg0
  have hl9 : e.platform.stackLimits (T.setVm s.vm).me = e.platform.stackLimits s.me := X.limits
  have hb9 : (T.setVm s.vm).me.stackBytes = s.me.stackBytes := X.bytes
  refine ⟨X.admits, X.cas, X.clock, hF, ?_, X.hears, X.method, X.code, X.here, X.tail, X.warmed, ?_, ?_, ?_⟩
  · have h := X.room
    have hU : ((T.setVm s.vm).setFrames (.invoking m args :: below)).localsInUse = s.localsInUse := by
      rw [State.localsInUse_invoking hF (meth := meth) (c := c) X.method X.code, State.localsInUse_invoking X.frames X.method X.code]
    simp only [State.hasRoom, Bool.and_eq_true, decide_eq_true_eq] at h ⊢
    obtain ⟨⟨⟨⟨h1, h2, h3, h4, h5, h6⟩, h7⟩, h8⟩, h9⟩ := h
    rw [X.frames, List.length_cons] at h2 h3
    have q1 := X.heapSize
    have q2 := X.used
    simp only [hF, hU, List.length_cons, State.stackLimits_setFrames, State.stackBytes_setFrames, hl9, hb9]
    refine ⟨⟨⟨⟨by omega, by omega, by omega, by omega, by omega, h6⟩, ?_⟩, ?_⟩, X.book⟩
    · show T.heap.size + R'.cells ≤ e.platform.maxCells
      omega
    · show T.slotsUsed + R'.slots ≤ e.platform.maxSlots
      omega
  · rw [State.stackLimits_setFrames]; rfl
  · rw [State.stackBytes_setFrames]; rfl
  · refine ⟨?_, Nat.le_refl _, Nat.le_refl _, ?_, ?_, fun a c9 h9 => ⟨c9, h9, rfl, rfl, fun _ _ => rfl⟩⟩
    · obtain ⟨t, ht, -⟩ := State.frames_cons hr
      show T.setVm s.vm = { ((T.setVm s.vm).setFrames (.invoking m args :: below)).setFrames (T.setVm s.vm).frames with heap := T.heap, slotsUsed := T.slotsUsed }
      rw [State.setFrames_setFrames, State.setFrames_self ht]
      rfl
    · show T.slotsUsed = T.slotsUsed + ((T.heap.toList.drop T.heap.size).map (·.slots.size)).sum
      rw [List.drop_eq_nil_of_le (Nat.le_of_eq Array.length_toList)]
      rfl
    · show ((T.heap.toList.drop T.heap.size).map (·.slots.size)).sum ≤ 0
      rw [List.drop_eq_nil_of_le (Nat.le_of_eq Array.length_toList)]
      exact Nat.le_refl _
/-- 'throw new E()': new; dup; invokespecial; athrow -/
theorem vx_throw0 {cc : ByteArray} {pc : Nat} (hexec : p.tables.exec = Jvm.exec) (hb : c.code = cc) (hl : l.stackTraces = false) {own cls : String} {names : List String} {ik ic mc ms : Nat} {A : Nat → Prop}
    (hown : s.vm.findClass own = some m.cls) (hcls : Bundle.fit cls = true) (hnames : ∀ n ∈ names, Bundle.fit n = true)
    (hk : (Cond.classLink own ik cls).before args s = true) (hini : (Cond.initialized cls).before args s = true) (hat : ∀ w ∈ vx_at0 own ic cls names, w.before args s = true)
    (hgood : ∀ w ∈ Cond.classLink own ik cls :: Cond.initialized cls :: vx_at0 own ic cls names, vx_ot w = true)
    (hU : vx_Zq Bundle.tN "UNASSIGNED_STACK" Bundle.steD A s s.heap) (hN : vx_Zq Bundle.tN "SUPPRESSED_SENTINEL" Bundle.listD A s s.heap) (hS : va_S A s.heap H locs) (hsize : ls.size = c.maxLocals)
    (d0 : decode cc pc = .ok (.new ik, 3)) (d3 : decode cc (pc + 3) = .ok (.dup, 1)) (d4 : decode cc (pc + 4) = .ok (.invokespecial ic, 3)) (d7 : decode cc (pc + 7) = .ok (.athrow, 1))
    (hout : ∀ x ∈ c.exceptionTable.toList, covers x (pc + 7) = false)
    (hRframes : names.length + 3 < R.frames) (hRlocals : (rest.map fun v => v.category).sum + (13 * (names.length + 1) + 42) ≤ R.locals) (hRcells : cells + 1 ≤ R.cells) (hRslots : slots + 6 ≤ R.slots) (hlocks : meth.locks = false)
    (hx : ∀ t : State, s.vm.Alike t.vm → H.size ≤ t.heap.size → (∀ q : Nat, q < H.size → t.heap[q]? = H[q]?) → XC cls s t)
    (hf : ∀ z ∈ locs, free z.base) (hc : cells + 1 ≤ mc) (hs : slots + 6 ≤ ms) :
    W p l e R s m args below meth c H locs cells slots (vx_MQ below Qc XC args s mc ms free) (F0 m pc ls rest) := by
  intro T hT X
  have htr : e.platform.stackTraces = false := (show e.platform.stackTraces = l.stackTraces by rw [X.admits.platform]).trans hl
  have Y := vx_rebase X (R' := { frames := R.frames, locals := R.locals, cells := 1, slots := 6 }) (Nat.le_refl _) (Nat.le_refl _) hRcells hRslots
  obtain ⟨s', hA⟩ : ∃ z, z = (T.setVm s.vm).setFrames (.invoking m args :: below) := ⟨_, rfl⟩
  rw [← hA] at Y
  have hvm : s'.vm = s.vm := by rw [hA]; rfl
  have hhp : s'.heap = H := by rw [hA]; exact hT
  have hW0 : s.WarmedH s'.vm := by rw [hvm]; exact State.WarmedH.refl s
  have hat' : ∀ w ∈ vx_at0 own ic cls names, w.before args s' = true := fun w hw => vx_ot_at hW0 hvm.symm (hgood w (List.mem_cons_of_mem _ (List.mem_cons_of_mem _ hw))) (hat w hw)
  have hk' : (Cond.classLink own ik cls).before args s' = true := vx_ot_at hW0 hvm.symm (hgood _ List.mem_cons_self) hk
  have hini' : (Cond.initialized cls).before args s' = true := vx_ot_at hW0 hvm.symm (hgood _ (List.mem_cons_of_mem _ List.mem_cons_self)) hini
  have hU' : vx_Zq Bundle.tN "UNASSIGNED_STACK" Bundle.steD A s' s'.heap := by rw [hhp]; exact vx_Zq.moved hW0.alike (hU.kept hS.2.1)
  have hN' : vx_Zq Bundle.tN "SUPPRESSED_SENTINEL" Bundle.listD A s' s'.heap := by rw [hhp]; exact vx_Zq.moved hW0.alike (hN.kept hS.2.1)
  have h : ∀ w ∈ Bundle.ownAtoms0 own ic cls names, w.before args s' = true := vx_own hat' (vx_isRefq hU'.1) (vx_isRefq hN'.1) hU'.2.word hN'.2.word
  have hown' : s'.vm.findClass own = some m.cls := by rw [hvm]; exact hown
  have hins : (Cond.instantiable cls 6).before args s' = true := h _ (by simp [Bundle.ownAtoms0])
  obtain ⟨vm₁, cX, kX, hfX, hkX, -, -, X₁, st1⟩ := Y.newCold hexec (own := own) (C := cls) (index := ik) (n := 6) hown' hk' hins hini'
    (g := F0 m pc ls rest) rfl (by rw [hb]; exact d0) (Nat.le_refl _) (Nat.le_refl _)
  generalize hT1 : (T.setVm vm₁).pushCell { cls := cX, slots := kX.instanceTypes.map defaultValue, vm := .none } = T1 at X₁ st1
  have hcat : (Value.ref T.heap.size).category = 1 := rfl
  have hcellA : T1.heap[T.heap.size]? = some (freshCell cX kX) := by rw [← hT1]; exact State.heap_pushCell_size _ _
  have d3' : decode c.code (pc + 3) = .ok (.dup, 1) := by rw [hb]; exact d3
  obtain ⟨U, hsteps, hrun, hend, hW, hsame, ce, hce, hO⟩ := X₁.ctorThrow0 hexec htr (own := own) (cls := cls) (names := names) (ic := ic) hown' hcls hnames h (fun x hx => nomatch hx) hfX hkX hcellA (by rw [hhp, hT]; exact Nat.le_refl _)
    (g := { method := m, pc := pc + 4, locals := ls, stack := .ref T.heap.size :: .ref T.heap.size :: rest, locked := none }) rfl hsize rfl rfl (rest := rest) rfl
    (by rw [hb]; exact d4) (by rw [hb]; exact d7) hout hRframes (by simp only [List.map_cons, List.sum_cons, hcat]; omega) hlocks
  obtain ⟨f1, f2⟩ := vx_frame hsame
  rw [hhp] at f1 f2
  have hWs : s.WarmedH U.vm := State.WarmedH.trans hW0 hW
  have hcl : s.vm.findClass cls = some ce.cls := by
    have h9 := hO.cls
    rw [hvm] at h9
    exact h9
  have hall : s.sameButNew ({ U with vm := s.vm } : State) locs mc ms := by
    subst hA
    obtain ⟨e1, e2⟩ := hsame
    rw [State.setFrames_setFrames] at e1
    have h2 : (T.setVm s.vm).sameButNew ({ U with vm := s.vm } : State) [] (0 + 1) (0 + 6) := ⟨e1, e2⟩
    have h3 := X.same.trans h2
    rw [List.append_nil] at h3
    exact h3.mono hc hs
  refine ⟨U, ?_, .threw T.heap.size, hrun, hend, Or.inr ⟨T.heap.size, rfl, cls, ce, locs, hx U hWs.alike f1 (fun q hq => f2 q hq (fun z hz => nomatch hz)), hce, hO.vm, hcl, hWs, hall, hf⟩⟩
  refine st1 _ ?_
  show Steps p.tables e below (T1.setTop { method := m, pc := pc + 3, locals := ls, stack := .ref T.heap.size :: rest, locked := none }) _
  jvm_step X₁.here [X₁.here.top, hexec, d3', Value.category]
  exact hsteps
/-- 'throw new E("text")': new; dup; ldc; invokespecial; athrow -/
theorem vx_throwS {cc : ByteArray} {pc : Nat} (hexec : p.tables.exec = Jvm.exec) (hb : c.code = cc) (hl : l.stackTraces = false) {own cls text : String} {names : List String} {ik is ic mc ms sa : Nat} {A : Nat → Prop}
    (hown : s.vm.findClass own = some m.cls) (hcls : Bundle.fit cls = true) (hnames : ∀ n ∈ names, Bundle.fit n = true)
    (hk : (Cond.classLink own ik cls).before args s = true) (hini : (Cond.initialized cls).before args s = true) (hstr : vk_R own is text sa s) (hat : ∀ w ∈ vx_atS own ic cls names, w.before args s = true)
    (hgood : ∀ w ∈ Cond.classLink own ik cls :: Cond.initialized cls :: vx_atS own ic cls names, vx_ot w = true)
    (hU : vx_Zq Bundle.tN "UNASSIGNED_STACK" Bundle.steD A s s.heap) (hN : vx_Zq Bundle.tN "SUPPRESSED_SENTINEL" Bundle.listD A s s.heap) (hS : va_S A s.heap H locs) (hsize : ls.size = c.maxLocals)
    (d0 : decode cc pc = .ok (.new ik, 3)) (d3 : decode cc (pc + 3) = .ok (.dup, 1)) (d4 : decode cc (pc + 4) = .ok (.ldc is, 2)) (d6 : decode cc (pc + 6) = .ok (.invokespecial ic, 3)) (d9 : decode cc (pc + 9) = .ok (.athrow, 1))
    (hout : ∀ x ∈ c.exceptionTable.toList, covers x (pc + 9) = false)
    (hRframes : names.length + 3 < R.frames) (hRlocals : (rest.map fun v => v.category).sum + (13 * (names.length + 1) + 43) ≤ R.locals) (hRcells : cells + 1 ≤ R.cells) (hRslots : slots + 6 ≤ R.slots) (hlocks : meth.locks = false)
    (hx : ∀ t : State, s.vm.Alike t.vm → H.size ≤ t.heap.size → (∀ q : Nat, q < H.size → t.heap[q]? = H[q]?) → XC cls s t)
    (hf : ∀ z ∈ locs, free z.base) (hc : cells + 1 ≤ mc) (hs : slots + 6 ≤ ms) :
    W p l e R s m args below meth c H locs cells slots (vx_MQ below Qc XC args s mc ms free) (F0 m pc ls rest) := by
  intro T hT X
  have htr : e.platform.stackTraces = false := (show e.platform.stackTraces = l.stackTraces by rw [X.admits.platform]).trans hl
  have Y := vx_rebase X (R' := { frames := R.frames, locals := R.locals, cells := 1, slots := 6 }) (Nat.le_refl _) (Nat.le_refl _) hRcells hRslots
  obtain ⟨s', hA⟩ : ∃ z, z = (T.setVm s.vm).setFrames (.invoking m args :: below) := ⟨_, rfl⟩
  rw [← hA] at Y
  have hvm : s'.vm = s.vm := by rw [hA]; rfl
  have hhp : s'.heap = H := by rw [hA]; exact hT
  have hW0 : s.WarmedH s'.vm := by rw [hvm]; exact State.WarmedH.refl s
  have hat' : ∀ w ∈ vx_atS own ic cls names, w.before args s' = true := fun w hw => vx_ot_at hW0 hvm.symm (hgood w (List.mem_cons_of_mem _ (List.mem_cons_of_mem _ hw))) (hat w hw)
  have hk' : (Cond.classLink own ik cls).before args s' = true := vx_ot_at hW0 hvm.symm (hgood _ List.mem_cons_self) hk
  have hini' : (Cond.initialized cls).before args s' = true := vx_ot_at hW0 hvm.symm (hgood _ (List.mem_cons_of_mem _ List.mem_cons_self)) hini
  have hU' : vx_Zq Bundle.tN "UNASSIGNED_STACK" Bundle.steD A s' s'.heap := by rw [hhp]; exact vx_Zq.moved hW0.alike (hU.kept hS.2.1)
  have hN' : vx_Zq Bundle.tN "SUPPRESSED_SENTINEL" Bundle.listD A s' s'.heap := by rw [hhp]; exact vx_Zq.moved hW0.alike (hN.kept hS.2.1)
  have h : ∀ w ∈ Bundle.ownAtoms own ic cls names, w.before args s' = true := vx_own hat' (vx_isRefq hU'.1) (vx_isRefq hN'.1) hU'.2.word hN'.2.word
  have hown' : s'.vm.findClass own = some m.cls := by rw [hvm]; exact hown
  have hins : (Cond.instantiable cls 6).before args s' = true := h _ (by simp [Bundle.ownAtoms])
  obtain ⟨vm₁, cX, kX, hfX, hkX, -, -, X₁, st1⟩ := Y.newCold hexec (own := own) (C := cls) (index := ik) (n := 6) hown' hk' hins hini'
    (g := F0 m pc ls rest) rfl (by rw [hb]; exact d0) (Nat.le_refl _) (Nat.le_refl _)
  generalize hT1 : (T.setVm vm₁).pushCell { cls := cX, slots := kX.instanceTypes.map defaultValue, vm := .none } = T1 at X₁ st1
  have hcat : (Value.ref T.heap.size).category = 1 := rfl
  have hcellA : T1.heap[T.heap.size]? = some (freshCell cX kX) := by rw [← hT1]; exact State.heap_pushCell_size _ _
  have d3' : decode c.code (pc + 3) = .ok (.dup, 1) := by rw [hb]; exact d3
  have d4' : decode c.code (pc + 4) = .ok (.ldc is, 2) := by rw [hb]; exact d4
  have hstr' : vk_R own is text sa s' := vk_R.warm hW0 hstr
  obtain ⟨U, hsteps, hrun, hend, hW, hsame, ce, hce, hO⟩ := X₁.ctorThrowS hexec htr (own := own) (cls := cls) (names := names) (ic := ic) hown' hcls hnames h (fun x hx => nomatch hx) hfX hkX hcellA (by rw [hhp, hT]; exact Nat.le_refl _) (msg := .ref sa) rfl
    (g := { method := m, pc := pc + 6, locals := ls, stack := .ref sa :: .ref T.heap.size :: .ref T.heap.size :: rest, locked := none }) rfl hsize rfl rfl (rest := rest) rfl
    (by rw [hb]; exact d6) (by rw [hb]; exact d9) hout hRframes (by simp only [List.map_cons, List.sum_cons, hcat]; omega) hlocks
  obtain ⟨f1, f2⟩ := vx_frame hsame
  rw [hhp] at f1 f2
  have hWs : s.WarmedH U.vm := State.WarmedH.trans hW0 hW
  have hcl : s.vm.findClass cls = some ce.cls := by
    have h9 := hO.cls
    rw [hvm] at h9
    exact h9
  have hall : s.sameButNew ({ U with vm := s.vm } : State) locs mc ms := by
    subst hA
    obtain ⟨e1, e2⟩ := hsame
    rw [State.setFrames_setFrames] at e1
    have h2 : (T.setVm s.vm).sameButNew ({ U with vm := s.vm } : State) [] (0 + 1) (0 + 6) := ⟨e1, e2⟩
    have h3 := X.same.trans h2
    rw [List.append_nil] at h3
    exact h3.mono hc hs
  refine ⟨U, ?_, .threw T.heap.size, hrun, hend, Or.inr ⟨T.heap.size, rfl, cls, ce, locs, hx U hWs.alike f1 (fun q hq => f2 q hq (fun z hz => nomatch hz)), hce, hO.vm, hcl, hWs, hall, hf⟩⟩
  refine st1 _ ?_
  show Steps p.tables e below (T1.setTop { method := m, pc := pc + 3, locals := ls, stack := .ref T.heap.size :: rest, locked := none }) _
  jvm_step X₁.here [X₁.here.top, hexec, d3', Value.category]
  exact X₁.ldcString hexec (own := own) (text := text) (index := is) (a := sa) hown' hstr'.1 hstr'.2
    (g := { method := m, pc := pc + 4, locals := ls, stack := .ref T.heap.size :: .ref T.heap.size :: rest, locked := none }) rfl d4' _ hsteps
/-- 'throw new E("text")', the text by a wide index -/
theorem vx_throwSW {cc : ByteArray} {pc : Nat} (hexec : p.tables.exec = Jvm.exec) (hb : c.code = cc) (hl : l.stackTraces = false) {own cls text : String} {names : List String} {ik is ic mc ms sa : Nat} {A : Nat → Prop}
    (hown : s.vm.findClass own = some m.cls) (hcls : Bundle.fit cls = true) (hnames : ∀ n ∈ names, Bundle.fit n = true)
    (hk : (Cond.classLink own ik cls).before args s = true) (hini : (Cond.initialized cls).before args s = true) (hstr : vk_R own is text sa s) (hat : ∀ w ∈ vx_atS own ic cls names, w.before args s = true)
    (hgood : ∀ w ∈ Cond.classLink own ik cls :: Cond.initialized cls :: vx_atS own ic cls names, vx_ot w = true)
    (hU : vx_Zq Bundle.tN "UNASSIGNED_STACK" Bundle.steD A s s.heap) (hN : vx_Zq Bundle.tN "SUPPRESSED_SENTINEL" Bundle.listD A s s.heap) (hS : va_S A s.heap H locs) (hsize : ls.size = c.maxLocals)
    (d0 : decode cc pc = .ok (.new ik, 3)) (d3 : decode cc (pc + 3) = .ok (.dup, 1)) (d4 : decode cc (pc + 4) = .ok (.ldc_w is, 3)) (d7 : decode cc (pc + 7) = .ok (.invokespecial ic, 3)) (d10 : decode cc (pc + 10) = .ok (.athrow, 1))
    (hout : ∀ x ∈ c.exceptionTable.toList, covers x (pc + 10) = false)
    (hRframes : names.length + 3 < R.frames) (hRlocals : (rest.map fun v => v.category).sum + (13 * (names.length + 1) + 43) ≤ R.locals) (hRcells : cells + 1 ≤ R.cells) (hRslots : slots + 6 ≤ R.slots) (hlocks : meth.locks = false)
    (hx : ∀ t : State, s.vm.Alike t.vm → H.size ≤ t.heap.size → (∀ q : Nat, q < H.size → t.heap[q]? = H[q]?) → XC cls s t)
    (hf : ∀ z ∈ locs, free z.base) (hc : cells + 1 ≤ mc) (hs : slots + 6 ≤ ms) :
    W p l e R s m args below meth c H locs cells slots (vx_MQ below Qc XC args s mc ms free) (F0 m pc ls rest) := by
  intro T hT X
  have htr : e.platform.stackTraces = false := (show e.platform.stackTraces = l.stackTraces by rw [X.admits.platform]).trans hl
  have Y := vx_rebase X (R' := { frames := R.frames, locals := R.locals, cells := 1, slots := 6 }) (Nat.le_refl _) (Nat.le_refl _) hRcells hRslots
  obtain ⟨s', hA⟩ : ∃ z, z = (T.setVm s.vm).setFrames (.invoking m args :: below) := ⟨_, rfl⟩
  rw [← hA] at Y
  have hvm : s'.vm = s.vm := by rw [hA]; rfl
  have hhp : s'.heap = H := by rw [hA]; exact hT
  have hW0 : s.WarmedH s'.vm := by rw [hvm]; exact State.WarmedH.refl s
  have hat' : ∀ w ∈ vx_atS own ic cls names, w.before args s' = true := fun w hw => vx_ot_at hW0 hvm.symm (hgood w (List.mem_cons_of_mem _ (List.mem_cons_of_mem _ hw))) (hat w hw)
  have hk' : (Cond.classLink own ik cls).before args s' = true := vx_ot_at hW0 hvm.symm (hgood _ List.mem_cons_self) hk
  have hini' : (Cond.initialized cls).before args s' = true := vx_ot_at hW0 hvm.symm (hgood _ (List.mem_cons_of_mem _ List.mem_cons_self)) hini
  have hU' : vx_Zq Bundle.tN "UNASSIGNED_STACK" Bundle.steD A s' s'.heap := by rw [hhp]; exact vx_Zq.moved hW0.alike (hU.kept hS.2.1)
  have hN' : vx_Zq Bundle.tN "SUPPRESSED_SENTINEL" Bundle.listD A s' s'.heap := by rw [hhp]; exact vx_Zq.moved hW0.alike (hN.kept hS.2.1)
  have h : ∀ w ∈ Bundle.ownAtoms own ic cls names, w.before args s' = true := vx_own hat' (vx_isRefq hU'.1) (vx_isRefq hN'.1) hU'.2.word hN'.2.word
  have hown' : s'.vm.findClass own = some m.cls := by rw [hvm]; exact hown
  have hins : (Cond.instantiable cls 6).before args s' = true := h _ (by simp [Bundle.ownAtoms])
  obtain ⟨vm₁, cX, kX, hfX, hkX, -, -, X₁, st1⟩ := Y.newCold hexec (own := own) (C := cls) (index := ik) (n := 6) hown' hk' hins hini'
    (g := F0 m pc ls rest) rfl (by rw [hb]; exact d0) (Nat.le_refl _) (Nat.le_refl _)
  generalize hT1 : (T.setVm vm₁).pushCell { cls := cX, slots := kX.instanceTypes.map defaultValue, vm := .none } = T1 at X₁ st1
  have hcat : (Value.ref T.heap.size).category = 1 := rfl
  have hcellA : T1.heap[T.heap.size]? = some (freshCell cX kX) := by rw [← hT1]; exact State.heap_pushCell_size _ _
  have d3' : decode c.code (pc + 3) = .ok (.dup, 1) := by rw [hb]; exact d3
  have d4' : decode c.code (pc + 4) = .ok (.ldc_w is, 3) := by rw [hb]; exact d4
  have hstr' : vk_R own is text sa s' := vk_R.warm hW0 hstr
  obtain ⟨U, hsteps, hrun, hend, hW, hsame, ce, hce, hO⟩ := X₁.ctorThrowS hexec htr (own := own) (cls := cls) (names := names) (ic := ic) hown' hcls hnames h (fun x hx => nomatch hx) hfX hkX hcellA (by rw [hhp, hT]; exact Nat.le_refl _) (msg := .ref sa) rfl
    (g := { method := m, pc := pc + 7, locals := ls, stack := .ref sa :: .ref T.heap.size :: .ref T.heap.size :: rest, locked := none }) rfl hsize rfl rfl (rest := rest) rfl
    (by rw [hb]; exact d7) (by rw [hb]; exact d10) hout hRframes (by simp only [List.map_cons, List.sum_cons, hcat]; omega) hlocks
  obtain ⟨f1, f2⟩ := vx_frame hsame
  rw [hhp] at f1 f2
  have hWs : s.WarmedH U.vm := State.WarmedH.trans hW0 hW
  have hcl : s.vm.findClass cls = some ce.cls := by
    have h9 := hO.cls
    rw [hvm] at h9
    exact h9
  have hall : s.sameButNew ({ U with vm := s.vm } : State) locs mc ms := by
    subst hA
    obtain ⟨e1, e2⟩ := hsame
    rw [State.setFrames_setFrames] at e1
    have h2 : (T.setVm s.vm).sameButNew ({ U with vm := s.vm } : State) [] (0 + 1) (0 + 6) := ⟨e1, e2⟩
    have h3 := X.same.trans h2
    rw [List.append_nil] at h3
    exact h3.mono hc hs
  refine ⟨U, ?_, .threw T.heap.size, hrun, hend, Or.inr ⟨T.heap.size, rfl, cls, ce, locs, hx U hWs.alike f1 (fun q hq => f2 q hq (fun z hz => nomatch hz)), hce, hO.vm, hcl, hWs, hall, hf⟩⟩
  refine st1 _ ?_
  show Steps p.tables e below (T1.setTop { method := m, pc := pc + 3, locals := ls, stack := .ref T.heap.size :: rest, locked := none }) _
  jvm_step X₁.here [X₁.here.top, hexec, d3', Value.category]
  exact X₁.ldcStringW hexec (own := own) (text := text) (index := is) (a := sa) hown' hstr'.1 hstr'.2
    (g := { method := m, pc := pc + 4, locals := ls, stack := .ref T.heap.size :: .ref T.heap.size :: rest, locked := none }) rfl d4' _ hsteps
end Ends
section Bodies
variable {l : Launch}
theorem vx_ofW {y : MethodName} {ws ws' : List Cond} {rm : Room} {Pc : Array Value → State → Prop} {Qc : Array Value → State → Outcome → State → Prop} {XC : String → State → State → Prop} {mc ms : Nat} {free : Addr → Prop} {cc : ByteArray} {maxL : Nat} {ret : Option FieldType}
    (hy : plainName y.cls = true) (hw : ws = Cond.code y cc maxL ret :: ws')
    (body : ∀ p e s m args below meth c s₁, BodyLoose p l y (headSpec ws rm) cc maxL ret e s m args below meth c s₁ → c.maxLocals = maxL → (∀ x ∈ c.exceptionTable.toList, False) → Pc args s →
      W p l e (headSpec ws rm).room s m args below meth c s.heap [] 0 0 (vx_MQ below Qc XC args s mc ms free) (entryFrame m args maxL)) : vx_Met l y ws rm Pc Qc XC mc ms free := by
  refine MetFree.of_bodyS (code := cc) (maxLocals := maxL) (ret := ret) hy ?_ ?_
  · intro args s m h hn
    obtain ⟨meth, c, h1, h2, h3, h4, h5, h6, -, -⟩ := Cond.code_spec hn (atoms_spec (ws := ws) h _ (by rw [hw]; exact List.mem_cons_self))
    exact ⟨meth, c, h1, h2, h3, h4, h5, h6⟩
  · intro p e s m args below meth c s₁ B hml hP _
    have hh0 : s₁.heap = s.heap := by rw [B.state]; rfl
    have ht : ∀ x ∈ c.exceptionTable.toList, False := by
      obtain ⟨meth9, c9, h1, h2, -, -, -, -, h7, -⟩ := Cond.code_spec B.named (atoms_spec (ws := ws) B.pre _ (by rw [hw]; exact List.mem_cons_self))
      cases Option.some.inj (h1.symm.trans B.method)
      cases Option.some.inj (h2.symm.trans (Stand.of_body B).code)
      intro x hx
      rw [Array.isEmpty_iff.mp h7] at hx
      cases hx
    obtain ⟨t, a1, o, b1, b2, b3⟩ := body p e s m args below meth c s₁ B hml ht hP s₁ hh0 (Stand.of_body B)
    exact ⟨t, o, a1, b1, b2, b3⟩
/-- the table of a body with handlers -/
theorem vx_table {p : Program} {x y : MethodName} {S : Spec} {cc bytes : ByteArray} {maxL maxL' : Nat} {ret ret' : Option FieldType} {e : Env} {s s₁ : State} {m : MethodId} {args : Array Value} {below : List Frame} {meth : Method} {c : Code} {hh : List (Nat × Nat × Nat × Nat)}
    (B : BodyLoose p l y S cc maxL ret e s m args below meth c s₁) (h : (Cond.codeWith y bytes maxL' ret' hh).before args s = true) : c.exceptionTable.toList = tableOf hh := by
  obtain ⟨m9, meth9, c9, hn9, h1, h2, -, -, h6, -⟩ := Cond.codeWith_spec h
  cases Option.some.inj (hn9.symm.trans B.named)
  cases Option.some.inj (h1.symm.trans B.method)
  cases Option.some.inj (h2.symm.trans (Stand.of_body B).code)
  rw [← h6, table_eq]
end Bodies
end VXA
/-! ===== END ===== -/
/-! ===== BEGIN a static call of a method with an exception table ===== -/
section VXS
variable {p : Program} {l : Launch} {e : Env} {R : Room} {s : State} {m : MethodId} {args : Array Value} {below : List Frame} {meth : Method} {c : Code} {T : State} {H : Heap} {locs : List Loc} {cells slots : Nat}
abbrev vx_CSW (R : Room) (s : State) (args : Array Value) (own : String) (index : Nat) (y : MethodName) (bytes : ByteArray) (maxL : Nat) (ret : Option FieldType) (hh : List (Nat × Nat × Nat × Nat)) (ws : List Cond) (rm : Room) (mc ms n : Nat) : Prop :=
  (rm.cells = mc ∧ rm.slots = ms ∧ rm.frames + 1 ≤ R.frames ∧ 8 + (maxL + 11) + rm.locals ≤ R.locals ∧ (∀ w ∈ ws, ∀ (a' : Array Value) (U : State), s.WarmedH U.vm → w.before a' U = true) ∧ Cond.codeWith y bytes maxL ret hh ∈ ws) ∧
  (Cond.codeWith y bytes maxL ret hh).before args s = true ∧ (Cond.initialized y.cls).before args s = true ∧ (y.cls ≠ "java/lang/invoke/MethodHandle" ∧ y.cls ≠ "java/lang/invoke/VarHandle") ∧
  (∀ sig, parseMethodDescriptor y.desc = some sig → n = sig.parameters.length) ∧ (Cond.methodLink own index y).before args s = true ∧ (Cond.static y).before args s = true
theorem vx_cwSW {own : String} {index maxL mc ms : Nat} {y : MethodName} {bytes : ByteArray} {ret : Option FieldType} {hh : List (Nat × Nat × Nat × Nat)} {Ts ws ws' : List Cond} {rm : Room} (n : Nat) (ht : ∀ w ∈ Ts, w.before args s = true) (hT : GoodIn Ts (va_wsS own index y ws)) (hw : ws = Cond.codeWith y bytes maxL ret hh :: ws') (hrc : rm.cells = mc) (hrs : rm.slots = ms)
    (hd : y.cls ≠ "java/lang/invoke/MethodHandle" ∧ y.cls ≠ "java/lang/invoke/VarHandle" ∧ (parseMethodDescriptor y.desc).map (fun d => d.parameters.length) = some n) (hR : rm.frames + 1 ≤ R.frames ∧ 8 + (maxL + 11) + rm.locals ≤ R.locals) :
    vx_CSW R s args own index y bytes maxL ret hh ws rm mc ms n := by
  have ok : ∀ w ∈ va_wsS own index y ws, w.before args s = true := fun w h => ht w (hT w h).1
  have hG : GoodIn Ts ws := fun w h => hT w (by unfold va_wsS; exact List.mem_append_right _ h)
  have hc : Cond.codeWith y bytes maxL ret hh ∈ ws := by rw [hw]; exact List.mem_cons_self
  refine ⟨⟨hrc, hrs, hR.1, hR.2, pay_in ht hG, hc⟩, ht _ (hG _ hc).1, ok _ (by simp [va_wsS]), ⟨hd.1, hd.2.1⟩, fun sig h => ?_, ok _ (by simp [va_wsS]), ok _ (by simp [va_wsS])⟩
  have h2 := hd.2.2
  rw [h] at h2
  exact (Option.some.inj h2).symm
theorem vx_callSW (X : Stand p l e R s m args below meth c T locs cells slots) (hexec : p.tables.exec = Jvm.exec) {own : String} {index : Nat} {y : MethodName} {bytes : ByteArray} {maxL : Nat} {ret : Option FieldType} {hh : List (Nat × Nat × Nat × Nat)}
    (hown : s.vm.findClass own = some m.cls) (hlink : (Cond.methodLink own index y).before args s = true) (hstat : (Cond.static y).before args s = true) (hinit : (Cond.initialized y.cls).before args s = true)
    (hcode : (Cond.codeWith y bytes maxL ret hh).before args s = true) (hy : y.cls ≠ "java/lang/invoke/MethodHandle" ∧ y.cls ≠ "java/lang/invoke/VarHandle")
    {W9 : Nat} {Pre : Pt → Array Value → Prop} {Post : Pt → Array Value → Option Value → Pt → Prop} (hK : Back l R p e below s args y 3 W9 Pre Post)
    {g : JFrame} (hg : g.method = m) (hsize : g.locals.size = c.maxLocals) {argsL rest : List Value} (hlen : ∀ sig, parseMethodDescriptor y.desc = some sig → argsL.length = sig.parameters.length)
    (hstack : g.stack = argsL.reverse ++ rest) (hW : 2 * g.monitorRoom + (rest.map fun v => v.category).sum ≤ W9) (hdg : decode c.code g.pc = .ok (.invokestatic index, 3))
    (hpre : ∀ vm₁, s.WarmedH vm₁ → Pre ⟨T.setVm vm₁, locs, cells, slots⟩ argsL.toArray) :
    ∃ (v : Option Value) (vm₁ : Vm) (B : Pt), s.WarmedH vm₁ ∧ Stand p l e R s m args below meth c B.U B.locs B.cells B.slots ∧ Post ⟨T.setVm vm₁, locs, cells, slots⟩ argsL.toArray v B ∧
      ∀ target, Steps p.tables e below (B.U.setTop { g with pc := g.pc + 3, stack := v.toList ++ rest }) target → Steps p.tables e below (T.setTop g) target := by
  obtain ⟨mk, methM, cM, hnamed, hmethM, -, -, -, -, -, -, hsigM⟩ := Cond.codeWith_spec hcode
  have hstatic : methM.isStatic = true := Cond.static_spec hnamed hmethM hstat
  obtain ⟨kP, hkP, -⟩ := className_of_methodNamed hnamed
  have hinitP : kP.init = .initialized := Cond.initialized_spec (findClass_of_methodNamed hnamed) hkP hinit
  obtain ⟨vm₁, X₁, hstep₁⟩ := X.invokestatic hexec hown hlink hnamed hmethM hstatic hkP hinitP hy (g := g) hg (argsL := argsL) (rest := rest) (hlen _ hsigM) hstack hdg
  obtain ⟨v, B, X', hpost, hsteps⟩ := hK m meth c ⟨T.setVm vm₁, locs, cells, slots⟩ { g with stack := rest } (.invokestatic index) mk argsL.toArray X₁ hg hsize hdg hW (X₁.named hnamed) (hpre vm₁ X₁.warmed)
  exact ⟨v, vm₁, B, X₁.warmed, X', hpost, fun target h => hstep₁ _ fun acts => by rw [doInvoke_state]; exact hsteps.trans h⟩
theorem vx_runSW {y : MethodName} {bytes cc : ByteArray} {maxL nL mc ms n index : Nat} {ret : Option FieldType} {hh : List (Nat × Nat × Nat × Nat)} {ws : List Cond} {rm : Room} {Pc : Array Value → State → Prop} {Qc : Array Value → State → Outcome → State → Prop} {free : Addr → Prop} {Ts : List Cond} {own : String} {As rest : List Value} {g : JFrame}
    (S : CallFix p m c cc nL s args Ts own) (hM : Met l y ws rm Pc Qc mc ms free) (cw : vx_CSW R s args own index y bytes maxL ret hh ws rm mc ms n) (hp : PreS s H Pc As)
    (hg : g.method = m) (hn : As.length = n) (hsize : g.locals.size = nL) (hstack : g.stack = As.reverse ++ rest) (hW : 2 * g.monitorRoom + (rest.map fun v => v.category).sum ≤ 8) (hdg : decode cc g.pc = .ok (.invokestatic index, 3)) (hf : cells + mc ≤ R.cells ∧ slots + ms ≤ R.slots) :
    va_Run p l e R s m args below meth c H locs cells slots mc ms g rest (Qc As.toArray) (free) := by
  obtain ⟨⟨hrc, hrs, hfr, hlo, hws, hcw⟩, hcode, hini, hy, hlen, hl, hstt⟩ := cw
  have hK : Back l R p e below s args y 3 8 (PreOf R mc ms Pc) (PostOf Qc mc ms free) := va_backW (hh := hh) (bytes := bytes) (maxL := maxL) (ret := ret) hM hp.1 hrc hrs hfr hlo hws hcw (fun a' U hW => word_at hW (Or.inl (by first | rfl | simp [Cond.onTables, Cond.keeps, Cond.steady])) hini)
  obtain ⟨hx, hb, hml, ho, -⟩ := S
  intro T hT X
  obtain ⟨v, vm₁, ⟨U', l2, c2, s2⟩, hW₁, X', ⟨g', mk, t, L, e1, e2, hq, h1, hL, h2, h3⟩, st⟩ := vx_callSW X hx (hh := hh) (bytes := bytes) (maxL := maxL) (ret := ret) ho hl hstt hini hcode hy hK hg (hsize.trans hml.symm) (argsL := As) (rest := rest) (fun sig h => hn.trans (hlen sig h)) hstack hW (by rw [hb]; exact hdg)
    (fun vm₁ hW₁ => ⟨hf.1, hf.2, hp.2 (T.setVm vm₁) hT hW₁⟩)
  dsimp only [Pt.U, Pt.locs, Pt.cells, Pt.slots] at X' e1 e2 h1 h2 h3 st
  subst h1; subst h2; subst h3
  exact ⟨v, (T.setVm vm₁).calling g' mk As.toArray, t, U', L, hT, X', hL, e1, e2, hq, st⟩
/-- not caught here, past rows that name other classes: it goes on to the caller -/
theorem vx_outP {p : Program} {l : Launch} {e : Env} {R : Room} {s : State} {m : MethodId} {args : Array Value} {below : List Frame} {meth : Method} {c : Code} {H : Heap} {locs : List Loc} {cells slots : Nat} {free : Addr → Prop} {ls : Array Slot} {rest : List Value} {Qc : Array Value → State → Outcome → State → Prop} {XC : String → State → State → Prop}
    {pc : Nat} {own E : String} {ce : Cell} {q : Addr} {mc ms : Nat} (hown : s.vm.findClass own = some m.cls) (hlocks : meth.locks = false)
    (hpass : ∀ z ∈ c.exceptionTable.toList, covers z pc = false ∨ (z.catchType ≠ 0 ∧ ∃ nm : String, (Cond.classLink own z.catchType nm).before args s = true ∧ va_Nc E nm s)) (hcell : H[q]? = some ce) (hv : ce.vm = .none) (hcl : s.vm.findClass E = some ce.cls)
    (hx : ∀ t : State, t.heap = H → s.vm.Alike t.vm → XC E s t) (hf : ∀ z ∈ locs, free z.base) (hc : cells ≤ mc) (hs : slots ≤ ms) :
    vx_W p l e R s m args below meth c H locs cells slots (vx_MQ below Qc XC args s mc ms free) (F0 m pc ls rest) q := by
  intro T hT X
  have hpl : e.platform.magicAccessors = ({} : Platform).magicAccessors := by rw [X.admits.platform]
  obtain ⟨vm', hW', X', st⟩ := X.outThrough hlocks q (g := F0 m pc ls rest) rfl rfl rfl (cell := ce) (by rw [hT]; exact hcell) (by rw [hv]; rfl)
    (by obtain ⟨k9, h9, -⟩ := Vm.findClass_spec hcl; exact ⟨k9, h9⟩) (fun z hz => by
      rcases hpass z hz with h | ⟨hz0, nm, hl1, hn1⟩
      · exact Or.inl h
      · obtain ⟨c6, hc6, hcl6⟩ := Cond.classLink_spec hown hl1 e.platform hpl
        obtain ⟨a8, b8, h1, h2, h3⟩ := hn1
        cases Option.some.inj (h1.symm.trans hcl)
        cases Option.some.inj (h2.symm.trans hc6)
        exact Or.inr ⟨hz0, _, hcl6, h3⟩)
  obtain ⟨g₀, hfr⟩ := X'.frames_eq
  have hcell9 : ((T.setVm vm').setFrames (.throwing q :: below)).heap[q]? = some ce := by
    show T.heap[q]? = some ce
    rw [hT]; exact hcell
  have hend : Ended ((T.setVm vm').setFrames (.throwing q :: below)) below (.threw q) := State.frames_setFrames _ (State.cur_lt_of_frames hfr)
  refine ⟨(T.setVm vm').setFrames (.throwing q :: below), ?_, .threw q, X'.here.running, hend, Or.inr ⟨q, rfl, E, ce, locs, hx _ hT (X'.ends _).1.alike, hcell9, hv, hcl, (X'.ends _).1, (X'.ends _).2.mono hc hs, hf⟩⟩
  rw [X.pushThrowing_eq]
  exact st
/-- a thing of a world lies in the heap -/
theorem vx_lt {D : va_G} {cl : List vw_C} {ws : va_W} {H1 : Heap} (h : va_P D cl ws H1) {k : Nat} {q : Nat × va_E} (hk : ws[k]? = some q) : q.1 < H1.size := (h k q hk).lt
end VXS
/-! ===== END ===== -/
/-! ===== BEGIN methods with a table of their own: called by a name, returning or throwing ===== -/
section VXH
/-! vx_backW, vx_callVX, vx_callSX, vx_callVW, vx_runVW, vx_runVX, vx_runSX, vx_ofWH follow the same proofs as their sisters above (Free/Laws.lean, Shelf42/LK1.lean); vx_outP calls Shelf42/NT130.lean (outThrough). -/
section
variable {l : Launch} {R : Room} {p : Program} {e : Env} {below : List Frame} {s : State} {sargs : Array Value} {y : MethodName} {len W9 : Nat}
theorem vx_backW {ws : List Cond} {rm : Room} {Pc : Array Value → State → Prop} {Qc : Array Value → State → Outcome → State → Prop} {XC : String → State → State → Prop} {mc ms : Nat} {free : Addr → Prop} {bytes : ByteArray} {maxL : Nat} {ret : Option FieldType} {hh : List (Nat × Nat × Nat × Nat)}
    (hM : vx_Met l y ws rm Pc Qc XC mc ms free) (hblind : FrameBlind Pc) (hrc : rm.cells = mc) (hrs : rm.slots = ms)
    (hframes : rm.frames + 1 ≤ R.frames) (hlocals : W9 + (maxL + 11) + rm.locals ≤ R.locals)
    (hws : ∀ w ∈ ws, ∀ a' U, s.WarmedH U.vm → w.before a' U = true) (hcode : Cond.codeWith y bytes maxL ret hh ∈ ws) (hinit : ∀ a' U, s.WarmedH U.vm → (Cond.initialized y.cls).before a' U = true) :
    vx_Back l R p e below s sargs y len W9 (PreOf R mc ms Pc) (PostOf Qc mc ms free) (vx_Post XC mc ms free) := by
  intro m meth c A g ig mk a X hg hsize hdg hW hn hp
  have h1 : (headSpec ws rm).pre.before a A.U = true := atoms_intro fun w hw => hws w hw _ _ X.warmed
  have h2 : (Cond.codeWith y bytes maxL ret hh).before a A.U = true := hws _ hcode _ _ X.warmed
  have h3 : (Cond.initialized y.cls).before a A.U = true := hinit _ _ X.warmed
  have h4 : A.cells + (headSpec ws rm).room.cells ≤ R.cells := by rw [show (headSpec ws rm).room.cells = mc from hrc]; exact hp.1
  have h5 : A.slots + (headSpec ws rm).room.slots ≤ R.slots := by rw [show (headSpec ws rm).room.slots = ms from hrs]; exact hp.2.1
  have hPc : Pc a (A.U.calling g mk a) := hblind _ _ _ _ hp.2.2
  obtain ⟨U, Ls, c0, s0⟩ := A
  dsimp only [Pt.U, Pt.locs, Pt.cells, Pt.slots] at h1 h2 h3 h4 h5 X hn hPc ⊢
  obtain ⟨m9, methY, cY, hn9, hmY, hcY, -, hlY, -⟩ := Cond.codeWith_spec h2
  cases Option.some.inj (hn9.symm.trans hn)
  obtain ⟨kY, hkY, -⟩ := className_of_methodNamed hn
  have hinitY : kY.init = .initialized := Cond.initialized_spec (findClass_of_methodNamed hn) hkY h3
  have h : At U g.method c below := by rw [hg]; exact X.here
  have hlocals9 : W9 + (maxL + 11) + (headSpec ws rm).room.locals ≤ R.locals := hlocals
  have happ : (headSpec ws rm).appliesLoose y e.platform (U.calling g mk a) = true :=
    Spec.appliesLoose_calling (g := g) h hdg hn hkY hinitY
      (X.room_calling (g := g) (R' := (headSpec ws rm).room) hsize hmY hcY hframes (by rw [hlY]; omega) h4 h5) h1
  obtain ⟨mid, hmid⟩ := h.above
  have hfr : (U.setTop g).frames = (.java g :: mid) ++ below := by rw [State.frames_setTop' g h.top, hmid]; rfl
  obtain ⟨o, s₂, hsteps, -, hend, hq⟩ := Steps.callFree hM p X.admits X.cas X.clock (acts := []) hfr happ hPc trivial
  have hq' : vx_Q Qc XC mc ms free a (U.calling g mk a) o s₂ := hq
  rw [State.frames_setTop' g h.top] at hend
  obtain ⟨g₀, hg0⟩ := Option.isSome_iff_exists.mp h.top
  obtain ⟨r, hr⟩ := State.topJava?_eq_some.mp hg0
  have hr' : (({ U with heap := s₂.heap, slotsUsed := s₂.slotsUsed } : State).setVm s₂.vm).frames = .java g₀ :: r := hr
  rcases hq' with ⟨hqc, L, hfe, hL⟩ | ⟨q, rfl, E, ce, L, hx, hce, hcv, hcl, hW₂, hsm, hL⟩
  · obtain ⟨⟨v, rfl⟩, hW₂, e2, q2, q3, q4, q5, q6⟩ := id hfe
    have e3 : s₂ = ({ (U.calling g mk a).setFrames s₂.frames with heap := s₂.heap, slotsUsed := s₂.slotsUsed } : State).setVm s₂.vm := by
      have : s₂ = ({ s₂ with vm := (U.calling g mk a).vm } : State).setVm s₂.vm := rfl
      rw [e2] at this
      exact this
    obtain ⟨c₂, i₂, len₂, hc₂, hd₂, hf₂⟩ := hend
    have hW' : U.WarmedH s₂.vm := hW₂
    have hcc : c₂ = c := by
      have h1 : s₂.code? g.method = U.code? g.method := by
        rw [State.code?_eq, State.code?_eq, hW'.alike.method?]
      exact Option.some.inj (hc₂.symm.trans (h1.trans h.code))
    subst hcc
    have hlen : len₂ = len := by rw [hdg] at hd₂; cases hd₂; rfl
    subst hlen
    have hs₂ : s₂ = (({ U with heap := s₂.heap, slotsUsed := s₂.slotsUsed } : State).setVm s₂.vm).setTop { g with pc := g.pc + len₂, stack := v.toList ++ g.stack } := by
      refine e3.trans ?_
      rw [hf₂, State.calling_eq h.top, State.setFrames_setFrames, State.setTop_of_frames _ hr', hr]
      rfl
    have hsame : U.sameButNew ({ U with heap := s₂.heap, slotsUsed := s₂.slotsUsed } : State) L mc ms := by
      refine ⟨?_, q2, q3, q4, q5, q6⟩
      obtain ⟨t, ht, -⟩ := State.frames_cons hr
      show ({ U with heap := s₂.heap, slotsUsed := s₂.slotsUsed } : State) = { U.setFrames U.frames with heap := s₂.heap, slotsUsed := s₂.slotsUsed }
      rw [State.setFrames_self ht]
    subst hg
    refine Or.inl ⟨v, ⟨(({ U with heap := s₂.heap, slotsUsed := s₂.slotsUsed } : State).setVm s₂.vm), Ls ++ L, c0 + mc, s0 + ms⟩,
      ⟨X.admits, X.cas, X.clock, X.frames, X.room, X.hears, X.method, X.code, (X.here.setHeapUsed s₂.heap s₂.slotsUsed).setVm hW'.alike, X.tail, State.WarmedH.trans X.warmed hW', X.limits, X.bytes, X.same.trans (hsame.setVm s.vm)⟩,
      ⟨g, mk, s₂, L, rfl, rfl, hqc, rfl, hL, rfl, rfl⟩, ?_⟩
    show Steps p.tables e below _ ((({ U with heap := s₂.heap, slotsUsed := s₂.slotsUsed } : State).setVm s₂.vm).setTop { g with pc := g.pc + len₂, stack := v.toList ++ g.stack })
    rw [← hs₂]
    exact hsteps
  · obtain ⟨e2, q2, q3, q4, q5, q6⟩ := id hsm
    have e3 : s₂ = ({ (U.calling g mk a).setFrames s₂.frames with heap := s₂.heap, slotsUsed := s₂.slotsUsed } : State).setVm s₂.vm := by
      have : s₂ = ({ s₂ with vm := (U.calling g mk a).vm } : State).setVm s₂.vm := rfl
      rw [e2] at this
      exact this
    have hf₂ : s₂.frames = .throwing q :: .java g :: U.frames.tail := hend
    have hW' : U.WarmedH s₂.vm := hW₂
    have hs₂ : s₂ = ((({ U with heap := s₂.heap, slotsUsed := s₂.slotsUsed } : State).setVm s₂.vm).setTop g).pushFrame (.throwing q) := by
      refine e3.trans ?_
      rw [hf₂, State.calling_eq h.top, State.setFrames_setFrames, State.pushFrame, State.frames_setTop _ hr', State.setTop_of_frames _ hr', State.setFrames_setFrames, hr]
      rfl
    have hsame : U.sameButNew ({ U with heap := s₂.heap, slotsUsed := s₂.slotsUsed } : State) L mc ms := by
      refine ⟨?_, q2, q3, q4, q5, q6⟩
      obtain ⟨t, ht, -⟩ := State.frames_cons hr
      show ({ U with heap := s₂.heap, slotsUsed := s₂.slotsUsed } : State) = { U.setFrames U.frames with heap := s₂.heap, slotsUsed := s₂.slotsUsed }
      rw [State.setFrames_self ht]
    subst hg
    refine Or.inr ⟨q, ⟨(({ U with heap := s₂.heap, slotsUsed := s₂.slotsUsed } : State).setVm s₂.vm), Ls ++ L, c0 + mc, s0 + ms⟩,
      ⟨X.admits, X.cas, X.clock, X.frames, X.room, X.hears, X.method, X.code, (X.here.setHeapUsed s₂.heap s₂.slotsUsed).setVm hW'.alike, X.tail, State.WarmedH.trans X.warmed hW', X.limits, X.bytes, X.same.trans (hsame.setVm s.vm)⟩,
      ⟨g, mk, s₂, L, E, ce, rfl, rfl, hx, hce, hcv, hcl, rfl, hL, rfl, rfl⟩, ?_⟩
    show Steps p.tables e below _ (((({ U with heap := s₂.heap, slotsUsed := s₂.slotsUsed } : State).setVm s₂.vm).setTop g).pushFrame (.throwing q))
    rw [← hs₂]
    exact hsteps
end
variable {p : Program} {l : Launch} {e : Env} {R : Room} {s : State} {m : MethodId} {args : Array Value} {below : List Frame} {meth : Method} {c : Code} {T : State} {H : Heap} {locs : List Loc} {cells slots : Nat}
theorem vx_callVX (X : Stand p l e R s m args below meth c T locs cells slots) (hexec : p.tables.exec = Jvm.exec) {own C : String} {index : Nat} {y : MethodName} {bytes : ByteArray} {maxL : Nat} {ret : Option FieldType} {hh : List (Nat × Nat × Nat × Nat)}
    (hown : s.vm.findClass own = some m.cls) (hlink : (Cond.methodLink own index y).before args s = true) (hinst : (Cond.instanceMethod y).before args s = true) (hsel : (Cond.selects C y y).before args s = true)
    (hcode : (Cond.codeWith y bytes maxL ret hh).before args s = true) (hy : y.cls ≠ "java/lang/invoke/MethodHandle" ∧ y.cls ≠ "java/lang/invoke/VarHandle")
    {W9 : Nat} {Pre : Pt → Array Value → Prop} {Post : Pt → Array Value → Option Value → Pt → Prop} {PostX : Pt → Array Value → Addr → Pt → Prop} (hK : vx_Back l R p e below s args y 3 W9 Pre Post PostX)
    {b : Addr} {cellB : Cell} (hcell : T.heap[b]? = some cellB) (hobj : cellB.vm.isStatics = false) (hcls : s.vm.findClass C = some cellB.cls)
    {g : JFrame} (hg : g.method = m) (hsize : g.locals.size = c.maxLocals) {argsL rest : List Value} (hlen : ∀ sig, parseMethodDescriptor y.desc = some sig → argsL.length = sig.parameters.length)
    (hstack : g.stack = argsL.reverse ++ .ref b :: rest) (hW : 2 * g.monitorRoom + (rest.map fun v => v.category).sum ≤ W9) (hdg : decode c.code g.pc = .ok (.invokevirtual index, 3))
    (hpre : ∀ vm₁, s.WarmedH vm₁ → Pre ⟨T.setVm vm₁, locs, cells, slots⟩ (Value.ref b :: argsL).toArray) :
    (∃ (v : Option Value) (vm₁ : Vm) (B : Pt), s.WarmedH vm₁ ∧ Stand p l e R s m args below meth c B.U B.locs B.cells B.slots ∧ Post ⟨T.setVm vm₁, locs, cells, slots⟩ (Value.ref b :: argsL).toArray v B ∧
      ∀ target, Steps p.tables e below (B.U.setTop { g with pc := g.pc + 3, stack := v.toList ++ rest }) target → Steps p.tables e below (T.setTop g) target) ∨
    (∃ (q : Addr) (vm₁ : Vm) (B : Pt), s.WarmedH vm₁ ∧ Stand p l e R s m args below meth c B.U B.locs B.cells B.slots ∧ PostX ⟨T.setVm vm₁, locs, cells, slots⟩ (Value.ref b :: argsL).toArray q B ∧
      Steps p.tables e below (T.setTop g) ((B.U.setTop { g with stack := rest }).pushFrame (.throwing q))) := by
  obtain ⟨mk, methM, hnamed, hmethM, hstM, habM⟩ := Cond.instanceMethod_spec hinst
  obtain ⟨m8, methM', cM, hn8, hmethM', -, -, -, -, -, -, hsigM⟩ := Cond.codeWith_spec hcode
  cases Option.some.inj (hn8.symm.trans hnamed)
  cases hmethM.symm.trans hmethM'
  obtain ⟨c2, r2, m2, q1, q2, q3, q4, kP, hkP, hkPi⟩ := Cond.selects_spec hsel
  cases hcls.symm.trans q1
  cases (State.methodFound?_of_named hnamed hy).symm.trans q2
  cases hnamed.symm.trans q3
  have hselP : selectMethod e.platform s.vm cellB.cls mk = .method mk := by rw [Launch.admits_selectMethod X.admits]; exact q4
  obtain ⟨vm₁, X₁, hstep₁⟩ := X.invokevirtual hexec hown hlink hnamed hmethM hstM hkP hkPi hy (a := b) (cell := cellB) hcell
    (fun z h => by rw [h] at hobj; cases hobj) hselP hmethM habM hkP hkPi (g := g) hg (argsL := argsL) (rest := rest) (hlen _ hsigM) hstack hdg
  rcases hK m meth c ⟨T.setVm vm₁, locs, cells, slots⟩ { g with stack := rest } (.invokevirtual index) mk (Value.ref b :: argsL).toArray X₁ hg hsize hdg hW (X₁.named hnamed) (hpre vm₁ X₁.warmed) with ⟨v, B, X', hpost, hsteps⟩ | ⟨q, B, X', hpost, hsteps⟩
  · exact Or.inl ⟨v, vm₁, B, X₁.warmed, X', hpost, fun target h => hstep₁ _ fun acts => by rw [doInvoke_state]; exact hsteps.trans h⟩
  · exact Or.inr ⟨q, vm₁, B, X₁.warmed, X', hpost, hstep₁ _ fun acts => by rw [doInvoke_state]; exact hsteps⟩
theorem vx_callSX (X : Stand p l e R s m args below meth c T locs cells slots) (hexec : p.tables.exec = Jvm.exec) {own : String} {index : Nat} {y : MethodName} {bytes : ByteArray} {maxL : Nat} {ret : Option FieldType} {hh : List (Nat × Nat × Nat × Nat)}
    (hown : s.vm.findClass own = some m.cls) (hlink : (Cond.methodLink own index y).before args s = true) (hstat : (Cond.static y).before args s = true) (hinit : (Cond.initialized y.cls).before args s = true)
    (hcode : (Cond.codeWith y bytes maxL ret hh).before args s = true) (hy : y.cls ≠ "java/lang/invoke/MethodHandle" ∧ y.cls ≠ "java/lang/invoke/VarHandle")
    {W9 : Nat} {Pre : Pt → Array Value → Prop} {Post : Pt → Array Value → Option Value → Pt → Prop} {PostX : Pt → Array Value → Addr → Pt → Prop} (hK : vx_Back l R p e below s args y 3 W9 Pre Post PostX)
    {g : JFrame} (hg : g.method = m) (hsize : g.locals.size = c.maxLocals) {argsL rest : List Value} (hlen : ∀ sig, parseMethodDescriptor y.desc = some sig → argsL.length = sig.parameters.length)
    (hstack : g.stack = argsL.reverse ++ rest) (hW : 2 * g.monitorRoom + (rest.map fun v => v.category).sum ≤ W9) (hdg : decode c.code g.pc = .ok (.invokestatic index, 3))
    (hpre : ∀ vm₁, s.WarmedH vm₁ → Pre ⟨T.setVm vm₁, locs, cells, slots⟩ argsL.toArray) :
    (∃ (v : Option Value) (vm₁ : Vm) (B : Pt), s.WarmedH vm₁ ∧ Stand p l e R s m args below meth c B.U B.locs B.cells B.slots ∧ Post ⟨T.setVm vm₁, locs, cells, slots⟩ argsL.toArray v B ∧
      ∀ target, Steps p.tables e below (B.U.setTop { g with pc := g.pc + 3, stack := v.toList ++ rest }) target → Steps p.tables e below (T.setTop g) target) ∨
    (∃ (q : Addr) (vm₁ : Vm) (B : Pt), s.WarmedH vm₁ ∧ Stand p l e R s m args below meth c B.U B.locs B.cells B.slots ∧ PostX ⟨T.setVm vm₁, locs, cells, slots⟩ argsL.toArray q B ∧
      Steps p.tables e below (T.setTop g) ((B.U.setTop { g with stack := rest }).pushFrame (.throwing q))) := by
  obtain ⟨mk, methM, cM, hnamed, hmethM, -, -, -, -, -, -, hsigM⟩ := Cond.codeWith_spec hcode
  have hstatic : methM.isStatic = true := Cond.static_spec hnamed hmethM hstat
  obtain ⟨kP, hkP, -⟩ := className_of_methodNamed hnamed
  have hinitP : kP.init = .initialized := Cond.initialized_spec (findClass_of_methodNamed hnamed) hkP hinit
  obtain ⟨vm₁, X₁, hstep₁⟩ := X.invokestatic hexec hown hlink hnamed hmethM hstatic hkP hinitP hy (g := g) hg (argsL := argsL) (rest := rest) (hlen _ hsigM) hstack hdg
  rcases hK m meth c ⟨T.setVm vm₁, locs, cells, slots⟩ { g with stack := rest } (.invokestatic index) mk argsL.toArray X₁ hg hsize hdg hW (X₁.named hnamed) (hpre vm₁ X₁.warmed) with ⟨v, B, X', hpost, hsteps⟩ | ⟨q, B, X', hpost, hsteps⟩
  · exact Or.inl ⟨v, vm₁, B, X₁.warmed, X', hpost, fun target h => hstep₁ _ fun acts => by rw [doInvoke_state]; exact hsteps.trans h⟩
  · exact Or.inr ⟨q, vm₁, B, X₁.warmed, X', hpost, hstep₁ _ fun acts => by rw [doInvoke_state]; exact hsteps⟩
theorem vx_callVW (X : Stand p l e R s m args below meth c T locs cells slots) (hexec : p.tables.exec = Jvm.exec) {own C : String} {index : Nat} {y : MethodName} {bytes : ByteArray} {maxL : Nat} {ret : Option FieldType} {hh : List (Nat × Nat × Nat × Nat)}
    (hown : s.vm.findClass own = some m.cls) (hlink : (Cond.methodLink own index y).before args s = true) (hinst : (Cond.instanceMethod y).before args s = true) (hsel : (Cond.selects C y y).before args s = true)
    (hcode : (Cond.codeWith y bytes maxL ret hh).before args s = true) (hy : y.cls ≠ "java/lang/invoke/MethodHandle" ∧ y.cls ≠ "java/lang/invoke/VarHandle")
    {W9 : Nat} {Pre : Pt → Array Value → Prop} {Post : Pt → Array Value → Option Value → Pt → Prop} (hK : Back l R p e below s args y 3 W9 Pre Post)
    {b : Addr} {cellB : Cell} (hcell : T.heap[b]? = some cellB) (hobj : cellB.vm.isStatics = false) (hcls : s.vm.findClass C = some cellB.cls)
    {g : JFrame} (hg : g.method = m) (hsize : g.locals.size = c.maxLocals) {argsL rest : List Value} (hlen : ∀ sig, parseMethodDescriptor y.desc = some sig → argsL.length = sig.parameters.length)
    (hstack : g.stack = argsL.reverse ++ .ref b :: rest) (hW : 2 * g.monitorRoom + (rest.map fun v => v.category).sum ≤ W9) (hdg : decode c.code g.pc = .ok (.invokevirtual index, 3))
    (hpre : ∀ vm₁, s.WarmedH vm₁ → Pre ⟨T.setVm vm₁, locs, cells, slots⟩ (Value.ref b :: argsL).toArray) :
    ∃ (v : Option Value) (vm₁ : Vm) (B : Pt), s.WarmedH vm₁ ∧ Stand p l e R s m args below meth c B.U B.locs B.cells B.slots ∧ Post ⟨T.setVm vm₁, locs, cells, slots⟩ (Value.ref b :: argsL).toArray v B ∧
      ∀ target, Steps p.tables e below (B.U.setTop { g with pc := g.pc + 3, stack := v.toList ++ rest }) target → Steps p.tables e below (T.setTop g) target := by
  obtain ⟨mk, methM, hnamed, hmethM, hstM, habM⟩ := Cond.instanceMethod_spec hinst
  obtain ⟨m8, methM', cM, hn8, hmethM', -, -, -, -, -, -, hsigM⟩ := Cond.codeWith_spec hcode
  cases Option.some.inj (hn8.symm.trans hnamed)
  cases hmethM.symm.trans hmethM'
  obtain ⟨c2, r2, m2, q1, q2, q3, q4, kP, hkP, hkPi⟩ := Cond.selects_spec hsel
  cases hcls.symm.trans q1
  cases (State.methodFound?_of_named hnamed hy).symm.trans q2
  cases hnamed.symm.trans q3
  have hselP : selectMethod e.platform s.vm cellB.cls mk = .method mk := by rw [Launch.admits_selectMethod X.admits]; exact q4
  obtain ⟨vm₁, X₁, hstep₁⟩ := X.invokevirtual hexec hown hlink hnamed hmethM hstM hkP hkPi hy (a := b) (cell := cellB) hcell
    (fun z h => by rw [h] at hobj; cases hobj) hselP hmethM habM hkP hkPi (g := g) hg (argsL := argsL) (rest := rest) (hlen _ hsigM) hstack hdg
  obtain ⟨v, B, X', hpost, hsteps⟩ := hK m meth c ⟨T.setVm vm₁, locs, cells, slots⟩ { g with stack := rest } (.invokevirtual index) mk (Value.ref b :: argsL).toArray X₁ hg hsize hdg hW (X₁.named hnamed) (hpre vm₁ X₁.warmed)
  exact ⟨v, vm₁, B, X₁.warmed, X', hpost, fun target h => hstep₁ _ fun acts => by rw [doInvoke_state]; exact hsteps.trans h⟩
abbrev vx_CVW (R : Room) (s : State) (args : Array Value) (own C : String) (index : Nat) (y : MethodName) (bytes : ByteArray) (maxL : Nat) (ret : Option FieldType) (hh : List (Nat × Nat × Nat × Nat)) (ws : List Cond) (rm : Room) (mc ms n : Nat) : Prop :=
  (rm.cells = mc ∧ rm.slots = ms ∧ rm.frames + 1 ≤ R.frames ∧ 8 + (maxL + 11) + rm.locals ≤ R.locals ∧ (∀ w ∈ ws, ∀ (a' : Array Value) (U : State), s.WarmedH U.vm → w.before a' U = true) ∧ Cond.codeWith y bytes maxL ret hh ∈ ws) ∧
  (Cond.codeWith y bytes maxL ret hh).before args s = true ∧ (Cond.initialized y.cls).before args s = true ∧ (y.cls ≠ "java/lang/invoke/MethodHandle" ∧ y.cls ≠ "java/lang/invoke/VarHandle") ∧
  (∀ sig, parseMethodDescriptor y.desc = some sig → n = sig.parameters.length) ∧ (Cond.methodLink own index y).before args s = true ∧ (Cond.instanceMethod y).before args s = true ∧ (Cond.selects C y y).before args s = true
theorem vx_cwVW {own C : String} {index maxL mc ms : Nat} {y : MethodName} {bytes : ByteArray} {ret : Option FieldType} {hh : List (Nat × Nat × Nat × Nat)} {Ts ws ws' : List Cond} {rm : Room} (n : Nat) (ht : ∀ w ∈ Ts, w.before args s = true) (hT : GoodIn Ts (wsV own index C y ws)) (hw : ws = Cond.codeWith y bytes maxL ret hh :: ws') (hrc : rm.cells = mc) (hrs : rm.slots = ms)
    (hd : y.cls = C ∧ y.cls ≠ "java/lang/invoke/MethodHandle" ∧ y.cls ≠ "java/lang/invoke/VarHandle" ∧ (parseMethodDescriptor y.desc).map (fun d => d.parameters.length) = some n) (hR : rm.frames + 1 ≤ R.frames ∧ 8 + (maxL + 11) + rm.locals ≤ R.locals) :
    vx_CVW R s args own C index y bytes maxL ret hh ws rm mc ms n := by
  obtain ⟨hC, hd⟩ := hd
  subst hC
  have ok : ∀ w ∈ wsV own index y.cls y ws, w.before args s = true := fun w h => ht w (hT w h).1
  have hG : GoodIn Ts ws := fun w h => hT w (by unfold wsV; exact List.mem_append_right _ h)
  have hc : Cond.codeWith y bytes maxL ret hh ∈ ws := by rw [hw]; exact List.mem_cons_self
  refine ⟨⟨hrc, hrs, hR.1, hR.2, pay_in ht hG, hc⟩, ht _ (hG _ hc).1, ok _ (by simp [wsV]), ⟨hd.1, hd.2.1⟩, fun sig h => ?_, ok _ (by simp [wsV]), ok _ (by simp [wsV]), ok _ (by simp [wsV])⟩
  have h2 := hd.2.2
  rw [h] at h2
  exact (Option.some.inj h2).symm
theorem vx_runVW {y : MethodName} {bytes cc : ByteArray} {maxL nL mc ms n index : Nat} {ret : Option FieldType} {hh : List (Nat × Nat × Nat × Nat)} {ws : List Cond} {rm : Room} {Pc : Array Value → State → Prop} {Qc : Array Value → State → Outcome → State → Prop} {free : Addr → Prop} {Ts : List Cond} {own C : String} {b : Addr} {As rest : List Value} {g : JFrame}
    (S : CallFix p m c cc nL s args Ts own) (hM : Met l y ws rm Pc Qc mc ms free) (cw : vx_CVW R s args own C index y bytes maxL ret hh ws rm mc ms n) (hp : PreV s H C b Pc As)
    (hg : g.method = m) (hn : As.length = n) (hsize : g.locals.size = nL) (hstack : g.stack = As.reverse ++ .ref b :: rest) (hW : 2 * g.monitorRoom + (rest.map fun v => v.category).sum ≤ 8) (hdg : decode cc g.pc = .ok (.invokevirtual index, 3)) (hf : cells + mc ≤ R.cells ∧ slots + ms ≤ R.slots) :
    va_Run p l e R s m args below meth c H locs cells slots mc ms g rest (Qc (Value.ref b :: As).toArray) free := by
  obtain ⟨⟨hrc, hrs, hfr, hlo, hws, hcw⟩, hcode, hini, hy, hlen, hl, hin, hse⟩ := cw
  have hK : Back l R p e below s args y 3 8 (PreOf R mc ms Pc) (PostOf Qc mc ms free) := va_backW (hh := hh) (bytes := bytes) (maxL := maxL) (ret := ret) hM hp.1 hrc hrs hfr hlo hws hcw (fun a' U hW => word_at hW (Or.inl (by first | rfl | simp [Cond.onTables, Cond.keeps, Cond.steady])) hini)
  obtain ⟨hx, hb, hml, ho, -⟩ := S
  obtain ⟨-, ⟨cellB, hcB, hoB, hclB⟩, hPc⟩ := hp
  intro T hT X
  obtain ⟨v, vm₁, ⟨U', l2, c2, s2⟩, hW₁, X', ⟨g', mk, t, L, e1, e2, hq, h1, hL, h2, h3⟩, st⟩ := vx_callVW X hx (C := C) (hh := hh) (bytes := bytes) (maxL := maxL) (ret := ret) ho hl hin hse hcode hy hK (by rw [hT]; exact hcB) hoB hclB hg (hsize.trans hml.symm) (argsL := As) (rest := rest) (fun sig h => hn.trans (hlen sig h)) hstack hW (by rw [hb]; exact hdg)
    (fun vm₁ hW₁ => ⟨hf.1, hf.2, hPc (T.setVm vm₁) hT hW₁⟩)
  dsimp only [Pt.U, Pt.locs, Pt.cells, Pt.slots] at X' e1 e2 h1 h2 h3 st
  subst h1; subst h2; subst h3
  exact ⟨v, (T.setVm vm₁).calling g' mk (Value.ref b :: As).toArray, t, U', L, hT, X', hL, e1, e2, hq, st⟩
section
variable {y : MethodName} {bytes cc : ByteArray} {maxL nL mc ms n index : Nat} {ret : Option FieldType} {ws : List Cond} {rm : Room} {Pc : Array Value → State → Prop} {Qc : Array Value → State → Outcome → State → Prop} {XC : String → State → State → Prop} {free : Addr → Prop} {Ts : List Cond} {own C : String} {b : Addr} {As rest : List Value} {g : JFrame}
theorem vx_runVX {hh : List (Nat × Nat × Nat × Nat)} (S : CallFix p m c cc nL s args Ts own) (hM : vx_Met l y ws rm Pc Qc XC mc ms free) (cw : vx_CVW R s args own C index y bytes maxL ret hh ws rm mc ms n) (hp : PreV s H C b Pc As)
    (hg : g.method = m) (hn : As.length = n) (hsize : g.locals.size = nL) (hstack : g.stack = As.reverse ++ .ref b :: rest) (hW : 2 * g.monitorRoom + (rest.map fun v => v.category).sum ≤ 8) (hdg : decode cc g.pc = .ok (.invokevirtual index, 3)) (hf : cells + mc ≤ R.cells ∧ slots + ms ≤ R.slots) :
    vx_Run p l e R s m args below meth c H locs cells slots mc ms g rest (Qc (Value.ref b :: As).toArray) XC free := by
  obtain ⟨⟨hrc, hrs, hfr, hlo, hws, hcw⟩, hcode, hini, hy, hlen, hl, hin, hse⟩ := cw
  have hK : vx_Back l R p e below s args y 3 8 (PreOf R mc ms Pc) (PostOf Qc mc ms free) (vx_Post XC mc ms free) := vx_backW (hh := hh) (bytes := bytes) (maxL := maxL) (ret := ret) hM hp.1 hrc hrs hfr hlo hws hcw (fun a' U hW => word_at hW (Or.inl (by first | rfl | simp [Cond.onTables, Cond.keeps, Cond.steady])) hini)
  obtain ⟨hx, hb, hml, ho, -⟩ := S
  obtain ⟨-, ⟨cellB, hcB, hoB, hclB⟩, hPc⟩ := hp
  intro T hT X
  rcases vx_callVX X hx (C := C) (hh := hh) (bytes := bytes) (maxL := maxL) (ret := ret) ho hl hin hse hcode hy hK (by rw [hT]; exact hcB) hoB hclB hg (hsize.trans hml.symm) (argsL := As) (rest := rest) (fun sig h => hn.trans (hlen sig h)) hstack hW (by rw [hb]; exact hdg)
    (fun vm₁ hW₁ => ⟨hf.1, hf.2, hPc (T.setVm vm₁) hT hW₁⟩) with ⟨v, vm₁, ⟨U', l2, c2, s2⟩, hW₁, X', ⟨g', mk, t, L, e1, e2, hq, h1, hL, h2, h3⟩, st⟩ | ⟨q, vm₁, ⟨U', l2, c2, s2⟩, hW₁, X', ⟨g', mk, t, L, E, ce, e1, e2, hq, hce, hcv, hcl, h1, hL, h2, h3⟩, st⟩
  · dsimp only [Pt.U, Pt.locs, Pt.cells, Pt.slots] at X' e1 e2 h1 h2 h3 st
    subst h1; subst h2; subst h3
    exact Or.inl ⟨v, (T.setVm vm₁).calling g' mk (Value.ref b :: As).toArray, t, U', L, hT, X', hL, e1, e2, hq, st⟩
  · dsimp only [Pt.U, Pt.locs, Pt.cells, Pt.slots] at X' e1 e2 h1 h2 h3 st hcl
    subst h1; subst h2; subst h3
    exact Or.inr ⟨q, (T.setVm vm₁).calling g' mk (Value.ref b :: As).toArray, t, U', L, E, ce, hT, X', hL, e1, e2, hq, hce, hcv, vx_cls hW₁ hcl, st⟩
theorem vx_runSX {hh : List (Nat × Nat × Nat × Nat)} (S : CallFix p m c cc nL s args Ts own) (hM : vx_Met l y ws rm Pc Qc XC mc ms free) (cw : vx_CSW R s args own index y bytes maxL ret hh ws rm mc ms n) (hp : PreS s H Pc As)
    (hg : g.method = m) (hn : As.length = n) (hsize : g.locals.size = nL) (hstack : g.stack = As.reverse ++ rest) (hW : 2 * g.monitorRoom + (rest.map fun v => v.category).sum ≤ 8) (hdg : decode cc g.pc = .ok (.invokestatic index, 3)) (hf : cells + mc ≤ R.cells ∧ slots + ms ≤ R.slots) :
    vx_Run p l e R s m args below meth c H locs cells slots mc ms g rest (Qc As.toArray) XC free := by
  obtain ⟨⟨hrc, hrs, hfr, hlo, hws, hcw⟩, hcode, hini, hy, hlen, hl, hstt⟩ := cw
  have hK : vx_Back l R p e below s args y 3 8 (PreOf R mc ms Pc) (PostOf Qc mc ms free) (vx_Post XC mc ms free) := vx_backW (hh := hh) (bytes := bytes) (maxL := maxL) (ret := ret) hM hp.1 hrc hrs hfr hlo hws hcw (fun a' U hW => word_at hW (Or.inl (by first | rfl | simp [Cond.onTables, Cond.keeps, Cond.steady])) hini)
  obtain ⟨hx, hb, hml, ho, -⟩ := S
  intro T hT X
  rcases vx_callSX X hx (hh := hh) (bytes := bytes) (maxL := maxL) (ret := ret) ho hl hstt hini hcode hy hK hg (hsize.trans hml.symm) (argsL := As) (rest := rest) (fun sig h => hn.trans (hlen sig h)) hstack hW (by rw [hb]; exact hdg)
    (fun vm₁ hW₁ => ⟨hf.1, hf.2, hp.2 (T.setVm vm₁) hT hW₁⟩) with ⟨v, vm₁, ⟨U', l2, c2, s2⟩, hW₁, X', ⟨g', mk, t, L, e1, e2, hq, h1, hL, h2, h3⟩, st⟩ | ⟨q, vm₁, ⟨U', l2, c2, s2⟩, hW₁, X', ⟨g', mk, t, L, E, ce, e1, e2, hq, hce, hcv, hcl, h1, hL, h2, h3⟩, st⟩
  · dsimp only [Pt.U, Pt.locs, Pt.cells, Pt.slots] at X' e1 e2 h1 h2 h3 st
    subst h1; subst h2; subst h3
    exact Or.inl ⟨v, (T.setVm vm₁).calling g' mk As.toArray, t, U', L, hT, X', hL, e1, e2, hq, st⟩
  · dsimp only [Pt.U, Pt.locs, Pt.cells, Pt.slots] at X' e1 e2 h1 h2 h3 st hcl
    subst h1; subst h2; subst h3
    exact Or.inr ⟨q, (T.setVm vm₁).calling g' mk As.toArray, t, U', L, E, ce, hT, X', hL, e1, e2, hq, hce, hcv, vx_cls hW₁ hcl, st⟩
end
end VXH
theorem vx_ofWH {l : Launch} {y : MethodName} {ws ws' : List Cond} {rm : Room} {Pc : Array Value → State → Prop} {Qc : Array Value → State → Outcome → State → Prop} {XC : String → State → State → Prop} {mc ms : Nat} {free : Addr → Prop} {cc : ByteArray} {maxL : Nat} {ret : Option FieldType} {hh : List (Nat × Nat × Nat × Nat)}
    (hy : plainName y.cls = true) (hw : ws = Cond.codeWith y cc maxL ret hh :: ws')
    (body : ∀ p e s m args below meth c s₁, BodyLoose p l y (headSpec ws rm) cc maxL ret e s m args below meth c s₁ → c.maxLocals = maxL → Pc args s →
      W p l e (headSpec ws rm).room s m args below meth c s.heap [] 0 0 (vx_MQ below Qc XC args s mc ms free) (entryFrame m args maxL)) : vx_Met l y ws rm Pc Qc XC mc ms free := by
  refine MetFree.of_bodyS (code := cc) (maxLocals := maxL) (ret := ret) hy ?_ ?_
  · intro args s m h hn
    obtain ⟨m9, meth, c, hn9, h1, h2, h3, h4, -, h5, h6, -⟩ := Cond.codeWith_spec (atoms_spec (ws := ws) h _ (by rw [hw]; exact List.mem_cons_self))
    cases hn.symm.trans hn9
    exact ⟨meth, c, h1, h2, h3, h4, h5, h6⟩
  · intro p e s m args below meth c s₁ B hml hP _
    have hh0 : s₁.heap = s.heap := by rw [B.state]; rfl
    obtain ⟨t, a1, o, b1, b2, b3⟩ := body p e s m args below meth c s₁ B hml hP s₁ hh0 (Stand.of_body B)
    exact ⟨t, o, a1, b1, b2, b3⟩
/-! ===== END ===== -/

/-! ===== BEGIN printed: names, fields, word lists, decode rows ===== -/
def RX0 : String := "TermGate$Edits"
def TX0 : u_T := fun k => match k with
  | _ => ("TermGate$Edits", "table", "[I", true)
def tyX0 : Nat → FieldType := fun k => match k with
  | _ => .array .int
abbrev wsX00 : List Cond := u_ws RX0 TX0 1
theorem nmX0 : ∀ a, a < 1 → ∀ b, b < 1 → a ≠ b → (TX0 a).2.1 ≠ (TX0 b).2.1 := by decide +kernel
theorem tyX0_ok : ∀ k, k < 1 → parseFieldDescriptor (TX0 k).2.2.1 = some (tyX0 k) := by decide +kernel
abbrev cX0_init : ByteArray := prog_2_method_1_code
def yX0_init : MethodName := ⟨RX0, "<init>", "()V"⟩
abbrev cX0_likenessOf : ByteArray := prog_2_method_2_code
def yX0_likenessOf : MethodName := ⟨RX0, "likenessOf", "(LTermGate$Row;LTermGate$Row;)I"⟩
abbrev cX0_compare : ByteArray := prog_2_method_3_code
def yX0_compare : MethodName := ⟨RX0, "compare", "(LTermGate$Row;LTermGate$Row;)V"⟩
abbrev cX0_least : ByteArray := prog_2_method_4_code
def yX0_least : MethodName := ⟨RX0, "least", "(IIZ)I"⟩
abbrev cX0_between : ByteArray := prog_2_method_5_code
def yX0_between : MethodName := ⟨RX0, "between", "(II)I"⟩
abbrev cX0_skipBehind : ByteArray := prog_2_method_6_code
def yX0_skipBehind : MethodName := ⟨RX0, "skipBehind", "(II)I"⟩
abbrev cX0_put : ByteArray := prog_2_method_7_code
def yX0_put : MethodName := ⟨RX0, "put", "(III)V"⟩
def RX1 : String := "TermGate$Line"
def TX1 : u_T := fun k => match k with
  | 0 => ("TermGate$Line", "numbers", "[I", true)
  | _ => ("TermGate$Line", "count", "I", false)
def tyX1 : Nat → FieldType := fun k => match k with
  | 0 => .array .int
  | _ => .int
abbrev wsX10 : List Cond := u_ws RX1 TX1 2
theorem nmX1 : ∀ a, a < 2 → ∀ b, b < 2 → a ≠ b → (TX1 a).2.1 ≠ (TX1 b).2.1 := by decide +kernel
theorem tyX1_ok : ∀ k, k < 2 → parseFieldDescriptor (TX1 k).2.2.1 = some (tyX1 k) := by decide +kernel
abbrev cX1_init : ByteArray := prog_3_method_1_code
def yX1_init : MethodName := ⟨RX1, "<init>", "()V"⟩
abbrev cX1_hasPlace : ByteArray := prog_3_method_2_code
def yX1_hasPlace : MethodName := ⟨RX1, "hasPlace", "(I)Z"⟩
abbrev cX1_at : ByteArray := prog_3_method_3_code
def yX1_at : MethodName := ⟨RX1, "at", "(I)I"⟩
abbrev cX1_holds : ByteArray := prog_3_method_4_code
def yX1_holds : MethodName := ⟨RX1, "holds", "(I)Z"⟩
abbrev cX1_addLast : ByteArray := prog_3_method_5_code
def yX1_addLast : MethodName := ⟨RX1, "addLast", "(I)V"⟩
abbrev cX1_addFirst : ByteArray := prog_3_method_6_code
def yX1_addFirst : MethodName := ⟨RX1, "addFirst", "(I)V"⟩
abbrev cX1_removeFirst : ByteArray := prog_3_method_7_code
def yX1_removeFirst : MethodName := ⟨RX1, "removeFirst", "()V"⟩
abbrev cX1_removeAt : ByteArray := prog_3_method_8_code
def yX1_removeAt : MethodName := ⟨RX1, "removeAt", "(I)V"⟩
def RX2 : String := "TermGate$Memory"
def TX2 : u_T := fun k => match k with
  | 0 => ("TermGate$Memory", "sentences", "[LTermGate$Sentence;", true)
  | 1 => ("TermGate$Memory", "having", "[J", true)
  | 2 => ("TermGate$Memory", "dueList", "LTermGate$Line;", true)
  | 3 => ("TermGate$Memory", "edits", "LTermGate$Edits;", true)
  | _ => ("TermGate$Memory", "count", "I", false)
def tyX2 : Nat → FieldType := fun k => match k with
  | 0 => .array (.object "TermGate$Sentence")
  | 1 => .array .long
  | 2 => .object "TermGate$Line"
  | 3 => .object "TermGate$Edits"
  | _ => .int
abbrev wsX20 : List Cond := u_ws RX2 TX2 5
theorem nmX2 : ∀ a, a < 5 → ∀ b, b < 5 → a ≠ b → (TX2 a).2.1 ≠ (TX2 b).2.1 := by decide +kernel
theorem tyX2_ok : ∀ k, k < 5 → parseFieldDescriptor (TX2 k).2.2.1 = some (tyX2 k) := by decide +kernel
abbrev cX2_init : ByteArray := prog_4_method_1_code
def yX2_init : MethodName := ⟨RX2, "<init>", "()V"⟩
abbrev cX2_sentenceAt : ByteArray := prog_4_method_2_code
def yX2_sentenceAt : MethodName := ⟨RX2, "sentenceAt", "(I)LTermGate$Sentence;"⟩
abbrev cX2_keep : ByteArray := prog_4_method_3_code
def yX2_keep : MethodName := ⟨RX2, "keep", "(LTermGate$Sentence;)I"⟩
abbrev cX2_listDue : ByteArray := prog_4_method_4_code
def yX2_listDue : MethodName := ⟨RX2, "listDue", "(LTermGate$Rulings;)V"⟩
abbrev cX2_sharingWith : ByteArray := prog_4_method_5_code
def yX2_sharingWith : MethodName := ⟨RX2, "sharingWith", "(LTermGate$Row;)J"⟩
abbrev cX2_bestAmong : ByteArray := prog_4_method_6_code
def yX2_bestAmong : MethodName := ⟨RX2, "bestAmong", "(JLTermGate$Row;II)I"⟩
abbrev cX2_shareOf : ByteArray := prog_4_method_7_code
def yX2_shareOf : MethodName := ⟨RX2, "shareOf", "(LTermGate$Row;I)I"⟩
abbrev cX2_lendTo : ByteArray := prog_4_method_8_code
def yX2_lendTo : MethodName := ⟨RX2, "lendTo", "(LTermGate$Sentence;I)V"⟩
def RX3 : String := "TermGate$Order"
def TX3 : u_T := fun k => match k with
  | 0 => ("TermGate$Order", "number", "I", true)
  | 1 => ("TermGate$Order", "isRush", "Z", true)
  | 2 => ("TermGate$Order", "sentence", "LTermGate$Sentence;", true)
  | 3 => ("TermGate$Order", "standing", "I", false)
  | 4 => ("TermGate$Order", "match", "I", false)
  | 5 => ("TermGate$Order", "cost", "I", false)
  | _ => ("TermGate$Order", "pay", "I", false)
def tyX3 : Nat → FieldType := fun k => match k with
  | 0 => .int
  | 1 => .boolean
  | 2 => .object "TermGate$Sentence"
  | 3 => .int
  | 4 => .int
  | 5 => .int
  | _ => .int
abbrev wsX30 : List Cond := u_ws RX3 TX3 7
theorem nmX3 : ∀ a, a < 7 → ∀ b, b < 7 → a ≠ b → (TX3 a).2.1 ≠ (TX3 b).2.1 := by decide +kernel
theorem tyX3_ok : ∀ k, k < 7 → parseFieldDescriptor (TX3 k).2.2.1 = some (tyX3 k) := by decide +kernel
abbrev cX3_init : ByteArray := prog_5_method_1_code
def yX3_init : MethodName := ⟨RX3, "<init>", "(IZLTermGate$Sentence;)V"⟩
abbrev cX3_whyNot : ByteArray := prog_5_method_2_code
def yX3_whyNot : MethodName := ⟨RX3, "whyNot", "(LTermGate$Rulings;)I"⟩
abbrev cX3_whereNot : ByteArray := prog_5_method_3_code
def yX3_whereNot : MethodName := ⟨RX3, "whereNot", "(LTermGate$Rulings;)I"⟩
abbrev cX3_firstBroken : ByteArray := prog_5_method_4_code
def yX3_firstBroken : MethodName := ⟨RX3, "firstBroken", "(LTermGate$Rulings;)I"⟩
def RX4 : String := "TermGate$Row"
def TX4 : u_T := fun k => match k with
  | 0 => ("TermGate$Row", "values", "[I", true)
  | _ => ("TermGate$Row", "length", "I", false)
def tyX4 : Nat → FieldType := fun k => match k with
  | 0 => .array .int
  | _ => .int
abbrev wsX40 : List Cond := u_ws RX4 TX4 2
theorem nmX4 : ∀ a, a < 2 → ∀ b, b < 2 → a ≠ b → (TX4 a).2.1 ≠ (TX4 b).2.1 := by decide +kernel
theorem tyX4_ok : ∀ k, k < 2 → parseFieldDescriptor (TX4 k).2.2.1 = some (tyX4 k) := by decide +kernel
abbrev cX4_init : ByteArray := prog_6_method_1_code
def yX4_init : MethodName := ⟨RX4, "<init>", "()V"⟩
abbrev cX4_has : ByteArray := prog_6_method_2_code
def yX4_has : MethodName := ⟨RX4, "has", "(I)Z"⟩
abbrev cX4_at : ByteArray := prog_6_method_3_code
def yX4_at : MethodName := ⟨RX4, "at", "(I)I"⟩
abbrev cX4_put : ByteArray := prog_6_method_4_code
def yX4_put : MethodName := ⟨RX4, "put", "(II)V"⟩
abbrev cX4_append : ByteArray := prog_6_method_5_code
def yX4_append : MethodName := ⟨RX4, "append", "(I)V"⟩
def RX5 : String := "TermGate$Rulings"
def TX5 : u_T := fun k => match k with
  | 0 => ("TermGate$Rulings", "said", "[I", true)
  | 1 => ("TermGate$Rulings", "ruled", "[I", true)
  | _ => ("TermGate$Rulings", "soldThen", "[I", true)
def tyX5 : Nat → FieldType := fun k => match k with
  | 0 => .array .int
  | 1 => .array .int
  | _ => .array .int
abbrev wsX50 : List Cond := u_ws RX5 TX5 3
theorem nmX5 : ∀ a, a < 3 → ∀ b, b < 3 → a ≠ b → (TX5 a).2.1 ≠ (TX5 b).2.1 := by decide +kernel
theorem tyX5_ok : ∀ k, k < 3 → parseFieldDescriptor (TX5 k).2.2.1 = some (tyX5 k) := by decide +kernel
abbrev cX5_init : ByteArray := prog_7_method_1_code
def yX5_init : MethodName := ⟨RX5, "<init>", "()V"⟩
abbrev cX5_slotOf : ByteArray := prog_7_method_2_code
def yX5_slotOf : MethodName := ⟨RX5, "slotOf", "(II)I"⟩
abbrev cX5_rulingOf : ByteArray := prog_7_method_3_code
def yX5_rulingOf : MethodName := ⟨RX5, "rulingOf", "(II)I"⟩
abbrev cX5_soldAtChange : ByteArray := prog_7_method_4_code
def yX5_soldAtChange : MethodName := ⟨RX5, "soldAtChange", "(II)I"⟩
abbrev cX5_hear : ByteArray := prog_7_method_5_code
def yX5_hear : MethodName := ⟨RX5, "hear", "(IIII)V"⟩
abbrev cX5_agreedOn : ByteArray := prog_7_method_6_code
def yX5_agreedOn : MethodName := ⟨RX5, "agreedOn", "(I)I"⟩
abbrev cX5_saidBy : ByteArray := prog_7_method_7_code
def yX5_saidBy : MethodName := ⟨RX5, "saidBy", "(II)I"⟩
def RX6 : String := "TermGate$Sentence"
def TX6 : u_T := fun k => match k with
  | 0 => ("TermGate$Sentence", "client", "I", true)
  | 1 => ("TermGate$Sentence", "words", "LTermGate$Row;", true)
  | _ => ("TermGate$Sentence", "became", "LTermGate$Row;", true)
def tyX6 : Nat → FieldType := fun k => match k with
  | 0 => .int
  | 1 => .object "TermGate$Row"
  | _ => .object "TermGate$Row"
abbrev wsX60 : List Cond := u_ws RX6 TX6 3
theorem nmX6 : ∀ a, a < 3 → ∀ b, b < 3 → a ≠ b → (TX6 a).2.1 ≠ (TX6 b).2.1 := by decide +kernel
theorem tyX6_ok : ∀ k, k < 3 → parseFieldDescriptor (TX6 k).2.2.1 = some (tyX6 k) := by decide +kernel
abbrev cX6_init : ByteArray := prog_8_method_1_code
def yX6_init : MethodName := ⟨RX6, "<init>", "(ILTermGate$Row;)V"⟩
abbrev cX6_forgetAll : ByteArray := prog_8_method_2_code
def yX6_forgetAll : MethodName := ⟨RX6, "forgetAll", "()V"⟩
abbrev cX6_countOpen : ByteArray := prog_8_method_3_code
def yX6_countOpen : MethodName := ⟨RX6, "countOpen", "()I"⟩
abbrev cX6_firstOpen : ByteArray := prog_8_method_4_code
def yX6_firstOpen : MethodName := ⟨RX6, "firstOpen", "()I"⟩
abbrev cX6_isAstrayAt : ByteArray := prog_8_method_5_code
def yX6_isAstrayAt : MethodName := ⟨RX6, "isAstrayAt", "(ILTermGate$Rulings;)Z"⟩
abbrev cX6_firstAstray : ByteArray := prog_8_method_6_code
def yX6_firstAstray : MethodName := ⟨RX6, "firstAstray", "(LTermGate$Rulings;)I"⟩
def RX7 : String := "TermGate"
def TX7 : u_T := fun k => match k with
  | 0 => ("TermGate", "draft", "LTermGate$Row;", true)
  | 1 => ("TermGate", "rulings", "LTermGate$Rulings;", true)
  | 2 => ("TermGate", "memory", "LTermGate$Memory;", true)
  | 3 => ("TermGate", "orders", "[LTermGate$Order;", true)
  | 4 => ("TermGate", "inHand", "[LTermGate$Order;", true)
  | 5 => ("TermGate", "rushDesk", "LTermGate$Line;", true)
  | 6 => ("TermGate", "otherDesk", "LTermGate$Line;", true)
  | 7 => ("TermGate", "paidByClient", "[I", true)
  | 8 => ("TermGate", "earnedByTranslator", "[I", true)
  | 9 => ("TermGate", "orderCount", "I", false)
  | 10 => ("TermGate", "leastLikeness", "I", false)
  | 11 => ("TermGate", "pricePerWord", "I", false)
  | _ => ("TermGate", "ratePerWord", "I", false)
def tyX7 : Nat → FieldType := fun k => match k with
  | 0 => .object "TermGate$Row"
  | 1 => .object "TermGate$Rulings"
  | 2 => .object "TermGate$Memory"
  | 3 => .array (.object "TermGate$Order")
  | 4 => .array (.object "TermGate$Order")
  | 5 => .object "TermGate$Line"
  | 6 => .object "TermGate$Line"
  | 7 => .array .int
  | 8 => .array .int
  | 9 => .int
  | 10 => .int
  | 11 => .int
  | _ => .int
abbrev wsX70 : List Cond := u_ws RX7 TX7 13
theorem nmX7 : ∀ a, a < 13 → ∀ b, b < 13 → a ≠ b → (TX7 a).2.1 ≠ (TX7 b).2.1 := by decide +kernel
theorem tyX7_ok : ∀ k, k < 13 → parseFieldDescriptor (TX7 k).2.2.1 = some (tyX7 k) := by decide +kernel
abbrev cX7_init : ByteArray := prog_1_method_1_code
def yX7_init : MethodName := ⟨RX7, "<init>", "()V"⟩
abbrev cX7_word : ByteArray := prog_1_method_2_code
def yX7_word : MethodName := ⟨RX7, "word", "(I)I"⟩
abbrev cX7_clear : ByteArray := prog_1_method_3_code
def yX7_clear : MethodName := ⟨RX7, "clear", "()I"⟩
abbrev cX7_likeness : ByteArray := prog_1_method_4_code
def yX7_likeness : MethodName := ⟨RX7, "likeness", "(I)I"⟩
abbrev cX7_best : ByteArray := prog_1_method_5_code
def yX7_best : MethodName := ⟨RX7, "best", "(I)I"⟩
abbrev cX7_bestByAll : ByteArray := prog_1_method_6_code
def yX7_bestByAll : MethodName := ⟨RX7, "bestByAll", "(I)I"⟩
abbrev cX7_cost : ByteArray := prog_1_method_7_code
def yX7_cost : MethodName := ⟨RX7, "cost", "(IZ)I"⟩
abbrev cX7_order : ByteArray := prog_1_method_8_code
def yX7_order : MethodName := ⟨RX7, "order", "(IZ)I"⟩
abbrev cX7_take : ByteArray := prog_1_method_9_code
def yX7_take : MethodName := ⟨RX7, "take", "(I)I"⟩
abbrev cX7_giveBack : ByteArray := prog_1_method_10_code
def yX7_giveBack : MethodName := ⟨RX7, "giveBack", "(I)I"⟩
abbrev cX7_translate : ByteArray := prog_1_method_11_code
def yX7_translate : MethodName := ⟨RX7, "translate", "(III)I"⟩
abbrev cX7_deliver : ByteArray := prog_1_method_12_code
def yX7_deliver : MethodName := ⟨RX7, "deliver", "(I)I"⟩
abbrev cX7_why : ByteArray := prog_1_method_13_code
def yX7_why : MethodName := ⟨RX7, "why", "(I)I"⟩
abbrev cX7_wherefore : ByteArray := prog_1_method_14_code
def yX7_wherefore : MethodName := ⟨RX7, "wherefore", "(I)I"⟩
abbrev cX7_became : ByteArray := prog_1_method_15_code
def yX7_became : MethodName := ⟨RX7, "became", "(II)I"⟩
abbrev cX7_match : ByteArray := prog_1_method_16_code
def yX7_match : MethodName := ⟨RX7, "match", "(I)I"⟩
abbrev cX7_waiting : ByteArray := prog_1_method_17_code
def yX7_waiting : MethodName := ⟨RX7, "waiting", "(Z)I"⟩
abbrev cX7_orderAt : ByteArray := prog_1_method_18_code
def yX7_orderAt : MethodName := ⟨RX7, "orderAt", "(I)I"⟩
abbrev cX7_say : ByteArray := prog_1_method_19_code
def yX7_say : MethodName := ⟨RX7, "say", "(IIII)I"⟩
abbrev cX7_ruling : ByteArray := prog_1_method_20_code
def yX7_ruling : MethodName := ⟨RX7, "ruling", "(II)I"⟩
abbrev cX7_sold : ByteArray := prog_1_method_21_code
def yX7_sold : MethodName := ⟨RX7, "sold", "()I"⟩
abbrev cX7_clientOf : ByteArray := prog_1_method_22_code
def yX7_clientOf : MethodName := ⟨RX7, "clientOf", "(I)I"⟩
abbrev cX7_wordOf : ByteArray := prog_1_method_23_code
def yX7_wordOf : MethodName := ⟨RX7, "wordOf", "(II)I"⟩
abbrev cX7_becameOf : ByteArray := prog_1_method_24_code
def yX7_becameOf : MethodName := ⟨RX7, "becameOf", "(II)I"⟩
abbrev cX7_isDue : ByteArray := prog_1_method_25_code
def yX7_isDue : MethodName := ⟨RX7, "isDue", "(I)Z"⟩
abbrev cX7_due : ByteArray := prog_1_method_26_code
def yX7_due : MethodName := ⟨RX7, "due", "()I"⟩
abbrev cX7_dueAt : ByteArray := prog_1_method_27_code
def yX7_dueAt : MethodName := ⟨RX7, "dueAt", "(I)I"⟩
abbrev cX7_mend : ByteArray := prog_1_method_28_code
def yX7_mend : MethodName := ⟨RX7, "mend", "(I)I"⟩
abbrev cX7_setPrices : ByteArray := prog_1_method_29_code
def yX7_setPrices : MethodName := ⟨RX7, "setPrices", "(III)V"⟩
abbrev cX7_paid : ByteArray := prog_1_method_30_code
def yX7_paid : MethodName := ⟨RX7, "paid", "(I)I"⟩
abbrev cX7_earned : ByteArray := prog_1_method_31_code
def yX7_earned : MethodName := ⟨RX7, "earned", "(I)I"⟩
abbrev cX7_purse : ByteArray := prog_1_method_32_code
def yX7_purse : MethodName := ⟨RX7, "purse", "()I"⟩
abbrev cX7_refuseUnlessClient : ByteArray := prog_1_method_33_code
def yX7_refuseUnlessClient : MethodName := ⟨RX7, "refuseUnlessClient", "(I)V"⟩
abbrev cX7_refuseUnlessClientAndWord : ByteArray := prog_1_method_34_code
def yX7_refuseUnlessClientAndWord : MethodName := ⟨RX7, "refuseUnlessClientAndWord", "(II)V"⟩
abbrev cX7_refuseUnlessTranslator : ByteArray := prog_1_method_35_code
def yX7_refuseUnlessTranslator : MethodName := ⟨RX7, "refuseUnlessTranslator", "(I)V"⟩
abbrev cX7_refuseUnlessPlace : ByteArray := prog_1_method_36_code
def yX7_refuseUnlessPlace : MethodName := ⟨RX7, "refuseUnlessPlace", "(LTermGate$Sentence;I)V"⟩
abbrev cX7_refuseEmptyDraft : ByteArray := prog_1_method_37_code
def yX7_refuseEmptyDraft : MethodName := ⟨RX7, "refuseEmptyDraft", "()V"⟩
abbrev cX7_soldSentence : ByteArray := prog_1_method_38_code
def yX7_soldSentence : MethodName := ⟨RX7, "soldSentence", "(I)LTermGate$Sentence;"⟩
abbrev cX7_orderInHandOf : ByteArray := prog_1_method_39_code
def yX7_orderInHandOf : MethodName := ⟨RX7, "orderInHandOf", "(I)LTermGate$Order;"⟩
abbrev cX7_orderNumbered : ByteArray := prog_1_method_40_code
def yX7_orderNumbered : MethodName := ⟨RX7, "orderNumbered", "(I)LTermGate$Order;"⟩
abbrev cX7_handOf : ByteArray := prog_1_method_41_code
def yX7_handOf : MethodName := ⟨RX7, "handOf", "(I)LTermGate$Order;"⟩
abbrev cX7_putInHand : ByteArray := prog_1_method_42_code
def yX7_putInHand : MethodName := ⟨RX7, "putInHand", "(ILTermGate$Order;)V"⟩
abbrev cX7_deskFor : ByteArray := prog_1_method_43_code
def yX7_deskFor : MethodName := ⟨RX7, "deskFor", "(Z)LTermGate$Line;"⟩
abbrev cX7_begin : ByteArray := prog_1_method_44_code
def yX7_begin : MethodName := ⟨RX7, "begin", "(LTermGate$Order;)V"⟩
abbrev cX7_bestFor : ByteArray := prog_1_method_45_code
def yX7_bestFor : MethodName := ⟨RX7, "bestFor", "(ILTermGate$Row;)I"⟩
abbrev cX7_costOf : ByteArray := prog_1_method_46_code
def yX7_costOf : MethodName := ⟨RX7, "costOf", "(IIZ)I"⟩
abbrev cX7_mendingPrice : ByteArray := prog_1_method_47_code
def yX7_mendingPrice : MethodName := ⟨RX7, "mendingPrice", "(III)I"⟩
abbrev cX7_addTo : ByteArray := prog_1_method_48_code
def yX7_addTo : MethodName := ⟨RX7, "addTo", "([III)V"⟩
abbrev cX7_sumOf : ByteArray := prog_1_method_49_code
def yX7_sumOf : MethodName := ⟨RX7, "sumOf", "([I)I"⟩
def RX8 : String := "TermGateModel"
def TX8 : u_T := fun k => match k with
  | 0 => ("TermGateModel", "thrown", "I", false)
  | 1 => ("TermGateModel", "size", "I", false)
  | 2 => ("TermGateModel", "draft", "[I", true)
  | 3 => ("TermGateModel", "least", "I", false)
  | 4 => ("TermGateModel", "price", "I", false)
  | 5 => ("TermGateModel", "rate", "I", false)
  | 6 => ("TermGateModel", "sold", "I", false)
  | 7 => ("TermGateModel", "clients", "[I", true)
  | 8 => ("TermGateModel", "sizes", "[I", true)
  | 9 => ("TermGateModel", "words", "[I", true)
  | 10 => ("TermGateModel", "became", "[I", true)
  | 11 => ("TermGateModel", "soldAt", "[I", true)
  | 12 => ("TermGateModel", "orders", "I", false)
  | 13 => ("TermGateModel", "orderClients", "[I", true)
  | 14 => ("TermGateModel", "orderSizes", "[I", true)
  | 15 => ("TermGateModel", "orderWords", "[I", true)
  | 16 => ("TermGateModel", "isRush", "[Z", true)
  | 17 => ("TermGateModel", "holders", "[I", true)
  | 18 => ("TermGateModel", "turns", "[I", true)
  | 19 => ("TermGateModel", "front", "I", false)
  | 20 => ("TermGateModel", "back", "I", false)
  | 21 => ("TermGateModel", "matches", "[I", true)
  | 22 => ("TermGateModel", "become", "[I", true)
  | 23 => ("TermGateModel", "costs", "[I", true)
  | 24 => ("TermGateModel", "pays", "[I", true)
  | 25 => ("TermGateModel", "says", "[I", true)
  | 26 => ("TermGateModel", "ruledAt", "[I", true)
  | 27 => ("TermGateModel", "moment", "I", false)
  | 28 => ("TermGateModel", "listed", "[I", true)
  | 29 => ("TermGateModel", "listings", "I", false)
  | 30 => ("TermGateModel", "paid", "[I", true)
  | 31 => ("TermGateModel", "earned", "[I", true)
  | 32 => ("TermGateModel", "rowSize", "I", false)
  | 33 => ("TermGateModel", "row", "[I", true)
  | _ => ("TermGateModel", "edits", "[I", true)
def tyX8 : Nat → FieldType := fun k => match k with
  | 0 => .int
  | 1 => .int
  | 2 => .array .int
  | 3 => .int
  | 4 => .int
  | 5 => .int
  | 6 => .int
  | 7 => .array .int
  | 8 => .array .int
  | 9 => .array .int
  | 10 => .array .int
  | 11 => .array .int
  | 12 => .int
  | 13 => .array .int
  | 14 => .array .int
  | 15 => .array .int
  | 16 => .array .boolean
  | 17 => .array .int
  | 18 => .array .int
  | 19 => .int
  | 20 => .int
  | 21 => .array .int
  | 22 => .array .int
  | 23 => .array .int
  | 24 => .array .int
  | 25 => .array .int
  | 26 => .array .int
  | 27 => .int
  | 28 => .array .int
  | 29 => .int
  | 30 => .array .int
  | 31 => .array .int
  | 32 => .int
  | 33 => .array .int
  | _ => .array .int
abbrev wsX80 : List Cond := u_ws RX8 TX8 35
theorem nmX8 : ∀ a, a < 35 → ∀ b, b < 35 → a ≠ b → (TX8 a).2.1 ≠ (TX8 b).2.1 := by decide +kernel
theorem tyX8_ok : ∀ k, k < 35 → parseFieldDescriptor (TX8 k).2.2.1 = some (tyX8 k) := by decide +kernel
abbrev cX8_init : ByteArray := prog_10_method_1_code
def yX8_init : MethodName := ⟨RX8, "<init>", "()V"⟩
abbrev cX8_thrown : ByteArray := prog_10_method_2_code
def yX8_thrown : MethodName := ⟨RX8, "thrown", "()I"⟩
abbrev cX8_holds : ByteArray := prog_10_method_3_code
def yX8_holds : MethodName := ⟨RX8, "holds", "(I)Z"⟩
abbrev cX8_isIn : ByteArray := prog_10_method_4_code
def yX8_isIn : MethodName := ⟨RX8, "isIn", "(II)Z"⟩
abbrev cX8_at : ByteArray := prog_10_method_5_code
def yX8_at : MethodName := ⟨RX8, "at", "(II)I"⟩
abbrev cX8_rulingOf : ByteArray := prog_10_method_6_code
def yX8_rulingOf : MethodName := ⟨RX8, "rulingOf", "(II)I"⟩
abbrev cX8_isAgainst : ByteArray := prog_10_method_7_code
def yX8_isAgainst : MethodName := ⟨RX8, "isAgainst", "(III)Z"⟩
abbrev cX8_isDueNow : ByteArray := prog_10_method_8_code
def yX8_isDueNow : MethodName := ⟨RX8, "isDueNow", "(I)Z"⟩
abbrev cX8_lists : ByteArray := prog_10_method_9_code
def yX8_lists : MethodName := ⟨RX8, "lists", "()V"⟩
abbrev cX8_dueNow : ByteArray := prog_10_method_10_code
def yX8_dueNow : MethodName := ⟨RX8, "dueNow", "()I"⟩
abbrev cX8_say : ByteArray := prog_10_method_11_code
def yX8_say : MethodName := ⟨RX8, "say", "(IIII)I"⟩
abbrev cX8_ruling : ByteArray := prog_10_method_12_code
def yX8_ruling : MethodName := ⟨RX8, "ruling", "(II)I"⟩
abbrev cX8_takesDraft : ByteArray := prog_10_method_13_code
def yX8_takesDraft : MethodName := ⟨RX8, "takesDraft", "()V"⟩
abbrev cX8_lesser : ByteArray := prog_10_method_14_code
def yX8_lesser : MethodName := ⟨RX8, "lesser", "(II)I"⟩
abbrev cX8_compares : ByteArray := prog_10_method_15_code
def yX8_compares : MethodName := ⟨RX8, "compares", "(I)V"⟩
abbrev cX8_likenessOf : ByteArray := prog_10_method_16_code
def yX8_likenessOf : MethodName := ⟨RX8, "likenessOf", "(I)I"⟩
abbrev cX8_bestOf : ByteArray := prog_10_method_17_code
def yX8_bestOf : MethodName := ⟨RX8, "bestOf", "(I)I"⟩
abbrev cX8_shareOf : ByteArray := prog_10_method_18_code
def yX8_shareOf : MethodName := ⟨RX8, "shareOf", "(I)I"⟩
abbrev cX8_costOf : ByteArray := prog_10_method_19_code
def yX8_costOf : MethodName := ⟨RX8, "costOf", "(IZ)I"⟩
abbrev cX8_word : ByteArray := prog_10_method_20_code
def yX8_word : MethodName := ⟨RX8, "word", "(I)I"⟩
abbrev cX8_clear : ByteArray := prog_10_method_21_code
def yX8_clear : MethodName := ⟨RX8, "clear", "()I"⟩
abbrev cX8_isSentence : ByteArray := prog_10_method_22_code
def yX8_isSentence : MethodName := ⟨RX8, "isSentence", "(I)Z"⟩
abbrev cX8_likeness : ByteArray := prog_10_method_23_code
def yX8_likeness : MethodName := ⟨RX8, "likeness", "(I)I"⟩
abbrev cX8_isAsked : ByteArray := prog_10_method_24_code
def yX8_isAsked : MethodName := ⟨RX8, "isAsked", "(I)Z"⟩
abbrev cX8_best : ByteArray := prog_10_method_25_code
def yX8_best : MethodName := ⟨RX8, "best", "(I)I"⟩
abbrev cX8_bestByAll : ByteArray := prog_10_method_26_code
def yX8_bestByAll : MethodName := ⟨RX8, "bestByAll", "(I)I"⟩
abbrev cX8_cost : ByteArray := prog_10_method_27_code
def yX8_cost : MethodName := ⟨RX8, "cost", "(IZ)I"⟩
abbrev cX8_order : ByteArray := prog_10_method_28_code
def yX8_order : MethodName := ⟨RX8, "order", "(IZ)I"⟩
abbrev cX8_orderOf : ByteArray := prog_10_method_29_code
def yX8_orderOf : MethodName := ⟨RX8, "orderOf", "(I)I"⟩
abbrev cX8_next : ByteArray := prog_10_method_30_code
def yX8_next : MethodName := ⟨RX8, "next", "()I"⟩
abbrev cX8_pairs : ByteArray := prog_10_method_31_code
def yX8_pairs : MethodName := ⟨RX8, "pairs", "(II)V"⟩
abbrev cX8_takes : ByteArray := prog_10_method_32_code
def yX8_takes : MethodName := ⟨RX8, "takes", "(II)V"⟩
abbrev cX8_take : ByteArray := prog_10_method_33_code
def yX8_take : MethodName := ⟨RX8, "take", "(I)I"⟩
abbrev cX8_isAtWork : ByteArray := prog_10_method_34_code
def yX8_isAtWork : MethodName := ⟨RX8, "isAtWork", "(I)Z"⟩
abbrev cX8_giveBack : ByteArray := prog_10_method_35_code
def yX8_giveBack : MethodName := ⟨RX8, "giveBack", "(I)I"⟩
abbrev cX8_open : ByteArray := prog_10_method_36_code
def yX8_open : MethodName := ⟨RX8, "open", "(I)I"⟩
abbrev cX8_translate : ByteArray := prog_10_method_37_code
def yX8_translate : MethodName := ⟨RX8, "translate", "(III)I"⟩
abbrev cX8_hindered : ByteArray := prog_10_method_38_code
def yX8_hindered : MethodName := ⟨RX8, "hindered", "(I)I"⟩
abbrev cX8_sells : ByteArray := prog_10_method_39_code
def yX8_sells : MethodName := ⟨RX8, "sells", "(I)V"⟩
abbrev cX8_deliver : ByteArray := prog_10_method_40_code
def yX8_deliver : MethodName := ⟨RX8, "deliver", "(I)I"⟩
abbrev cX8_why : ByteArray := prog_10_method_41_code
def yX8_why : MethodName := ⟨RX8, "why", "(I)I"⟩
abbrev cX8_wherefore : ByteArray := prog_10_method_42_code
def yX8_wherefore : MethodName := ⟨RX8, "wherefore", "(I)I"⟩
abbrev cX8_became : ByteArray := prog_10_method_43_code
def yX8_became : MethodName := ⟨RX8, "became", "(II)I"⟩
abbrev cX8_match : ByteArray := prog_10_method_44_code
def yX8_match : MethodName := ⟨RX8, "match", "(I)I"⟩
abbrev cX8_waiting : ByteArray := prog_10_method_45_code
def yX8_waiting : MethodName := ⟨RX8, "waiting", "(Z)I"⟩
abbrev cX8_orderAt : ByteArray := prog_10_method_46_code
def yX8_orderAt : MethodName := ⟨RX8, "orderAt", "(I)I"⟩
abbrev cX8_sold : ByteArray := prog_10_method_47_code
def yX8_sold : MethodName := ⟨RX8, "sold", "()I"⟩
abbrev cX8_clientOf : ByteArray := prog_10_method_48_code
def yX8_clientOf : MethodName := ⟨RX8, "clientOf", "(I)I"⟩
abbrev cX8_isPlace : ByteArray := prog_10_method_49_code
def yX8_isPlace : MethodName := ⟨RX8, "isPlace", "(II)Z"⟩
abbrev cX8_wordOf : ByteArray := prog_10_method_50_code
def yX8_wordOf : MethodName := ⟨RX8, "wordOf", "(II)I"⟩
abbrev cX8_becameOf : ByteArray := prog_10_method_51_code
def yX8_becameOf : MethodName := ⟨RX8, "becameOf", "(II)I"⟩
abbrev cX8_isDue : ByteArray := prog_10_method_52_code
def yX8_isDue : MethodName := ⟨RX8, "isDue", "(I)Z"⟩
abbrev cX8_due : ByteArray := prog_10_method_53_code
def yX8_due : MethodName := ⟨RX8, "due", "()I"⟩
abbrev cX8_dueAt : ByteArray := prog_10_method_54_code
def yX8_dueAt : MethodName := ⟨RX8, "dueAt", "(I)I"⟩
abbrev cX8_mend : ByteArray := prog_10_method_55_code
def yX8_mend : MethodName := ⟨RX8, "mend", "(I)I"⟩
abbrev cX8_setPrices : ByteArray := prog_10_method_56_code
def yX8_setPrices : MethodName := ⟨RX8, "setPrices", "(III)V"⟩
abbrev cX8_paid : ByteArray := prog_10_method_57_code
def yX8_paid : MethodName := ⟨RX8, "paid", "(I)I"⟩
abbrev cX8_earned : ByteArray := prog_10_method_58_code
def yX8_earned : MethodName := ⟨RX8, "earned", "(I)I"⟩
abbrev cX8_purse : ByteArray := prog_10_method_59_code
def yX8_purse : MethodName := ⟨RX8, "purse", "()I"⟩
def RJx145de : String := "java/io/Serializable"
def TJx145de : u_T := fun k => match k with
  | _ => ("", "", "", false)
def tyJx145de : Nat → FieldType := fun k => match k with
  | _ => .int
abbrev wsJx145de0 : List Cond := u_ws RJx145de TJx145de 0
theorem nmJx145de : ∀ a, a < 0 → ∀ b, b < 0 → a ≠ b → (TJx145de a).2.1 ≠ (TJx145de b).2.1 := by decide +kernel
theorem tyJx145de_ok : ∀ k, k < 0 → parseFieldDescriptor (TJx145de k).2.2.1 = some (tyJx145de k) := by decide +kernel
def RJ9 : String := "java/lang/Math"
def TJ9 : u_T := fun k => match k with
  | _ => ("", "", "", false)
def tyJ9 : Nat → FieldType := fun k => match k with
  | _ => .int
abbrev wsJ90 : List Cond := u_ws RJ9 TJ9 0
theorem nmJ9 : ∀ a, a < 0 → ∀ b, b < 0 → a ≠ b → (TJ9 a).2.1 ≠ (TJ9 b).2.1 := by decide +kernel
theorem tyJ9_ok : ∀ k, k < 0 → parseFieldDescriptor (TJ9 k).2.2.1 = some (tyJ9 k) := by decide +kernel
abbrev cJ9_max_7cf53 : ByteArray := prog_15_method_65_code
def yJ9_max_7cf53 : MethodName := ⟨RJ9, "max", "(II)I"⟩
abbrev cJ9_min_7cf53 : ByteArray := prog_15_method_69_code
def yJ9_min_7cf53 : MethodName := ⟨RJ9, "min", "(II)I"⟩
def RJ7 : String := "java/util/Arrays"
def TJ7 : u_T := fun k => match k with
  | _ => ("", "", "", false)
def tyJ7 : Nat → FieldType := fun k => match k with
  | _ => .int
abbrev wsJ70 : List Cond := u_ws RJ7 TJ7 0
theorem nmJ7 : ∀ a, a < 0 → ∀ b, b < 0 → a ≠ b → (TJ7 a).2.1 ≠ (TJ7 b).2.1 := by decide +kernel
theorem tyJ7_ok : ∀ k, k < 0 → parseFieldDescriptor (TJ7 k).2.2.1 = some (tyJ7 k) := by decide +kernel
abbrev cJ7_fill_53178 : ByteArray := prog_18_method_103_code
def yJ7_fill_53178 : MethodName := ⟨RJ7, "fill", "([II)V"⟩
def RL : String := "TermGateLaw"
abbrev cL_word : ByteArray := method_3_code
def yL_word : MethodName := ⟨RL, "word", "(LTermGate;I[J)I"⟩
abbrev cL_likeness : ByteArray := method_4_code
def yL_likeness : MethodName := ⟨RL, "likeness", "(LTermGate;I[J)I"⟩
abbrev cL_best : ByteArray := method_5_code
def yL_best : MethodName := ⟨RL, "best", "(LTermGate;I[J)I"⟩
abbrev cL_bestByAll : ByteArray := method_6_code
def yL_bestByAll : MethodName := ⟨RL, "bestByAll", "(LTermGate;I[J)I"⟩
abbrev cL_cost : ByteArray := method_7_code
def yL_cost : MethodName := ⟨RL, "cost", "(LTermGate;IZ[J)I"⟩
abbrev cL_order : ByteArray := method_8_code
def yL_order : MethodName := ⟨RL, "order", "(LTermGate;IZ[J)I"⟩
abbrev cL_take : ByteArray := method_9_code
def yL_take : MethodName := ⟨RL, "take", "(LTermGate;I[J)I"⟩
abbrev cL_giveBack : ByteArray := method_10_code
def yL_giveBack : MethodName := ⟨RL, "giveBack", "(LTermGate;I[J)I"⟩
abbrev cL_translate : ByteArray := method_11_code
def yL_translate : MethodName := ⟨RL, "translate", "(LTermGate;III[J)I"⟩
abbrev cL_deliver : ByteArray := method_12_code
def yL_deliver : MethodName := ⟨RL, "deliver", "(LTermGate;I[J)I"⟩
abbrev cL_why : ByteArray := method_13_code
def yL_why : MethodName := ⟨RL, "why", "(LTermGate;I[J)I"⟩
abbrev cL_wherefore : ByteArray := method_14_code
def yL_wherefore : MethodName := ⟨RL, "wherefore", "(LTermGate;I[J)I"⟩
abbrev cL_became : ByteArray := method_15_code
def yL_became : MethodName := ⟨RL, "became", "(LTermGate;II[J)I"⟩
abbrev cL_match : ByteArray := method_16_code
def yL_match : MethodName := ⟨RL, "match", "(LTermGate;I[J)I"⟩
abbrev cL_orderAt : ByteArray := method_17_code
def yL_orderAt : MethodName := ⟨RL, "orderAt", "(LTermGate;I[J)I"⟩
abbrev cL_say : ByteArray := method_18_code
def yL_say : MethodName := ⟨RL, "say", "(LTermGate;IIII[J)I"⟩
abbrev cL_ruling : ByteArray := method_19_code
def yL_ruling : MethodName := ⟨RL, "ruling", "(LTermGate;II[J)I"⟩
abbrev cL_clientOf : ByteArray := method_20_code
def yL_clientOf : MethodName := ⟨RL, "clientOf", "(LTermGate;I[J)I"⟩
abbrev cL_wordOf : ByteArray := method_21_code
def yL_wordOf : MethodName := ⟨RL, "wordOf", "(LTermGate;II[J)I"⟩
abbrev cL_becameOf : ByteArray := method_22_code
def yL_becameOf : MethodName := ⟨RL, "becameOf", "(LTermGate;II[J)I"⟩
abbrev cL_isDue : ByteArray := method_23_code
def yL_isDue : MethodName := ⟨RL, "isDue", "(LTermGate;I[J)I"⟩
abbrev cL_dueAt : ByteArray := method_24_code
def yL_dueAt : MethodName := ⟨RL, "dueAt", "(LTermGate;I[J)I"⟩
abbrev cL_mend : ByteArray := method_25_code
def yL_mend : MethodName := ⟨RL, "mend", "(LTermGate;I[J)I"⟩
abbrev cL_setPrices : ByteArray := method_26_code
def yL_setPrices : MethodName := ⟨RL, "setPrices", "(LTermGate;III)I"⟩
abbrev cL_paid : ByteArray := method_27_code
def yL_paid : MethodName := ⟨RL, "paid", "(LTermGate;I[J)I"⟩
abbrev cL_earned : ByteArray := method_28_code
def yL_earned : MethodName := ⟨RL, "earned", "(LTermGate;I[J)I"⟩
abbrev cL_law : ByteArray := code
def yL_law : MethodName := ⟨RL, "law", "([I)Z"⟩
def wsX0_init : List Cond := .code yX0_init cX0_init 1 none :: ([.methodLink RX0 3 objectInit, .instanceMethod objectInit, .code objectInit ⟨#[0xb1]⟩ 1 none, .arrayClass .int, .fieldLink RX0 11 "TermGate$Edits" "table" "[I"] ++ wsX00)
def wsX4_at : List Cond := .code yX4_at cX4_at 2 (some .int) :: ([.fieldLink RX4 15 "TermGate$Row" "length" "I", .fieldLink RX4 9 "TermGate$Row" "values" "[I"] ++ wsX40)
def wsX0_between : List Cond := .code yX0_between cX0_between 4 (some .int) :: ([.fieldLink RX0 11 "TermGate$Edits" "table" "[I"] ++ wsX00)
def wsX0_least : List Cond := .code yX0_least cX0_least 7 (some .int) :: ([.methodLink RX0 46 Lib.Math.min.name, .static Lib.Math.min.name, .initialized "java/lang/Math", .code Lib.Math.min.name Lib.Math.min.code 2 (some .int), .methodLink RX0 31 yX0_between, .instanceMethod yX0_between, .selects RX0 yX0_between yX0_between, .initialized RX0, .code yX0_between cX0_between 4 (some .int), .fieldLink RX0 11 "TermGate$Edits" "table" "[I"] ++ wsX00)
def wsX0_put : List Cond := .code yX0_put cX0_put 5 none :: ([.fieldLink RX0 11 "TermGate$Edits" "table" "[I"] ++ wsX00)
def wsX0_compare_r1 : List Cond := [Cond.methodLink RX0 34 yX4_at, Cond.instanceMethod yX4_at, Cond.selects RX4 yX4_at yX4_at, Cond.initialized RX4, Cond.code yX4_at cX4_at 2 (some .int), Cond.fieldLink RX4 15 "TermGate$Row" "length" "I", Cond.fieldLink RX4 9 "TermGate$Row" "values" "[I", Cond.methodLink RX0 38 yX0_least, Cond.instanceMethod yX0_least, Cond.selects RX0 yX0_least yX0_least, Cond.initialized RX0, Cond.code yX0_least cX0_least 7 (some .int), Cond.methodLink RX0 46 Lib.Math.min.name, Cond.static Lib.Math.min.name, Cond.initialized "java/lang/Math", Cond.code Lib.Math.min.name Lib.Math.min.code 2 (some .int), Cond.methodLink RX0 31 yX0_between, Cond.instanceMethod yX0_between, Cond.selects RX0 yX0_between yX0_between, Cond.code yX0_between cX0_between 4 (some .int), Cond.fieldLink RX0 11 "TermGate$Edits" "table" "[I", Cond.methodLink RX0 42 yX0_put, Cond.instanceMethod yX0_put, Cond.selects RX0 yX0_put yX0_put]
def wsX0_compare_r2 : List Cond := [Cond.code yX0_put cX0_put 5 none]
def wsX0_compare : List Cond := .code yX0_compare cX0_compare 6 none :: ((wsX0_compare_r1 ++ wsX0_compare_r2) ++ wsX40 ++ wsX00)
def wsX0_likenessOf_r1 : List Cond := [Cond.methodLink RX0 25 Lib.Math.max.name, Cond.static Lib.Math.max.name, Cond.initialized "java/lang/Math", Cond.code Lib.Math.max.name Lib.Math.max.code 2 (some .int), Cond.methodLink RX0 15 yX0_compare, Cond.instanceMethod yX0_compare, Cond.selects RX0 yX0_compare yX0_compare, Cond.initialized RX0, Cond.code yX0_compare cX0_compare 6 none, Cond.methodLink RX0 34 yX4_at, Cond.instanceMethod yX4_at, Cond.selects RX4 yX4_at yX4_at, Cond.initialized RX4, Cond.code yX4_at cX4_at 2 (some .int), Cond.fieldLink RX4 15 "TermGate$Row" "length" "I", Cond.fieldLink RX4 9 "TermGate$Row" "values" "[I", Cond.methodLink RX0 38 yX0_least, Cond.instanceMethod yX0_least, Cond.selects RX0 yX0_least yX0_least, Cond.code yX0_least cX0_least 7 (some .int), Cond.methodLink RX0 46 Lib.Math.min.name, Cond.static Lib.Math.min.name, Cond.code Lib.Math.min.name Lib.Math.min.code 2 (some .int), Cond.methodLink RX0 31 yX0_between]
def wsX0_likenessOf_r2 : List Cond := [Cond.instanceMethod yX0_between, Cond.selects RX0 yX0_between yX0_between, Cond.code yX0_between cX0_between 4 (some .int), Cond.fieldLink RX0 11 "TermGate$Edits" "table" "[I", Cond.methodLink RX0 42 yX0_put, Cond.instanceMethod yX0_put, Cond.selects RX0 yX0_put yX0_put, Cond.code yX0_put cX0_put 5 none]
def wsX0_likenessOf : List Cond := .code yX0_likenessOf cX0_likenessOf 5 (some .int) :: ((wsX0_likenessOf_r1 ++ wsX0_likenessOf_r2) ++ wsX40 ++ wsX00)
def wsX0_skipBehind : List Cond := .code yX0_skipBehind cX0_skipBehind 6 (some .int) :: ([.methodLink RX0 31 yX0_between, .instanceMethod yX0_between, .selects RX0 yX0_between yX0_between, .initialized RX0, .code yX0_between cX0_between 4 (some .int), .fieldLink RX0 11 "TermGate$Edits" "table" "[I"] ++ wsX00)
def wsX1_init : List Cond := .code yX1_init cX1_init 1 none :: ([.methodLink RX1 3 objectInit, .instanceMethod objectInit, .code objectInit ⟨#[0xb1]⟩ 1 none, .arrayClass .int, .fieldLink RX1 9 "TermGate$Line" "numbers" "[I", .fieldLink RX1 15 "TermGate$Line" "count" "I"] ++ wsX10)
def wsX1_hasPlace : List Cond := .code yX1_hasPlace cX1_hasPlace 2 (some .boolean) :: ([.fieldLink RX1 15 "TermGate$Line" "count" "I", .fieldLink RX1 9 "TermGate$Line" "numbers" "[I"] ++ wsX10)
def wsX1_at : List Cond := .code yX1_at cX1_at 2 (some .int) :: ([.fieldLink RX1 9 "TermGate$Line" "numbers" "[I", .methodLink RX1 19 yX1_hasPlace, .instanceMethod yX1_hasPlace, .selects RX1 yX1_hasPlace yX1_hasPlace, .initialized RX1, .code yX1_hasPlace cX1_hasPlace 2 (some .boolean), .fieldLink RX1 15 "TermGate$Line" "count" "I"] ++ wsX10)
def wsX1_holds : List Cond := .code yX1_holds cX1_holds 3 (some .boolean) :: ([.fieldLink RX1 15 "TermGate$Line" "count" "I", .methodLink RX1 23 yX1_at, .instanceMethod yX1_at, .selects RX1 yX1_at yX1_at, .initialized RX1, .code yX1_at cX1_at 2 (some .int), .fieldLink RX1 9 "TermGate$Line" "numbers" "[I", .methodLink RX1 19 yX1_hasPlace, .instanceMethod yX1_hasPlace, .selects RX1 yX1_hasPlace yX1_hasPlace, .code yX1_hasPlace cX1_hasPlace 2 (some .boolean)] ++ wsX10)
def wsX1_addLast : List Cond := .code yX1_addLast cX1_addLast 3 none :: ([.fieldLink RX1 15 "TermGate$Line" "count" "I", .fieldLink RX1 9 "TermGate$Line" "numbers" "[I"] ++ wsX10)
def wsX1_addFirst : List Cond := .code yX1_addFirst cX1_addFirst 5 none :: ([.fieldLink RX1 15 "TermGate$Line" "count" "I", .fieldLink RX1 9 "TermGate$Line" "numbers" "[I", .methodLink RX1 27 yX1_addLast, .instanceMethod yX1_addLast, .selects RX1 yX1_addLast yX1_addLast, .initialized RX1, .code yX1_addLast cX1_addLast 3 none] ++ wsX10)
def wsX1_removeAt : List Cond := .code yX1_removeAt cX1_removeAt 3 none :: ([.fieldLink RX1 15 "TermGate$Line" "count" "I", .fieldLink RX1 9 "TermGate$Line" "numbers" "[I", .methodLink RX1 19 yX1_hasPlace, .instanceMethod yX1_hasPlace, .selects RX1 yX1_hasPlace yX1_hasPlace, .initialized RX1, .code yX1_hasPlace cX1_hasPlace 2 (some .boolean)] ++ wsX10)
def wsX1_removeFirst : List Cond := .code yX1_removeFirst cX1_removeFirst 1 none :: ([.methodLink RX1 31 yX1_removeAt, .instanceMethod yX1_removeAt, .selects RX1 yX1_removeAt yX1_removeAt, .initialized RX1, .code yX1_removeAt cX1_removeAt 3 none, .fieldLink RX1 15 "TermGate$Line" "count" "I", .fieldLink RX1 9 "TermGate$Line" "numbers" "[I", .methodLink RX1 19 yX1_hasPlace, .instanceMethod yX1_hasPlace, .selects RX1 yX1_hasPlace yX1_hasPlace, .code yX1_hasPlace cX1_hasPlace 2 (some .boolean)] ++ wsX10)
def wsX2_init_r1 : List Cond := [Cond.methodLink RX2 3 objectInit, Cond.instanceMethod objectInit, Cond.code objectInit ⟨#[0xb1]⟩ 1 none, Cond.classLink RX2 9 RX6, Cond.fieldLink RX2 11 "TermGate$Memory" "sentences" "[LTermGate$Sentence;", Cond.arrayClass .long, Cond.fieldLink RX2 17 "TermGate$Memory" "having" "[J", Cond.classLink RX2 21 RX1, Cond.instantiable RX1 2, Cond.initialized RX1, Cond.fieldLink RX2 24 "TermGate$Memory" "dueList" "LTermGate$Line;", Cond.classLink RX2 28 RX0, Cond.instantiable RX0 1, Cond.initialized RX0, Cond.fieldLink RX2 31 "TermGate$Memory" "edits" "LTermGate$Edits;", Cond.fieldLink RX2 35 "TermGate$Memory" "count" "I", Cond.instanceMethod yX1_init, Cond.code yX1_init cX1_init 1 none, Cond.methodLink RX1 3 objectInit, Cond.arrayClass .int, Cond.fieldLink RX1 9 "TermGate$Line" "numbers" "[I", Cond.fieldLink RX1 15 "TermGate$Line" "count" "I", Cond.instanceMethod yX0_init, Cond.code yX0_init cX0_init 1 none]
def wsX2_init_r2 : List Cond := [Cond.methodLink RX0 3 objectInit, Cond.fieldLink RX0 11 "TermGate$Edits" "table" "[I"]
def wsX2_init : List Cond := .code yX2_init cX2_init 1 none :: ((wsX2_init_r1 ++ wsX2_init_r2) ++ wsX20 ++ wsX10 ++ wsX00)
def wsX2_sentenceAt : List Cond := .code yX2_sentenceAt cX2_sentenceAt 2 (some (.object "TermGate$Sentence")) :: ([.fieldLink RX2 11 "TermGate$Memory" "sentences" "[LTermGate$Sentence;"] ++ wsX20)
def wsX2_keep : List Cond := .code yX2_keep cX2_keep 5 (some .int) :: ([.fieldLink RX2 35 "TermGate$Memory" "count" "I", .fieldLink RX2 11 "TermGate$Memory" "sentences" "[LTermGate$Sentence;", .fieldLink RX2 17 "TermGate$Memory" "having" "[J", .methodLink RX2 48 yX4_at, .instanceMethod yX4_at, .selects RX4 yX4_at yX4_at, .initialized RX4, .code yX4_at cX4_at 2 (some .int), .fieldLink RX4 15 "TermGate$Row" "length" "I", .fieldLink RX4 9 "TermGate$Row" "values" "[I"] ++ wsX20 ++ wsX60 ++ wsX40)
def wsX5_slotOf : List Cond := .code yX5_slotOf cX5_slotOf 3 (some .int) :: ([])
def wsX5_rulingOf : List Cond := .code yX5_rulingOf cX5_rulingOf 4 (some .int) :: ([.fieldLink RX5 15 "TermGate$Rulings" "ruled" "[I", .methodLink RX5 27 yX5_slotOf, .static yX5_slotOf, .initialized RX5, .code yX5_slotOf cX5_slotOf 3 (some .int)] ++ wsX50)
def wsX6_isAstrayAt : List Cond := .code yX6_isAstrayAt cX6_isAstrayAt 4 (some .boolean) :: ([.fieldLink RX6 21 "TermGate$Sentence" "client" "I", .fieldLink RX6 12 "TermGate$Sentence" "words" "LTermGate$Row;", .fieldLink RX6 18 "TermGate$Sentence" "became" "LTermGate$Row;", .methodLink RX6 28 yX4_at, .instanceMethod yX4_at, .selects RX4 yX4_at yX4_at, .initialized RX4, .code yX4_at cX4_at 2 (some .int), .fieldLink RX4 15 "TermGate$Row" "length" "I", .fieldLink RX4 9 "TermGate$Row" "values" "[I", .methodLink RX6 40 yX5_rulingOf, .instanceMethod yX5_rulingOf, .selects RX5 yX5_rulingOf yX5_rulingOf, .initialized RX5, .code yX5_rulingOf cX5_rulingOf 4 (some .int), .fieldLink RX5 15 "TermGate$Rulings" "ruled" "[I", .methodLink RX5 27 yX5_slotOf, .static yX5_slotOf, .code yX5_slotOf cX5_slotOf 3 (some .int)] ++ wsX60 ++ wsX40 ++ wsX50)
def wsX6_firstAstray : List Cond := .code yX6_firstAstray cX6_firstAstray 3 (some .int) :: ([.fieldLink RX6 12 "TermGate$Sentence" "words" "LTermGate$Row;", .methodLink RX6 46 yX6_isAstrayAt, .instanceMethod yX6_isAstrayAt, .selects RX6 yX6_isAstrayAt yX6_isAstrayAt, .initialized RX6, .code yX6_isAstrayAt cX6_isAstrayAt 4 (some .boolean), .fieldLink RX6 21 "TermGate$Sentence" "client" "I", .fieldLink RX6 18 "TermGate$Sentence" "became" "LTermGate$Row;", .methodLink RX6 28 yX4_at, .instanceMethod yX4_at, .selects RX4 yX4_at yX4_at, .initialized RX4, .code yX4_at cX4_at 2 (some .int), .fieldLink RX4 15 "TermGate$Row" "length" "I", .fieldLink RX4 9 "TermGate$Row" "values" "[I", .methodLink RX6 40 yX5_rulingOf, .instanceMethod yX5_rulingOf, .selects RX5 yX5_rulingOf yX5_rulingOf, .initialized RX5, .code yX5_rulingOf cX5_rulingOf 4 (some .int), .fieldLink RX5 15 "TermGate$Rulings" "ruled" "[I", .methodLink RX5 27 yX5_slotOf, .static yX5_slotOf, .code yX5_slotOf cX5_slotOf 3 (some .int)] ++ wsX60 ++ wsX40 ++ wsX50)
def wsX2_listDue_r1 : List Cond := [Cond.fieldLink RX2 24 "TermGate$Memory" "dueList" "LTermGate$Line;", Cond.fieldLink RX2 35 "TermGate$Memory" "count" "I", Cond.methodLink RX2 53 yX1_at, Cond.instanceMethod yX1_at, Cond.selects RX1 yX1_at yX1_at, Cond.initialized RX1, Cond.code yX1_at cX1_at 2 (some .int), Cond.fieldLink RX1 9 "TermGate$Line" "numbers" "[I", Cond.methodLink RX1 19 yX1_hasPlace, Cond.instanceMethod yX1_hasPlace, Cond.selects RX1 yX1_hasPlace yX1_hasPlace, Cond.code yX1_hasPlace cX1_hasPlace 2 (some .boolean), Cond.fieldLink RX1 15 "TermGate$Line" "count" "I", Cond.methodLink RX2 54 yX2_sentenceAt, Cond.instanceMethod yX2_sentenceAt, Cond.selects RX2 yX2_sentenceAt yX2_sentenceAt, Cond.initialized RX2, Cond.code yX2_sentenceAt cX2_sentenceAt 2 (some (.object "TermGate$Sentence")), Cond.fieldLink RX2 11 "TermGate$Memory" "sentences" "[LTermGate$Sentence;", Cond.methodLink RX2 58 yX6_firstAstray, Cond.instanceMethod yX6_firstAstray, Cond.selects RX6 yX6_firstAstray yX6_firstAstray, Cond.initialized RX6, Cond.code yX6_firstAstray cX6_firstAstray 3 (some .int)]
def wsX2_listDue_r2 : List Cond := [Cond.fieldLink RX6 12 "TermGate$Sentence" "words" "LTermGate$Row;", Cond.methodLink RX6 46 yX6_isAstrayAt, Cond.instanceMethod yX6_isAstrayAt, Cond.selects RX6 yX6_isAstrayAt yX6_isAstrayAt, Cond.code yX6_isAstrayAt cX6_isAstrayAt 4 (some .boolean), Cond.fieldLink RX6 21 "TermGate$Sentence" "client" "I", Cond.fieldLink RX6 18 "TermGate$Sentence" "became" "LTermGate$Row;", Cond.methodLink RX6 28 yX4_at, Cond.instanceMethod yX4_at, Cond.selects RX4 yX4_at yX4_at, Cond.initialized RX4, Cond.code yX4_at cX4_at 2 (some .int), Cond.fieldLink RX4 15 "TermGate$Row" "length" "I", Cond.fieldLink RX4 9 "TermGate$Row" "values" "[I", Cond.methodLink RX6 40 yX5_rulingOf, Cond.instanceMethod yX5_rulingOf, Cond.selects RX5 yX5_rulingOf yX5_rulingOf, Cond.initialized RX5, Cond.code yX5_rulingOf cX5_rulingOf 4 (some .int), Cond.fieldLink RX5 15 "TermGate$Rulings" "ruled" "[I", Cond.methodLink RX5 27 yX5_slotOf, Cond.static yX5_slotOf, Cond.code yX5_slotOf cX5_slotOf 3 (some .int), Cond.methodLink RX2 62 yX1_removeAt]
def wsX2_listDue_r3 : List Cond := [Cond.instanceMethod yX1_removeAt, Cond.selects RX1 yX1_removeAt yX1_removeAt, Cond.code yX1_removeAt cX1_removeAt 3 none, Cond.methodLink RX2 66 yX1_holds, Cond.instanceMethod yX1_holds, Cond.selects RX1 yX1_holds yX1_holds, Cond.code yX1_holds cX1_holds 3 (some .boolean), Cond.methodLink RX1 23 yX1_at, Cond.methodLink RX2 70 yX1_addLast, Cond.instanceMethod yX1_addLast, Cond.selects RX1 yX1_addLast yX1_addLast, Cond.code yX1_addLast cX1_addLast 3 none]
def wsX2_listDue : List Cond := .code yX2_listDue cX2_listDue 4 none :: ((wsX2_listDue_r1 ++ (wsX2_listDue_r2 ++ wsX2_listDue_r3)) ++ wsX20 ++ wsX10 ++ wsX60 ++ wsX40 ++ wsX50)
def wsX2_sharingWith : List Cond := .code yX2_sharingWith cX2_sharingWith 6 (some .long) :: ([.fieldLink RX2 17 "TermGate$Memory" "having" "[J", .methodLink RX2 48 yX4_at, .instanceMethod yX4_at, .selects RX4 yX4_at yX4_at, .initialized RX4, .code yX4_at cX4_at 2 (some .int), .fieldLink RX4 15 "TermGate$Row" "length" "I", .fieldLink RX4 9 "TermGate$Row" "values" "[I"] ++ wsX40 ++ wsX20)
def wsX2_bestAmong_r1 : List Cond := [Cond.fieldLink RX2 35 "TermGate$Memory" "count" "I", Cond.fieldLink RX2 24 "TermGate$Memory" "dueList" "LTermGate$Line;", Cond.fieldLink RX2 31 "TermGate$Memory" "edits" "LTermGate$Edits;", Cond.methodLink RX2 54 yX2_sentenceAt, Cond.instanceMethod yX2_sentenceAt, Cond.selects RX2 yX2_sentenceAt yX2_sentenceAt, Cond.initialized RX2, Cond.code yX2_sentenceAt cX2_sentenceAt 2 (some (.object "TermGate$Sentence")), Cond.fieldLink RX2 11 "TermGate$Memory" "sentences" "[LTermGate$Sentence;", Cond.methodLink RX2 66 yX1_holds, Cond.instanceMethod yX1_holds, Cond.selects RX1 yX1_holds yX1_holds, Cond.initialized RX1, Cond.code yX1_holds cX1_holds 3 (some .boolean), Cond.fieldLink RX1 15 "TermGate$Line" "count" "I", Cond.methodLink RX1 23 yX1_at, Cond.instanceMethod yX1_at, Cond.selects RX1 yX1_at yX1_at, Cond.code yX1_at cX1_at 2 (some .int), Cond.fieldLink RX1 9 "TermGate$Line" "numbers" "[I", Cond.methodLink RX1 19 yX1_hasPlace, Cond.instanceMethod yX1_hasPlace, Cond.selects RX1 yX1_hasPlace yX1_hasPlace, Cond.code yX1_hasPlace cX1_hasPlace 2 (some .boolean)]
def wsX2_bestAmong_r2 : List Cond := [Cond.methodLink RX2 73 yX0_likenessOf, Cond.instanceMethod yX0_likenessOf, Cond.selects RX0 yX0_likenessOf yX0_likenessOf, Cond.initialized RX0, Cond.code yX0_likenessOf cX0_likenessOf 5 (some .int), Cond.methodLink RX0 25 Lib.Math.max.name, Cond.static Lib.Math.max.name, Cond.initialized "java/lang/Math", Cond.code Lib.Math.max.name Lib.Math.max.code 2 (some .int), Cond.methodLink RX0 15 yX0_compare, Cond.instanceMethod yX0_compare, Cond.selects RX0 yX0_compare yX0_compare, Cond.code yX0_compare cX0_compare 6 none, Cond.methodLink RX0 34 yX4_at, Cond.instanceMethod yX4_at, Cond.selects RX4 yX4_at yX4_at, Cond.initialized RX4, Cond.code yX4_at cX4_at 2 (some .int), Cond.fieldLink RX4 15 "TermGate$Row" "length" "I", Cond.fieldLink RX4 9 "TermGate$Row" "values" "[I", Cond.methodLink RX0 38 yX0_least, Cond.instanceMethod yX0_least, Cond.selects RX0 yX0_least yX0_least, Cond.code yX0_least cX0_least 7 (some .int)]
def wsX2_bestAmong_r3 : List Cond := [Cond.methodLink RX0 46 Lib.Math.min.name, Cond.static Lib.Math.min.name, Cond.code Lib.Math.min.name Lib.Math.min.code 2 (some .int), Cond.methodLink RX0 31 yX0_between, Cond.instanceMethod yX0_between, Cond.selects RX0 yX0_between yX0_between, Cond.code yX0_between cX0_between 4 (some .int), Cond.fieldLink RX0 11 "TermGate$Edits" "table" "[I", Cond.methodLink RX0 42 yX0_put, Cond.instanceMethod yX0_put, Cond.selects RX0 yX0_put yX0_put, Cond.code yX0_put cX0_put 5 none]
def wsX2_bestAmong : List Cond := .code yX2_bestAmong cX2_bestAmong 14 (some .int) :: ((wsX2_bestAmong_r1 ++ (wsX2_bestAmong_r2 ++ wsX2_bestAmong_r3)) ++ wsX20 ++ wsX60 ++ wsX10 ++ wsX40 ++ wsX00)
def wsX2_shareOf_r1 : List Cond := [Cond.fieldLink RX2 31 "TermGate$Memory" "edits" "LTermGate$Edits;", Cond.methodLink RX2 54 yX2_sentenceAt, Cond.instanceMethod yX2_sentenceAt, Cond.selects RX2 yX2_sentenceAt yX2_sentenceAt, Cond.initialized RX2, Cond.code yX2_sentenceAt cX2_sentenceAt 2 (some (.object "TermGate$Sentence")), Cond.fieldLink RX2 11 "TermGate$Memory" "sentences" "[LTermGate$Sentence;", Cond.methodLink RX2 73 yX0_likenessOf, Cond.instanceMethod yX0_likenessOf, Cond.selects RX0 yX0_likenessOf yX0_likenessOf, Cond.initialized RX0, Cond.code yX0_likenessOf cX0_likenessOf 5 (some .int), Cond.methodLink RX0 25 Lib.Math.max.name, Cond.static Lib.Math.max.name, Cond.initialized "java/lang/Math", Cond.code Lib.Math.max.name Lib.Math.max.code 2 (some .int), Cond.methodLink RX0 15 yX0_compare, Cond.instanceMethod yX0_compare, Cond.selects RX0 yX0_compare yX0_compare, Cond.code yX0_compare cX0_compare 6 none, Cond.methodLink RX0 34 yX4_at, Cond.instanceMethod yX4_at, Cond.selects RX4 yX4_at yX4_at, Cond.initialized RX4]
def wsX2_shareOf_r2 : List Cond := [Cond.code yX4_at cX4_at 2 (some .int), Cond.fieldLink RX4 15 "TermGate$Row" "length" "I", Cond.fieldLink RX4 9 "TermGate$Row" "values" "[I", Cond.methodLink RX0 38 yX0_least, Cond.instanceMethod yX0_least, Cond.selects RX0 yX0_least yX0_least, Cond.code yX0_least cX0_least 7 (some .int), Cond.methodLink RX0 46 Lib.Math.min.name, Cond.static Lib.Math.min.name, Cond.code Lib.Math.min.name Lib.Math.min.code 2 (some .int), Cond.methodLink RX0 31 yX0_between, Cond.instanceMethod yX0_between, Cond.selects RX0 yX0_between yX0_between, Cond.code yX0_between cX0_between 4 (some .int), Cond.fieldLink RX0 11 "TermGate$Edits" "table" "[I", Cond.methodLink RX0 42 yX0_put, Cond.instanceMethod yX0_put, Cond.selects RX0 yX0_put yX0_put, Cond.code yX0_put cX0_put 5 none]
def wsX2_shareOf : List Cond := .code yX2_shareOf cX2_shareOf 5 (some .int) :: ((wsX2_shareOf_r1 ++ wsX2_shareOf_r2) ++ wsX20 ++ wsX60 ++ wsX40 ++ wsX00)
def wsX4_has : List Cond := .code yX4_has cX4_has 2 (some .boolean) :: ([.fieldLink RX4 15 "TermGate$Row" "length" "I", .fieldLink RX4 9 "TermGate$Row" "values" "[I"] ++ wsX40)
def wsX4_put : List Cond := .code yX4_put cX4_put 3 none :: ([.fieldLink RX4 9 "TermGate$Row" "values" "[I", .methodLink RX4 19 yX4_has, .instanceMethod yX4_has, .selects RX4 yX4_has yX4_has, .initialized RX4, .code yX4_has cX4_has 2 (some .boolean), .fieldLink RX4 15 "TermGate$Row" "length" "I"] ++ wsX40)
def wsX2_lendTo_r1 : List Cond := [Cond.fieldLink RX2 31 "TermGate$Memory" "edits" "LTermGate$Edits;", Cond.methodLink RX2 54 yX2_sentenceAt, Cond.instanceMethod yX2_sentenceAt, Cond.selects RX2 yX2_sentenceAt yX2_sentenceAt, Cond.initialized RX2, Cond.code yX2_sentenceAt cX2_sentenceAt 2 (some (.object "TermGate$Sentence")), Cond.fieldLink RX2 11 "TermGate$Memory" "sentences" "[LTermGate$Sentence;", Cond.methodLink RX2 80 yX0_compare, Cond.instanceMethod yX0_compare, Cond.selects RX0 yX0_compare yX0_compare, Cond.initialized RX0, Cond.code yX0_compare cX0_compare 6 none, Cond.methodLink RX0 34 yX4_at, Cond.instanceMethod yX4_at, Cond.selects RX4 yX4_at yX4_at, Cond.initialized RX4, Cond.code yX4_at cX4_at 2 (some .int), Cond.fieldLink RX4 15 "TermGate$Row" "length" "I", Cond.fieldLink RX4 9 "TermGate$Row" "values" "[I", Cond.methodLink RX0 38 yX0_least, Cond.instanceMethod yX0_least, Cond.selects RX0 yX0_least yX0_least, Cond.code yX0_least cX0_least 7 (some .int), Cond.methodLink RX0 46 Lib.Math.min.name]
def wsX2_lendTo_r2 : List Cond := [Cond.static Lib.Math.min.name, Cond.initialized "java/lang/Math", Cond.code Lib.Math.min.name Lib.Math.min.code 2 (some .int), Cond.methodLink RX0 31 yX0_between, Cond.instanceMethod yX0_between, Cond.selects RX0 yX0_between yX0_between, Cond.code yX0_between cX0_between 4 (some .int), Cond.fieldLink RX0 11 "TermGate$Edits" "table" "[I", Cond.methodLink RX0 42 yX0_put, Cond.instanceMethod yX0_put, Cond.selects RX0 yX0_put yX0_put, Cond.code yX0_put cX0_put 5 none, Cond.methodLink RX2 48 yX4_at, Cond.methodLink RX2 87 yX4_put, Cond.instanceMethod yX4_put, Cond.selects RX4 yX4_put yX4_put, Cond.code yX4_put cX4_put 3 none, Cond.methodLink RX4 19 yX4_has, Cond.instanceMethod yX4_has, Cond.selects RX4 yX4_has yX4_has, Cond.code yX4_has cX4_has 2 (some .boolean), Cond.methodLink RX2 91 yX0_skipBehind, Cond.instanceMethod yX0_skipBehind, Cond.selects RX0 yX0_skipBehind yX0_skipBehind]
def wsX2_lendTo_r3 : List Cond := [Cond.code yX0_skipBehind cX0_skipBehind 6 (some .int)]
def wsX2_lendTo : List Cond := .code yX2_lendTo cX2_lendTo 8 none :: ((wsX2_lendTo_r1 ++ (wsX2_lendTo_r2 ++ wsX2_lendTo_r3)) ++ wsX20 ++ wsX60 ++ wsX40 ++ wsX00)
def wsX3_init : List Cond := .code yX3_init cX3_init 4 none :: ([.methodLink RX3 3 objectInit, .instanceMethod objectInit, .code objectInit ⟨#[0xb1]⟩ 1 none, .fieldLink RX3 9 "TermGate$Order" "standing" "I", .fieldLink RX3 15 "TermGate$Order" "match" "I", .fieldLink RX3 18 "TermGate$Order" "cost" "I", .fieldLink RX3 21 "TermGate$Order" "pay" "I", .fieldLink RX3 24 "TermGate$Order" "number" "I", .fieldLink RX3 27 "TermGate$Order" "isRush" "Z", .fieldLink RX3 31 "TermGate$Order" "sentence" "LTermGate$Sentence;"] ++ wsX30)
def wsX6_firstOpen : List Cond := .code yX6_firstOpen cX6_firstOpen 2 (some .int) :: ([.fieldLink RX6 18 "TermGate$Sentence" "became" "LTermGate$Row;", .methodLink RX6 28 yX4_at, .instanceMethod yX4_at, .selects RX4 yX4_at yX4_at, .initialized RX4, .code yX4_at cX4_at 2 (some .int), .fieldLink RX4 15 "TermGate$Row" "length" "I", .fieldLink RX4 9 "TermGate$Row" "values" "[I"] ++ wsX60 ++ wsX40)
def wsX3_firstBroken_r1 : List Cond := [Cond.fieldLink RX3 27 "TermGate$Order" "isRush" "Z", Cond.fieldLink RX3 31 "TermGate$Order" "sentence" "LTermGate$Sentence;", Cond.methodLink RX3 45 yX6_firstAstray, Cond.instanceMethod yX6_firstAstray, Cond.selects RX6 yX6_firstAstray yX6_firstAstray, Cond.initialized RX6, Cond.code yX6_firstAstray cX6_firstAstray 3 (some .int), Cond.fieldLink RX6 12 "TermGate$Sentence" "words" "LTermGate$Row;", Cond.methodLink RX6 46 yX6_isAstrayAt, Cond.instanceMethod yX6_isAstrayAt, Cond.selects RX6 yX6_isAstrayAt yX6_isAstrayAt, Cond.code yX6_isAstrayAt cX6_isAstrayAt 4 (some .boolean), Cond.fieldLink RX6 21 "TermGate$Sentence" "client" "I", Cond.fieldLink RX6 18 "TermGate$Sentence" "became" "LTermGate$Row;", Cond.methodLink RX6 28 yX4_at, Cond.instanceMethod yX4_at, Cond.selects RX4 yX4_at yX4_at, Cond.initialized RX4, Cond.code yX4_at cX4_at 2 (some .int), Cond.fieldLink RX4 15 "TermGate$Row" "length" "I", Cond.fieldLink RX4 9 "TermGate$Row" "values" "[I", Cond.methodLink RX6 40 yX5_rulingOf, Cond.instanceMethod yX5_rulingOf, Cond.selects RX5 yX5_rulingOf yX5_rulingOf]
def wsX3_firstBroken_r2 : List Cond := [Cond.initialized RX5, Cond.code yX5_rulingOf cX5_rulingOf 4 (some .int), Cond.fieldLink RX5 15 "TermGate$Rulings" "ruled" "[I", Cond.methodLink RX5 27 yX5_slotOf, Cond.static yX5_slotOf, Cond.code yX5_slotOf cX5_slotOf 3 (some .int)]
def wsX3_firstBroken : List Cond := .code yX3_firstBroken cX3_firstBroken 2 (some .int) :: ((wsX3_firstBroken_r1 ++ wsX3_firstBroken_r2) ++ wsX30 ++ wsX60 ++ wsX40 ++ wsX50)
def wsX3_whyNot_r1 : List Cond := [Cond.fieldLink RX3 31 "TermGate$Order" "sentence" "LTermGate$Sentence;", Cond.methodLink RX3 35 yX6_firstOpen, Cond.instanceMethod yX6_firstOpen, Cond.selects RX6 yX6_firstOpen yX6_firstOpen, Cond.initialized RX6, Cond.code yX6_firstOpen cX6_firstOpen 2 (some .int), Cond.fieldLink RX6 18 "TermGate$Sentence" "became" "LTermGate$Row;", Cond.methodLink RX6 28 yX4_at, Cond.instanceMethod yX4_at, Cond.selects RX4 yX4_at yX4_at, Cond.initialized RX4, Cond.code yX4_at cX4_at 2 (some .int), Cond.fieldLink RX4 15 "TermGate$Row" "length" "I", Cond.fieldLink RX4 9 "TermGate$Row" "values" "[I", Cond.methodLink RX3 41 yX3_firstBroken, Cond.instanceMethod yX3_firstBroken, Cond.selects RX3 yX3_firstBroken yX3_firstBroken, Cond.initialized RX3, Cond.code yX3_firstBroken cX3_firstBroken 2 (some .int), Cond.fieldLink RX3 27 "TermGate$Order" "isRush" "Z", Cond.methodLink RX3 45 yX6_firstAstray, Cond.instanceMethod yX6_firstAstray, Cond.selects RX6 yX6_firstAstray yX6_firstAstray, Cond.code yX6_firstAstray cX6_firstAstray 3 (some .int)]
def wsX3_whyNot_r2 : List Cond := [Cond.fieldLink RX6 12 "TermGate$Sentence" "words" "LTermGate$Row;", Cond.methodLink RX6 46 yX6_isAstrayAt, Cond.instanceMethod yX6_isAstrayAt, Cond.selects RX6 yX6_isAstrayAt yX6_isAstrayAt, Cond.code yX6_isAstrayAt cX6_isAstrayAt 4 (some .boolean), Cond.fieldLink RX6 21 "TermGate$Sentence" "client" "I", Cond.methodLink RX6 40 yX5_rulingOf, Cond.instanceMethod yX5_rulingOf, Cond.selects RX5 yX5_rulingOf yX5_rulingOf, Cond.initialized RX5, Cond.code yX5_rulingOf cX5_rulingOf 4 (some .int), Cond.fieldLink RX5 15 "TermGate$Rulings" "ruled" "[I", Cond.methodLink RX5 27 yX5_slotOf, Cond.static yX5_slotOf, Cond.code yX5_slotOf cX5_slotOf 3 (some .int)]
def wsX3_whyNot : List Cond := .code yX3_whyNot cX3_whyNot 2 (some .int) :: ((wsX3_whyNot_r1 ++ wsX3_whyNot_r2) ++ wsX30 ++ wsX60 ++ wsX40 ++ wsX50)
def wsX3_whereNot_r1 : List Cond := [Cond.fieldLink RX3 31 "TermGate$Order" "sentence" "LTermGate$Sentence;", Cond.methodLink RX3 35 yX6_firstOpen, Cond.instanceMethod yX6_firstOpen, Cond.selects RX6 yX6_firstOpen yX6_firstOpen, Cond.initialized RX6, Cond.code yX6_firstOpen cX6_firstOpen 2 (some .int), Cond.fieldLink RX6 18 "TermGate$Sentence" "became" "LTermGate$Row;", Cond.methodLink RX6 28 yX4_at, Cond.instanceMethod yX4_at, Cond.selects RX4 yX4_at yX4_at, Cond.initialized RX4, Cond.code yX4_at cX4_at 2 (some .int), Cond.fieldLink RX4 15 "TermGate$Row" "length" "I", Cond.fieldLink RX4 9 "TermGate$Row" "values" "[I", Cond.methodLink RX3 41 yX3_firstBroken, Cond.instanceMethod yX3_firstBroken, Cond.selects RX3 yX3_firstBroken yX3_firstBroken, Cond.initialized RX3, Cond.code yX3_firstBroken cX3_firstBroken 2 (some .int), Cond.fieldLink RX3 27 "TermGate$Order" "isRush" "Z", Cond.methodLink RX3 45 yX6_firstAstray, Cond.instanceMethod yX6_firstAstray, Cond.selects RX6 yX6_firstAstray yX6_firstAstray, Cond.code yX6_firstAstray cX6_firstAstray 3 (some .int)]
def wsX3_whereNot_r2 : List Cond := [Cond.fieldLink RX6 12 "TermGate$Sentence" "words" "LTermGate$Row;", Cond.methodLink RX6 46 yX6_isAstrayAt, Cond.instanceMethod yX6_isAstrayAt, Cond.selects RX6 yX6_isAstrayAt yX6_isAstrayAt, Cond.code yX6_isAstrayAt cX6_isAstrayAt 4 (some .boolean), Cond.fieldLink RX6 21 "TermGate$Sentence" "client" "I", Cond.methodLink RX6 40 yX5_rulingOf, Cond.instanceMethod yX5_rulingOf, Cond.selects RX5 yX5_rulingOf yX5_rulingOf, Cond.initialized RX5, Cond.code yX5_rulingOf cX5_rulingOf 4 (some .int), Cond.fieldLink RX5 15 "TermGate$Rulings" "ruled" "[I", Cond.methodLink RX5 27 yX5_slotOf, Cond.static yX5_slotOf, Cond.code yX5_slotOf cX5_slotOf 3 (some .int)]
def wsX3_whereNot : List Cond := .code yX3_whereNot cX3_whereNot 3 (some .int) :: ((wsX3_whereNot_r1 ++ wsX3_whereNot_r2) ++ wsX30 ++ wsX60 ++ wsX40 ++ wsX50)
def wsX4_init : List Cond := .code yX4_init cX4_init 1 none :: ([.methodLink RX4 3 objectInit, .instanceMethod objectInit, .code objectInit ⟨#[0xb1]⟩ 1 none, .arrayClass .int, .fieldLink RX4 9 "TermGate$Row" "values" "[I", .fieldLink RX4 15 "TermGate$Row" "length" "I"] ++ wsX40)
def wsX4_append : List Cond := .code yX4_append cX4_append 3 none :: ([.fieldLink RX4 15 "TermGate$Row" "length" "I", .fieldLink RX4 9 "TermGate$Row" "values" "[I"] ++ wsX40)
def wsJ7_fill_53178 : List Cond := .code yJ7_fill_53178 cJ7_fill_53178 4 none :: ([])
def wsX5_init : List Cond := .code yX5_init cX5_init 1 none :: ([.methodLink RX5 3 objectInit, .instanceMethod objectInit, .code objectInit ⟨#[0xb1]⟩ 1 none, .arrayClass .int, .fieldLink RX5 9 "TermGate$Rulings" "said" "[I", .fieldLink RX5 15 "TermGate$Rulings" "ruled" "[I", .fieldLink RX5 18 "TermGate$Rulings" "soldThen" "[I", .methodLink RX5 21 yJ7_fill_53178, .static yJ7_fill_53178, .initialized RJ7, .code yJ7_fill_53178 cJ7_fill_53178 4 none] ++ wsX50)
def wsX5_soldAtChange : List Cond := .code yX5_soldAtChange cX5_soldAtChange 4 (some .int) :: ([.fieldLink RX5 18 "TermGate$Rulings" "soldThen" "[I", .methodLink RX5 27 yX5_slotOf, .static yX5_slotOf, .initialized RX5, .code yX5_slotOf cX5_slotOf 3 (some .int)] ++ wsX50)
def wsX5_saidBy : List Cond := .code yX5_saidBy cX5_saidBy 4 (some .int) :: ([.fieldLink RX5 9 "TermGate$Rulings" "said" "[I"] ++ wsX50)
def wsX5_agreedOn : List Cond := .code yX5_agreedOn cX5_agreedOn 5 (some .int) :: ([.methodLink RX5 35 yX5_saidBy, .instanceMethod yX5_saidBy, .selects RX5 yX5_saidBy yX5_saidBy, .initialized RX5, .code yX5_saidBy cX5_saidBy 4 (some .int), .fieldLink RX5 9 "TermGate$Rulings" "said" "[I"] ++ wsX50)
def wsX5_hear : List Cond := .code yX5_hear cX5_hear 7 none :: ([.fieldLink RX5 15 "TermGate$Rulings" "ruled" "[I", .fieldLink RX5 18 "TermGate$Rulings" "soldThen" "[I", .fieldLink RX5 9 "TermGate$Rulings" "said" "[I", .methodLink RX5 31 yX5_agreedOn, .instanceMethod yX5_agreedOn, .selects RX5 yX5_agreedOn yX5_agreedOn, .initialized RX5, .code yX5_agreedOn cX5_agreedOn 5 (some .int), .methodLink RX5 35 yX5_saidBy, .instanceMethod yX5_saidBy, .selects RX5 yX5_saidBy yX5_saidBy, .code yX5_saidBy cX5_saidBy 4 (some .int)] ++ wsX50)
def wsX6_init : List Cond := .code yX6_init cX6_init 4 none :: ([.methodLink RX6 3 objectInit, .instanceMethod objectInit, .code objectInit ⟨#[0xb1]⟩ 1 none, .classLink RX6 9 RX4, .instantiable RX4 2, .initialized RX4, .fieldLink RX6 12 "TermGate$Sentence" "words" "LTermGate$Row;", .fieldLink RX6 18 "TermGate$Sentence" "became" "LTermGate$Row;", .fieldLink RX6 21 "TermGate$Sentence" "client" "I", .instanceMethod yX4_init, .code yX4_init cX4_init 1 none, .methodLink RX4 3 objectInit, .arrayClass .int, .fieldLink RX4 9 "TermGate$Row" "values" "[I", .fieldLink RX4 15 "TermGate$Row" "length" "I", .methodLink RX6 28 yX4_at, .instanceMethod yX4_at, .selects RX4 yX4_at yX4_at, .code yX4_at cX4_at 2 (some .int), .methodLink RX6 32 yX4_append, .instanceMethod yX4_append, .selects RX4 yX4_append yX4_append, .code yX4_append cX4_append 3 none] ++ wsX40 ++ wsX60)
def wsX6_forgetAll : List Cond := .code yX6_forgetAll cX6_forgetAll 2 none :: ([.fieldLink RX6 18 "TermGate$Sentence" "became" "LTermGate$Row;", .methodLink RX6 36 yX4_put, .instanceMethod yX4_put, .selects RX4 yX4_put yX4_put, .initialized RX4, .code yX4_put cX4_put 3 none, .fieldLink RX4 9 "TermGate$Row" "values" "[I", .methodLink RX4 19 yX4_has, .instanceMethod yX4_has, .selects RX4 yX4_has yX4_has, .code yX4_has cX4_has 2 (some .boolean), .fieldLink RX4 15 "TermGate$Row" "length" "I"] ++ wsX60 ++ wsX40)
def wsX6_countOpen : List Cond := .code yX6_countOpen cX6_countOpen 3 (some .int) :: ([.fieldLink RX6 18 "TermGate$Sentence" "became" "LTermGate$Row;", .methodLink RX6 28 yX4_at, .instanceMethod yX4_at, .selects RX4 yX4_at yX4_at, .initialized RX4, .code yX4_at cX4_at 2 (some .int), .fieldLink RX4 15 "TermGate$Row" "length" "I", .fieldLink RX4 9 "TermGate$Row" "values" "[I"] ++ wsX60 ++ wsX40)
def wsX7_init_r1 : List Cond := [Cond.methodLink RX7 1 objectInit, Cond.instanceMethod objectInit, Cond.code objectInit ⟨#[0xb1]⟩ 1 none, Cond.classLink RX7 7 RX4, Cond.instantiable RX4 2, Cond.initialized RX4, Cond.fieldLink RX7 10 "TermGate" "draft" "LTermGate$Row;", Cond.classLink RX7 16 RX5, Cond.instantiable RX5 3, Cond.initialized RX5, Cond.fieldLink RX7 19 "TermGate" "rulings" "LTermGate$Rulings;", Cond.classLink RX7 23 RX2, Cond.instantiable RX2 5, Cond.initialized RX2, Cond.fieldLink RX7 26 "TermGate" "memory" "LTermGate$Memory;", Cond.classLink RX7 30 RX3, Cond.fieldLink RX7 32 "TermGate" "orders" "[LTermGate$Order;", Cond.fieldLink RX7 36 "TermGate" "inHand" "[LTermGate$Order;", Cond.classLink RX7 39 RX1, Cond.instantiable RX1 2, Cond.initialized RX1, Cond.fieldLink RX7 42 "TermGate" "rushDesk" "LTermGate$Line;", Cond.fieldLink RX7 46 "TermGate" "otherDesk" "LTermGate$Line;", Cond.arrayClass .int]
def wsX7_init_r2 : List Cond := [Cond.fieldLink RX7 49 "TermGate" "paidByClient" "[I", Cond.fieldLink RX7 53 "TermGate" "earnedByTranslator" "[I", Cond.fieldLink RX7 56 "TermGate" "orderCount" "I", Cond.fieldLink RX7 60 "TermGate" "leastLikeness" "I", Cond.fieldLink RX7 63 "TermGate" "pricePerWord" "I", Cond.fieldLink RX7 66 "TermGate" "ratePerWord" "I", Cond.instanceMethod yX4_init, Cond.code yX4_init cX4_init 1 none, Cond.methodLink RX4 3 objectInit, Cond.fieldLink RX4 9 "TermGate$Row" "values" "[I", Cond.fieldLink RX4 15 "TermGate$Row" "length" "I", Cond.methodLink RX7 18 yX5_init, Cond.instanceMethod yX5_init, Cond.code yX5_init cX5_init 1 none, Cond.methodLink RX5 3 objectInit, Cond.fieldLink RX5 9 "TermGate$Rulings" "said" "[I", Cond.fieldLink RX5 15 "TermGate$Rulings" "ruled" "[I", Cond.fieldLink RX5 18 "TermGate$Rulings" "soldThen" "[I", Cond.methodLink RX5 21 yJ7_fill_53178, Cond.static yJ7_fill_53178, Cond.initialized RJ7, Cond.code yJ7_fill_53178 cJ7_fill_53178 4 none, Cond.instanceMethod yX2_init, Cond.code yX2_init cX2_init 1 none]
def wsX7_init_r3 : List Cond := [Cond.methodLink RX2 3 objectInit, Cond.classLink RX2 9 RX6, Cond.fieldLink RX2 11 "TermGate$Memory" "sentences" "[LTermGate$Sentence;", Cond.arrayClass .long, Cond.fieldLink RX2 17 "TermGate$Memory" "having" "[J", Cond.classLink RX2 21 RX1, Cond.fieldLink RX2 24 "TermGate$Memory" "dueList" "LTermGate$Line;", Cond.classLink RX2 28 RX0, Cond.instantiable RX0 1, Cond.initialized RX0, Cond.fieldLink RX2 31 "TermGate$Memory" "edits" "LTermGate$Edits;", Cond.fieldLink RX2 35 "TermGate$Memory" "count" "I", Cond.instanceMethod yX1_init, Cond.code yX1_init cX1_init 1 none, Cond.methodLink RX1 3 objectInit, Cond.fieldLink RX1 9 "TermGate$Line" "numbers" "[I", Cond.fieldLink RX1 15 "TermGate$Line" "count" "I", Cond.instanceMethod yX0_init, Cond.code yX0_init cX0_init 1 none, Cond.methodLink RX0 3 objectInit, Cond.fieldLink RX0 11 "TermGate$Edits" "table" "[I"]
def wsX7_init : List Cond := .code yX7_init cX7_init 1 none :: ((wsX7_init_r1 ++ (wsX7_init_r2 ++ wsX7_init_r3)) ++ wsX40 ++ wsX70 ++ wsX50 ++ wsX20 ++ wsX10 ++ wsX00)
def wsX7_word : List Cond := .code yX7_word cX7_word 2 (some .int) :: ([.classLink RX7 69 "java/lang/IllegalArgumentException", .initialized "java/lang/IllegalArgumentException", .classLink RX7 75 "java/lang/IllegalStateException", .initialized "java/lang/IllegalStateException", .fieldLink RX7 10 "TermGate" "draft" "LTermGate$Row;", .methodLink RX7 78 yX4_append, .instanceMethod yX4_append, .selects RX4 yX4_append yX4_append, .initialized RX4, .code yX4_append cX4_append 3 none, .fieldLink RX4 15 "TermGate$Row" "length" "I", .fieldLink RX4 9 "TermGate$Row" "values" "[I"] ++ wsX70 ++ wsX40 ++ (vx_at0 RX7 71 "java/lang/IllegalArgumentException" ["java/lang/RuntimeException", "java/lang/Exception"]).filter goodWord ++ (vx_at0 RX7 77 "java/lang/IllegalStateException" ["java/lang/RuntimeException", "java/lang/Exception"]).filter goodWord)
def wsX7_clear : List Cond := .code yX7_clear cX7_clear 2 (some .int) :: ([.fieldLink RX7 10 "TermGate" "draft" "LTermGate$Row;"] ++ wsX70 ++ wsX40)
def wsX7_soldSentence : List Cond := .code yX7_soldSentence cX7_soldSentence 3 (some (.object "TermGate$Sentence")) :: ([.classLink RX7 237 "java/lang/IndexOutOfBoundsException", .initialized "java/lang/IndexOutOfBoundsException", .fieldLink RX7 26 "TermGate" "memory" "LTermGate$Memory;", .methodLink RX7 279 yX2_sentenceAt, .instanceMethod yX2_sentenceAt, .selects RX2 yX2_sentenceAt yX2_sentenceAt, .initialized RX2, .code yX2_sentenceAt cX2_sentenceAt 2 (some (.object "TermGate$Sentence")), .fieldLink RX2 11 "TermGate$Memory" "sentences" "[LTermGate$Sentence;"] ++ wsX70 ++ wsX20 ++ (vx_at0 RX7 239 "java/lang/IndexOutOfBoundsException" ["java/lang/RuntimeException", "java/lang/Exception"]).filter goodWord)
def wsX7_refuseEmptyDraft : List Cond := .code yX7_refuseEmptyDraft cX7_refuseEmptyDraft 1 none :: ([.classLink RX7 75 "java/lang/IllegalStateException", .initialized "java/lang/IllegalStateException", .fieldLink RX7 10 "TermGate" "draft" "LTermGate$Row;"] ++ wsX70 ++ wsX40 ++ (vx_at0 RX7 77 "java/lang/IllegalStateException" ["java/lang/RuntimeException", "java/lang/Exception"]).filter goodWord)
def wsX7_likeness_r1 : List Cond := [Cond.fieldLink RX7 26 "TermGate" "memory" "LTermGate$Memory;", Cond.fieldLink RX7 10 "TermGate" "draft" "LTermGate$Row;", Cond.methodLink RX7 82 yX7_soldSentence, Cond.instanceMethod yX7_soldSentence, Cond.selects RX7 yX7_soldSentence yX7_soldSentence, Cond.initialized RX7, Cond.code yX7_soldSentence cX7_soldSentence 3 (some (.object "TermGate$Sentence")), Cond.classLink RX7 237 "java/lang/IndexOutOfBoundsException", Cond.initialized "java/lang/IndexOutOfBoundsException", Cond.methodLink RX7 279 yX2_sentenceAt, Cond.instanceMethod yX2_sentenceAt, Cond.selects RX2 yX2_sentenceAt yX2_sentenceAt, Cond.initialized RX2, Cond.code yX2_sentenceAt cX2_sentenceAt 2 (some (.object "TermGate$Sentence")), Cond.fieldLink RX2 11 "TermGate$Memory" "sentences" "[LTermGate$Sentence;", Cond.methodLink RX7 86 yX7_refuseEmptyDraft, Cond.instanceMethod yX7_refuseEmptyDraft, Cond.selects RX7 yX7_refuseEmptyDraft yX7_refuseEmptyDraft, Cond.code yX7_refuseEmptyDraft cX7_refuseEmptyDraft 1 none, Cond.classLink RX7 75 "java/lang/IllegalStateException", Cond.initialized "java/lang/IllegalStateException", Cond.methodLink RX7 98 yX0_likenessOf, Cond.instanceMethod yX0_likenessOf, Cond.selects RX0 yX0_likenessOf yX0_likenessOf]
def wsX7_likeness_r2 : List Cond := [Cond.initialized RX0, Cond.code yX0_likenessOf cX0_likenessOf 5 (some .int), Cond.methodLink RX0 25 Lib.Math.max.name, Cond.static Lib.Math.max.name, Cond.initialized "java/lang/Math", Cond.code Lib.Math.max.name Lib.Math.max.code 2 (some .int), Cond.methodLink RX0 15 yX0_compare, Cond.instanceMethod yX0_compare, Cond.selects RX0 yX0_compare yX0_compare, Cond.code yX0_compare cX0_compare 6 none, Cond.methodLink RX0 34 yX4_at, Cond.instanceMethod yX4_at, Cond.selects RX4 yX4_at yX4_at, Cond.initialized RX4, Cond.code yX4_at cX4_at 2 (some .int), Cond.fieldLink RX4 15 "TermGate$Row" "length" "I", Cond.fieldLink RX4 9 "TermGate$Row" "values" "[I", Cond.methodLink RX0 38 yX0_least, Cond.instanceMethod yX0_least, Cond.selects RX0 yX0_least yX0_least, Cond.code yX0_least cX0_least 7 (some .int), Cond.methodLink RX0 46 Lib.Math.min.name, Cond.static Lib.Math.min.name, Cond.code Lib.Math.min.name Lib.Math.min.code 2 (some .int)]
def wsX7_likeness_r3 : List Cond := [Cond.methodLink RX0 31 yX0_between, Cond.instanceMethod yX0_between, Cond.selects RX0 yX0_between yX0_between, Cond.code yX0_between cX0_between 4 (some .int), Cond.fieldLink RX0 11 "TermGate$Edits" "table" "[I", Cond.methodLink RX0 42 yX0_put, Cond.instanceMethod yX0_put, Cond.selects RX0 yX0_put yX0_put, Cond.code yX0_put cX0_put 5 none]
def wsX7_likeness : List Cond := .code yX7_likeness cX7_likeness 3 (some .int) :: ((wsX7_likeness_r1 ++ (wsX7_likeness_r2 ++ wsX7_likeness_r3)) ++ wsX70 ++ wsX20 ++ wsX60 ++ wsX40 ++ wsX00 ++ (vx_at0 RX7 239 "java/lang/IndexOutOfBoundsException" ["java/lang/RuntimeException", "java/lang/Exception"]).filter goodWord ++ (vx_at0 RX7 77 "java/lang/IllegalStateException" ["java/lang/RuntimeException", "java/lang/Exception"]).filter goodWord)
def wsX7_refuseUnlessClient : List Cond := .code yX7_refuseUnlessClient cX7_refuseUnlessClient 1 none :: ([.classLink RX7 69 "java/lang/IllegalArgumentException", .initialized "java/lang/IllegalArgumentException"] ++ (vx_at0 RX7 71 "java/lang/IllegalArgumentException" ["java/lang/RuntimeException", "java/lang/Exception"]).filter goodWord)
def wsX7_bestFor_r1 : List Cond := [Cond.fieldLink RX7 26 "TermGate" "memory" "LTermGate$Memory;", Cond.fieldLink RX7 60 "TermGate" "leastLikeness" "I", Cond.methodLink RX7 285 yX2_sharingWith, Cond.instanceMethod yX2_sharingWith, Cond.selects RX2 yX2_sharingWith yX2_sharingWith, Cond.initialized RX2, Cond.code yX2_sharingWith cX2_sharingWith 6 (some .long), Cond.fieldLink RX2 17 "TermGate$Memory" "having" "[J", Cond.methodLink RX2 48 yX4_at, Cond.instanceMethod yX4_at, Cond.selects RX4 yX4_at yX4_at, Cond.initialized RX4, Cond.code yX4_at cX4_at 2 (some .int), Cond.fieldLink RX4 15 "TermGate$Row" "length" "I", Cond.fieldLink RX4 9 "TermGate$Row" "values" "[I", Cond.methodLink RX7 113 yX2_bestAmong, Cond.instanceMethod yX2_bestAmong, Cond.selects RX2 yX2_bestAmong yX2_bestAmong, Cond.code yX2_bestAmong cX2_bestAmong 14 (some .int), Cond.fieldLink RX2 35 "TermGate$Memory" "count" "I", Cond.fieldLink RX2 24 "TermGate$Memory" "dueList" "LTermGate$Line;", Cond.fieldLink RX2 31 "TermGate$Memory" "edits" "LTermGate$Edits;", Cond.methodLink RX2 54 yX2_sentenceAt, Cond.instanceMethod yX2_sentenceAt]
def wsX7_bestFor_r2 : List Cond := [Cond.selects RX2 yX2_sentenceAt yX2_sentenceAt, Cond.code yX2_sentenceAt cX2_sentenceAt 2 (some (.object "TermGate$Sentence")), Cond.fieldLink RX2 11 "TermGate$Memory" "sentences" "[LTermGate$Sentence;", Cond.methodLink RX2 66 yX1_holds, Cond.instanceMethod yX1_holds, Cond.selects RX1 yX1_holds yX1_holds, Cond.initialized RX1, Cond.code yX1_holds cX1_holds 3 (some .boolean), Cond.fieldLink RX1 15 "TermGate$Line" "count" "I", Cond.methodLink RX1 23 yX1_at, Cond.instanceMethod yX1_at, Cond.selects RX1 yX1_at yX1_at, Cond.code yX1_at cX1_at 2 (some .int), Cond.fieldLink RX1 9 "TermGate$Line" "numbers" "[I", Cond.methodLink RX1 19 yX1_hasPlace, Cond.instanceMethod yX1_hasPlace, Cond.selects RX1 yX1_hasPlace yX1_hasPlace, Cond.code yX1_hasPlace cX1_hasPlace 2 (some .boolean), Cond.methodLink RX2 73 yX0_likenessOf, Cond.instanceMethod yX0_likenessOf, Cond.selects RX0 yX0_likenessOf yX0_likenessOf, Cond.initialized RX0, Cond.code yX0_likenessOf cX0_likenessOf 5 (some .int), Cond.methodLink RX0 25 Lib.Math.max.name]
def wsX7_bestFor_r3 : List Cond := [Cond.static Lib.Math.max.name, Cond.initialized "java/lang/Math", Cond.code Lib.Math.max.name Lib.Math.max.code 2 (some .int), Cond.methodLink RX0 15 yX0_compare, Cond.instanceMethod yX0_compare, Cond.selects RX0 yX0_compare yX0_compare, Cond.code yX0_compare cX0_compare 6 none, Cond.methodLink RX0 34 yX4_at, Cond.methodLink RX0 38 yX0_least, Cond.instanceMethod yX0_least, Cond.selects RX0 yX0_least yX0_least, Cond.code yX0_least cX0_least 7 (some .int), Cond.methodLink RX0 46 Lib.Math.min.name, Cond.static Lib.Math.min.name, Cond.code Lib.Math.min.name Lib.Math.min.code 2 (some .int), Cond.methodLink RX0 31 yX0_between, Cond.instanceMethod yX0_between, Cond.selects RX0 yX0_between yX0_between, Cond.code yX0_between cX0_between 4 (some .int), Cond.fieldLink RX0 11 "TermGate$Edits" "table" "[I", Cond.methodLink RX0 42 yX0_put, Cond.instanceMethod yX0_put, Cond.selects RX0 yX0_put yX0_put, Cond.code yX0_put cX0_put 5 none]
def wsX7_bestFor : List Cond := .code yX7_bestFor cX7_bestFor 3 (some .int) :: ((wsX7_bestFor_r1 ++ (wsX7_bestFor_r2 ++ wsX7_bestFor_r3)) ++ wsX70 ++ wsX40 ++ wsX20 ++ wsX60 ++ wsX10 ++ wsX00)
def wsX7_best_r1 : List Cond := [Cond.fieldLink RX7 10 "TermGate" "draft" "LTermGate$Row;", Cond.methodLink RX7 104 yX7_refuseUnlessClient, Cond.static yX7_refuseUnlessClient, Cond.initialized RX7, Cond.code yX7_refuseUnlessClient cX7_refuseUnlessClient 1 none, Cond.classLink RX7 69 "java/lang/IllegalArgumentException", Cond.initialized "java/lang/IllegalArgumentException", Cond.methodLink RX7 86 yX7_refuseEmptyDraft, Cond.instanceMethod yX7_refuseEmptyDraft, Cond.selects RX7 yX7_refuseEmptyDraft yX7_refuseEmptyDraft, Cond.code yX7_refuseEmptyDraft cX7_refuseEmptyDraft 1 none, Cond.classLink RX7 75 "java/lang/IllegalStateException", Cond.initialized "java/lang/IllegalStateException", Cond.methodLink RX7 107 yX7_bestFor, Cond.instanceMethod yX7_bestFor, Cond.selects RX7 yX7_bestFor yX7_bestFor, Cond.code yX7_bestFor cX7_bestFor 3 (some .int), Cond.fieldLink RX7 26 "TermGate" "memory" "LTermGate$Memory;", Cond.fieldLink RX7 60 "TermGate" "leastLikeness" "I", Cond.methodLink RX7 285 yX2_sharingWith, Cond.instanceMethod yX2_sharingWith, Cond.selects RX2 yX2_sharingWith yX2_sharingWith, Cond.initialized RX2, Cond.code yX2_sharingWith cX2_sharingWith 6 (some .long)]
def wsX7_best_r2 : List Cond := [Cond.fieldLink RX2 17 "TermGate$Memory" "having" "[J", Cond.methodLink RX2 48 yX4_at, Cond.instanceMethod yX4_at, Cond.selects RX4 yX4_at yX4_at, Cond.initialized RX4, Cond.code yX4_at cX4_at 2 (some .int), Cond.fieldLink RX4 15 "TermGate$Row" "length" "I", Cond.fieldLink RX4 9 "TermGate$Row" "values" "[I", Cond.methodLink RX7 113 yX2_bestAmong, Cond.instanceMethod yX2_bestAmong, Cond.selects RX2 yX2_bestAmong yX2_bestAmong, Cond.code yX2_bestAmong cX2_bestAmong 14 (some .int), Cond.fieldLink RX2 35 "TermGate$Memory" "count" "I", Cond.fieldLink RX2 24 "TermGate$Memory" "dueList" "LTermGate$Line;", Cond.fieldLink RX2 31 "TermGate$Memory" "edits" "LTermGate$Edits;", Cond.methodLink RX2 54 yX2_sentenceAt, Cond.instanceMethod yX2_sentenceAt, Cond.selects RX2 yX2_sentenceAt yX2_sentenceAt, Cond.code yX2_sentenceAt cX2_sentenceAt 2 (some (.object "TermGate$Sentence")), Cond.fieldLink RX2 11 "TermGate$Memory" "sentences" "[LTermGate$Sentence;", Cond.methodLink RX2 66 yX1_holds, Cond.instanceMethod yX1_holds, Cond.selects RX1 yX1_holds yX1_holds, Cond.initialized RX1]
def wsX7_best_r3 : List Cond := [Cond.code yX1_holds cX1_holds 3 (some .boolean), Cond.fieldLink RX1 15 "TermGate$Line" "count" "I", Cond.methodLink RX1 23 yX1_at, Cond.instanceMethod yX1_at, Cond.selects RX1 yX1_at yX1_at, Cond.code yX1_at cX1_at 2 (some .int), Cond.fieldLink RX1 9 "TermGate$Line" "numbers" "[I", Cond.methodLink RX1 19 yX1_hasPlace, Cond.instanceMethod yX1_hasPlace, Cond.selects RX1 yX1_hasPlace yX1_hasPlace, Cond.code yX1_hasPlace cX1_hasPlace 2 (some .boolean), Cond.methodLink RX2 73 yX0_likenessOf, Cond.instanceMethod yX0_likenessOf, Cond.selects RX0 yX0_likenessOf yX0_likenessOf, Cond.initialized RX0, Cond.code yX0_likenessOf cX0_likenessOf 5 (some .int), Cond.methodLink RX0 25 Lib.Math.max.name, Cond.static Lib.Math.max.name, Cond.initialized "java/lang/Math", Cond.code Lib.Math.max.name Lib.Math.max.code 2 (some .int), Cond.methodLink RX0 15 yX0_compare, Cond.instanceMethod yX0_compare, Cond.selects RX0 yX0_compare yX0_compare, Cond.code yX0_compare cX0_compare 6 none]
def wsX7_best_r4 : List Cond := [Cond.methodLink RX0 34 yX4_at, Cond.methodLink RX0 38 yX0_least, Cond.instanceMethod yX0_least, Cond.selects RX0 yX0_least yX0_least, Cond.code yX0_least cX0_least 7 (some .int), Cond.methodLink RX0 46 Lib.Math.min.name, Cond.static Lib.Math.min.name, Cond.code Lib.Math.min.name Lib.Math.min.code 2 (some .int), Cond.methodLink RX0 31 yX0_between, Cond.instanceMethod yX0_between, Cond.selects RX0 yX0_between yX0_between, Cond.code yX0_between cX0_between 4 (some .int), Cond.fieldLink RX0 11 "TermGate$Edits" "table" "[I", Cond.methodLink RX0 42 yX0_put, Cond.instanceMethod yX0_put, Cond.selects RX0 yX0_put yX0_put, Cond.code yX0_put cX0_put 5 none]
def wsX7_best : List Cond := .code yX7_best cX7_best 2 (some .int) :: ((wsX7_best_r1 ++ (wsX7_best_r2 ++ (wsX7_best_r3 ++ wsX7_best_r4))) ++ wsX70 ++ wsX40 ++ wsX20 ++ wsX60 ++ wsX10 ++ wsX00 ++ (vx_at0 RX7 71 "java/lang/IllegalArgumentException" ["java/lang/RuntimeException", "java/lang/Exception"]).filter goodWord ++ (vx_at0 RX7 77 "java/lang/IllegalStateException" ["java/lang/RuntimeException", "java/lang/Exception"]).filter goodWord)
def wsX7_bestByAll_r1 : List Cond := [Cond.fieldLink RX7 26 "TermGate" "memory" "LTermGate$Memory;", Cond.constantLong RX7 111 (-1), Cond.fieldLink RX7 10 "TermGate" "draft" "LTermGate$Row;", Cond.fieldLink RX7 60 "TermGate" "leastLikeness" "I", Cond.methodLink RX7 104 yX7_refuseUnlessClient, Cond.static yX7_refuseUnlessClient, Cond.initialized RX7, Cond.code yX7_refuseUnlessClient cX7_refuseUnlessClient 1 none, Cond.classLink RX7 69 "java/lang/IllegalArgumentException", Cond.initialized "java/lang/IllegalArgumentException", Cond.methodLink RX7 86 yX7_refuseEmptyDraft, Cond.instanceMethod yX7_refuseEmptyDraft, Cond.selects RX7 yX7_refuseEmptyDraft yX7_refuseEmptyDraft, Cond.code yX7_refuseEmptyDraft cX7_refuseEmptyDraft 1 none, Cond.classLink RX7 75 "java/lang/IllegalStateException", Cond.initialized "java/lang/IllegalStateException", Cond.methodLink RX7 113 yX2_bestAmong, Cond.instanceMethod yX2_bestAmong, Cond.selects RX2 yX2_bestAmong yX2_bestAmong, Cond.initialized RX2, Cond.code yX2_bestAmong cX2_bestAmong 14 (some .int), Cond.fieldLink RX2 35 "TermGate$Memory" "count" "I", Cond.fieldLink RX2 24 "TermGate$Memory" "dueList" "LTermGate$Line;", Cond.fieldLink RX2 31 "TermGate$Memory" "edits" "LTermGate$Edits;"]
def wsX7_bestByAll_r2 : List Cond := [Cond.methodLink RX2 54 yX2_sentenceAt, Cond.instanceMethod yX2_sentenceAt, Cond.selects RX2 yX2_sentenceAt yX2_sentenceAt, Cond.code yX2_sentenceAt cX2_sentenceAt 2 (some (.object "TermGate$Sentence")), Cond.fieldLink RX2 11 "TermGate$Memory" "sentences" "[LTermGate$Sentence;", Cond.methodLink RX2 66 yX1_holds, Cond.instanceMethod yX1_holds, Cond.selects RX1 yX1_holds yX1_holds, Cond.initialized RX1, Cond.code yX1_holds cX1_holds 3 (some .boolean), Cond.fieldLink RX1 15 "TermGate$Line" "count" "I", Cond.methodLink RX1 23 yX1_at, Cond.instanceMethod yX1_at, Cond.selects RX1 yX1_at yX1_at, Cond.code yX1_at cX1_at 2 (some .int), Cond.fieldLink RX1 9 "TermGate$Line" "numbers" "[I", Cond.methodLink RX1 19 yX1_hasPlace, Cond.instanceMethod yX1_hasPlace, Cond.selects RX1 yX1_hasPlace yX1_hasPlace, Cond.code yX1_hasPlace cX1_hasPlace 2 (some .boolean), Cond.methodLink RX2 73 yX0_likenessOf, Cond.instanceMethod yX0_likenessOf, Cond.selects RX0 yX0_likenessOf yX0_likenessOf, Cond.initialized RX0]
def wsX7_bestByAll_r3 : List Cond := [Cond.code yX0_likenessOf cX0_likenessOf 5 (some .int), Cond.methodLink RX0 25 Lib.Math.max.name, Cond.static Lib.Math.max.name, Cond.initialized "java/lang/Math", Cond.code Lib.Math.max.name Lib.Math.max.code 2 (some .int), Cond.methodLink RX0 15 yX0_compare, Cond.instanceMethod yX0_compare, Cond.selects RX0 yX0_compare yX0_compare, Cond.code yX0_compare cX0_compare 6 none, Cond.methodLink RX0 34 yX4_at, Cond.instanceMethod yX4_at, Cond.selects RX4 yX4_at yX4_at, Cond.initialized RX4, Cond.code yX4_at cX4_at 2 (some .int), Cond.fieldLink RX4 15 "TermGate$Row" "length" "I", Cond.fieldLink RX4 9 "TermGate$Row" "values" "[I", Cond.methodLink RX0 38 yX0_least, Cond.instanceMethod yX0_least, Cond.selects RX0 yX0_least yX0_least, Cond.code yX0_least cX0_least 7 (some .int), Cond.methodLink RX0 46 Lib.Math.min.name, Cond.static Lib.Math.min.name, Cond.code Lib.Math.min.name Lib.Math.min.code 2 (some .int), Cond.methodLink RX0 31 yX0_between]
def wsX7_bestByAll_r4 : List Cond := [Cond.instanceMethod yX0_between, Cond.selects RX0 yX0_between yX0_between, Cond.code yX0_between cX0_between 4 (some .int), Cond.fieldLink RX0 11 "TermGate$Edits" "table" "[I", Cond.methodLink RX0 42 yX0_put, Cond.instanceMethod yX0_put, Cond.selects RX0 yX0_put yX0_put, Cond.code yX0_put cX0_put 5 none]
def wsX7_bestByAll : List Cond := .code yX7_bestByAll cX7_bestByAll 2 (some .int) :: ((wsX7_bestByAll_r1 ++ (wsX7_bestByAll_r2 ++ (wsX7_bestByAll_r3 ++ wsX7_bestByAll_r4))) ++ wsX70 ++ wsX40 ++ wsX20 ++ wsX60 ++ wsX10 ++ wsX00 ++ (vx_at0 RX7 71 "java/lang/IllegalArgumentException" ["java/lang/RuntimeException", "java/lang/Exception"]).filter goodWord ++ (vx_at0 RX7 77 "java/lang/IllegalStateException" ["java/lang/RuntimeException", "java/lang/Exception"]).filter goodWord)
def wsX7_costOf : List Cond := .code yX7_costOf cX7_costOf 5 (some .int) :: ([.fieldLink RX7 63 "TermGate" "pricePerWord" "I"] ++ wsX70)
def wsX7_cost_r1 : List Cond := [Cond.fieldLink RX7 26 "TermGate" "memory" "LTermGate$Memory;", Cond.fieldLink RX7 10 "TermGate" "draft" "LTermGate$Row;", Cond.methodLink RX7 104 yX7_refuseUnlessClient, Cond.static yX7_refuseUnlessClient, Cond.initialized RX7, Cond.code yX7_refuseUnlessClient cX7_refuseUnlessClient 1 none, Cond.classLink RX7 69 "java/lang/IllegalArgumentException", Cond.initialized "java/lang/IllegalArgumentException", Cond.methodLink RX7 86 yX7_refuseEmptyDraft, Cond.instanceMethod yX7_refuseEmptyDraft, Cond.selects RX7 yX7_refuseEmptyDraft yX7_refuseEmptyDraft, Cond.code yX7_refuseEmptyDraft cX7_refuseEmptyDraft 1 none, Cond.classLink RX7 75 "java/lang/IllegalStateException", Cond.initialized "java/lang/IllegalStateException", Cond.methodLink RX7 107 yX7_bestFor, Cond.instanceMethod yX7_bestFor, Cond.selects RX7 yX7_bestFor yX7_bestFor, Cond.code yX7_bestFor cX7_bestFor 3 (some .int), Cond.fieldLink RX7 60 "TermGate" "leastLikeness" "I", Cond.methodLink RX7 285 yX2_sharingWith, Cond.instanceMethod yX2_sharingWith, Cond.selects RX2 yX2_sharingWith yX2_sharingWith, Cond.initialized RX2, Cond.code yX2_sharingWith cX2_sharingWith 6 (some .long)]
def wsX7_cost_r2 : List Cond := [Cond.fieldLink RX2 17 "TermGate$Memory" "having" "[J", Cond.methodLink RX2 48 yX4_at, Cond.instanceMethod yX4_at, Cond.selects RX4 yX4_at yX4_at, Cond.initialized RX4, Cond.code yX4_at cX4_at 2 (some .int), Cond.fieldLink RX4 15 "TermGate$Row" "length" "I", Cond.fieldLink RX4 9 "TermGate$Row" "values" "[I", Cond.methodLink RX7 113 yX2_bestAmong, Cond.instanceMethod yX2_bestAmong, Cond.selects RX2 yX2_bestAmong yX2_bestAmong, Cond.code yX2_bestAmong cX2_bestAmong 14 (some .int), Cond.fieldLink RX2 35 "TermGate$Memory" "count" "I", Cond.fieldLink RX2 24 "TermGate$Memory" "dueList" "LTermGate$Line;", Cond.fieldLink RX2 31 "TermGate$Memory" "edits" "LTermGate$Edits;", Cond.methodLink RX2 54 yX2_sentenceAt, Cond.instanceMethod yX2_sentenceAt, Cond.selects RX2 yX2_sentenceAt yX2_sentenceAt, Cond.code yX2_sentenceAt cX2_sentenceAt 2 (some (.object "TermGate$Sentence")), Cond.fieldLink RX2 11 "TermGate$Memory" "sentences" "[LTermGate$Sentence;", Cond.methodLink RX2 66 yX1_holds, Cond.instanceMethod yX1_holds, Cond.selects RX1 yX1_holds yX1_holds, Cond.initialized RX1]
def wsX7_cost_r3 : List Cond := [Cond.code yX1_holds cX1_holds 3 (some .boolean), Cond.fieldLink RX1 15 "TermGate$Line" "count" "I", Cond.methodLink RX1 23 yX1_at, Cond.instanceMethod yX1_at, Cond.selects RX1 yX1_at yX1_at, Cond.code yX1_at cX1_at 2 (some .int), Cond.fieldLink RX1 9 "TermGate$Line" "numbers" "[I", Cond.methodLink RX1 19 yX1_hasPlace, Cond.instanceMethod yX1_hasPlace, Cond.selects RX1 yX1_hasPlace yX1_hasPlace, Cond.code yX1_hasPlace cX1_hasPlace 2 (some .boolean), Cond.methodLink RX2 73 yX0_likenessOf, Cond.instanceMethod yX0_likenessOf, Cond.selects RX0 yX0_likenessOf yX0_likenessOf, Cond.initialized RX0, Cond.code yX0_likenessOf cX0_likenessOf 5 (some .int), Cond.methodLink RX0 25 Lib.Math.max.name, Cond.static Lib.Math.max.name, Cond.initialized "java/lang/Math", Cond.code Lib.Math.max.name Lib.Math.max.code 2 (some .int), Cond.methodLink RX0 15 yX0_compare, Cond.instanceMethod yX0_compare, Cond.selects RX0 yX0_compare yX0_compare, Cond.code yX0_compare cX0_compare 6 none]
def wsX7_cost_r4 : List Cond := [Cond.methodLink RX0 34 yX4_at, Cond.methodLink RX0 38 yX0_least, Cond.instanceMethod yX0_least, Cond.selects RX0 yX0_least yX0_least, Cond.code yX0_least cX0_least 7 (some .int), Cond.methodLink RX0 46 Lib.Math.min.name, Cond.static Lib.Math.min.name, Cond.code Lib.Math.min.name Lib.Math.min.code 2 (some .int), Cond.methodLink RX0 31 yX0_between, Cond.instanceMethod yX0_between, Cond.selects RX0 yX0_between yX0_between, Cond.code yX0_between cX0_between 4 (some .int), Cond.fieldLink RX0 11 "TermGate$Edits" "table" "[I", Cond.methodLink RX0 42 yX0_put, Cond.instanceMethod yX0_put, Cond.selects RX0 yX0_put yX0_put, Cond.code yX0_put cX0_put 5 none, Cond.methodLink RX7 117 yX2_shareOf, Cond.instanceMethod yX2_shareOf, Cond.selects RX2 yX2_shareOf yX2_shareOf, Cond.code yX2_shareOf cX2_shareOf 5 (some .int), Cond.methodLink RX7 121 yX7_costOf, Cond.instanceMethod yX7_costOf, Cond.selects RX7 yX7_costOf yX7_costOf]
def wsX7_cost_r5 : List Cond := [Cond.code yX7_costOf cX7_costOf 5 (some .int), Cond.fieldLink RX7 63 "TermGate" "pricePerWord" "I"]
def wsX7_cost : List Cond := .code yX7_cost cX7_cost 4 (some .int) :: ((wsX7_cost_r1 ++ (wsX7_cost_r2 ++ (wsX7_cost_r3 ++ (wsX7_cost_r4 ++ wsX7_cost_r5)))) ++ wsX70 ++ wsX40 ++ wsX20 ++ wsX60 ++ wsX10 ++ wsX00 ++ (vx_at0 RX7 71 "java/lang/IllegalArgumentException" ["java/lang/RuntimeException", "java/lang/Exception"]).filter goodWord ++ (vx_at0 RX7 77 "java/lang/IllegalStateException" ["java/lang/RuntimeException", "java/lang/Exception"]).filter goodWord)
def wsX7_deskFor : List Cond := .code yX7_deskFor cX7_deskFor 2 (some (.object "TermGate$Line")) :: ([.fieldLink RX7 42 "TermGate" "rushDesk" "LTermGate$Line;", .fieldLink RX7 46 "TermGate" "otherDesk" "LTermGate$Line;"] ++ wsX70)
def wsX7_order_r1 : List Cond := [Cond.classLink RX7 75 "java/lang/IllegalStateException", Cond.initialized "java/lang/IllegalStateException", Cond.fieldLink RX7 56 "TermGate" "orderCount" "I", Cond.fieldLink RX7 32 "TermGate" "orders" "[LTermGate$Order;", Cond.classLink RX7 30 RX3, Cond.instantiable RX3 7, Cond.initialized RX3, Cond.classLink RX7 94 RX6, Cond.instantiable RX6 3, Cond.initialized RX6, Cond.fieldLink RX7 10 "TermGate" "draft" "LTermGate$Row;", Cond.methodLink RX7 104 yX7_refuseUnlessClient, Cond.static yX7_refuseUnlessClient, Cond.initialized RX7, Cond.code yX7_refuseUnlessClient cX7_refuseUnlessClient 1 none, Cond.classLink RX7 69 "java/lang/IllegalArgumentException", Cond.initialized "java/lang/IllegalArgumentException", Cond.methodLink RX7 86 yX7_refuseEmptyDraft, Cond.instanceMethod yX7_refuseEmptyDraft, Cond.selects RX7 yX7_refuseEmptyDraft yX7_refuseEmptyDraft, Cond.code yX7_refuseEmptyDraft cX7_refuseEmptyDraft 1 none, Cond.methodLink RX7 125 yX6_init, Cond.instanceMethod yX6_init, Cond.code yX6_init cX6_init 4 none]
def wsX7_order_r2 : List Cond := [Cond.methodLink RX6 3 objectInit, Cond.instanceMethod objectInit, Cond.code objectInit ⟨#[0xb1]⟩ 1 none, Cond.classLink RX6 9 RX4, Cond.instantiable RX4 2, Cond.initialized RX4, Cond.fieldLink RX6 12 "TermGate$Sentence" "words" "LTermGate$Row;", Cond.fieldLink RX6 18 "TermGate$Sentence" "became" "LTermGate$Row;", Cond.fieldLink RX6 21 "TermGate$Sentence" "client" "I", Cond.instanceMethod yX4_init, Cond.code yX4_init cX4_init 1 none, Cond.methodLink RX4 3 objectInit, Cond.arrayClass .int, Cond.fieldLink RX4 9 "TermGate$Row" "values" "[I", Cond.fieldLink RX4 15 "TermGate$Row" "length" "I", Cond.methodLink RX6 28 yX4_at, Cond.instanceMethod yX4_at, Cond.selects RX4 yX4_at yX4_at, Cond.code yX4_at cX4_at 2 (some .int), Cond.methodLink RX6 32 yX4_append, Cond.instanceMethod yX4_append, Cond.selects RX4 yX4_append yX4_append, Cond.code yX4_append cX4_append 3 none, Cond.methodLink RX7 128 yX3_init]
def wsX7_order_r3 : List Cond := [Cond.instanceMethod yX3_init, Cond.code yX3_init cX3_init 4 none, Cond.methodLink RX3 3 objectInit, Cond.fieldLink RX3 9 "TermGate$Order" "standing" "I", Cond.fieldLink RX3 15 "TermGate$Order" "match" "I", Cond.fieldLink RX3 18 "TermGate$Order" "cost" "I", Cond.fieldLink RX3 21 "TermGate$Order" "pay" "I", Cond.fieldLink RX3 24 "TermGate$Order" "number" "I", Cond.fieldLink RX3 27 "TermGate$Order" "isRush" "Z", Cond.fieldLink RX3 31 "TermGate$Order" "sentence" "LTermGate$Sentence;", Cond.methodLink RX7 131 yX7_deskFor, Cond.instanceMethod yX7_deskFor, Cond.selects RX7 yX7_deskFor yX7_deskFor, Cond.code yX7_deskFor cX7_deskFor 2 (some (.object "TermGate$Line")), Cond.fieldLink RX7 42 "TermGate" "rushDesk" "LTermGate$Line;", Cond.fieldLink RX7 46 "TermGate" "otherDesk" "LTermGate$Line;", Cond.methodLink RX7 135 yX1_addLast, Cond.instanceMethod yX1_addLast, Cond.selects RX1 yX1_addLast yX1_addLast, Cond.initialized RX1, Cond.code yX1_addLast cX1_addLast 3 none, Cond.fieldLink RX1 15 "TermGate$Line" "count" "I", Cond.fieldLink RX1 9 "TermGate$Line" "numbers" "[I"]
def wsX7_order : List Cond := .code yX7_order cX7_order 4 (some .int) :: ((wsX7_order_r1 ++ (wsX7_order_r2 ++ wsX7_order_r3)) ++ wsX70 ++ wsX30 ++ wsX60 ++ wsX40 ++ wsX10 ++ (vx_at0 RX7 77 "java/lang/IllegalStateException" ["java/lang/RuntimeException", "java/lang/Exception"]).filter goodWord ++ (vx_at0 RX7 71 "java/lang/IllegalArgumentException" ["java/lang/RuntimeException", "java/lang/Exception"]).filter goodWord)
def wsX7_refuseUnlessTranslator : List Cond := .code yX7_refuseUnlessTranslator cX7_refuseUnlessTranslator 1 none :: ([.classLink RX7 69 "java/lang/IllegalArgumentException", .initialized "java/lang/IllegalArgumentException"] ++ (vx_at0 RX7 71 "java/lang/IllegalArgumentException" ["java/lang/RuntimeException", "java/lang/Exception"]).filter goodWord)
def wsX7_handOf : List Cond := .code yX7_handOf cX7_handOf 2 (some (.object "TermGate$Order")) :: ([.fieldLink RX7 36 "TermGate" "inHand" "[LTermGate$Order;"] ++ wsX70)
def wsX7_orderNumbered : List Cond := .code yX7_orderNumbered cX7_orderNumbered 2 (some (.object "TermGate$Order")) :: ([.fieldLink RX7 32 "TermGate" "orders" "[LTermGate$Order;"] ++ wsX70)
def wsX7_putInHand : List Cond := .code yX7_putInHand cX7_putInHand 3 none :: ([.fieldLink RX7 36 "TermGate" "inHand" "[LTermGate$Order;"] ++ wsX70)
def wsX7_begin_r1 : List Cond := [Cond.fieldLink RX7 26 "TermGate" "memory" "LTermGate$Memory;", Cond.fieldLink RX7 66 "TermGate" "ratePerWord" "I", Cond.methodLink RX7 107 yX7_bestFor, Cond.instanceMethod yX7_bestFor, Cond.selects RX7 yX7_bestFor yX7_bestFor, Cond.initialized RX7, Cond.code yX7_bestFor cX7_bestFor 3 (some .int), Cond.fieldLink RX7 60 "TermGate" "leastLikeness" "I", Cond.methodLink RX7 285 yX2_sharingWith, Cond.instanceMethod yX2_sharingWith, Cond.selects RX2 yX2_sharingWith yX2_sharingWith, Cond.initialized RX2, Cond.code yX2_sharingWith cX2_sharingWith 6 (some .long), Cond.fieldLink RX2 17 "TermGate$Memory" "having" "[J", Cond.methodLink RX2 48 yX4_at, Cond.instanceMethod yX4_at, Cond.selects RX4 yX4_at yX4_at, Cond.initialized RX4, Cond.code yX4_at cX4_at 2 (some .int), Cond.fieldLink RX4 15 "TermGate$Row" "length" "I", Cond.fieldLink RX4 9 "TermGate$Row" "values" "[I", Cond.methodLink RX7 113 yX2_bestAmong, Cond.instanceMethod yX2_bestAmong, Cond.selects RX2 yX2_bestAmong yX2_bestAmong]
def wsX7_begin_r2 : List Cond := [Cond.code yX2_bestAmong cX2_bestAmong 14 (some .int), Cond.fieldLink RX2 35 "TermGate$Memory" "count" "I", Cond.fieldLink RX2 24 "TermGate$Memory" "dueList" "LTermGate$Line;", Cond.fieldLink RX2 31 "TermGate$Memory" "edits" "LTermGate$Edits;", Cond.methodLink RX2 54 yX2_sentenceAt, Cond.instanceMethod yX2_sentenceAt, Cond.selects RX2 yX2_sentenceAt yX2_sentenceAt, Cond.code yX2_sentenceAt cX2_sentenceAt 2 (some (.object "TermGate$Sentence")), Cond.fieldLink RX2 11 "TermGate$Memory" "sentences" "[LTermGate$Sentence;", Cond.methodLink RX2 66 yX1_holds, Cond.instanceMethod yX1_holds, Cond.selects RX1 yX1_holds yX1_holds, Cond.initialized RX1, Cond.code yX1_holds cX1_holds 3 (some .boolean), Cond.fieldLink RX1 15 "TermGate$Line" "count" "I", Cond.methodLink RX1 23 yX1_at, Cond.instanceMethod yX1_at, Cond.selects RX1 yX1_at yX1_at, Cond.code yX1_at cX1_at 2 (some .int), Cond.fieldLink RX1 9 "TermGate$Line" "numbers" "[I", Cond.methodLink RX1 19 yX1_hasPlace, Cond.instanceMethod yX1_hasPlace, Cond.selects RX1 yX1_hasPlace yX1_hasPlace, Cond.code yX1_hasPlace cX1_hasPlace 2 (some .boolean)]
def wsX7_begin_r3 : List Cond := [Cond.methodLink RX2 73 yX0_likenessOf, Cond.instanceMethod yX0_likenessOf, Cond.selects RX0 yX0_likenessOf yX0_likenessOf, Cond.initialized RX0, Cond.code yX0_likenessOf cX0_likenessOf 5 (some .int), Cond.methodLink RX0 25 Lib.Math.max.name, Cond.static Lib.Math.max.name, Cond.initialized "java/lang/Math", Cond.code Lib.Math.max.name Lib.Math.max.code 2 (some .int), Cond.methodLink RX0 15 yX0_compare, Cond.instanceMethod yX0_compare, Cond.selects RX0 yX0_compare yX0_compare, Cond.code yX0_compare cX0_compare 6 none, Cond.methodLink RX0 34 yX4_at, Cond.methodLink RX0 38 yX0_least, Cond.instanceMethod yX0_least, Cond.selects RX0 yX0_least yX0_least, Cond.code yX0_least cX0_least 7 (some .int), Cond.methodLink RX0 46 Lib.Math.min.name, Cond.static Lib.Math.min.name, Cond.code Lib.Math.min.name Lib.Math.min.code 2 (some .int), Cond.methodLink RX0 31 yX0_between, Cond.instanceMethod yX0_between, Cond.selects RX0 yX0_between yX0_between]
def wsX7_begin_r4 : List Cond := [Cond.code yX0_between cX0_between 4 (some .int), Cond.fieldLink RX0 11 "TermGate$Edits" "table" "[I", Cond.methodLink RX0 42 yX0_put, Cond.instanceMethod yX0_put, Cond.selects RX0 yX0_put yX0_put, Cond.code yX0_put cX0_put 5 none, Cond.methodLink RX7 117 yX2_shareOf, Cond.instanceMethod yX2_shareOf, Cond.selects RX2 yX2_shareOf yX2_shareOf, Cond.code yX2_shareOf cX2_shareOf 5 (some .int), Cond.methodLink RX7 121 yX7_costOf, Cond.instanceMethod yX7_costOf, Cond.selects RX7 yX7_costOf yX7_costOf, Cond.code yX7_costOf cX7_costOf 5 (some .int), Cond.fieldLink RX7 63 "TermGate" "pricePerWord" "I", Cond.methodLink RX7 282 yX2_lendTo, Cond.instanceMethod yX2_lendTo, Cond.selects RX2 yX2_lendTo yX2_lendTo, Cond.code yX2_lendTo cX2_lendTo 8 none, Cond.methodLink RX2 80 yX0_compare, Cond.methodLink RX2 87 yX4_put, Cond.instanceMethod yX4_put, Cond.selects RX4 yX4_put yX4_put, Cond.code yX4_put cX4_put 3 none]
def wsX7_begin_r5 : List Cond := [Cond.methodLink RX4 19 yX4_has, Cond.instanceMethod yX4_has, Cond.selects RX4 yX4_has yX4_has, Cond.code yX4_has cX4_has 2 (some .boolean), Cond.methodLink RX2 91 yX0_skipBehind, Cond.instanceMethod yX0_skipBehind, Cond.selects RX0 yX0_skipBehind yX0_skipBehind, Cond.code yX0_skipBehind cX0_skipBehind 6 (some .int)]
def wsX7_begin : List Cond := .code yX7_begin cX7_begin 5 none :: ((wsX7_begin_r1 ++ (wsX7_begin_r2 ++ (wsX7_begin_r3 ++ (wsX7_begin_r4 ++ wsX7_begin_r5)))) ++ wsX30 ++ wsX60 ++ wsX40 ++ wsX70 ++ wsX20 ++ wsX10 ++ wsX00)
def wsX7_take_r1 : List Cond := [Cond.classLink RX7 75 "java/lang/IllegalStateException", Cond.initialized "java/lang/IllegalStateException", Cond.fieldLink RX7 42 "TermGate" "rushDesk" "LTermGate$Line;", Cond.fieldLink RX7 46 "TermGate" "otherDesk" "LTermGate$Line;", Cond.methodLink RX7 138 yX7_refuseUnlessTranslator, Cond.static yX7_refuseUnlessTranslator, Cond.initialized RX7, Cond.code yX7_refuseUnlessTranslator cX7_refuseUnlessTranslator 1 none, Cond.classLink RX7 69 "java/lang/IllegalArgumentException", Cond.initialized "java/lang/IllegalArgumentException", Cond.methodLink RX7 141 yX7_handOf, Cond.instanceMethod yX7_handOf, Cond.selects RX7 yX7_handOf yX7_handOf, Cond.code yX7_handOf cX7_handOf 2 (some (.object "TermGate$Order")), Cond.fieldLink RX7 36 "TermGate" "inHand" "[LTermGate$Order;", Cond.methodLink RX7 148 yX1_at, Cond.instanceMethod yX1_at, Cond.selects RX1 yX1_at yX1_at, Cond.initialized RX1, Cond.code yX1_at cX1_at 2 (some .int), Cond.fieldLink RX1 9 "TermGate$Line" "numbers" "[I", Cond.methodLink RX1 19 yX1_hasPlace, Cond.instanceMethod yX1_hasPlace, Cond.selects RX1 yX1_hasPlace yX1_hasPlace]
def wsX7_take_r2 : List Cond := [Cond.code yX1_hasPlace cX1_hasPlace 2 (some .boolean), Cond.fieldLink RX1 15 "TermGate$Line" "count" "I", Cond.methodLink RX7 152 yX7_orderNumbered, Cond.instanceMethod yX7_orderNumbered, Cond.selects RX7 yX7_orderNumbered yX7_orderNumbered, Cond.code yX7_orderNumbered cX7_orderNumbered 2 (some (.object "TermGate$Order")), Cond.fieldLink RX7 32 "TermGate" "orders" "[LTermGate$Order;", Cond.methodLink RX7 155 yX1_removeFirst, Cond.instanceMethod yX1_removeFirst, Cond.selects RX1 yX1_removeFirst yX1_removeFirst, Cond.code yX1_removeFirst cX1_removeFirst 1 none, Cond.methodLink RX1 31 yX1_removeAt, Cond.instanceMethod yX1_removeAt, Cond.selects RX1 yX1_removeAt yX1_removeAt, Cond.code yX1_removeAt cX1_removeAt 3 none, Cond.methodLink RX7 158 yX7_putInHand, Cond.instanceMethod yX7_putInHand, Cond.selects RX7 yX7_putInHand yX7_putInHand, Cond.code yX7_putInHand cX7_putInHand 3 none, Cond.methodLink RX7 165 yX7_begin, Cond.instanceMethod yX7_begin, Cond.selects RX7 yX7_begin yX7_begin, Cond.code yX7_begin cX7_begin 5 none, Cond.fieldLink RX7 26 "TermGate" "memory" "LTermGate$Memory;"]
def wsX7_take_r3 : List Cond := [Cond.fieldLink RX7 66 "TermGate" "ratePerWord" "I", Cond.methodLink RX7 107 yX7_bestFor, Cond.instanceMethod yX7_bestFor, Cond.selects RX7 yX7_bestFor yX7_bestFor, Cond.code yX7_bestFor cX7_bestFor 3 (some .int), Cond.fieldLink RX7 60 "TermGate" "leastLikeness" "I", Cond.methodLink RX7 285 yX2_sharingWith, Cond.instanceMethod yX2_sharingWith, Cond.selects RX2 yX2_sharingWith yX2_sharingWith, Cond.initialized RX2, Cond.code yX2_sharingWith cX2_sharingWith 6 (some .long), Cond.fieldLink RX2 17 "TermGate$Memory" "having" "[J", Cond.methodLink RX2 48 yX4_at, Cond.instanceMethod yX4_at, Cond.selects RX4 yX4_at yX4_at, Cond.initialized RX4, Cond.code yX4_at cX4_at 2 (some .int), Cond.fieldLink RX4 15 "TermGate$Row" "length" "I", Cond.fieldLink RX4 9 "TermGate$Row" "values" "[I", Cond.methodLink RX7 113 yX2_bestAmong, Cond.instanceMethod yX2_bestAmong, Cond.selects RX2 yX2_bestAmong yX2_bestAmong, Cond.code yX2_bestAmong cX2_bestAmong 14 (some .int), Cond.fieldLink RX2 35 "TermGate$Memory" "count" "I"]
def wsX7_take_r4 : List Cond := [Cond.fieldLink RX2 24 "TermGate$Memory" "dueList" "LTermGate$Line;", Cond.fieldLink RX2 31 "TermGate$Memory" "edits" "LTermGate$Edits;", Cond.methodLink RX2 54 yX2_sentenceAt, Cond.instanceMethod yX2_sentenceAt, Cond.selects RX2 yX2_sentenceAt yX2_sentenceAt, Cond.code yX2_sentenceAt cX2_sentenceAt 2 (some (.object "TermGate$Sentence")), Cond.fieldLink RX2 11 "TermGate$Memory" "sentences" "[LTermGate$Sentence;", Cond.methodLink RX2 66 yX1_holds, Cond.instanceMethod yX1_holds, Cond.selects RX1 yX1_holds yX1_holds, Cond.code yX1_holds cX1_holds 3 (some .boolean), Cond.methodLink RX1 23 yX1_at, Cond.methodLink RX2 73 yX0_likenessOf, Cond.instanceMethod yX0_likenessOf, Cond.selects RX0 yX0_likenessOf yX0_likenessOf, Cond.initialized RX0, Cond.code yX0_likenessOf cX0_likenessOf 5 (some .int), Cond.methodLink RX0 25 Lib.Math.max.name, Cond.static Lib.Math.max.name, Cond.initialized "java/lang/Math", Cond.code Lib.Math.max.name Lib.Math.max.code 2 (some .int), Cond.methodLink RX0 15 yX0_compare, Cond.instanceMethod yX0_compare, Cond.selects RX0 yX0_compare yX0_compare]
def wsX7_take_r5 : List Cond := [Cond.code yX0_compare cX0_compare 6 none, Cond.methodLink RX0 34 yX4_at, Cond.methodLink RX0 38 yX0_least, Cond.instanceMethod yX0_least, Cond.selects RX0 yX0_least yX0_least, Cond.code yX0_least cX0_least 7 (some .int), Cond.methodLink RX0 46 Lib.Math.min.name, Cond.static Lib.Math.min.name, Cond.code Lib.Math.min.name Lib.Math.min.code 2 (some .int), Cond.methodLink RX0 31 yX0_between, Cond.instanceMethod yX0_between, Cond.selects RX0 yX0_between yX0_between, Cond.code yX0_between cX0_between 4 (some .int), Cond.fieldLink RX0 11 "TermGate$Edits" "table" "[I", Cond.methodLink RX0 42 yX0_put, Cond.instanceMethod yX0_put, Cond.selects RX0 yX0_put yX0_put, Cond.code yX0_put cX0_put 5 none, Cond.methodLink RX7 117 yX2_shareOf, Cond.instanceMethod yX2_shareOf, Cond.selects RX2 yX2_shareOf yX2_shareOf, Cond.code yX2_shareOf cX2_shareOf 5 (some .int), Cond.methodLink RX7 121 yX7_costOf, Cond.instanceMethod yX7_costOf]
def wsX7_take_r6 : List Cond := [Cond.selects RX7 yX7_costOf yX7_costOf, Cond.code yX7_costOf cX7_costOf 5 (some .int), Cond.fieldLink RX7 63 "TermGate" "pricePerWord" "I", Cond.methodLink RX7 282 yX2_lendTo, Cond.instanceMethod yX2_lendTo, Cond.selects RX2 yX2_lendTo yX2_lendTo, Cond.code yX2_lendTo cX2_lendTo 8 none, Cond.methodLink RX2 80 yX0_compare, Cond.methodLink RX2 87 yX4_put, Cond.instanceMethod yX4_put, Cond.selects RX4 yX4_put yX4_put, Cond.code yX4_put cX4_put 3 none, Cond.methodLink RX4 19 yX4_has, Cond.instanceMethod yX4_has, Cond.selects RX4 yX4_has yX4_has, Cond.code yX4_has cX4_has 2 (some .boolean), Cond.methodLink RX2 91 yX0_skipBehind, Cond.instanceMethod yX0_skipBehind, Cond.selects RX0 yX0_skipBehind yX0_skipBehind, Cond.code yX0_skipBehind cX0_skipBehind 6 (some .int)]
def wsX7_take : List Cond := .code yX7_take cX7_take 4 (some .int) :: ((wsX7_take_r1 ++ (wsX7_take_r2 ++ (wsX7_take_r3 ++ (wsX7_take_r4 ++ (wsX7_take_r5 ++ wsX7_take_r6))))) ++ wsX70 ++ wsX10 ++ wsX30 ++ wsX60 ++ wsX40 ++ wsX20 ++ wsX00 ++ (vx_at0 RX7 77 "java/lang/IllegalStateException" ["java/lang/RuntimeException", "java/lang/Exception"]).filter goodWord ++ (vx_at0 RX7 71 "java/lang/IllegalArgumentException" ["java/lang/RuntimeException", "java/lang/Exception"]).filter goodWord)
def wsX7_orderInHandOf : List Cond := .code yX7_orderInHandOf cX7_orderInHandOf 3 (some (.object "TermGate$Order")) :: ([.classLink RX7 75 "java/lang/IllegalStateException", .initialized "java/lang/IllegalStateException", .methodLink RX7 138 yX7_refuseUnlessTranslator, .static yX7_refuseUnlessTranslator, .initialized RX7, .code yX7_refuseUnlessTranslator cX7_refuseUnlessTranslator 1 none, .classLink RX7 69 "java/lang/IllegalArgumentException", .initialized "java/lang/IllegalArgumentException", .methodLink RX7 141 yX7_handOf, .instanceMethod yX7_handOf, .selects RX7 yX7_handOf yX7_handOf, .code yX7_handOf cX7_handOf 2 (some (.object "TermGate$Order")), .fieldLink RX7 36 "TermGate" "inHand" "[LTermGate$Order;"] ++ wsX70 ++ (vx_at0 RX7 77 "java/lang/IllegalStateException" ["java/lang/RuntimeException", "java/lang/Exception"]).filter goodWord ++ (vx_at0 RX7 71 "java/lang/IllegalArgumentException" ["java/lang/RuntimeException", "java/lang/Exception"]).filter goodWord)
def wsX7_giveBack_r1 : List Cond := [Cond.methodLink RX7 172 yX7_orderInHandOf, Cond.instanceMethod yX7_orderInHandOf, Cond.selects RX7 yX7_orderInHandOf yX7_orderInHandOf, Cond.initialized RX7, Cond.code yX7_orderInHandOf cX7_orderInHandOf 3 (some (.object "TermGate$Order")), Cond.classLink RX7 75 "java/lang/IllegalStateException", Cond.initialized "java/lang/IllegalStateException", Cond.methodLink RX7 138 yX7_refuseUnlessTranslator, Cond.static yX7_refuseUnlessTranslator, Cond.code yX7_refuseUnlessTranslator cX7_refuseUnlessTranslator 1 none, Cond.classLink RX7 69 "java/lang/IllegalArgumentException", Cond.initialized "java/lang/IllegalArgumentException", Cond.methodLink RX7 141 yX7_handOf, Cond.instanceMethod yX7_handOf, Cond.selects RX7 yX7_handOf yX7_handOf, Cond.code yX7_handOf cX7_handOf 2 (some (.object "TermGate$Order")), Cond.fieldLink RX7 36 "TermGate" "inHand" "[LTermGate$Order;", Cond.methodLink RX7 158 yX7_putInHand, Cond.instanceMethod yX7_putInHand, Cond.selects RX7 yX7_putInHand yX7_putInHand, Cond.code yX7_putInHand cX7_putInHand 3 none, Cond.methodLink RX7 182 yX6_forgetAll, Cond.instanceMethod yX6_forgetAll, Cond.selects RX6 yX6_forgetAll yX6_forgetAll]
def wsX7_giveBack_r2 : List Cond := [Cond.initialized RX6, Cond.code yX6_forgetAll cX6_forgetAll 2 none, Cond.fieldLink RX6 18 "TermGate$Sentence" "became" "LTermGate$Row;", Cond.methodLink RX6 36 yX4_put, Cond.instanceMethod yX4_put, Cond.selects RX4 yX4_put yX4_put, Cond.initialized RX4, Cond.code yX4_put cX4_put 3 none, Cond.fieldLink RX4 9 "TermGate$Row" "values" "[I", Cond.methodLink RX4 19 yX4_has, Cond.instanceMethod yX4_has, Cond.selects RX4 yX4_has yX4_has, Cond.code yX4_has cX4_has 2 (some .boolean), Cond.fieldLink RX4 15 "TermGate$Row" "length" "I", Cond.methodLink RX7 131 yX7_deskFor, Cond.instanceMethod yX7_deskFor, Cond.selects RX7 yX7_deskFor yX7_deskFor, Cond.code yX7_deskFor cX7_deskFor 2 (some (.object "TermGate$Line")), Cond.fieldLink RX7 42 "TermGate" "rushDesk" "LTermGate$Line;", Cond.fieldLink RX7 46 "TermGate" "otherDesk" "LTermGate$Line;", Cond.methodLink RX7 189 yX1_addFirst, Cond.instanceMethod yX1_addFirst, Cond.selects RX1 yX1_addFirst yX1_addFirst, Cond.initialized RX1]
def wsX7_giveBack_r3 : List Cond := [Cond.code yX1_addFirst cX1_addFirst 5 none, Cond.fieldLink RX1 15 "TermGate$Line" "count" "I", Cond.fieldLink RX1 9 "TermGate$Line" "numbers" "[I", Cond.methodLink RX1 27 yX1_addLast, Cond.instanceMethod yX1_addLast, Cond.selects RX1 yX1_addLast yX1_addLast, Cond.code yX1_addLast cX1_addLast 3 none]
def wsX7_giveBack : List Cond := .code yX7_giveBack cX7_giveBack 3 (some .int) :: ((wsX7_giveBack_r1 ++ (wsX7_giveBack_r2 ++ wsX7_giveBack_r3)) ++ wsX30 ++ wsX70 ++ wsX60 ++ wsX40 ++ wsX10 ++ (vx_at0 RX7 77 "java/lang/IllegalStateException" ["java/lang/RuntimeException", "java/lang/Exception"]).filter goodWord ++ (vx_at0 RX7 71 "java/lang/IllegalArgumentException" ["java/lang/RuntimeException", "java/lang/Exception"]).filter goodWord)
def wsX7_refuseUnlessPlace : List Cond := .code yX7_refuseUnlessPlace cX7_refuseUnlessPlace 2 none :: ([.classLink RX7 237 "java/lang/IndexOutOfBoundsException", .initialized "java/lang/IndexOutOfBoundsException", .methodLink RX7 276 yX4_has, .instanceMethod yX4_has, .selects RX4 yX4_has yX4_has, .initialized RX4, .code yX4_has cX4_has 2 (some .boolean), .fieldLink RX4 15 "TermGate$Row" "length" "I", .fieldLink RX4 9 "TermGate$Row" "values" "[I"] ++ wsX60 ++ wsX40 ++ (vx_at0 RX7 239 "java/lang/IndexOutOfBoundsException" ["java/lang/RuntimeException", "java/lang/Exception"]).filter goodWord)
def wsX7_translate_r1 : List Cond := [Cond.classLink RX7 69 "java/lang/IllegalArgumentException", Cond.initialized "java/lang/IllegalArgumentException", Cond.methodLink RX7 172 yX7_orderInHandOf, Cond.instanceMethod yX7_orderInHandOf, Cond.selects RX7 yX7_orderInHandOf yX7_orderInHandOf, Cond.initialized RX7, Cond.code yX7_orderInHandOf cX7_orderInHandOf 3 (some (.object "TermGate$Order")), Cond.classLink RX7 75 "java/lang/IllegalStateException", Cond.initialized "java/lang/IllegalStateException", Cond.methodLink RX7 138 yX7_refuseUnlessTranslator, Cond.static yX7_refuseUnlessTranslator, Cond.code yX7_refuseUnlessTranslator cX7_refuseUnlessTranslator 1 none, Cond.methodLink RX7 141 yX7_handOf, Cond.instanceMethod yX7_handOf, Cond.selects RX7 yX7_handOf yX7_handOf, Cond.code yX7_handOf cX7_handOf 2 (some (.object "TermGate$Order")), Cond.fieldLink RX7 36 "TermGate" "inHand" "[LTermGate$Order;", Cond.methodLink RX7 192 yX7_refuseUnlessPlace, Cond.static yX7_refuseUnlessPlace, Cond.code yX7_refuseUnlessPlace cX7_refuseUnlessPlace 2 none, Cond.classLink RX7 237 "java/lang/IndexOutOfBoundsException", Cond.initialized "java/lang/IndexOutOfBoundsException", Cond.methodLink RX7 276 yX4_has, Cond.instanceMethod yX4_has]
def wsX7_translate_r2 : List Cond := [Cond.selects RX4 yX4_has yX4_has, Cond.initialized RX4, Cond.code yX4_has cX4_has 2 (some .boolean), Cond.fieldLink RX4 15 "TermGate$Row" "length" "I", Cond.fieldLink RX4 9 "TermGate$Row" "values" "[I", Cond.methodLink RX7 199 yX4_put, Cond.instanceMethod yX4_put, Cond.selects RX4 yX4_put yX4_put, Cond.code yX4_put cX4_put 3 none, Cond.methodLink RX4 19 yX4_has, Cond.methodLink RX7 203 yX6_countOpen, Cond.instanceMethod yX6_countOpen, Cond.selects RX6 yX6_countOpen yX6_countOpen, Cond.initialized RX6, Cond.code yX6_countOpen cX6_countOpen 3 (some .int), Cond.fieldLink RX6 18 "TermGate$Sentence" "became" "LTermGate$Row;", Cond.methodLink RX6 28 yX4_at, Cond.instanceMethod yX4_at, Cond.selects RX4 yX4_at yX4_at, Cond.code yX4_at cX4_at 2 (some .int)]
def wsX7_translate : List Cond := .code yX7_translate cX7_translate 5 (some .int) :: ((wsX7_translate_r1 ++ wsX7_translate_r2) ++ wsX30 ++ wsX60 ++ wsX70 ++ wsX40 ++ (vx_at0 RX7 71 "java/lang/IllegalArgumentException" ["java/lang/RuntimeException", "java/lang/Exception"]).filter goodWord ++ (vx_at0 RX7 77 "java/lang/IllegalStateException" ["java/lang/RuntimeException", "java/lang/Exception"]).filter goodWord ++ (vx_at0 RX7 239 "java/lang/IndexOutOfBoundsException" ["java/lang/RuntimeException", "java/lang/Exception"]).filter goodWord)
def wsX7_addTo : List Cond := .code yX7_addTo cX7_addTo 3 none :: ([])
def wsX7_deliver_r1 : List Cond := [Cond.classLink RX7 75 "java/lang/IllegalStateException", Cond.initialized "java/lang/IllegalStateException", Cond.fieldLink RX7 19 "TermGate" "rulings" "LTermGate$Rulings;", Cond.fieldLink RX7 26 "TermGate" "memory" "LTermGate$Memory;", Cond.fieldLink RX7 49 "TermGate" "paidByClient" "[I", Cond.fieldLink RX7 53 "TermGate" "earnedByTranslator" "[I", Cond.methodLink RX7 172 yX7_orderInHandOf, Cond.instanceMethod yX7_orderInHandOf, Cond.selects RX7 yX7_orderInHandOf yX7_orderInHandOf, Cond.initialized RX7, Cond.code yX7_orderInHandOf cX7_orderInHandOf 3 (some (.object "TermGate$Order")), Cond.methodLink RX7 138 yX7_refuseUnlessTranslator, Cond.static yX7_refuseUnlessTranslator, Cond.code yX7_refuseUnlessTranslator cX7_refuseUnlessTranslator 1 none, Cond.classLink RX7 69 "java/lang/IllegalArgumentException", Cond.initialized "java/lang/IllegalArgumentException", Cond.methodLink RX7 141 yX7_handOf, Cond.instanceMethod yX7_handOf, Cond.selects RX7 yX7_handOf yX7_handOf, Cond.code yX7_handOf cX7_handOf 2 (some (.object "TermGate$Order")), Cond.fieldLink RX7 36 "TermGate" "inHand" "[LTermGate$Order;", Cond.methodLink RX7 207 yX3_whyNot, Cond.instanceMethod yX3_whyNot, Cond.selects RX3 yX3_whyNot yX3_whyNot]
def wsX7_deliver_r2 : List Cond := [Cond.initialized RX3, Cond.code yX3_whyNot cX3_whyNot 2 (some .int), Cond.fieldLink RX3 31 "TermGate$Order" "sentence" "LTermGate$Sentence;", Cond.methodLink RX3 35 yX6_firstOpen, Cond.instanceMethod yX6_firstOpen, Cond.selects RX6 yX6_firstOpen yX6_firstOpen, Cond.initialized RX6, Cond.code yX6_firstOpen cX6_firstOpen 2 (some .int), Cond.fieldLink RX6 18 "TermGate$Sentence" "became" "LTermGate$Row;", Cond.methodLink RX6 28 yX4_at, Cond.instanceMethod yX4_at, Cond.selects RX4 yX4_at yX4_at, Cond.initialized RX4, Cond.code yX4_at cX4_at 2 (some .int), Cond.fieldLink RX4 15 "TermGate$Row" "length" "I", Cond.fieldLink RX4 9 "TermGate$Row" "values" "[I", Cond.methodLink RX3 41 yX3_firstBroken, Cond.instanceMethod yX3_firstBroken, Cond.selects RX3 yX3_firstBroken yX3_firstBroken, Cond.code yX3_firstBroken cX3_firstBroken 2 (some .int), Cond.fieldLink RX3 27 "TermGate$Order" "isRush" "Z", Cond.methodLink RX3 45 yX6_firstAstray, Cond.instanceMethod yX6_firstAstray, Cond.selects RX6 yX6_firstAstray yX6_firstAstray]
def wsX7_deliver_r3 : List Cond := [Cond.code yX6_firstAstray cX6_firstAstray 3 (some .int), Cond.fieldLink RX6 12 "TermGate$Sentence" "words" "LTermGate$Row;", Cond.methodLink RX6 46 yX6_isAstrayAt, Cond.instanceMethod yX6_isAstrayAt, Cond.selects RX6 yX6_isAstrayAt yX6_isAstrayAt, Cond.code yX6_isAstrayAt cX6_isAstrayAt 4 (some .boolean), Cond.fieldLink RX6 21 "TermGate$Sentence" "client" "I", Cond.methodLink RX6 40 yX5_rulingOf, Cond.instanceMethod yX5_rulingOf, Cond.selects RX5 yX5_rulingOf yX5_rulingOf, Cond.initialized RX5, Cond.code yX5_rulingOf cX5_rulingOf 4 (some .int), Cond.fieldLink RX5 15 "TermGate$Rulings" "ruled" "[I", Cond.methodLink RX5 27 yX5_slotOf, Cond.static yX5_slotOf, Cond.code yX5_slotOf cX5_slotOf 3 (some .int), Cond.methodLink RX7 158 yX7_putInHand, Cond.instanceMethod yX7_putInHand, Cond.selects RX7 yX7_putInHand yX7_putInHand, Cond.code yX7_putInHand cX7_putInHand 3 none, Cond.methodLink RX7 218 yX7_addTo, Cond.static yX7_addTo, Cond.code yX7_addTo cX7_addTo 3 none, Cond.methodLink RX7 225 yX2_keep]
def wsX7_deliver_r4 : List Cond := [Cond.instanceMethod yX2_keep, Cond.selects RX2 yX2_keep yX2_keep, Cond.initialized RX2, Cond.code yX2_keep cX2_keep 5 (some .int), Cond.fieldLink RX2 35 "TermGate$Memory" "count" "I", Cond.fieldLink RX2 11 "TermGate$Memory" "sentences" "[LTermGate$Sentence;", Cond.fieldLink RX2 17 "TermGate$Memory" "having" "[J", Cond.methodLink RX2 48 yX4_at, Cond.methodLink RX7 229 yX2_listDue, Cond.instanceMethod yX2_listDue, Cond.selects RX2 yX2_listDue yX2_listDue, Cond.code yX2_listDue cX2_listDue 4 none, Cond.fieldLink RX2 24 "TermGate$Memory" "dueList" "LTermGate$Line;", Cond.methodLink RX2 53 yX1_at, Cond.instanceMethod yX1_at, Cond.selects RX1 yX1_at yX1_at, Cond.initialized RX1, Cond.code yX1_at cX1_at 2 (some .int), Cond.fieldLink RX1 9 "TermGate$Line" "numbers" "[I", Cond.methodLink RX1 19 yX1_hasPlace, Cond.instanceMethod yX1_hasPlace, Cond.selects RX1 yX1_hasPlace yX1_hasPlace, Cond.code yX1_hasPlace cX1_hasPlace 2 (some .boolean), Cond.fieldLink RX1 15 "TermGate$Line" "count" "I"]
def wsX7_deliver_r5 : List Cond := [Cond.methodLink RX2 54 yX2_sentenceAt, Cond.instanceMethod yX2_sentenceAt, Cond.selects RX2 yX2_sentenceAt yX2_sentenceAt, Cond.code yX2_sentenceAt cX2_sentenceAt 2 (some (.object "TermGate$Sentence")), Cond.methodLink RX2 58 yX6_firstAstray, Cond.methodLink RX2 62 yX1_removeAt, Cond.instanceMethod yX1_removeAt, Cond.selects RX1 yX1_removeAt yX1_removeAt, Cond.code yX1_removeAt cX1_removeAt 3 none, Cond.methodLink RX2 66 yX1_holds, Cond.instanceMethod yX1_holds, Cond.selects RX1 yX1_holds yX1_holds, Cond.code yX1_holds cX1_holds 3 (some .boolean), Cond.methodLink RX1 23 yX1_at, Cond.methodLink RX2 70 yX1_addLast, Cond.instanceMethod yX1_addLast, Cond.selects RX1 yX1_addLast yX1_addLast, Cond.code yX1_addLast cX1_addLast 3 none]
def wsX7_deliver : List Cond := .code yX7_deliver cX7_deliver 4 (some .int) :: ((wsX7_deliver_r1 ++ (wsX7_deliver_r2 ++ (wsX7_deliver_r3 ++ (wsX7_deliver_r4 ++ wsX7_deliver_r5)))) ++ wsX70 ++ wsX20 ++ wsX30 ++ wsX60 ++ wsX40 ++ wsX50 ++ wsX10 ++ (vx_at0 RX7 77 "java/lang/IllegalStateException" ["java/lang/RuntimeException", "java/lang/Exception"]).filter goodWord ++ (vx_at0 RX7 71 "java/lang/IllegalArgumentException" ["java/lang/RuntimeException", "java/lang/Exception"]).filter goodWord)
def wsX7_why_r1 : List Cond := [Cond.fieldLink RX7 19 "TermGate" "rulings" "LTermGate$Rulings;", Cond.methodLink RX7 172 yX7_orderInHandOf, Cond.instanceMethod yX7_orderInHandOf, Cond.selects RX7 yX7_orderInHandOf yX7_orderInHandOf, Cond.initialized RX7, Cond.code yX7_orderInHandOf cX7_orderInHandOf 3 (some (.object "TermGate$Order")), Cond.classLink RX7 75 "java/lang/IllegalStateException", Cond.initialized "java/lang/IllegalStateException", Cond.methodLink RX7 138 yX7_refuseUnlessTranslator, Cond.static yX7_refuseUnlessTranslator, Cond.code yX7_refuseUnlessTranslator cX7_refuseUnlessTranslator 1 none, Cond.classLink RX7 69 "java/lang/IllegalArgumentException", Cond.initialized "java/lang/IllegalArgumentException", Cond.methodLink RX7 141 yX7_handOf, Cond.instanceMethod yX7_handOf, Cond.selects RX7 yX7_handOf yX7_handOf, Cond.code yX7_handOf cX7_handOf 2 (some (.object "TermGate$Order")), Cond.fieldLink RX7 36 "TermGate" "inHand" "[LTermGate$Order;", Cond.methodLink RX7 207 yX3_whyNot, Cond.instanceMethod yX3_whyNot, Cond.selects RX3 yX3_whyNot yX3_whyNot, Cond.initialized RX3, Cond.code yX3_whyNot cX3_whyNot 2 (some .int), Cond.fieldLink RX3 31 "TermGate$Order" "sentence" "LTermGate$Sentence;"]
def wsX7_why_r2 : List Cond := [Cond.methodLink RX3 35 yX6_firstOpen, Cond.instanceMethod yX6_firstOpen, Cond.selects RX6 yX6_firstOpen yX6_firstOpen, Cond.initialized RX6, Cond.code yX6_firstOpen cX6_firstOpen 2 (some .int), Cond.fieldLink RX6 18 "TermGate$Sentence" "became" "LTermGate$Row;", Cond.methodLink RX6 28 yX4_at, Cond.instanceMethod yX4_at, Cond.selects RX4 yX4_at yX4_at, Cond.initialized RX4, Cond.code yX4_at cX4_at 2 (some .int), Cond.fieldLink RX4 15 "TermGate$Row" "length" "I", Cond.fieldLink RX4 9 "TermGate$Row" "values" "[I", Cond.methodLink RX3 41 yX3_firstBroken, Cond.instanceMethod yX3_firstBroken, Cond.selects RX3 yX3_firstBroken yX3_firstBroken, Cond.code yX3_firstBroken cX3_firstBroken 2 (some .int), Cond.fieldLink RX3 27 "TermGate$Order" "isRush" "Z", Cond.methodLink RX3 45 yX6_firstAstray, Cond.instanceMethod yX6_firstAstray, Cond.selects RX6 yX6_firstAstray yX6_firstAstray, Cond.code yX6_firstAstray cX6_firstAstray 3 (some .int), Cond.fieldLink RX6 12 "TermGate$Sentence" "words" "LTermGate$Row;", Cond.methodLink RX6 46 yX6_isAstrayAt]
def wsX7_why_r3 : List Cond := [Cond.instanceMethod yX6_isAstrayAt, Cond.selects RX6 yX6_isAstrayAt yX6_isAstrayAt, Cond.code yX6_isAstrayAt cX6_isAstrayAt 4 (some .boolean), Cond.fieldLink RX6 21 "TermGate$Sentence" "client" "I", Cond.methodLink RX6 40 yX5_rulingOf, Cond.instanceMethod yX5_rulingOf, Cond.selects RX5 yX5_rulingOf yX5_rulingOf, Cond.initialized RX5, Cond.code yX5_rulingOf cX5_rulingOf 4 (some .int), Cond.fieldLink RX5 15 "TermGate$Rulings" "ruled" "[I", Cond.methodLink RX5 27 yX5_slotOf, Cond.static yX5_slotOf, Cond.code yX5_slotOf cX5_slotOf 3 (some .int)]
def wsX7_why : List Cond := .code yX7_why cX7_why 2 (some .int) :: ((wsX7_why_r1 ++ (wsX7_why_r2 ++ wsX7_why_r3)) ++ wsX70 ++ wsX30 ++ wsX60 ++ wsX40 ++ wsX50 ++ (vx_at0 RX7 77 "java/lang/IllegalStateException" ["java/lang/RuntimeException", "java/lang/Exception"]).filter goodWord ++ (vx_at0 RX7 71 "java/lang/IllegalArgumentException" ["java/lang/RuntimeException", "java/lang/Exception"]).filter goodWord)
def wsX7_wherefore_r1 : List Cond := [Cond.fieldLink RX7 19 "TermGate" "rulings" "LTermGate$Rulings;", Cond.methodLink RX7 172 yX7_orderInHandOf, Cond.instanceMethod yX7_orderInHandOf, Cond.selects RX7 yX7_orderInHandOf yX7_orderInHandOf, Cond.initialized RX7, Cond.code yX7_orderInHandOf cX7_orderInHandOf 3 (some (.object "TermGate$Order")), Cond.classLink RX7 75 "java/lang/IllegalStateException", Cond.initialized "java/lang/IllegalStateException", Cond.methodLink RX7 138 yX7_refuseUnlessTranslator, Cond.static yX7_refuseUnlessTranslator, Cond.code yX7_refuseUnlessTranslator cX7_refuseUnlessTranslator 1 none, Cond.classLink RX7 69 "java/lang/IllegalArgumentException", Cond.initialized "java/lang/IllegalArgumentException", Cond.methodLink RX7 141 yX7_handOf, Cond.instanceMethod yX7_handOf, Cond.selects RX7 yX7_handOf yX7_handOf, Cond.code yX7_handOf cX7_handOf 2 (some (.object "TermGate$Order")), Cond.fieldLink RX7 36 "TermGate" "inHand" "[LTermGate$Order;", Cond.methodLink RX7 233 yX3_whereNot, Cond.instanceMethod yX3_whereNot, Cond.selects RX3 yX3_whereNot yX3_whereNot, Cond.initialized RX3, Cond.code yX3_whereNot cX3_whereNot 3 (some .int), Cond.fieldLink RX3 31 "TermGate$Order" "sentence" "LTermGate$Sentence;"]
def wsX7_wherefore_r2 : List Cond := [Cond.methodLink RX3 35 yX6_firstOpen, Cond.instanceMethod yX6_firstOpen, Cond.selects RX6 yX6_firstOpen yX6_firstOpen, Cond.initialized RX6, Cond.code yX6_firstOpen cX6_firstOpen 2 (some .int), Cond.fieldLink RX6 18 "TermGate$Sentence" "became" "LTermGate$Row;", Cond.methodLink RX6 28 yX4_at, Cond.instanceMethod yX4_at, Cond.selects RX4 yX4_at yX4_at, Cond.initialized RX4, Cond.code yX4_at cX4_at 2 (some .int), Cond.fieldLink RX4 15 "TermGate$Row" "length" "I", Cond.fieldLink RX4 9 "TermGate$Row" "values" "[I", Cond.methodLink RX3 41 yX3_firstBroken, Cond.instanceMethod yX3_firstBroken, Cond.selects RX3 yX3_firstBroken yX3_firstBroken, Cond.code yX3_firstBroken cX3_firstBroken 2 (some .int), Cond.fieldLink RX3 27 "TermGate$Order" "isRush" "Z", Cond.methodLink RX3 45 yX6_firstAstray, Cond.instanceMethod yX6_firstAstray, Cond.selects RX6 yX6_firstAstray yX6_firstAstray, Cond.code yX6_firstAstray cX6_firstAstray 3 (some .int), Cond.fieldLink RX6 12 "TermGate$Sentence" "words" "LTermGate$Row;", Cond.methodLink RX6 46 yX6_isAstrayAt]
def wsX7_wherefore_r3 : List Cond := [Cond.instanceMethod yX6_isAstrayAt, Cond.selects RX6 yX6_isAstrayAt yX6_isAstrayAt, Cond.code yX6_isAstrayAt cX6_isAstrayAt 4 (some .boolean), Cond.fieldLink RX6 21 "TermGate$Sentence" "client" "I", Cond.methodLink RX6 40 yX5_rulingOf, Cond.instanceMethod yX5_rulingOf, Cond.selects RX5 yX5_rulingOf yX5_rulingOf, Cond.initialized RX5, Cond.code yX5_rulingOf cX5_rulingOf 4 (some .int), Cond.fieldLink RX5 15 "TermGate$Rulings" "ruled" "[I", Cond.methodLink RX5 27 yX5_slotOf, Cond.static yX5_slotOf, Cond.code yX5_slotOf cX5_slotOf 3 (some .int)]
def wsX7_wherefore : List Cond := .code yX7_wherefore cX7_wherefore 2 (some .int) :: ((wsX7_wherefore_r1 ++ (wsX7_wherefore_r2 ++ wsX7_wherefore_r3)) ++ wsX70 ++ wsX30 ++ wsX60 ++ wsX40 ++ wsX50 ++ (vx_at0 RX7 77 "java/lang/IllegalStateException" ["java/lang/RuntimeException", "java/lang/Exception"]).filter goodWord ++ (vx_at0 RX7 71 "java/lang/IllegalArgumentException" ["java/lang/RuntimeException", "java/lang/Exception"]).filter goodWord)
def wsX7_became_r1 : List Cond := [Cond.methodLink RX7 172 yX7_orderInHandOf, Cond.instanceMethod yX7_orderInHandOf, Cond.selects RX7 yX7_orderInHandOf yX7_orderInHandOf, Cond.initialized RX7, Cond.code yX7_orderInHandOf cX7_orderInHandOf 3 (some (.object "TermGate$Order")), Cond.classLink RX7 75 "java/lang/IllegalStateException", Cond.initialized "java/lang/IllegalStateException", Cond.methodLink RX7 138 yX7_refuseUnlessTranslator, Cond.static yX7_refuseUnlessTranslator, Cond.code yX7_refuseUnlessTranslator cX7_refuseUnlessTranslator 1 none, Cond.classLink RX7 69 "java/lang/IllegalArgumentException", Cond.initialized "java/lang/IllegalArgumentException", Cond.methodLink RX7 141 yX7_handOf, Cond.instanceMethod yX7_handOf, Cond.selects RX7 yX7_handOf yX7_handOf, Cond.code yX7_handOf cX7_handOf 2 (some (.object "TermGate$Order")), Cond.fieldLink RX7 36 "TermGate" "inHand" "[LTermGate$Order;", Cond.methodLink RX7 192 yX7_refuseUnlessPlace, Cond.static yX7_refuseUnlessPlace, Cond.code yX7_refuseUnlessPlace cX7_refuseUnlessPlace 2 none, Cond.classLink RX7 237 "java/lang/IndexOutOfBoundsException", Cond.initialized "java/lang/IndexOutOfBoundsException", Cond.methodLink RX7 276 yX4_has, Cond.instanceMethod yX4_has]
def wsX7_became_r2 : List Cond := [Cond.selects RX4 yX4_has yX4_has, Cond.initialized RX4, Cond.code yX4_has cX4_has 2 (some .boolean), Cond.fieldLink RX4 15 "TermGate$Row" "length" "I", Cond.fieldLink RX4 9 "TermGate$Row" "values" "[I", Cond.methodLink RX7 236 yX4_at, Cond.instanceMethod yX4_at, Cond.selects RX4 yX4_at yX4_at, Cond.code yX4_at cX4_at 2 (some .int)]
def wsX7_became : List Cond := .code yX7_became cX7_became 4 (some .int) :: ((wsX7_became_r1 ++ wsX7_became_r2) ++ wsX30 ++ wsX60 ++ wsX70 ++ wsX40 ++ (vx_at0 RX7 77 "java/lang/IllegalStateException" ["java/lang/RuntimeException", "java/lang/Exception"]).filter goodWord ++ (vx_at0 RX7 71 "java/lang/IllegalArgumentException" ["java/lang/RuntimeException", "java/lang/Exception"]).filter goodWord ++ (vx_at0 RX7 239 "java/lang/IndexOutOfBoundsException" ["java/lang/RuntimeException", "java/lang/Exception"]).filter goodWord)
def wsX7_match : List Cond := .code yX7_match cX7_match 2 (some .int) :: ([.methodLink RX7 172 yX7_orderInHandOf, .instanceMethod yX7_orderInHandOf, .selects RX7 yX7_orderInHandOf yX7_orderInHandOf, .initialized RX7, .code yX7_orderInHandOf cX7_orderInHandOf 3 (some (.object "TermGate$Order")), .classLink RX7 75 "java/lang/IllegalStateException", .initialized "java/lang/IllegalStateException", .methodLink RX7 138 yX7_refuseUnlessTranslator, .static yX7_refuseUnlessTranslator, .code yX7_refuseUnlessTranslator cX7_refuseUnlessTranslator 1 none, .classLink RX7 69 "java/lang/IllegalArgumentException", .initialized "java/lang/IllegalArgumentException", .methodLink RX7 141 yX7_handOf, .instanceMethod yX7_handOf, .selects RX7 yX7_handOf yX7_handOf, .code yX7_handOf cX7_handOf 2 (some (.object "TermGate$Order")), .fieldLink RX7 36 "TermGate" "inHand" "[LTermGate$Order;"] ++ wsX30 ++ wsX70 ++ (vx_at0 RX7 77 "java/lang/IllegalStateException" ["java/lang/RuntimeException", "java/lang/Exception"]).filter goodWord ++ (vx_at0 RX7 71 "java/lang/IllegalArgumentException" ["java/lang/RuntimeException", "java/lang/Exception"]).filter goodWord)
def wsX7_waiting : List Cond := .code yX7_waiting cX7_waiting 2 (some .int) :: ([.methodLink RX7 131 yX7_deskFor, .instanceMethod yX7_deskFor, .selects RX7 yX7_deskFor yX7_deskFor, .initialized RX7, .code yX7_deskFor cX7_deskFor 2 (some (.object "TermGate$Line")), .fieldLink RX7 42 "TermGate" "rushDesk" "LTermGate$Line;", .fieldLink RX7 46 "TermGate" "otherDesk" "LTermGate$Line;"] ++ wsX10 ++ wsX70)
def wsX7_orderAt : List Cond := .code yX7_orderAt cX7_orderAt 3 (some .int) :: ([.classLink RX7 237 "java/lang/IndexOutOfBoundsException", .initialized "java/lang/IndexOutOfBoundsException", .methodLink RX7 152 yX7_orderNumbered, .instanceMethod yX7_orderNumbered, .selects RX7 yX7_orderNumbered yX7_orderNumbered, .initialized RX7, .code yX7_orderNumbered cX7_orderNumbered 2 (some (.object "TermGate$Order")), .fieldLink RX7 32 "TermGate" "orders" "[LTermGate$Order;"] ++ wsX30 ++ wsX70 ++ (vx_at0 RX7 239 "java/lang/IndexOutOfBoundsException" ["java/lang/RuntimeException", "java/lang/Exception"]).filter goodWord)
def wsX7_refuseUnlessClientAndWord : List Cond := .code yX7_refuseUnlessClientAndWord cX7_refuseUnlessClientAndWord 2 none :: ([.classLink RX7 69 "java/lang/IllegalArgumentException", .initialized "java/lang/IllegalArgumentException", .methodLink RX7 104 yX7_refuseUnlessClient, .static yX7_refuseUnlessClient, .initialized RX7, .code yX7_refuseUnlessClient cX7_refuseUnlessClient 1 none] ++ (vx_at0 RX7 71 "java/lang/IllegalArgumentException" ["java/lang/RuntimeException", "java/lang/Exception"]).filter goodWord)
def wsX7_say_r1 : List Cond := [Cond.classLink RX7 69 "java/lang/IllegalArgumentException", Cond.initialized "java/lang/IllegalArgumentException", Cond.fieldLink RX7 19 "TermGate" "rulings" "LTermGate$Rulings;", Cond.fieldLink RX7 26 "TermGate" "memory" "LTermGate$Memory;", Cond.methodLink RX7 240 yX7_refuseUnlessClientAndWord, Cond.static yX7_refuseUnlessClientAndWord, Cond.initialized RX7, Cond.code yX7_refuseUnlessClientAndWord cX7_refuseUnlessClientAndWord 2 none, Cond.methodLink RX7 104 yX7_refuseUnlessClient, Cond.static yX7_refuseUnlessClient, Cond.code yX7_refuseUnlessClient cX7_refuseUnlessClient 1 none, Cond.methodLink RX7 243 yX5_slotOf, Cond.static yX5_slotOf, Cond.initialized RX5, Cond.code yX5_slotOf cX5_slotOf 3 (some .int), Cond.methodLink RX7 247 yX5_hear, Cond.instanceMethod yX5_hear, Cond.selects RX5 yX5_hear yX5_hear, Cond.code yX5_hear cX5_hear 7 none, Cond.fieldLink RX5 15 "TermGate$Rulings" "ruled" "[I", Cond.fieldLink RX5 18 "TermGate$Rulings" "soldThen" "[I", Cond.fieldLink RX5 9 "TermGate$Rulings" "said" "[I", Cond.methodLink RX5 31 yX5_agreedOn, Cond.instanceMethod yX5_agreedOn]
def wsX7_say_r2 : List Cond := [Cond.selects RX5 yX5_agreedOn yX5_agreedOn, Cond.code yX5_agreedOn cX5_agreedOn 5 (some .int), Cond.methodLink RX5 35 yX5_saidBy, Cond.instanceMethod yX5_saidBy, Cond.selects RX5 yX5_saidBy yX5_saidBy, Cond.code yX5_saidBy cX5_saidBy 4 (some .int), Cond.methodLink RX7 229 yX2_listDue, Cond.instanceMethod yX2_listDue, Cond.selects RX2 yX2_listDue yX2_listDue, Cond.initialized RX2, Cond.code yX2_listDue cX2_listDue 4 none, Cond.fieldLink RX2 24 "TermGate$Memory" "dueList" "LTermGate$Line;", Cond.fieldLink RX2 35 "TermGate$Memory" "count" "I", Cond.methodLink RX2 53 yX1_at, Cond.instanceMethod yX1_at, Cond.selects RX1 yX1_at yX1_at, Cond.initialized RX1, Cond.code yX1_at cX1_at 2 (some .int), Cond.fieldLink RX1 9 "TermGate$Line" "numbers" "[I", Cond.methodLink RX1 19 yX1_hasPlace, Cond.instanceMethod yX1_hasPlace, Cond.selects RX1 yX1_hasPlace yX1_hasPlace, Cond.code yX1_hasPlace cX1_hasPlace 2 (some .boolean), Cond.fieldLink RX1 15 "TermGate$Line" "count" "I"]
def wsX7_say_r3 : List Cond := [Cond.methodLink RX2 54 yX2_sentenceAt, Cond.instanceMethod yX2_sentenceAt, Cond.selects RX2 yX2_sentenceAt yX2_sentenceAt, Cond.code yX2_sentenceAt cX2_sentenceAt 2 (some (.object "TermGate$Sentence")), Cond.fieldLink RX2 11 "TermGate$Memory" "sentences" "[LTermGate$Sentence;", Cond.methodLink RX2 58 yX6_firstAstray, Cond.instanceMethod yX6_firstAstray, Cond.selects RX6 yX6_firstAstray yX6_firstAstray, Cond.initialized RX6, Cond.code yX6_firstAstray cX6_firstAstray 3 (some .int), Cond.fieldLink RX6 12 "TermGate$Sentence" "words" "LTermGate$Row;", Cond.methodLink RX6 46 yX6_isAstrayAt, Cond.instanceMethod yX6_isAstrayAt, Cond.selects RX6 yX6_isAstrayAt yX6_isAstrayAt, Cond.code yX6_isAstrayAt cX6_isAstrayAt 4 (some .boolean), Cond.fieldLink RX6 21 "TermGate$Sentence" "client" "I", Cond.fieldLink RX6 18 "TermGate$Sentence" "became" "LTermGate$Row;", Cond.methodLink RX6 28 yX4_at, Cond.instanceMethod yX4_at, Cond.selects RX4 yX4_at yX4_at, Cond.initialized RX4, Cond.code yX4_at cX4_at 2 (some .int), Cond.fieldLink RX4 15 "TermGate$Row" "length" "I", Cond.fieldLink RX4 9 "TermGate$Row" "values" "[I"]
def wsX7_say_r4 : List Cond := [Cond.methodLink RX6 40 yX5_rulingOf, Cond.instanceMethod yX5_rulingOf, Cond.selects RX5 yX5_rulingOf yX5_rulingOf, Cond.code yX5_rulingOf cX5_rulingOf 4 (some .int), Cond.methodLink RX5 27 yX5_slotOf, Cond.methodLink RX2 62 yX1_removeAt, Cond.instanceMethod yX1_removeAt, Cond.selects RX1 yX1_removeAt yX1_removeAt, Cond.code yX1_removeAt cX1_removeAt 3 none, Cond.methodLink RX2 66 yX1_holds, Cond.instanceMethod yX1_holds, Cond.selects RX1 yX1_holds yX1_holds, Cond.code yX1_holds cX1_holds 3 (some .boolean), Cond.methodLink RX1 23 yX1_at, Cond.methodLink RX2 70 yX1_addLast, Cond.instanceMethod yX1_addLast, Cond.selects RX1 yX1_addLast yX1_addLast, Cond.code yX1_addLast cX1_addLast 3 none]
def wsX7_say : List Cond := .code yX7_say cX7_say 5 (some .int) :: ((wsX7_say_r1 ++ (wsX7_say_r2 ++ (wsX7_say_r3 ++ wsX7_say_r4))) ++ wsX70 ++ wsX20 ++ wsX10 ++ wsX50 ++ wsX60 ++ wsX40 ++ (vx_at0 RX7 71 "java/lang/IllegalArgumentException" ["java/lang/RuntimeException", "java/lang/Exception"]).filter goodWord)
def wsX7_ruling : List Cond := .code yX7_ruling cX7_ruling 3 (some .int) :: ([.fieldLink RX7 19 "TermGate" "rulings" "LTermGate$Rulings;", .methodLink RX7 240 yX7_refuseUnlessClientAndWord, .static yX7_refuseUnlessClientAndWord, .initialized RX7, .code yX7_refuseUnlessClientAndWord cX7_refuseUnlessClientAndWord 2 none, .classLink RX7 69 "java/lang/IllegalArgumentException", .initialized "java/lang/IllegalArgumentException", .methodLink RX7 104 yX7_refuseUnlessClient, .static yX7_refuseUnlessClient, .code yX7_refuseUnlessClient cX7_refuseUnlessClient 1 none, .methodLink RX7 254 yX5_rulingOf, .instanceMethod yX5_rulingOf, .selects RX5 yX5_rulingOf yX5_rulingOf, .initialized RX5, .code yX5_rulingOf cX5_rulingOf 4 (some .int), .fieldLink RX5 15 "TermGate$Rulings" "ruled" "[I", .methodLink RX5 27 yX5_slotOf, .static yX5_slotOf, .code yX5_slotOf cX5_slotOf 3 (some .int)] ++ wsX70 ++ wsX50 ++ (vx_at0 RX7 71 "java/lang/IllegalArgumentException" ["java/lang/RuntimeException", "java/lang/Exception"]).filter goodWord)
def wsX7_sold : List Cond := .code yX7_sold cX7_sold 1 (some .int) :: ([.fieldLink RX7 26 "TermGate" "memory" "LTermGate$Memory;"] ++ wsX70 ++ wsX20)
def wsX7_clientOf : List Cond := .code yX7_clientOf cX7_clientOf 2 (some .int) :: ([.methodLink RX7 82 yX7_soldSentence, .instanceMethod yX7_soldSentence, .selects RX7 yX7_soldSentence yX7_soldSentence, .initialized RX7, .code yX7_soldSentence cX7_soldSentence 3 (some (.object "TermGate$Sentence")), .classLink RX7 237 "java/lang/IndexOutOfBoundsException", .initialized "java/lang/IndexOutOfBoundsException", .fieldLink RX7 26 "TermGate" "memory" "LTermGate$Memory;", .methodLink RX7 279 yX2_sentenceAt, .instanceMethod yX2_sentenceAt, .selects RX2 yX2_sentenceAt yX2_sentenceAt, .initialized RX2, .code yX2_sentenceAt cX2_sentenceAt 2 (some (.object "TermGate$Sentence")), .fieldLink RX2 11 "TermGate$Memory" "sentences" "[LTermGate$Sentence;"] ++ wsX60 ++ wsX70 ++ wsX20 ++ (vx_at0 RX7 239 "java/lang/IndexOutOfBoundsException" ["java/lang/RuntimeException", "java/lang/Exception"]).filter goodWord)
def wsX7_wordOf_r1 : List Cond := [Cond.methodLink RX7 82 yX7_soldSentence, Cond.instanceMethod yX7_soldSentence, Cond.selects RX7 yX7_soldSentence yX7_soldSentence, Cond.initialized RX7, Cond.code yX7_soldSentence cX7_soldSentence 3 (some (.object "TermGate$Sentence")), Cond.classLink RX7 237 "java/lang/IndexOutOfBoundsException", Cond.initialized "java/lang/IndexOutOfBoundsException", Cond.fieldLink RX7 26 "TermGate" "memory" "LTermGate$Memory;", Cond.methodLink RX7 279 yX2_sentenceAt, Cond.instanceMethod yX2_sentenceAt, Cond.selects RX2 yX2_sentenceAt yX2_sentenceAt, Cond.initialized RX2, Cond.code yX2_sentenceAt cX2_sentenceAt 2 (some (.object "TermGate$Sentence")), Cond.fieldLink RX2 11 "TermGate$Memory" "sentences" "[LTermGate$Sentence;", Cond.methodLink RX7 192 yX7_refuseUnlessPlace, Cond.static yX7_refuseUnlessPlace, Cond.code yX7_refuseUnlessPlace cX7_refuseUnlessPlace 2 none, Cond.methodLink RX7 276 yX4_has, Cond.instanceMethod yX4_has, Cond.selects RX4 yX4_has yX4_has, Cond.initialized RX4, Cond.code yX4_has cX4_has 2 (some .boolean), Cond.fieldLink RX4 15 "TermGate$Row" "length" "I", Cond.fieldLink RX4 9 "TermGate$Row" "values" "[I"]
def wsX7_wordOf_r2 : List Cond := [Cond.methodLink RX7 236 yX4_at, Cond.instanceMethod yX4_at, Cond.selects RX4 yX4_at yX4_at, Cond.code yX4_at cX4_at 2 (some .int)]
def wsX7_wordOf : List Cond := .code yX7_wordOf cX7_wordOf 4 (some .int) :: ((wsX7_wordOf_r1 ++ wsX7_wordOf_r2) ++ wsX60 ++ wsX70 ++ wsX20 ++ wsX40 ++ (vx_at0 RX7 239 "java/lang/IndexOutOfBoundsException" ["java/lang/RuntimeException", "java/lang/Exception"]).filter goodWord)
def wsX7_becameOf_r1 : List Cond := [Cond.methodLink RX7 82 yX7_soldSentence, Cond.instanceMethod yX7_soldSentence, Cond.selects RX7 yX7_soldSentence yX7_soldSentence, Cond.initialized RX7, Cond.code yX7_soldSentence cX7_soldSentence 3 (some (.object "TermGate$Sentence")), Cond.classLink RX7 237 "java/lang/IndexOutOfBoundsException", Cond.initialized "java/lang/IndexOutOfBoundsException", Cond.fieldLink RX7 26 "TermGate" "memory" "LTermGate$Memory;", Cond.methodLink RX7 279 yX2_sentenceAt, Cond.instanceMethod yX2_sentenceAt, Cond.selects RX2 yX2_sentenceAt yX2_sentenceAt, Cond.initialized RX2, Cond.code yX2_sentenceAt cX2_sentenceAt 2 (some (.object "TermGate$Sentence")), Cond.fieldLink RX2 11 "TermGate$Memory" "sentences" "[LTermGate$Sentence;", Cond.methodLink RX7 192 yX7_refuseUnlessPlace, Cond.static yX7_refuseUnlessPlace, Cond.code yX7_refuseUnlessPlace cX7_refuseUnlessPlace 2 none, Cond.methodLink RX7 276 yX4_has, Cond.instanceMethod yX4_has, Cond.selects RX4 yX4_has yX4_has, Cond.initialized RX4, Cond.code yX4_has cX4_has 2 (some .boolean), Cond.fieldLink RX4 15 "TermGate$Row" "length" "I", Cond.fieldLink RX4 9 "TermGate$Row" "values" "[I"]
def wsX7_becameOf_r2 : List Cond := [Cond.methodLink RX7 236 yX4_at, Cond.instanceMethod yX4_at, Cond.selects RX4 yX4_at yX4_at, Cond.code yX4_at cX4_at 2 (some .int)]
def wsX7_becameOf : List Cond := .code yX7_becameOf cX7_becameOf 4 (some .int) :: ((wsX7_becameOf_r1 ++ wsX7_becameOf_r2) ++ wsX60 ++ wsX70 ++ wsX20 ++ wsX40 ++ (vx_at0 RX7 239 "java/lang/IndexOutOfBoundsException" ["java/lang/RuntimeException", "java/lang/Exception"]).filter goodWord)
def wsX7_isDue_r1 : List Cond := [Cond.fieldLink RX7 19 "TermGate" "rulings" "LTermGate$Rulings;", Cond.methodLink RX7 82 yX7_soldSentence, Cond.instanceMethod yX7_soldSentence, Cond.selects RX7 yX7_soldSentence yX7_soldSentence, Cond.initialized RX7, Cond.code yX7_soldSentence cX7_soldSentence 3 (some (.object "TermGate$Sentence")), Cond.classLink RX7 237 "java/lang/IndexOutOfBoundsException", Cond.initialized "java/lang/IndexOutOfBoundsException", Cond.fieldLink RX7 26 "TermGate" "memory" "LTermGate$Memory;", Cond.methodLink RX7 279 yX2_sentenceAt, Cond.instanceMethod yX2_sentenceAt, Cond.selects RX2 yX2_sentenceAt yX2_sentenceAt, Cond.initialized RX2, Cond.code yX2_sentenceAt cX2_sentenceAt 2 (some (.object "TermGate$Sentence")), Cond.fieldLink RX2 11 "TermGate$Memory" "sentences" "[LTermGate$Sentence;", Cond.methodLink RX7 257 yX6_firstAstray, Cond.instanceMethod yX6_firstAstray, Cond.selects RX6 yX6_firstAstray yX6_firstAstray, Cond.initialized RX6, Cond.code yX6_firstAstray cX6_firstAstray 3 (some .int), Cond.fieldLink RX6 12 "TermGate$Sentence" "words" "LTermGate$Row;", Cond.methodLink RX6 46 yX6_isAstrayAt, Cond.instanceMethod yX6_isAstrayAt, Cond.selects RX6 yX6_isAstrayAt yX6_isAstrayAt]
def wsX7_isDue_r2 : List Cond := [Cond.code yX6_isAstrayAt cX6_isAstrayAt 4 (some .boolean), Cond.fieldLink RX6 21 "TermGate$Sentence" "client" "I", Cond.fieldLink RX6 18 "TermGate$Sentence" "became" "LTermGate$Row;", Cond.methodLink RX6 28 yX4_at, Cond.instanceMethod yX4_at, Cond.selects RX4 yX4_at yX4_at, Cond.initialized RX4, Cond.code yX4_at cX4_at 2 (some .int), Cond.fieldLink RX4 15 "TermGate$Row" "length" "I", Cond.fieldLink RX4 9 "TermGate$Row" "values" "[I", Cond.methodLink RX6 40 yX5_rulingOf, Cond.instanceMethod yX5_rulingOf, Cond.selects RX5 yX5_rulingOf yX5_rulingOf, Cond.initialized RX5, Cond.code yX5_rulingOf cX5_rulingOf 4 (some .int), Cond.fieldLink RX5 15 "TermGate$Rulings" "ruled" "[I", Cond.methodLink RX5 27 yX5_slotOf, Cond.static yX5_slotOf, Cond.code yX5_slotOf cX5_slotOf 3 (some .int)]
def wsX7_isDue : List Cond := .code yX7_isDue cX7_isDue 2 (some .boolean) :: ((wsX7_isDue_r1 ++ wsX7_isDue_r2) ++ wsX70 ++ wsX20 ++ wsX60 ++ wsX40 ++ wsX50 ++ (vx_at0 RX7 239 "java/lang/IndexOutOfBoundsException" ["java/lang/RuntimeException", "java/lang/Exception"]).filter goodWord)
def wsX7_due : List Cond := .code yX7_due cX7_due 1 (some .int) :: ([.fieldLink RX7 26 "TermGate" "memory" "LTermGate$Memory;"] ++ wsX70 ++ wsX20 ++ wsX10)
def wsX7_dueAt : List Cond := .code yX7_dueAt cX7_dueAt 2 (some .int) :: ([.classLink RX7 237 "java/lang/IndexOutOfBoundsException", .initialized "java/lang/IndexOutOfBoundsException", .fieldLink RX7 26 "TermGate" "memory" "LTermGate$Memory;", .methodLink RX7 260 yX1_hasPlace, .instanceMethod yX1_hasPlace, .selects RX1 yX1_hasPlace yX1_hasPlace, .initialized RX1, .code yX1_hasPlace cX1_hasPlace 2 (some .boolean), .fieldLink RX1 15 "TermGate$Line" "count" "I", .fieldLink RX1 9 "TermGate$Line" "numbers" "[I", .methodLink RX7 148 yX1_at, .instanceMethod yX1_at, .selects RX1 yX1_at yX1_at, .code yX1_at cX1_at 2 (some .int), .methodLink RX1 19 yX1_hasPlace] ++ wsX70 ++ wsX20 ++ wsX10 ++ (vx_at0 RX7 239 "java/lang/IndexOutOfBoundsException" ["java/lang/RuntimeException", "java/lang/Exception"]).filter goodWord)
def wsX7_mendingPrice : List Cond := .code yX7_mendingPrice cX7_mendingPrice 4 (some .int) :: ([.fieldLink RX7 19 "TermGate" "rulings" "LTermGate$Rulings;", .methodLink RX7 289 yX5_soldAtChange, .instanceMethod yX5_soldAtChange, .selects RX5 yX5_soldAtChange yX5_soldAtChange, .initialized RX5, .code yX5_soldAtChange cX5_soldAtChange 4 (some .int), .fieldLink RX5 18 "TermGate$Rulings" "soldThen" "[I", .methodLink RX5 27 yX5_slotOf, .static yX5_slotOf, .code yX5_slotOf cX5_slotOf 3 (some .int)] ++ wsX70 ++ wsX50)
def wsX7_mend_r1 : List Cond := [Cond.classLink RX7 75 "java/lang/IllegalStateException", Cond.initialized "java/lang/IllegalStateException", Cond.fieldLink RX7 19 "TermGate" "rulings" "LTermGate$Rulings;", Cond.fieldLink RX7 49 "TermGate" "paidByClient" "[I", Cond.fieldLink RX7 26 "TermGate" "memory" "LTermGate$Memory;", Cond.methodLink RX7 82 yX7_soldSentence, Cond.instanceMethod yX7_soldSentence, Cond.selects RX7 yX7_soldSentence yX7_soldSentence, Cond.initialized RX7, Cond.code yX7_soldSentence cX7_soldSentence 3 (some (.object "TermGate$Sentence")), Cond.classLink RX7 237 "java/lang/IndexOutOfBoundsException", Cond.initialized "java/lang/IndexOutOfBoundsException", Cond.methodLink RX7 279 yX2_sentenceAt, Cond.instanceMethod yX2_sentenceAt, Cond.selects RX2 yX2_sentenceAt yX2_sentenceAt, Cond.initialized RX2, Cond.code yX2_sentenceAt cX2_sentenceAt 2 (some (.object "TermGate$Sentence")), Cond.fieldLink RX2 11 "TermGate$Memory" "sentences" "[LTermGate$Sentence;", Cond.methodLink RX7 257 yX6_firstAstray, Cond.instanceMethod yX6_firstAstray, Cond.selects RX6 yX6_firstAstray yX6_firstAstray, Cond.initialized RX6, Cond.code yX6_firstAstray cX6_firstAstray 3 (some .int), Cond.fieldLink RX6 12 "TermGate$Sentence" "words" "LTermGate$Row;"]
def wsX7_mend_r2 : List Cond := [Cond.methodLink RX6 46 yX6_isAstrayAt, Cond.instanceMethod yX6_isAstrayAt, Cond.selects RX6 yX6_isAstrayAt yX6_isAstrayAt, Cond.code yX6_isAstrayAt cX6_isAstrayAt 4 (some .boolean), Cond.fieldLink RX6 21 "TermGate$Sentence" "client" "I", Cond.fieldLink RX6 18 "TermGate$Sentence" "became" "LTermGate$Row;", Cond.methodLink RX6 28 yX4_at, Cond.instanceMethod yX4_at, Cond.selects RX4 yX4_at yX4_at, Cond.initialized RX4, Cond.code yX4_at cX4_at 2 (some .int), Cond.fieldLink RX4 15 "TermGate$Row" "length" "I", Cond.fieldLink RX4 9 "TermGate$Row" "values" "[I", Cond.methodLink RX6 40 yX5_rulingOf, Cond.instanceMethod yX5_rulingOf, Cond.selects RX5 yX5_rulingOf yX5_rulingOf, Cond.initialized RX5, Cond.code yX5_rulingOf cX5_rulingOf 4 (some .int), Cond.fieldLink RX5 15 "TermGate$Rulings" "ruled" "[I", Cond.methodLink RX5 27 yX5_slotOf, Cond.static yX5_slotOf, Cond.code yX5_slotOf cX5_slotOf 3 (some .int), Cond.methodLink RX7 264 yX6_isAstrayAt, Cond.methodLink RX7 236 yX4_at]
def wsX7_mend_r3 : List Cond := [Cond.methodLink RX7 268 yX7_mendingPrice, Cond.instanceMethod yX7_mendingPrice, Cond.selects RX7 yX7_mendingPrice yX7_mendingPrice, Cond.code yX7_mendingPrice cX7_mendingPrice 4 (some .int), Cond.methodLink RX7 289 yX5_soldAtChange, Cond.instanceMethod yX5_soldAtChange, Cond.selects RX5 yX5_soldAtChange yX5_soldAtChange, Cond.code yX5_soldAtChange cX5_soldAtChange 4 (some .int), Cond.fieldLink RX5 18 "TermGate$Rulings" "soldThen" "[I", Cond.methodLink RX7 218 yX7_addTo, Cond.static yX7_addTo, Cond.code yX7_addTo cX7_addTo 3 none, Cond.methodLink RX7 254 yX5_rulingOf, Cond.methodLink RX7 199 yX4_put, Cond.instanceMethod yX4_put, Cond.selects RX4 yX4_put yX4_put, Cond.code yX4_put cX4_put 3 none, Cond.methodLink RX4 19 yX4_has, Cond.instanceMethod yX4_has, Cond.selects RX4 yX4_has yX4_has, Cond.code yX4_has cX4_has 2 (some .boolean), Cond.methodLink RX7 229 yX2_listDue, Cond.instanceMethod yX2_listDue, Cond.selects RX2 yX2_listDue yX2_listDue]
def wsX7_mend_r4 : List Cond := [Cond.code yX2_listDue cX2_listDue 4 none, Cond.fieldLink RX2 24 "TermGate$Memory" "dueList" "LTermGate$Line;", Cond.fieldLink RX2 35 "TermGate$Memory" "count" "I", Cond.methodLink RX2 53 yX1_at, Cond.instanceMethod yX1_at, Cond.selects RX1 yX1_at yX1_at, Cond.initialized RX1, Cond.code yX1_at cX1_at 2 (some .int), Cond.fieldLink RX1 9 "TermGate$Line" "numbers" "[I", Cond.methodLink RX1 19 yX1_hasPlace, Cond.instanceMethod yX1_hasPlace, Cond.selects RX1 yX1_hasPlace yX1_hasPlace, Cond.code yX1_hasPlace cX1_hasPlace 2 (some .boolean), Cond.fieldLink RX1 15 "TermGate$Line" "count" "I", Cond.methodLink RX2 54 yX2_sentenceAt, Cond.methodLink RX2 58 yX6_firstAstray, Cond.methodLink RX2 62 yX1_removeAt, Cond.instanceMethod yX1_removeAt, Cond.selects RX1 yX1_removeAt yX1_removeAt, Cond.code yX1_removeAt cX1_removeAt 3 none, Cond.methodLink RX2 66 yX1_holds, Cond.instanceMethod yX1_holds, Cond.selects RX1 yX1_holds yX1_holds, Cond.code yX1_holds cX1_holds 3 (some .boolean)]
def wsX7_mend_r5 : List Cond := [Cond.methodLink RX1 23 yX1_at, Cond.methodLink RX2 70 yX1_addLast, Cond.instanceMethod yX1_addLast, Cond.selects RX1 yX1_addLast yX1_addLast, Cond.code yX1_addLast cX1_addLast 3 none]
def wsX7_mend : List Cond := .code yX7_mend cX7_mend 5 (some .int) :: ((wsX7_mend_r1 ++ (wsX7_mend_r2 ++ (wsX7_mend_r3 ++ (wsX7_mend_r4 ++ wsX7_mend_r5)))) ++ wsX70 ++ wsX60 ++ wsX40 ++ wsX20 ++ wsX50 ++ wsX10 ++ (vx_at0 RX7 77 "java/lang/IllegalStateException" ["java/lang/RuntimeException", "java/lang/Exception"]).filter goodWord ++ (vx_at0 RX7 239 "java/lang/IndexOutOfBoundsException" ["java/lang/RuntimeException", "java/lang/Exception"]).filter goodWord)
def wsX7_setPrices : List Cond := .code yX7_setPrices cX7_setPrices 4 none :: ([.classLink RX7 69 "java/lang/IllegalArgumentException", .initialized "java/lang/IllegalArgumentException", .fieldLink RX7 60 "TermGate" "leastLikeness" "I", .fieldLink RX7 63 "TermGate" "pricePerWord" "I", .fieldLink RX7 66 "TermGate" "ratePerWord" "I"] ++ wsX70 ++ (vx_at0 RX7 71 "java/lang/IllegalArgumentException" ["java/lang/RuntimeException", "java/lang/Exception"]).filter goodWord)
def wsX7_paid : List Cond := .code yX7_paid cX7_paid 2 (some .int) :: ([.classLink RX7 69 "java/lang/IllegalArgumentException", .initialized "java/lang/IllegalArgumentException", .fieldLink RX7 49 "TermGate" "paidByClient" "[I"] ++ wsX70 ++ (vx_at0 RX7 71 "java/lang/IllegalArgumentException" ["java/lang/RuntimeException", "java/lang/Exception"]).filter goodWord)
def wsX7_earned : List Cond := .code yX7_earned cX7_earned 2 (some .int) :: ([.classLink RX7 69 "java/lang/IllegalArgumentException", .initialized "java/lang/IllegalArgumentException", .fieldLink RX7 53 "TermGate" "earnedByTranslator" "[I"] ++ wsX70 ++ (vx_at0 RX7 71 "java/lang/IllegalArgumentException" ["java/lang/RuntimeException", "java/lang/Exception"]).filter goodWord)
def wsX7_sumOf : List Cond := .code yX7_sumOf cX7_sumOf 6 (some .int) :: ([])
def wsX7_purse : List Cond := .code yX7_purse cX7_purse 1 (some .int) :: ([.fieldLink RX7 49 "TermGate" "paidByClient" "[I", .fieldLink RX7 53 "TermGate" "earnedByTranslator" "[I", .methodLink RX7 272 yX7_sumOf, .static yX7_sumOf, .initialized RX7, .code yX7_sumOf cX7_sumOf 6 (some .int)] ++ wsX70)
def wsX8_init_r1 : List Cond := [Cond.methodLink RX8 1 objectInit, Cond.instanceMethod objectInit, Cond.code objectInit ⟨#[0xb1]⟩ 1 none, Cond.arrayClass .int, Cond.fieldLink RX8 7 "TermGateModel" "draft" "[I", Cond.fieldLink RX8 13 "TermGateModel" "least" "I", Cond.fieldLink RX8 17 "TermGateModel" "price" "I", Cond.fieldLink RX8 20 "TermGateModel" "rate" "I", Cond.fieldLink RX8 23 "TermGateModel" "clients" "[I", Cond.fieldLink RX8 26 "TermGateModel" "sizes" "[I", Cond.fieldLink RX8 29 "TermGateModel" "words" "[I", Cond.fieldLink RX8 32 "TermGateModel" "became" "[I", Cond.fieldLink RX8 35 "TermGateModel" "soldAt" "[I", Cond.fieldLink RX8 38 "TermGateModel" "orderClients" "[I", Cond.fieldLink RX8 41 "TermGateModel" "orderSizes" "[I", Cond.fieldLink RX8 44 "TermGateModel" "orderWords" "[I", Cond.arrayClass .boolean, Cond.fieldLink RX8 47 "TermGateModel" "isRush" "[Z", Cond.fieldLink RX8 51 "TermGateModel" "holders" "[I", Cond.fieldLink RX8 54 "TermGateModel" "turns" "[I", Cond.fieldLink RX8 57 "TermGateModel" "matches" "[I", Cond.fieldLink RX8 60 "TermGateModel" "become" "[I", Cond.fieldLink RX8 63 "TermGateModel" "costs" "[I", Cond.fieldLink RX8 66 "TermGateModel" "pays" "[I"]
def wsX8_init_r2 : List Cond := [Cond.fieldLink RX8 69 "TermGateModel" "says" "[I", Cond.fieldLink RX8 72 "TermGateModel" "ruledAt" "[I", Cond.fieldLink RX8 75 "TermGateModel" "listed" "[I", Cond.fieldLink RX8 78 "TermGateModel" "paid" "[I", Cond.fieldLink RX8 81 "TermGateModel" "earned" "[I", Cond.fieldLink RX8 84 "TermGateModel" "row" "[I", Cond.fieldLink RX8 87 "TermGateModel" "edits" "[I"]
def wsX8_init : List Cond := .code yX8_init cX8_init 2 none :: ((wsX8_init_r1 ++ wsX8_init_r2) ++ wsX80)
def wsX8_thrown : List Cond := .code yX8_thrown cX8_thrown 1 (some .int) :: ([.fieldLink RX8 90 "TermGateModel" "thrown" "I"] ++ wsX80)
def wsX8_holds : List Cond := .code yX8_holds cX8_holds 2 (some .boolean) :: ([.fieldLink RX8 90 "TermGateModel" "thrown" "I"] ++ wsX80)
def wsX8_isIn : List Cond := .code yX8_isIn cX8_isIn 2 (some .boolean) :: ([])
def wsX8_at : List Cond := .code yX8_at cX8_at 2 (some .int) :: ([])
def wsX8_rulingOf : List Cond := .code yX8_rulingOf cX8_rulingOf 6 (some .int) :: ([.fieldLink RX8 69 "TermGateModel" "says" "[I", .methodLink RX8 93 yX8_at, .static yX8_at, .initialized RX8, .code yX8_at cX8_at 2 (some .int)] ++ wsX80)
def wsX8_isAgainst : List Cond := .code yX8_isAgainst cX8_isAgainst 5 (some .boolean) :: ([.methodLink RX8 97 yX8_rulingOf, .instanceMethod yX8_rulingOf, .selects RX8 yX8_rulingOf yX8_rulingOf, .initialized RX8, .code yX8_rulingOf cX8_rulingOf 6 (some .int), .fieldLink RX8 69 "TermGateModel" "says" "[I", .methodLink RX8 93 yX8_at, .static yX8_at, .code yX8_at cX8_at 2 (some .int)] ++ wsX80)
def wsX8_isDueNow : List Cond := .code yX8_isDueNow cX8_isDueNow 4 (some .boolean) :: ([.fieldLink RX8 26 "TermGateModel" "sizes" "[I", .fieldLink RX8 23 "TermGateModel" "clients" "[I", .fieldLink RX8 29 "TermGateModel" "words" "[I", .fieldLink RX8 32 "TermGateModel" "became" "[I", .methodLink RX8 100 yX8_isAgainst, .instanceMethod yX8_isAgainst, .selects RX8 yX8_isAgainst yX8_isAgainst, .initialized RX8, .code yX8_isAgainst cX8_isAgainst 5 (some .boolean), .methodLink RX8 97 yX8_rulingOf, .instanceMethod yX8_rulingOf, .selects RX8 yX8_rulingOf yX8_rulingOf, .code yX8_rulingOf cX8_rulingOf 6 (some .int), .fieldLink RX8 69 "TermGateModel" "says" "[I", .methodLink RX8 93 yX8_at, .static yX8_at, .code yX8_at cX8_at 2 (some .int)] ++ wsX80)
def wsX8_lists : List Cond := .code yX8_lists cX8_lists 3 none :: ([.fieldLink RX8 104 "TermGateModel" "sold" "I", .fieldLink RX8 75 "TermGateModel" "listed" "[I", .fieldLink RX8 111 "TermGateModel" "listings" "I", .methodLink RX8 107 yX8_isDueNow, .instanceMethod yX8_isDueNow, .selects RX8 yX8_isDueNow yX8_isDueNow, .initialized RX8, .code yX8_isDueNow cX8_isDueNow 4 (some .boolean), .fieldLink RX8 26 "TermGateModel" "sizes" "[I", .fieldLink RX8 23 "TermGateModel" "clients" "[I", .fieldLink RX8 29 "TermGateModel" "words" "[I", .fieldLink RX8 32 "TermGateModel" "became" "[I", .methodLink RX8 100 yX8_isAgainst, .instanceMethod yX8_isAgainst, .selects RX8 yX8_isAgainst yX8_isAgainst, .code yX8_isAgainst cX8_isAgainst 5 (some .boolean), .methodLink RX8 97 yX8_rulingOf, .instanceMethod yX8_rulingOf, .selects RX8 yX8_rulingOf yX8_rulingOf, .code yX8_rulingOf cX8_rulingOf 6 (some .int), .fieldLink RX8 69 "TermGateModel" "says" "[I", .methodLink RX8 93 yX8_at, .static yX8_at, .code yX8_at cX8_at 2 (some .int)] ++ wsX80)
def wsX8_dueNow : List Cond := .code yX8_dueNow cX8_dueNow 3 (some .int) :: ([.fieldLink RX8 104 "TermGateModel" "sold" "I", .fieldLink RX8 75 "TermGateModel" "listed" "[I"] ++ wsX80)
def wsX8_say_r1 : List Cond := [Cond.fieldLink RX8 69 "TermGateModel" "says" "[I", Cond.fieldLink RX8 121 "TermGateModel" "moment" "I", Cond.fieldLink RX8 72 "TermGateModel" "ruledAt" "[I", Cond.methodLink RX8 114 yX8_isIn, Cond.static yX8_isIn, Cond.initialized RX8, Cond.code yX8_isIn cX8_isIn 2 (some .boolean), Cond.methodLink RX8 118 yX8_holds, Cond.instanceMethod yX8_holds, Cond.selects RX8 yX8_holds yX8_holds, Cond.code yX8_holds cX8_holds 2 (some .boolean), Cond.fieldLink RX8 90 "TermGateModel" "thrown" "I", Cond.methodLink RX8 97 yX8_rulingOf, Cond.instanceMethod yX8_rulingOf, Cond.selects RX8 yX8_rulingOf yX8_rulingOf, Cond.code yX8_rulingOf cX8_rulingOf 6 (some .int), Cond.methodLink RX8 93 yX8_at, Cond.static yX8_at, Cond.code yX8_at cX8_at 2 (some .int), Cond.methodLink RX8 124 yX8_lists, Cond.instanceMethod yX8_lists, Cond.selects RX8 yX8_lists yX8_lists, Cond.code yX8_lists cX8_lists 3 none, Cond.fieldLink RX8 104 "TermGateModel" "sold" "I"]
def wsX8_say_r2 : List Cond := [Cond.fieldLink RX8 75 "TermGateModel" "listed" "[I", Cond.fieldLink RX8 111 "TermGateModel" "listings" "I", Cond.methodLink RX8 107 yX8_isDueNow, Cond.instanceMethod yX8_isDueNow, Cond.selects RX8 yX8_isDueNow yX8_isDueNow, Cond.code yX8_isDueNow cX8_isDueNow 4 (some .boolean), Cond.fieldLink RX8 26 "TermGateModel" "sizes" "[I", Cond.fieldLink RX8 23 "TermGateModel" "clients" "[I", Cond.fieldLink RX8 29 "TermGateModel" "words" "[I", Cond.fieldLink RX8 32 "TermGateModel" "became" "[I", Cond.methodLink RX8 100 yX8_isAgainst, Cond.instanceMethod yX8_isAgainst, Cond.selects RX8 yX8_isAgainst yX8_isAgainst, Cond.code yX8_isAgainst cX8_isAgainst 5 (some .boolean), Cond.methodLink RX8 127 yX8_dueNow, Cond.instanceMethod yX8_dueNow, Cond.selects RX8 yX8_dueNow yX8_dueNow, Cond.code yX8_dueNow cX8_dueNow 3 (some .int)]
def wsX8_say : List Cond := .code yX8_say cX8_say 7 (some .int) :: ((wsX8_say_r1 ++ wsX8_say_r2) ++ wsX80)
def wsX8_ruling : List Cond := .code yX8_ruling cX8_ruling 3 (some .int) :: ([.methodLink RX8 114 yX8_isIn, .static yX8_isIn, .initialized RX8, .code yX8_isIn cX8_isIn 2 (some .boolean), .methodLink RX8 118 yX8_holds, .instanceMethod yX8_holds, .selects RX8 yX8_holds yX8_holds, .code yX8_holds cX8_holds 2 (some .boolean), .fieldLink RX8 90 "TermGateModel" "thrown" "I", .methodLink RX8 97 yX8_rulingOf, .instanceMethod yX8_rulingOf, .selects RX8 yX8_rulingOf yX8_rulingOf, .code yX8_rulingOf cX8_rulingOf 6 (some .int), .fieldLink RX8 69 "TermGateModel" "says" "[I", .methodLink RX8 93 yX8_at, .static yX8_at, .code yX8_at cX8_at 2 (some .int)] ++ wsX80)
def wsX8_takesDraft : List Cond := .code yX8_takesDraft cX8_takesDraft 2 none :: ([.fieldLink RX8 131 "TermGateModel" "size" "I", .fieldLink RX8 134 "TermGateModel" "rowSize" "I", .fieldLink RX8 84 "TermGateModel" "row" "[I", .fieldLink RX8 7 "TermGateModel" "draft" "[I"] ++ wsX80)
def wsX8_lesser : List Cond := .code yX8_lesser cX8_lesser 2 (some .int) :: ([])
def wsX8_compares : List Cond := .code yX8_compares cX8_compares 6 none :: ([.fieldLink RX8 134 "TermGateModel" "rowSize" "I", .fieldLink RX8 26 "TermGateModel" "sizes" "[I", .fieldLink RX8 84 "TermGateModel" "row" "[I", .fieldLink RX8 29 "TermGateModel" "words" "[I", .fieldLink RX8 87 "TermGateModel" "edits" "[I", .methodLink RX8 137 yX8_lesser, .static yX8_lesser, .initialized RX8, .code yX8_lesser cX8_lesser 2 (some .int)] ++ wsX80)
def wsX8_likenessOf : List Cond := .code yX8_likenessOf cX8_likenessOf 3 (some .int) :: ([.fieldLink RX8 134 "TermGateModel" "rowSize" "I", .fieldLink RX8 26 "TermGateModel" "sizes" "[I", .fieldLink RX8 87 "TermGateModel" "edits" "[I", .methodLink RX8 140 yX8_compares, .instanceMethod yX8_compares, .selects RX8 yX8_compares yX8_compares, .initialized RX8, .code yX8_compares cX8_compares 6 none, .fieldLink RX8 84 "TermGateModel" "row" "[I", .fieldLink RX8 29 "TermGateModel" "words" "[I", .methodLink RX8 137 yX8_lesser, .static yX8_lesser, .code yX8_lesser cX8_lesser 2 (some .int)] ++ wsX80)
def wsX8_bestOf : List Cond := .code yX8_bestOf cX8_bestOf 8 (some .int) :: ([.fieldLink RX8 104 "TermGateModel" "sold" "I", .fieldLink RX8 75 "TermGateModel" "listed" "[I", .fieldLink RX8 23 "TermGateModel" "clients" "[I", .fieldLink RX8 13 "TermGateModel" "least" "I", .methodLink RX8 144 yX8_likenessOf, .instanceMethod yX8_likenessOf, .selects RX8 yX8_likenessOf yX8_likenessOf, .initialized RX8, .code yX8_likenessOf cX8_likenessOf 3 (some .int), .fieldLink RX8 134 "TermGateModel" "rowSize" "I", .fieldLink RX8 26 "TermGateModel" "sizes" "[I", .fieldLink RX8 87 "TermGateModel" "edits" "[I", .methodLink RX8 140 yX8_compares, .instanceMethod yX8_compares, .selects RX8 yX8_compares yX8_compares, .code yX8_compares cX8_compares 6 none, .fieldLink RX8 84 "TermGateModel" "row" "[I", .fieldLink RX8 29 "TermGateModel" "words" "[I", .methodLink RX8 137 yX8_lesser, .static yX8_lesser, .code yX8_lesser cX8_lesser 2 (some .int)] ++ wsX80)
def wsX8_shareOf : List Cond := .code yX8_shareOf cX8_shareOf 3 (some .int) :: ([.methodLink RX8 144 yX8_likenessOf, .instanceMethod yX8_likenessOf, .selects RX8 yX8_likenessOf yX8_likenessOf, .initialized RX8, .code yX8_likenessOf cX8_likenessOf 3 (some .int), .fieldLink RX8 134 "TermGateModel" "rowSize" "I", .fieldLink RX8 26 "TermGateModel" "sizes" "[I", .fieldLink RX8 87 "TermGateModel" "edits" "[I", .methodLink RX8 140 yX8_compares, .instanceMethod yX8_compares, .selects RX8 yX8_compares yX8_compares, .code yX8_compares cX8_compares 6 none, .fieldLink RX8 84 "TermGateModel" "row" "[I", .fieldLink RX8 29 "TermGateModel" "words" "[I", .methodLink RX8 137 yX8_lesser, .static yX8_lesser, .code yX8_lesser cX8_lesser 2 (some .int)] ++ wsX80)
def wsX8_costOf : List Cond := .code yX8_costOf cX8_costOf 4 (some .int) :: ([.fieldLink RX8 134 "TermGateModel" "rowSize" "I", .fieldLink RX8 17 "TermGateModel" "price" "I", .methodLink RX8 148 yX8_shareOf, .instanceMethod yX8_shareOf, .selects RX8 yX8_shareOf yX8_shareOf, .initialized RX8, .code yX8_shareOf cX8_shareOf 3 (some .int), .methodLink RX8 144 yX8_likenessOf, .instanceMethod yX8_likenessOf, .selects RX8 yX8_likenessOf yX8_likenessOf, .code yX8_likenessOf cX8_likenessOf 3 (some .int), .fieldLink RX8 26 "TermGateModel" "sizes" "[I", .fieldLink RX8 87 "TermGateModel" "edits" "[I", .methodLink RX8 140 yX8_compares, .instanceMethod yX8_compares, .selects RX8 yX8_compares yX8_compares, .code yX8_compares cX8_compares 6 none, .fieldLink RX8 84 "TermGateModel" "row" "[I", .fieldLink RX8 29 "TermGateModel" "words" "[I", .methodLink RX8 137 yX8_lesser, .static yX8_lesser, .code yX8_lesser cX8_lesser 2 (some .int)] ++ wsX80)
def wsX8_word : List Cond := .code yX8_word cX8_word 2 (some .int) :: ([.fieldLink RX8 131 "TermGateModel" "size" "I", .fieldLink RX8 7 "TermGateModel" "draft" "[I", .methodLink RX8 114 yX8_isIn, .static yX8_isIn, .initialized RX8, .code yX8_isIn cX8_isIn 2 (some .boolean), .methodLink RX8 118 yX8_holds, .instanceMethod yX8_holds, .selects RX8 yX8_holds yX8_holds, .code yX8_holds cX8_holds 2 (some .boolean), .fieldLink RX8 90 "TermGateModel" "thrown" "I"] ++ wsX80)
def wsX8_clear : List Cond := .code yX8_clear cX8_clear 2 (some .int) :: ([.fieldLink RX8 90 "TermGateModel" "thrown" "I", .fieldLink RX8 131 "TermGateModel" "size" "I"] ++ wsX80)
def wsX8_isSentence : List Cond := .code yX8_isSentence cX8_isSentence 2 (some .boolean) :: ([.fieldLink RX8 104 "TermGateModel" "sold" "I", .methodLink RX8 114 yX8_isIn, .static yX8_isIn, .initialized RX8, .code yX8_isIn cX8_isIn 2 (some .boolean)] ++ wsX80)
def wsX8_likeness_r1 : List Cond := [Cond.fieldLink RX8 131 "TermGateModel" "size" "I", Cond.methodLink RX8 151 yX8_isSentence, Cond.instanceMethod yX8_isSentence, Cond.selects RX8 yX8_isSentence yX8_isSentence, Cond.initialized RX8, Cond.code yX8_isSentence cX8_isSentence 2 (some .boolean), Cond.fieldLink RX8 104 "TermGateModel" "sold" "I", Cond.methodLink RX8 114 yX8_isIn, Cond.static yX8_isIn, Cond.code yX8_isIn cX8_isIn 2 (some .boolean), Cond.methodLink RX8 118 yX8_holds, Cond.instanceMethod yX8_holds, Cond.selects RX8 yX8_holds yX8_holds, Cond.code yX8_holds cX8_holds 2 (some .boolean), Cond.fieldLink RX8 90 "TermGateModel" "thrown" "I", Cond.methodLink RX8 154 yX8_takesDraft, Cond.instanceMethod yX8_takesDraft, Cond.selects RX8 yX8_takesDraft yX8_takesDraft, Cond.code yX8_takesDraft cX8_takesDraft 2 none, Cond.fieldLink RX8 134 "TermGateModel" "rowSize" "I", Cond.fieldLink RX8 84 "TermGateModel" "row" "[I", Cond.fieldLink RX8 7 "TermGateModel" "draft" "[I", Cond.methodLink RX8 144 yX8_likenessOf, Cond.instanceMethod yX8_likenessOf]
def wsX8_likeness_r2 : List Cond := [Cond.selects RX8 yX8_likenessOf yX8_likenessOf, Cond.code yX8_likenessOf cX8_likenessOf 3 (some .int), Cond.fieldLink RX8 26 "TermGateModel" "sizes" "[I", Cond.fieldLink RX8 87 "TermGateModel" "edits" "[I", Cond.methodLink RX8 140 yX8_compares, Cond.instanceMethod yX8_compares, Cond.selects RX8 yX8_compares yX8_compares, Cond.code yX8_compares cX8_compares 6 none, Cond.fieldLink RX8 29 "TermGateModel" "words" "[I", Cond.methodLink RX8 137 yX8_lesser, Cond.static yX8_lesser, Cond.code yX8_lesser cX8_lesser 2 (some .int)]
def wsX8_likeness : List Cond := .code yX8_likeness cX8_likeness 2 (some .int) :: ((wsX8_likeness_r1 ++ wsX8_likeness_r2) ++ wsX80)
def wsX8_isAsked : List Cond := .code yX8_isAsked cX8_isAsked 3 (some .boolean) :: ([.fieldLink RX8 131 "TermGateModel" "size" "I", .methodLink RX8 114 yX8_isIn, .static yX8_isIn, .initialized RX8, .code yX8_isIn cX8_isIn 2 (some .boolean), .methodLink RX8 118 yX8_holds, .instanceMethod yX8_holds, .selects RX8 yX8_holds yX8_holds, .code yX8_holds cX8_holds 2 (some .boolean), .fieldLink RX8 90 "TermGateModel" "thrown" "I", .methodLink RX8 154 yX8_takesDraft, .instanceMethod yX8_takesDraft, .selects RX8 yX8_takesDraft yX8_takesDraft, .code yX8_takesDraft cX8_takesDraft 2 none, .fieldLink RX8 134 "TermGateModel" "rowSize" "I", .fieldLink RX8 84 "TermGateModel" "row" "[I", .fieldLink RX8 7 "TermGateModel" "draft" "[I"] ++ wsX80)
def wsX8_best_r1 : List Cond := [Cond.methodLink RX8 157 yX8_isAsked, Cond.instanceMethod yX8_isAsked, Cond.selects RX8 yX8_isAsked yX8_isAsked, Cond.initialized RX8, Cond.code yX8_isAsked cX8_isAsked 3 (some .boolean), Cond.fieldLink RX8 131 "TermGateModel" "size" "I", Cond.methodLink RX8 114 yX8_isIn, Cond.static yX8_isIn, Cond.code yX8_isIn cX8_isIn 2 (some .boolean), Cond.methodLink RX8 118 yX8_holds, Cond.instanceMethod yX8_holds, Cond.selects RX8 yX8_holds yX8_holds, Cond.code yX8_holds cX8_holds 2 (some .boolean), Cond.fieldLink RX8 90 "TermGateModel" "thrown" "I", Cond.methodLink RX8 154 yX8_takesDraft, Cond.instanceMethod yX8_takesDraft, Cond.selects RX8 yX8_takesDraft yX8_takesDraft, Cond.code yX8_takesDraft cX8_takesDraft 2 none, Cond.fieldLink RX8 134 "TermGateModel" "rowSize" "I", Cond.fieldLink RX8 84 "TermGateModel" "row" "[I", Cond.fieldLink RX8 7 "TermGateModel" "draft" "[I", Cond.methodLink RX8 160 yX8_bestOf, Cond.instanceMethod yX8_bestOf, Cond.selects RX8 yX8_bestOf yX8_bestOf]
def wsX8_best_r2 : List Cond := [Cond.code yX8_bestOf cX8_bestOf 8 (some .int), Cond.fieldLink RX8 104 "TermGateModel" "sold" "I", Cond.fieldLink RX8 75 "TermGateModel" "listed" "[I", Cond.fieldLink RX8 23 "TermGateModel" "clients" "[I", Cond.fieldLink RX8 13 "TermGateModel" "least" "I", Cond.methodLink RX8 144 yX8_likenessOf, Cond.instanceMethod yX8_likenessOf, Cond.selects RX8 yX8_likenessOf yX8_likenessOf, Cond.code yX8_likenessOf cX8_likenessOf 3 (some .int), Cond.fieldLink RX8 26 "TermGateModel" "sizes" "[I", Cond.fieldLink RX8 87 "TermGateModel" "edits" "[I", Cond.methodLink RX8 140 yX8_compares, Cond.instanceMethod yX8_compares, Cond.selects RX8 yX8_compares yX8_compares, Cond.code yX8_compares cX8_compares 6 none, Cond.fieldLink RX8 29 "TermGateModel" "words" "[I", Cond.methodLink RX8 137 yX8_lesser, Cond.static yX8_lesser, Cond.code yX8_lesser cX8_lesser 2 (some .int)]
def wsX8_best : List Cond := .code yX8_best cX8_best 2 (some .int) :: ((wsX8_best_r1 ++ wsX8_best_r2) ++ wsX80)
def wsX8_bestByAll_r1 : List Cond := [Cond.methodLink RX8 157 yX8_isAsked, Cond.instanceMethod yX8_isAsked, Cond.selects RX8 yX8_isAsked yX8_isAsked, Cond.initialized RX8, Cond.code yX8_isAsked cX8_isAsked 3 (some .boolean), Cond.fieldLink RX8 131 "TermGateModel" "size" "I", Cond.methodLink RX8 114 yX8_isIn, Cond.static yX8_isIn, Cond.code yX8_isIn cX8_isIn 2 (some .boolean), Cond.methodLink RX8 118 yX8_holds, Cond.instanceMethod yX8_holds, Cond.selects RX8 yX8_holds yX8_holds, Cond.code yX8_holds cX8_holds 2 (some .boolean), Cond.fieldLink RX8 90 "TermGateModel" "thrown" "I", Cond.methodLink RX8 154 yX8_takesDraft, Cond.instanceMethod yX8_takesDraft, Cond.selects RX8 yX8_takesDraft yX8_takesDraft, Cond.code yX8_takesDraft cX8_takesDraft 2 none, Cond.fieldLink RX8 134 "TermGateModel" "rowSize" "I", Cond.fieldLink RX8 84 "TermGateModel" "row" "[I", Cond.fieldLink RX8 7 "TermGateModel" "draft" "[I", Cond.methodLink RX8 160 yX8_bestOf, Cond.instanceMethod yX8_bestOf, Cond.selects RX8 yX8_bestOf yX8_bestOf]
def wsX8_bestByAll_r2 : List Cond := [Cond.code yX8_bestOf cX8_bestOf 8 (some .int), Cond.fieldLink RX8 104 "TermGateModel" "sold" "I", Cond.fieldLink RX8 75 "TermGateModel" "listed" "[I", Cond.fieldLink RX8 23 "TermGateModel" "clients" "[I", Cond.fieldLink RX8 13 "TermGateModel" "least" "I", Cond.methodLink RX8 144 yX8_likenessOf, Cond.instanceMethod yX8_likenessOf, Cond.selects RX8 yX8_likenessOf yX8_likenessOf, Cond.code yX8_likenessOf cX8_likenessOf 3 (some .int), Cond.fieldLink RX8 26 "TermGateModel" "sizes" "[I", Cond.fieldLink RX8 87 "TermGateModel" "edits" "[I", Cond.methodLink RX8 140 yX8_compares, Cond.instanceMethod yX8_compares, Cond.selects RX8 yX8_compares yX8_compares, Cond.code yX8_compares cX8_compares 6 none, Cond.fieldLink RX8 29 "TermGateModel" "words" "[I", Cond.methodLink RX8 137 yX8_lesser, Cond.static yX8_lesser, Cond.code yX8_lesser cX8_lesser 2 (some .int)]
def wsX8_bestByAll : List Cond := .code yX8_bestByAll cX8_bestByAll 2 (some .int) :: ((wsX8_bestByAll_r1 ++ wsX8_bestByAll_r2) ++ wsX80)
def wsX8_cost_r1 : List Cond := [Cond.methodLink RX8 157 yX8_isAsked, Cond.instanceMethod yX8_isAsked, Cond.selects RX8 yX8_isAsked yX8_isAsked, Cond.initialized RX8, Cond.code yX8_isAsked cX8_isAsked 3 (some .boolean), Cond.fieldLink RX8 131 "TermGateModel" "size" "I", Cond.methodLink RX8 114 yX8_isIn, Cond.static yX8_isIn, Cond.code yX8_isIn cX8_isIn 2 (some .boolean), Cond.methodLink RX8 118 yX8_holds, Cond.instanceMethod yX8_holds, Cond.selects RX8 yX8_holds yX8_holds, Cond.code yX8_holds cX8_holds 2 (some .boolean), Cond.fieldLink RX8 90 "TermGateModel" "thrown" "I", Cond.methodLink RX8 154 yX8_takesDraft, Cond.instanceMethod yX8_takesDraft, Cond.selects RX8 yX8_takesDraft yX8_takesDraft, Cond.code yX8_takesDraft cX8_takesDraft 2 none, Cond.fieldLink RX8 134 "TermGateModel" "rowSize" "I", Cond.fieldLink RX8 84 "TermGateModel" "row" "[I", Cond.fieldLink RX8 7 "TermGateModel" "draft" "[I", Cond.methodLink RX8 160 yX8_bestOf, Cond.instanceMethod yX8_bestOf, Cond.selects RX8 yX8_bestOf yX8_bestOf]
def wsX8_cost_r2 : List Cond := [Cond.code yX8_bestOf cX8_bestOf 8 (some .int), Cond.fieldLink RX8 104 "TermGateModel" "sold" "I", Cond.fieldLink RX8 75 "TermGateModel" "listed" "[I", Cond.fieldLink RX8 23 "TermGateModel" "clients" "[I", Cond.fieldLink RX8 13 "TermGateModel" "least" "I", Cond.methodLink RX8 144 yX8_likenessOf, Cond.instanceMethod yX8_likenessOf, Cond.selects RX8 yX8_likenessOf yX8_likenessOf, Cond.code yX8_likenessOf cX8_likenessOf 3 (some .int), Cond.fieldLink RX8 26 "TermGateModel" "sizes" "[I", Cond.fieldLink RX8 87 "TermGateModel" "edits" "[I", Cond.methodLink RX8 140 yX8_compares, Cond.instanceMethod yX8_compares, Cond.selects RX8 yX8_compares yX8_compares, Cond.code yX8_compares cX8_compares 6 none, Cond.fieldLink RX8 29 "TermGateModel" "words" "[I", Cond.methodLink RX8 137 yX8_lesser, Cond.static yX8_lesser, Cond.code yX8_lesser cX8_lesser 2 (some .int), Cond.methodLink RX8 163 yX8_costOf, Cond.instanceMethod yX8_costOf, Cond.selects RX8 yX8_costOf yX8_costOf, Cond.code yX8_costOf cX8_costOf 4 (some .int), Cond.fieldLink RX8 17 "TermGateModel" "price" "I"]
def wsX8_cost_r3 : List Cond := [Cond.methodLink RX8 148 yX8_shareOf, Cond.instanceMethod yX8_shareOf, Cond.selects RX8 yX8_shareOf yX8_shareOf, Cond.code yX8_shareOf cX8_shareOf 3 (some .int)]
def wsX8_cost : List Cond := .code yX8_cost cX8_cost 3 (some .int) :: ((wsX8_cost_r1 ++ (wsX8_cost_r2 ++ wsX8_cost_r3)) ++ wsX80)
def wsX8_order : List Cond := .code yX8_order cX8_order 4 (some .int) :: ([.fieldLink RX8 131 "TermGateModel" "size" "I", .fieldLink RX8 167 "TermGateModel" "orders" "I", .fieldLink RX8 38 "TermGateModel" "orderClients" "[I", .fieldLink RX8 41 "TermGateModel" "orderSizes" "[I", .fieldLink RX8 44 "TermGateModel" "orderWords" "[I", .fieldLink RX8 7 "TermGateModel" "draft" "[I", .fieldLink RX8 47 "TermGateModel" "isRush" "[Z", .fieldLink RX8 51 "TermGateModel" "holders" "[I", .fieldLink RX8 170 "TermGateModel" "back" "I", .fieldLink RX8 54 "TermGateModel" "turns" "[I", .methodLink RX8 114 yX8_isIn, .static yX8_isIn, .initialized RX8, .code yX8_isIn cX8_isIn 2 (some .boolean), .methodLink RX8 118 yX8_holds, .instanceMethod yX8_holds, .selects RX8 yX8_holds yX8_holds, .code yX8_holds cX8_holds 2 (some .boolean), .fieldLink RX8 90 "TermGateModel" "thrown" "I"] ++ wsX80)
def wsX8_orderOf : List Cond := .code yX8_orderOf cX8_orderOf 4 (some .int) :: ([.fieldLink RX8 167 "TermGateModel" "orders" "I", .fieldLink RX8 51 "TermGateModel" "holders" "[I"] ++ wsX80)
def wsX8_next : List Cond := .code yX8_next cX8_next 5 (some .int) :: ([.fieldLink RX8 167 "TermGateModel" "orders" "I", .fieldLink RX8 51 "TermGateModel" "holders" "[I", .fieldLink RX8 47 "TermGateModel" "isRush" "[Z", .fieldLink RX8 54 "TermGateModel" "turns" "[I"] ++ wsX80)
def wsX8_pairs : List Cond := .code yX8_pairs cX8_pairs 9 none :: ([.fieldLink RX8 134 "TermGateModel" "rowSize" "I", .fieldLink RX8 26 "TermGateModel" "sizes" "[I", .fieldLink RX8 87 "TermGateModel" "edits" "[I", .fieldLink RX8 84 "TermGateModel" "row" "[I", .fieldLink RX8 29 "TermGateModel" "words" "[I", .fieldLink RX8 60 "TermGateModel" "become" "[I", .fieldLink RX8 32 "TermGateModel" "became" "[I", .methodLink RX8 140 yX8_compares, .instanceMethod yX8_compares, .selects RX8 yX8_compares yX8_compares, .initialized RX8, .code yX8_compares cX8_compares 6 none, .methodLink RX8 137 yX8_lesser, .static yX8_lesser, .code yX8_lesser cX8_lesser 2 (some .int)] ++ wsX80)
def wsX8_takes_r1 : List Cond := [Cond.fieldLink RX8 51 "TermGateModel" "holders" "[I", Cond.fieldLink RX8 41 "TermGateModel" "orderSizes" "[I", Cond.fieldLink RX8 134 "TermGateModel" "rowSize" "I", Cond.fieldLink RX8 84 "TermGateModel" "row" "[I", Cond.fieldLink RX8 44 "TermGateModel" "orderWords" "[I", Cond.fieldLink RX8 60 "TermGateModel" "become" "[I", Cond.fieldLink RX8 38 "TermGateModel" "orderClients" "[I", Cond.fieldLink RX8 57 "TermGateModel" "matches" "[I", Cond.fieldLink RX8 63 "TermGateModel" "costs" "[I", Cond.fieldLink RX8 47 "TermGateModel" "isRush" "[Z", Cond.fieldLink RX8 66 "TermGateModel" "pays" "[I", Cond.fieldLink RX8 20 "TermGateModel" "rate" "I", Cond.methodLink RX8 160 yX8_bestOf, Cond.instanceMethod yX8_bestOf, Cond.selects RX8 yX8_bestOf yX8_bestOf, Cond.initialized RX8, Cond.code yX8_bestOf cX8_bestOf 8 (some .int), Cond.fieldLink RX8 104 "TermGateModel" "sold" "I", Cond.fieldLink RX8 75 "TermGateModel" "listed" "[I", Cond.fieldLink RX8 23 "TermGateModel" "clients" "[I", Cond.fieldLink RX8 13 "TermGateModel" "least" "I", Cond.methodLink RX8 144 yX8_likenessOf, Cond.instanceMethod yX8_likenessOf, Cond.selects RX8 yX8_likenessOf yX8_likenessOf]
def wsX8_takes_r2 : List Cond := [Cond.code yX8_likenessOf cX8_likenessOf 3 (some .int), Cond.fieldLink RX8 26 "TermGateModel" "sizes" "[I", Cond.fieldLink RX8 87 "TermGateModel" "edits" "[I", Cond.methodLink RX8 140 yX8_compares, Cond.instanceMethod yX8_compares, Cond.selects RX8 yX8_compares yX8_compares, Cond.code yX8_compares cX8_compares 6 none, Cond.fieldLink RX8 29 "TermGateModel" "words" "[I", Cond.methodLink RX8 137 yX8_lesser, Cond.static yX8_lesser, Cond.code yX8_lesser cX8_lesser 2 (some .int), Cond.methodLink RX8 163 yX8_costOf, Cond.instanceMethod yX8_costOf, Cond.selects RX8 yX8_costOf yX8_costOf, Cond.code yX8_costOf cX8_costOf 4 (some .int), Cond.fieldLink RX8 17 "TermGateModel" "price" "I", Cond.methodLink RX8 148 yX8_shareOf, Cond.instanceMethod yX8_shareOf, Cond.selects RX8 yX8_shareOf yX8_shareOf, Cond.code yX8_shareOf cX8_shareOf 3 (some .int), Cond.methodLink RX8 173 yX8_pairs, Cond.instanceMethod yX8_pairs, Cond.selects RX8 yX8_pairs yX8_pairs, Cond.code yX8_pairs cX8_pairs 9 none]
def wsX8_takes_r3 : List Cond := [Cond.fieldLink RX8 32 "TermGateModel" "became" "[I"]
def wsX8_takes : List Cond := .code yX8_takes cX8_takes 4 none :: ((wsX8_takes_r1 ++ (wsX8_takes_r2 ++ wsX8_takes_r3)) ++ wsX80)
def wsX8_take_r1 : List Cond := [Cond.methodLink RX8 114 yX8_isIn, Cond.static yX8_isIn, Cond.initialized RX8, Cond.code yX8_isIn cX8_isIn 2 (some .boolean), Cond.methodLink RX8 177 yX8_orderOf, Cond.instanceMethod yX8_orderOf, Cond.selects RX8 yX8_orderOf yX8_orderOf, Cond.code yX8_orderOf cX8_orderOf 4 (some .int), Cond.fieldLink RX8 167 "TermGateModel" "orders" "I", Cond.fieldLink RX8 51 "TermGateModel" "holders" "[I", Cond.methodLink RX8 118 yX8_holds, Cond.instanceMethod yX8_holds, Cond.selects RX8 yX8_holds yX8_holds, Cond.code yX8_holds cX8_holds 2 (some .boolean), Cond.fieldLink RX8 90 "TermGateModel" "thrown" "I", Cond.methodLink RX8 180 yX8_next, Cond.instanceMethod yX8_next, Cond.selects RX8 yX8_next yX8_next, Cond.code yX8_next cX8_next 5 (some .int), Cond.fieldLink RX8 47 "TermGateModel" "isRush" "[Z", Cond.fieldLink RX8 54 "TermGateModel" "turns" "[I", Cond.methodLink RX8 183 yX8_takes, Cond.instanceMethod yX8_takes, Cond.selects RX8 yX8_takes yX8_takes]
def wsX8_take_r2 : List Cond := [Cond.code yX8_takes cX8_takes 4 none, Cond.fieldLink RX8 41 "TermGateModel" "orderSizes" "[I", Cond.fieldLink RX8 134 "TermGateModel" "rowSize" "I", Cond.fieldLink RX8 84 "TermGateModel" "row" "[I", Cond.fieldLink RX8 44 "TermGateModel" "orderWords" "[I", Cond.fieldLink RX8 60 "TermGateModel" "become" "[I", Cond.fieldLink RX8 38 "TermGateModel" "orderClients" "[I", Cond.fieldLink RX8 57 "TermGateModel" "matches" "[I", Cond.fieldLink RX8 63 "TermGateModel" "costs" "[I", Cond.fieldLink RX8 66 "TermGateModel" "pays" "[I", Cond.fieldLink RX8 20 "TermGateModel" "rate" "I", Cond.methodLink RX8 160 yX8_bestOf, Cond.instanceMethod yX8_bestOf, Cond.selects RX8 yX8_bestOf yX8_bestOf, Cond.code yX8_bestOf cX8_bestOf 8 (some .int), Cond.fieldLink RX8 104 "TermGateModel" "sold" "I", Cond.fieldLink RX8 75 "TermGateModel" "listed" "[I", Cond.fieldLink RX8 23 "TermGateModel" "clients" "[I", Cond.fieldLink RX8 13 "TermGateModel" "least" "I", Cond.methodLink RX8 144 yX8_likenessOf, Cond.instanceMethod yX8_likenessOf, Cond.selects RX8 yX8_likenessOf yX8_likenessOf, Cond.code yX8_likenessOf cX8_likenessOf 3 (some .int), Cond.fieldLink RX8 26 "TermGateModel" "sizes" "[I"]
def wsX8_take_r3 : List Cond := [Cond.fieldLink RX8 87 "TermGateModel" "edits" "[I", Cond.methodLink RX8 140 yX8_compares, Cond.instanceMethod yX8_compares, Cond.selects RX8 yX8_compares yX8_compares, Cond.code yX8_compares cX8_compares 6 none, Cond.fieldLink RX8 29 "TermGateModel" "words" "[I", Cond.methodLink RX8 137 yX8_lesser, Cond.static yX8_lesser, Cond.code yX8_lesser cX8_lesser 2 (some .int), Cond.methodLink RX8 163 yX8_costOf, Cond.instanceMethod yX8_costOf, Cond.selects RX8 yX8_costOf yX8_costOf, Cond.code yX8_costOf cX8_costOf 4 (some .int), Cond.fieldLink RX8 17 "TermGateModel" "price" "I", Cond.methodLink RX8 148 yX8_shareOf, Cond.instanceMethod yX8_shareOf, Cond.selects RX8 yX8_shareOf yX8_shareOf, Cond.code yX8_shareOf cX8_shareOf 3 (some .int), Cond.methodLink RX8 173 yX8_pairs, Cond.instanceMethod yX8_pairs, Cond.selects RX8 yX8_pairs yX8_pairs, Cond.code yX8_pairs cX8_pairs 9 none, Cond.fieldLink RX8 32 "TermGateModel" "became" "[I"]
def wsX8_take : List Cond := .code yX8_take cX8_take 4 (some .int) :: ((wsX8_take_r1 ++ (wsX8_take_r2 ++ wsX8_take_r3)) ++ wsX80)
def wsX8_isAtWork : List Cond := .code yX8_isAtWork cX8_isAtWork 3 (some .boolean) :: ([.methodLink RX8 114 yX8_isIn, .static yX8_isIn, .initialized RX8, .code yX8_isIn cX8_isIn 2 (some .boolean), .methodLink RX8 177 yX8_orderOf, .instanceMethod yX8_orderOf, .selects RX8 yX8_orderOf yX8_orderOf, .code yX8_orderOf cX8_orderOf 4 (some .int), .fieldLink RX8 167 "TermGateModel" "orders" "I", .fieldLink RX8 51 "TermGateModel" "holders" "[I", .methodLink RX8 118 yX8_holds, .instanceMethod yX8_holds, .selects RX8 yX8_holds yX8_holds, .code yX8_holds cX8_holds 2 (some .boolean), .fieldLink RX8 90 "TermGateModel" "thrown" "I"] ++ wsX80)
def wsX8_giveBack : List Cond := .code yX8_giveBack cX8_giveBack 3 (some .int) :: ([.fieldLink RX8 51 "TermGateModel" "holders" "[I", .fieldLink RX8 189 "TermGateModel" "front" "I", .fieldLink RX8 54 "TermGateModel" "turns" "[I", .methodLink RX8 186 yX8_isAtWork, .instanceMethod yX8_isAtWork, .selects RX8 yX8_isAtWork yX8_isAtWork, .initialized RX8, .code yX8_isAtWork cX8_isAtWork 3 (some .boolean), .methodLink RX8 114 yX8_isIn, .static yX8_isIn, .code yX8_isIn cX8_isIn 2 (some .boolean), .methodLink RX8 177 yX8_orderOf, .instanceMethod yX8_orderOf, .selects RX8 yX8_orderOf yX8_orderOf, .code yX8_orderOf cX8_orderOf 4 (some .int), .fieldLink RX8 167 "TermGateModel" "orders" "I", .methodLink RX8 118 yX8_holds, .instanceMethod yX8_holds, .selects RX8 yX8_holds yX8_holds, .code yX8_holds cX8_holds 2 (some .boolean), .fieldLink RX8 90 "TermGateModel" "thrown" "I"] ++ wsX80)
def wsX8_open : List Cond := .code yX8_open cX8_open 4 (some .int) :: ([.fieldLink RX8 41 "TermGateModel" "orderSizes" "[I", .fieldLink RX8 60 "TermGateModel" "become" "[I"] ++ wsX80)
def wsX8_translate : List Cond := .code yX8_translate cX8_translate 6 (some .int) :: ([.fieldLink RX8 41 "TermGateModel" "orderSizes" "[I", .fieldLink RX8 60 "TermGateModel" "become" "[I", .methodLink RX8 114 yX8_isIn, .static yX8_isIn, .initialized RX8, .code yX8_isIn cX8_isIn 2 (some .boolean), .methodLink RX8 177 yX8_orderOf, .instanceMethod yX8_orderOf, .selects RX8 yX8_orderOf yX8_orderOf, .code yX8_orderOf cX8_orderOf 4 (some .int), .fieldLink RX8 167 "TermGateModel" "orders" "I", .fieldLink RX8 51 "TermGateModel" "holders" "[I", .methodLink RX8 118 yX8_holds, .instanceMethod yX8_holds, .selects RX8 yX8_holds yX8_holds, .code yX8_holds cX8_holds 2 (some .boolean), .fieldLink RX8 90 "TermGateModel" "thrown" "I", .methodLink RX8 192 yX8_open, .instanceMethod yX8_open, .selects RX8 yX8_open yX8_open, .code yX8_open cX8_open 4 (some .int)] ++ wsX80)
def wsX8_hindered : List Cond := .code yX8_hindered cX8_hindered 7 (some .int) :: ([.fieldLink RX8 41 "TermGateModel" "orderSizes" "[I", .fieldLink RX8 60 "TermGateModel" "become" "[I", .fieldLink RX8 47 "TermGateModel" "isRush" "[Z", .fieldLink RX8 38 "TermGateModel" "orderClients" "[I", .fieldLink RX8 44 "TermGateModel" "orderWords" "[I", .methodLink RX8 192 yX8_open, .instanceMethod yX8_open, .selects RX8 yX8_open yX8_open, .initialized RX8, .code yX8_open cX8_open 4 (some .int), .methodLink RX8 100 yX8_isAgainst, .instanceMethod yX8_isAgainst, .selects RX8 yX8_isAgainst yX8_isAgainst, .code yX8_isAgainst cX8_isAgainst 5 (some .boolean), .methodLink RX8 97 yX8_rulingOf, .instanceMethod yX8_rulingOf, .selects RX8 yX8_rulingOf yX8_rulingOf, .code yX8_rulingOf cX8_rulingOf 6 (some .int), .fieldLink RX8 69 "TermGateModel" "says" "[I", .methodLink RX8 93 yX8_at, .static yX8_at, .code yX8_at cX8_at 2 (some .int)] ++ wsX80)
def wsX8_sells_r1 : List Cond := [Cond.fieldLink RX8 121 "TermGateModel" "moment" "I", Cond.fieldLink RX8 23 "TermGateModel" "clients" "[I", Cond.fieldLink RX8 104 "TermGateModel" "sold" "I", Cond.fieldLink RX8 38 "TermGateModel" "orderClients" "[I", Cond.fieldLink RX8 26 "TermGateModel" "sizes" "[I", Cond.fieldLink RX8 41 "TermGateModel" "orderSizes" "[I", Cond.fieldLink RX8 29 "TermGateModel" "words" "[I", Cond.fieldLink RX8 44 "TermGateModel" "orderWords" "[I", Cond.fieldLink RX8 32 "TermGateModel" "became" "[I", Cond.fieldLink RX8 60 "TermGateModel" "become" "[I", Cond.fieldLink RX8 35 "TermGateModel" "soldAt" "[I", Cond.fieldLink RX8 51 "TermGateModel" "holders" "[I", Cond.methodLink RX8 124 yX8_lists, Cond.instanceMethod yX8_lists, Cond.selects RX8 yX8_lists yX8_lists, Cond.initialized RX8, Cond.code yX8_lists cX8_lists 3 none, Cond.fieldLink RX8 75 "TermGateModel" "listed" "[I", Cond.fieldLink RX8 111 "TermGateModel" "listings" "I", Cond.methodLink RX8 107 yX8_isDueNow, Cond.instanceMethod yX8_isDueNow, Cond.selects RX8 yX8_isDueNow yX8_isDueNow, Cond.code yX8_isDueNow cX8_isDueNow 4 (some .boolean), Cond.methodLink RX8 100 yX8_isAgainst]
def wsX8_sells_r2 : List Cond := [Cond.instanceMethod yX8_isAgainst, Cond.selects RX8 yX8_isAgainst yX8_isAgainst, Cond.code yX8_isAgainst cX8_isAgainst 5 (some .boolean), Cond.methodLink RX8 97 yX8_rulingOf, Cond.instanceMethod yX8_rulingOf, Cond.selects RX8 yX8_rulingOf yX8_rulingOf, Cond.code yX8_rulingOf cX8_rulingOf 6 (some .int), Cond.fieldLink RX8 69 "TermGateModel" "says" "[I", Cond.methodLink RX8 93 yX8_at, Cond.static yX8_at, Cond.code yX8_at cX8_at 2 (some .int)]
def wsX8_sells : List Cond := .code yX8_sells cX8_sells 3 none :: ((wsX8_sells_r1 ++ wsX8_sells_r2) ++ wsX80)
def wsX8_deliver_r1 : List Cond := [Cond.fieldLink RX8 104 "TermGateModel" "sold" "I", Cond.fieldLink RX8 78 "TermGateModel" "paid" "[I", Cond.fieldLink RX8 38 "TermGateModel" "orderClients" "[I", Cond.fieldLink RX8 63 "TermGateModel" "costs" "[I", Cond.fieldLink RX8 81 "TermGateModel" "earned" "[I", Cond.fieldLink RX8 66 "TermGateModel" "pays" "[I", Cond.methodLink RX8 114 yX8_isIn, Cond.static yX8_isIn, Cond.initialized RX8, Cond.code yX8_isIn cX8_isIn 2 (some .boolean), Cond.methodLink RX8 177 yX8_orderOf, Cond.instanceMethod yX8_orderOf, Cond.selects RX8 yX8_orderOf yX8_orderOf, Cond.code yX8_orderOf cX8_orderOf 4 (some .int), Cond.fieldLink RX8 167 "TermGateModel" "orders" "I", Cond.fieldLink RX8 51 "TermGateModel" "holders" "[I", Cond.methodLink RX8 195 yX8_hindered, Cond.instanceMethod yX8_hindered, Cond.selects RX8 yX8_hindered yX8_hindered, Cond.code yX8_hindered cX8_hindered 7 (some .int), Cond.fieldLink RX8 41 "TermGateModel" "orderSizes" "[I", Cond.fieldLink RX8 60 "TermGateModel" "become" "[I", Cond.fieldLink RX8 47 "TermGateModel" "isRush" "[Z", Cond.fieldLink RX8 44 "TermGateModel" "orderWords" "[I"]
def wsX8_deliver_r2 : List Cond := [Cond.methodLink RX8 192 yX8_open, Cond.instanceMethod yX8_open, Cond.selects RX8 yX8_open yX8_open, Cond.code yX8_open cX8_open 4 (some .int), Cond.methodLink RX8 100 yX8_isAgainst, Cond.instanceMethod yX8_isAgainst, Cond.selects RX8 yX8_isAgainst yX8_isAgainst, Cond.code yX8_isAgainst cX8_isAgainst 5 (some .boolean), Cond.methodLink RX8 97 yX8_rulingOf, Cond.instanceMethod yX8_rulingOf, Cond.selects RX8 yX8_rulingOf yX8_rulingOf, Cond.code yX8_rulingOf cX8_rulingOf 6 (some .int), Cond.fieldLink RX8 69 "TermGateModel" "says" "[I", Cond.methodLink RX8 93 yX8_at, Cond.static yX8_at, Cond.code yX8_at cX8_at 2 (some .int), Cond.methodLink RX8 118 yX8_holds, Cond.instanceMethod yX8_holds, Cond.selects RX8 yX8_holds yX8_holds, Cond.code yX8_holds cX8_holds 2 (some .boolean), Cond.fieldLink RX8 90 "TermGateModel" "thrown" "I", Cond.methodLink RX8 198 yX8_sells, Cond.instanceMethod yX8_sells, Cond.selects RX8 yX8_sells yX8_sells]
def wsX8_deliver_r3 : List Cond := [Cond.code yX8_sells cX8_sells 3 none, Cond.fieldLink RX8 121 "TermGateModel" "moment" "I", Cond.fieldLink RX8 23 "TermGateModel" "clients" "[I", Cond.fieldLink RX8 26 "TermGateModel" "sizes" "[I", Cond.fieldLink RX8 29 "TermGateModel" "words" "[I", Cond.fieldLink RX8 32 "TermGateModel" "became" "[I", Cond.fieldLink RX8 35 "TermGateModel" "soldAt" "[I", Cond.methodLink RX8 124 yX8_lists, Cond.instanceMethod yX8_lists, Cond.selects RX8 yX8_lists yX8_lists, Cond.code yX8_lists cX8_lists 3 none, Cond.fieldLink RX8 75 "TermGateModel" "listed" "[I", Cond.fieldLink RX8 111 "TermGateModel" "listings" "I", Cond.methodLink RX8 107 yX8_isDueNow, Cond.instanceMethod yX8_isDueNow, Cond.selects RX8 yX8_isDueNow yX8_isDueNow, Cond.code yX8_isDueNow cX8_isDueNow 4 (some .boolean)]
def wsX8_deliver : List Cond := .code yX8_deliver cX8_deliver 4 (some .int) :: ((wsX8_deliver_r1 ++ (wsX8_deliver_r2 ++ wsX8_deliver_r3)) ++ wsX80)
def wsX8_why_r1 : List Cond := [Cond.methodLink RX8 186 yX8_isAtWork, Cond.instanceMethod yX8_isAtWork, Cond.selects RX8 yX8_isAtWork yX8_isAtWork, Cond.initialized RX8, Cond.code yX8_isAtWork cX8_isAtWork 3 (some .boolean), Cond.methodLink RX8 114 yX8_isIn, Cond.static yX8_isIn, Cond.code yX8_isIn cX8_isIn 2 (some .boolean), Cond.methodLink RX8 177 yX8_orderOf, Cond.instanceMethod yX8_orderOf, Cond.selects RX8 yX8_orderOf yX8_orderOf, Cond.code yX8_orderOf cX8_orderOf 4 (some .int), Cond.fieldLink RX8 167 "TermGateModel" "orders" "I", Cond.fieldLink RX8 51 "TermGateModel" "holders" "[I", Cond.methodLink RX8 118 yX8_holds, Cond.instanceMethod yX8_holds, Cond.selects RX8 yX8_holds yX8_holds, Cond.code yX8_holds cX8_holds 2 (some .boolean), Cond.fieldLink RX8 90 "TermGateModel" "thrown" "I", Cond.methodLink RX8 192 yX8_open, Cond.instanceMethod yX8_open, Cond.selects RX8 yX8_open yX8_open, Cond.code yX8_open cX8_open 4 (some .int), Cond.fieldLink RX8 41 "TermGateModel" "orderSizes" "[I"]
def wsX8_why_r2 : List Cond := [Cond.fieldLink RX8 60 "TermGateModel" "become" "[I", Cond.methodLink RX8 195 yX8_hindered, Cond.instanceMethod yX8_hindered, Cond.selects RX8 yX8_hindered yX8_hindered, Cond.code yX8_hindered cX8_hindered 7 (some .int), Cond.fieldLink RX8 47 "TermGateModel" "isRush" "[Z", Cond.fieldLink RX8 38 "TermGateModel" "orderClients" "[I", Cond.fieldLink RX8 44 "TermGateModel" "orderWords" "[I", Cond.methodLink RX8 100 yX8_isAgainst, Cond.instanceMethod yX8_isAgainst, Cond.selects RX8 yX8_isAgainst yX8_isAgainst, Cond.code yX8_isAgainst cX8_isAgainst 5 (some .boolean), Cond.methodLink RX8 97 yX8_rulingOf, Cond.instanceMethod yX8_rulingOf, Cond.selects RX8 yX8_rulingOf yX8_rulingOf, Cond.code yX8_rulingOf cX8_rulingOf 6 (some .int), Cond.fieldLink RX8 69 "TermGateModel" "says" "[I", Cond.methodLink RX8 93 yX8_at, Cond.static yX8_at, Cond.code yX8_at cX8_at 2 (some .int)]
def wsX8_why : List Cond := .code yX8_why cX8_why 3 (some .int) :: ((wsX8_why_r1 ++ wsX8_why_r2) ++ wsX80)
def wsX8_wherefore_r1 : List Cond := [Cond.methodLink RX8 186 yX8_isAtWork, Cond.instanceMethod yX8_isAtWork, Cond.selects RX8 yX8_isAtWork yX8_isAtWork, Cond.initialized RX8, Cond.code yX8_isAtWork cX8_isAtWork 3 (some .boolean), Cond.methodLink RX8 114 yX8_isIn, Cond.static yX8_isIn, Cond.code yX8_isIn cX8_isIn 2 (some .boolean), Cond.methodLink RX8 177 yX8_orderOf, Cond.instanceMethod yX8_orderOf, Cond.selects RX8 yX8_orderOf yX8_orderOf, Cond.code yX8_orderOf cX8_orderOf 4 (some .int), Cond.fieldLink RX8 167 "TermGateModel" "orders" "I", Cond.fieldLink RX8 51 "TermGateModel" "holders" "[I", Cond.methodLink RX8 118 yX8_holds, Cond.instanceMethod yX8_holds, Cond.selects RX8 yX8_holds yX8_holds, Cond.code yX8_holds cX8_holds 2 (some .boolean), Cond.fieldLink RX8 90 "TermGateModel" "thrown" "I", Cond.methodLink RX8 195 yX8_hindered, Cond.instanceMethod yX8_hindered, Cond.selects RX8 yX8_hindered yX8_hindered, Cond.code yX8_hindered cX8_hindered 7 (some .int), Cond.fieldLink RX8 41 "TermGateModel" "orderSizes" "[I"]
def wsX8_wherefore_r2 : List Cond := [Cond.fieldLink RX8 60 "TermGateModel" "become" "[I", Cond.fieldLink RX8 47 "TermGateModel" "isRush" "[Z", Cond.fieldLink RX8 38 "TermGateModel" "orderClients" "[I", Cond.fieldLink RX8 44 "TermGateModel" "orderWords" "[I", Cond.methodLink RX8 192 yX8_open, Cond.instanceMethod yX8_open, Cond.selects RX8 yX8_open yX8_open, Cond.code yX8_open cX8_open 4 (some .int), Cond.methodLink RX8 100 yX8_isAgainst, Cond.instanceMethod yX8_isAgainst, Cond.selects RX8 yX8_isAgainst yX8_isAgainst, Cond.code yX8_isAgainst cX8_isAgainst 5 (some .boolean), Cond.methodLink RX8 97 yX8_rulingOf, Cond.instanceMethod yX8_rulingOf, Cond.selects RX8 yX8_rulingOf yX8_rulingOf, Cond.code yX8_rulingOf cX8_rulingOf 6 (some .int), Cond.fieldLink RX8 69 "TermGateModel" "says" "[I", Cond.methodLink RX8 93 yX8_at, Cond.static yX8_at, Cond.code yX8_at cX8_at 2 (some .int)]
def wsX8_wherefore : List Cond := .code yX8_wherefore cX8_wherefore 2 (some .int) :: ((wsX8_wherefore_r1 ++ wsX8_wherefore_r2) ++ wsX80)
def wsX8_became : List Cond := .code yX8_became cX8_became 5 (some .int) :: ([.fieldLink RX8 41 "TermGateModel" "orderSizes" "[I", .fieldLink RX8 60 "TermGateModel" "become" "[I", .methodLink RX8 114 yX8_isIn, .static yX8_isIn, .initialized RX8, .code yX8_isIn cX8_isIn 2 (some .boolean), .methodLink RX8 177 yX8_orderOf, .instanceMethod yX8_orderOf, .selects RX8 yX8_orderOf yX8_orderOf, .code yX8_orderOf cX8_orderOf 4 (some .int), .fieldLink RX8 167 "TermGateModel" "orders" "I", .fieldLink RX8 51 "TermGateModel" "holders" "[I", .methodLink RX8 118 yX8_holds, .instanceMethod yX8_holds, .selects RX8 yX8_holds yX8_holds, .code yX8_holds cX8_holds 2 (some .boolean), .fieldLink RX8 90 "TermGateModel" "thrown" "I"] ++ wsX80)
def wsX8_match : List Cond := .code yX8_match cX8_match 2 (some .int) :: ([.fieldLink RX8 57 "TermGateModel" "matches" "[I", .methodLink RX8 186 yX8_isAtWork, .instanceMethod yX8_isAtWork, .selects RX8 yX8_isAtWork yX8_isAtWork, .initialized RX8, .code yX8_isAtWork cX8_isAtWork 3 (some .boolean), .methodLink RX8 114 yX8_isIn, .static yX8_isIn, .code yX8_isIn cX8_isIn 2 (some .boolean), .methodLink RX8 177 yX8_orderOf, .instanceMethod yX8_orderOf, .selects RX8 yX8_orderOf yX8_orderOf, .code yX8_orderOf cX8_orderOf 4 (some .int), .fieldLink RX8 167 "TermGateModel" "orders" "I", .fieldLink RX8 51 "TermGateModel" "holders" "[I", .methodLink RX8 118 yX8_holds, .instanceMethod yX8_holds, .selects RX8 yX8_holds yX8_holds, .code yX8_holds cX8_holds 2 (some .boolean), .fieldLink RX8 90 "TermGateModel" "thrown" "I"] ++ wsX80)
def wsX8_waiting : List Cond := .code yX8_waiting cX8_waiting 4 (some .int) :: ([.fieldLink RX8 90 "TermGateModel" "thrown" "I", .fieldLink RX8 167 "TermGateModel" "orders" "I", .fieldLink RX8 51 "TermGateModel" "holders" "[I", .fieldLink RX8 47 "TermGateModel" "isRush" "[Z"] ++ wsX80)
def wsX8_orderAt : List Cond := .code yX8_orderAt cX8_orderAt 2 (some .int) :: ([.fieldLink RX8 167 "TermGateModel" "orders" "I", .fieldLink RX8 51 "TermGateModel" "holders" "[I", .methodLink RX8 114 yX8_isIn, .static yX8_isIn, .initialized RX8, .code yX8_isIn cX8_isIn 2 (some .boolean), .methodLink RX8 118 yX8_holds, .instanceMethod yX8_holds, .selects RX8 yX8_holds yX8_holds, .code yX8_holds cX8_holds 2 (some .boolean), .fieldLink RX8 90 "TermGateModel" "thrown" "I"] ++ wsX80)
def wsX8_sold : List Cond := .code yX8_sold cX8_sold 1 (some .int) :: ([.fieldLink RX8 90 "TermGateModel" "thrown" "I", .fieldLink RX8 104 "TermGateModel" "sold" "I"] ++ wsX80)
def wsX8_clientOf : List Cond := .code yX8_clientOf cX8_clientOf 2 (some .int) :: ([.fieldLink RX8 23 "TermGateModel" "clients" "[I", .methodLink RX8 151 yX8_isSentence, .instanceMethod yX8_isSentence, .selects RX8 yX8_isSentence yX8_isSentence, .initialized RX8, .code yX8_isSentence cX8_isSentence 2 (some .boolean), .fieldLink RX8 104 "TermGateModel" "sold" "I", .methodLink RX8 114 yX8_isIn, .static yX8_isIn, .code yX8_isIn cX8_isIn 2 (some .boolean), .methodLink RX8 118 yX8_holds, .instanceMethod yX8_holds, .selects RX8 yX8_holds yX8_holds, .code yX8_holds cX8_holds 2 (some .boolean), .fieldLink RX8 90 "TermGateModel" "thrown" "I"] ++ wsX80)
def wsX8_isPlace : List Cond := .code yX8_isPlace cX8_isPlace 4 (some .boolean) :: ([.fieldLink RX8 26 "TermGateModel" "sizes" "[I", .methodLink RX8 151 yX8_isSentence, .instanceMethod yX8_isSentence, .selects RX8 yX8_isSentence yX8_isSentence, .initialized RX8, .code yX8_isSentence cX8_isSentence 2 (some .boolean), .fieldLink RX8 104 "TermGateModel" "sold" "I", .methodLink RX8 114 yX8_isIn, .static yX8_isIn, .code yX8_isIn cX8_isIn 2 (some .boolean), .methodLink RX8 118 yX8_holds, .instanceMethod yX8_holds, .selects RX8 yX8_holds yX8_holds, .code yX8_holds cX8_holds 2 (some .boolean), .fieldLink RX8 90 "TermGateModel" "thrown" "I"] ++ wsX80)
def wsX8_wordOf : List Cond := .code yX8_wordOf cX8_wordOf 3 (some .int) :: ([.fieldLink RX8 29 "TermGateModel" "words" "[I", .methodLink RX8 201 yX8_isPlace, .instanceMethod yX8_isPlace, .selects RX8 yX8_isPlace yX8_isPlace, .initialized RX8, .code yX8_isPlace cX8_isPlace 4 (some .boolean), .fieldLink RX8 26 "TermGateModel" "sizes" "[I", .methodLink RX8 151 yX8_isSentence, .instanceMethod yX8_isSentence, .selects RX8 yX8_isSentence yX8_isSentence, .code yX8_isSentence cX8_isSentence 2 (some .boolean), .fieldLink RX8 104 "TermGateModel" "sold" "I", .methodLink RX8 114 yX8_isIn, .static yX8_isIn, .code yX8_isIn cX8_isIn 2 (some .boolean), .methodLink RX8 118 yX8_holds, .instanceMethod yX8_holds, .selects RX8 yX8_holds yX8_holds, .code yX8_holds cX8_holds 2 (some .boolean), .fieldLink RX8 90 "TermGateModel" "thrown" "I"] ++ wsX80)
def wsX8_becameOf : List Cond := .code yX8_becameOf cX8_becameOf 3 (some .int) :: ([.fieldLink RX8 32 "TermGateModel" "became" "[I", .methodLink RX8 201 yX8_isPlace, .instanceMethod yX8_isPlace, .selects RX8 yX8_isPlace yX8_isPlace, .initialized RX8, .code yX8_isPlace cX8_isPlace 4 (some .boolean), .fieldLink RX8 26 "TermGateModel" "sizes" "[I", .methodLink RX8 151 yX8_isSentence, .instanceMethod yX8_isSentence, .selects RX8 yX8_isSentence yX8_isSentence, .code yX8_isSentence cX8_isSentence 2 (some .boolean), .fieldLink RX8 104 "TermGateModel" "sold" "I", .methodLink RX8 114 yX8_isIn, .static yX8_isIn, .code yX8_isIn cX8_isIn 2 (some .boolean), .methodLink RX8 118 yX8_holds, .instanceMethod yX8_holds, .selects RX8 yX8_holds yX8_holds, .code yX8_holds cX8_holds 2 (some .boolean), .fieldLink RX8 90 "TermGateModel" "thrown" "I"] ++ wsX80)
def wsX8_isDue_r1 : List Cond := [Cond.methodLink RX8 151 yX8_isSentence, Cond.instanceMethod yX8_isSentence, Cond.selects RX8 yX8_isSentence yX8_isSentence, Cond.initialized RX8, Cond.code yX8_isSentence cX8_isSentence 2 (some .boolean), Cond.fieldLink RX8 104 "TermGateModel" "sold" "I", Cond.methodLink RX8 114 yX8_isIn, Cond.static yX8_isIn, Cond.code yX8_isIn cX8_isIn 2 (some .boolean), Cond.methodLink RX8 118 yX8_holds, Cond.instanceMethod yX8_holds, Cond.selects RX8 yX8_holds yX8_holds, Cond.code yX8_holds cX8_holds 2 (some .boolean), Cond.fieldLink RX8 90 "TermGateModel" "thrown" "I", Cond.methodLink RX8 107 yX8_isDueNow, Cond.instanceMethod yX8_isDueNow, Cond.selects RX8 yX8_isDueNow yX8_isDueNow, Cond.code yX8_isDueNow cX8_isDueNow 4 (some .boolean), Cond.fieldLink RX8 26 "TermGateModel" "sizes" "[I", Cond.fieldLink RX8 23 "TermGateModel" "clients" "[I", Cond.fieldLink RX8 29 "TermGateModel" "words" "[I", Cond.fieldLink RX8 32 "TermGateModel" "became" "[I", Cond.methodLink RX8 100 yX8_isAgainst, Cond.instanceMethod yX8_isAgainst]
def wsX8_isDue_r2 : List Cond := [Cond.selects RX8 yX8_isAgainst yX8_isAgainst, Cond.code yX8_isAgainst cX8_isAgainst 5 (some .boolean), Cond.methodLink RX8 97 yX8_rulingOf, Cond.instanceMethod yX8_rulingOf, Cond.selects RX8 yX8_rulingOf yX8_rulingOf, Cond.code yX8_rulingOf cX8_rulingOf 6 (some .int), Cond.fieldLink RX8 69 "TermGateModel" "says" "[I", Cond.methodLink RX8 93 yX8_at, Cond.static yX8_at, Cond.code yX8_at cX8_at 2 (some .int)]
def wsX8_isDue : List Cond := .code yX8_isDue cX8_isDue 2 (some .boolean) :: ((wsX8_isDue_r1 ++ wsX8_isDue_r2) ++ wsX80)
def wsX8_due : List Cond := .code yX8_due cX8_due 1 (some .int) :: ([.fieldLink RX8 90 "TermGateModel" "thrown" "I", .methodLink RX8 127 yX8_dueNow, .instanceMethod yX8_dueNow, .selects RX8 yX8_dueNow yX8_dueNow, .initialized RX8, .code yX8_dueNow cX8_dueNow 3 (some .int), .fieldLink RX8 104 "TermGateModel" "sold" "I", .fieldLink RX8 75 "TermGateModel" "listed" "[I"] ++ wsX80)
def wsX8_dueAt : List Cond := .code yX8_dueAt cX8_dueAt 6 (some .int) :: ([.fieldLink RX8 104 "TermGateModel" "sold" "I", .fieldLink RX8 75 "TermGateModel" "listed" "[I", .methodLink RX8 127 yX8_dueNow, .instanceMethod yX8_dueNow, .selects RX8 yX8_dueNow yX8_dueNow, .initialized RX8, .code yX8_dueNow cX8_dueNow 3 (some .int), .methodLink RX8 114 yX8_isIn, .static yX8_isIn, .code yX8_isIn cX8_isIn 2 (some .boolean), .methodLink RX8 118 yX8_holds, .instanceMethod yX8_holds, .selects RX8 yX8_holds yX8_holds, .code yX8_holds cX8_holds 2 (some .boolean), .fieldLink RX8 90 "TermGateModel" "thrown" "I"] ++ wsX80)
def wsX8_mend_r1 : List Cond := [Cond.fieldLink RX8 23 "TermGateModel" "clients" "[I", Cond.fieldLink RX8 26 "TermGateModel" "sizes" "[I", Cond.fieldLink RX8 29 "TermGateModel" "words" "[I", Cond.fieldLink RX8 32 "TermGateModel" "became" "[I", Cond.fieldLink RX8 78 "TermGateModel" "paid" "[I", Cond.fieldLink RX8 72 "TermGateModel" "ruledAt" "[I", Cond.fieldLink RX8 35 "TermGateModel" "soldAt" "[I", Cond.methodLink RX8 151 yX8_isSentence, Cond.instanceMethod yX8_isSentence, Cond.selects RX8 yX8_isSentence yX8_isSentence, Cond.initialized RX8, Cond.code yX8_isSentence cX8_isSentence 2 (some .boolean), Cond.fieldLink RX8 104 "TermGateModel" "sold" "I", Cond.methodLink RX8 114 yX8_isIn, Cond.static yX8_isIn, Cond.code yX8_isIn cX8_isIn 2 (some .boolean), Cond.methodLink RX8 107 yX8_isDueNow, Cond.instanceMethod yX8_isDueNow, Cond.selects RX8 yX8_isDueNow yX8_isDueNow, Cond.code yX8_isDueNow cX8_isDueNow 4 (some .boolean), Cond.methodLink RX8 100 yX8_isAgainst, Cond.instanceMethod yX8_isAgainst, Cond.selects RX8 yX8_isAgainst yX8_isAgainst, Cond.code yX8_isAgainst cX8_isAgainst 5 (some .boolean)]
def wsX8_mend_r2 : List Cond := [Cond.methodLink RX8 97 yX8_rulingOf, Cond.instanceMethod yX8_rulingOf, Cond.selects RX8 yX8_rulingOf yX8_rulingOf, Cond.code yX8_rulingOf cX8_rulingOf 6 (some .int), Cond.fieldLink RX8 69 "TermGateModel" "says" "[I", Cond.methodLink RX8 93 yX8_at, Cond.static yX8_at, Cond.code yX8_at cX8_at 2 (some .int), Cond.methodLink RX8 118 yX8_holds, Cond.instanceMethod yX8_holds, Cond.selects RX8 yX8_holds yX8_holds, Cond.code yX8_holds cX8_holds 2 (some .boolean), Cond.fieldLink RX8 90 "TermGateModel" "thrown" "I", Cond.methodLink RX8 124 yX8_lists, Cond.instanceMethod yX8_lists, Cond.selects RX8 yX8_lists yX8_lists, Cond.code yX8_lists cX8_lists 3 none, Cond.fieldLink RX8 75 "TermGateModel" "listed" "[I", Cond.fieldLink RX8 111 "TermGateModel" "listings" "I"]
def wsX8_mend : List Cond := .code yX8_mend cX8_mend 6 (some .int) :: ((wsX8_mend_r1 ++ wsX8_mend_r2) ++ wsX80)
def wsX8_setPrices : List Cond := .code yX8_setPrices cX8_setPrices 4 none :: ([.fieldLink RX8 13 "TermGateModel" "least" "I", .fieldLink RX8 17 "TermGateModel" "price" "I", .fieldLink RX8 20 "TermGateModel" "rate" "I", .methodLink RX8 114 yX8_isIn, .static yX8_isIn, .initialized RX8, .code yX8_isIn cX8_isIn 2 (some .boolean), .methodLink RX8 118 yX8_holds, .instanceMethod yX8_holds, .selects RX8 yX8_holds yX8_holds, .code yX8_holds cX8_holds 2 (some .boolean), .fieldLink RX8 90 "TermGateModel" "thrown" "I"] ++ wsX80)
def wsX8_paid : List Cond := .code yX8_paid cX8_paid 2 (some .int) :: ([.fieldLink RX8 78 "TermGateModel" "paid" "[I", .methodLink RX8 114 yX8_isIn, .static yX8_isIn, .initialized RX8, .code yX8_isIn cX8_isIn 2 (some .boolean), .methodLink RX8 118 yX8_holds, .instanceMethod yX8_holds, .selects RX8 yX8_holds yX8_holds, .code yX8_holds cX8_holds 2 (some .boolean), .fieldLink RX8 90 "TermGateModel" "thrown" "I"] ++ wsX80)
def wsX8_earned : List Cond := .code yX8_earned cX8_earned 2 (some .int) :: ([.fieldLink RX8 81 "TermGateModel" "earned" "[I", .methodLink RX8 114 yX8_isIn, .static yX8_isIn, .initialized RX8, .code yX8_isIn cX8_isIn 2 (some .boolean), .methodLink RX8 118 yX8_holds, .instanceMethod yX8_holds, .selects RX8 yX8_holds yX8_holds, .code yX8_holds cX8_holds 2 (some .boolean), .fieldLink RX8 90 "TermGateModel" "thrown" "I"] ++ wsX80)
def wsX8_purse : List Cond := .code yX8_purse cX8_purse 3 (some .int) :: ([.fieldLink RX8 90 "TermGateModel" "thrown" "I", .fieldLink RX8 78 "TermGateModel" "paid" "[I", .fieldLink RX8 81 "TermGateModel" "earned" "[I"] ++ wsX80)
def wsJ9_max_7cf53 : List Cond := .code yJ9_max_7cf53 cJ9_max_7cf53 2 (some .int) :: ([])
def wsJ9_min_7cf53 : List Cond := .code yJ9_min_7cf53 cJ9_min_7cf53 2 (some .int) :: ([])
def wsL_word : List Cond := .codeWith yL_word cL_word 4 (some .int) [(0, 9, 12, 13), (0, 9, 15, 15)] :: ([.classLink RL 13 "java/lang/IllegalArgumentException", .classLink RL 15 "java/lang/IllegalStateException", .methodLink RL 7 yX7_word, .instanceMethod yX7_word, .selects RX7 yX7_word yX7_word, .initialized RX7, .code yX7_word cX7_word 2 (some .int), .classLink RX7 69 "java/lang/IllegalArgumentException", .initialized "java/lang/IllegalArgumentException", .classLink RX7 75 "java/lang/IllegalStateException", .initialized "java/lang/IllegalStateException", .fieldLink RX7 10 "TermGate" "draft" "LTermGate$Row;", .methodLink RX7 78 yX4_append, .instanceMethod yX4_append, .selects RX4 yX4_append yX4_append, .initialized RX4, .code yX4_append cX4_append 3 none, .fieldLink RX4 15 "TermGate$Row" "length" "I", .fieldLink RX4 9 "TermGate$Row" "values" "[I"] ++ wsX70 ++ wsX40 ++ (vx_at0 RX7 71 "java/lang/IllegalArgumentException" ["java/lang/RuntimeException", "java/lang/Exception"]).filter goodWord ++ (vx_at0 RX7 77 "java/lang/IllegalStateException" ["java/lang/RuntimeException", "java/lang/Exception"]).filter goodWord)
def wsL_likeness_r1 : List Cond := [Cond.classLink RL 20 "java/lang/IndexOutOfBoundsException", Cond.classLink RL 15 "java/lang/IllegalStateException", Cond.methodLink RL 17 yX7_likeness, Cond.instanceMethod yX7_likeness, Cond.selects RX7 yX7_likeness yX7_likeness, Cond.initialized RX7, Cond.code yX7_likeness cX7_likeness 3 (some .int), Cond.fieldLink RX7 26 "TermGate" "memory" "LTermGate$Memory;", Cond.fieldLink RX7 10 "TermGate" "draft" "LTermGate$Row;", Cond.methodLink RX7 82 yX7_soldSentence, Cond.instanceMethod yX7_soldSentence, Cond.selects RX7 yX7_soldSentence yX7_soldSentence, Cond.code yX7_soldSentence cX7_soldSentence 3 (some (.object "TermGate$Sentence")), Cond.classLink RX7 237 "java/lang/IndexOutOfBoundsException", Cond.initialized "java/lang/IndexOutOfBoundsException", Cond.methodLink RX7 279 yX2_sentenceAt, Cond.instanceMethod yX2_sentenceAt, Cond.selects RX2 yX2_sentenceAt yX2_sentenceAt, Cond.initialized RX2, Cond.code yX2_sentenceAt cX2_sentenceAt 2 (some (.object "TermGate$Sentence")), Cond.fieldLink RX2 11 "TermGate$Memory" "sentences" "[LTermGate$Sentence;", Cond.methodLink RX7 86 yX7_refuseEmptyDraft, Cond.instanceMethod yX7_refuseEmptyDraft, Cond.selects RX7 yX7_refuseEmptyDraft yX7_refuseEmptyDraft]
def wsL_likeness_r2 : List Cond := [Cond.code yX7_refuseEmptyDraft cX7_refuseEmptyDraft 1 none, Cond.classLink RX7 75 "java/lang/IllegalStateException", Cond.initialized "java/lang/IllegalStateException", Cond.methodLink RX7 98 yX0_likenessOf, Cond.instanceMethod yX0_likenessOf, Cond.selects RX0 yX0_likenessOf yX0_likenessOf, Cond.initialized RX0, Cond.code yX0_likenessOf cX0_likenessOf 5 (some .int), Cond.methodLink RX0 25 Lib.Math.max.name, Cond.static Lib.Math.max.name, Cond.initialized "java/lang/Math", Cond.code Lib.Math.max.name Lib.Math.max.code 2 (some .int), Cond.methodLink RX0 15 yX0_compare, Cond.instanceMethod yX0_compare, Cond.selects RX0 yX0_compare yX0_compare, Cond.code yX0_compare cX0_compare 6 none, Cond.methodLink RX0 34 yX4_at, Cond.instanceMethod yX4_at, Cond.selects RX4 yX4_at yX4_at, Cond.initialized RX4, Cond.code yX4_at cX4_at 2 (some .int), Cond.fieldLink RX4 15 "TermGate$Row" "length" "I", Cond.fieldLink RX4 9 "TermGate$Row" "values" "[I", Cond.methodLink RX0 38 yX0_least]
def wsL_likeness_r3 : List Cond := [Cond.instanceMethod yX0_least, Cond.selects RX0 yX0_least yX0_least, Cond.code yX0_least cX0_least 7 (some .int), Cond.methodLink RX0 46 Lib.Math.min.name, Cond.static Lib.Math.min.name, Cond.code Lib.Math.min.name Lib.Math.min.code 2 (some .int), Cond.methodLink RX0 31 yX0_between, Cond.instanceMethod yX0_between, Cond.selects RX0 yX0_between yX0_between, Cond.code yX0_between cX0_between 4 (some .int), Cond.fieldLink RX0 11 "TermGate$Edits" "table" "[I", Cond.methodLink RX0 42 yX0_put, Cond.instanceMethod yX0_put, Cond.selects RX0 yX0_put yX0_put, Cond.code yX0_put cX0_put 5 none]
def wsL_likeness : List Cond := .codeWith yL_likeness cL_likeness 4 (some .int) [(0, 9, 12, 20), (0, 9, 15, 15)] :: ((wsL_likeness_r1 ++ (wsL_likeness_r2 ++ wsL_likeness_r3)) ++ wsX70 ++ wsX20 ++ wsX60 ++ wsX40 ++ wsX00 ++ (vx_at0 RX7 239 "java/lang/IndexOutOfBoundsException" ["java/lang/RuntimeException", "java/lang/Exception"]).filter goodWord ++ (vx_at0 RX7 77 "java/lang/IllegalStateException" ["java/lang/RuntimeException", "java/lang/Exception"]).filter goodWord)
def wsL_best_r1 : List Cond := [Cond.classLink RL 13 "java/lang/IllegalArgumentException", Cond.classLink RL 15 "java/lang/IllegalStateException", Cond.methodLink RL 22 yX7_best, Cond.instanceMethod yX7_best, Cond.selects RX7 yX7_best yX7_best, Cond.initialized RX7, Cond.code yX7_best cX7_best 2 (some .int), Cond.fieldLink RX7 10 "TermGate" "draft" "LTermGate$Row;", Cond.methodLink RX7 104 yX7_refuseUnlessClient, Cond.static yX7_refuseUnlessClient, Cond.code yX7_refuseUnlessClient cX7_refuseUnlessClient 1 none, Cond.classLink RX7 69 "java/lang/IllegalArgumentException", Cond.initialized "java/lang/IllegalArgumentException", Cond.methodLink RX7 86 yX7_refuseEmptyDraft, Cond.instanceMethod yX7_refuseEmptyDraft, Cond.selects RX7 yX7_refuseEmptyDraft yX7_refuseEmptyDraft, Cond.code yX7_refuseEmptyDraft cX7_refuseEmptyDraft 1 none, Cond.classLink RX7 75 "java/lang/IllegalStateException", Cond.initialized "java/lang/IllegalStateException", Cond.methodLink RX7 107 yX7_bestFor, Cond.instanceMethod yX7_bestFor, Cond.selects RX7 yX7_bestFor yX7_bestFor, Cond.code yX7_bestFor cX7_bestFor 3 (some .int), Cond.fieldLink RX7 26 "TermGate" "memory" "LTermGate$Memory;"]
def wsL_best_r2 : List Cond := [Cond.fieldLink RX7 60 "TermGate" "leastLikeness" "I", Cond.methodLink RX7 285 yX2_sharingWith, Cond.instanceMethod yX2_sharingWith, Cond.selects RX2 yX2_sharingWith yX2_sharingWith, Cond.initialized RX2, Cond.code yX2_sharingWith cX2_sharingWith 6 (some .long), Cond.fieldLink RX2 17 "TermGate$Memory" "having" "[J", Cond.methodLink RX2 48 yX4_at, Cond.instanceMethod yX4_at, Cond.selects RX4 yX4_at yX4_at, Cond.initialized RX4, Cond.code yX4_at cX4_at 2 (some .int), Cond.fieldLink RX4 15 "TermGate$Row" "length" "I", Cond.fieldLink RX4 9 "TermGate$Row" "values" "[I", Cond.methodLink RX7 113 yX2_bestAmong, Cond.instanceMethod yX2_bestAmong, Cond.selects RX2 yX2_bestAmong yX2_bestAmong, Cond.code yX2_bestAmong cX2_bestAmong 14 (some .int), Cond.fieldLink RX2 35 "TermGate$Memory" "count" "I", Cond.fieldLink RX2 24 "TermGate$Memory" "dueList" "LTermGate$Line;", Cond.fieldLink RX2 31 "TermGate$Memory" "edits" "LTermGate$Edits;", Cond.methodLink RX2 54 yX2_sentenceAt, Cond.instanceMethod yX2_sentenceAt, Cond.selects RX2 yX2_sentenceAt yX2_sentenceAt]
def wsL_best_r3 : List Cond := [Cond.code yX2_sentenceAt cX2_sentenceAt 2 (some (.object "TermGate$Sentence")), Cond.fieldLink RX2 11 "TermGate$Memory" "sentences" "[LTermGate$Sentence;", Cond.methodLink RX2 66 yX1_holds, Cond.instanceMethod yX1_holds, Cond.selects RX1 yX1_holds yX1_holds, Cond.initialized RX1, Cond.code yX1_holds cX1_holds 3 (some .boolean), Cond.fieldLink RX1 15 "TermGate$Line" "count" "I", Cond.methodLink RX1 23 yX1_at, Cond.instanceMethod yX1_at, Cond.selects RX1 yX1_at yX1_at, Cond.code yX1_at cX1_at 2 (some .int), Cond.fieldLink RX1 9 "TermGate$Line" "numbers" "[I", Cond.methodLink RX1 19 yX1_hasPlace, Cond.instanceMethod yX1_hasPlace, Cond.selects RX1 yX1_hasPlace yX1_hasPlace, Cond.code yX1_hasPlace cX1_hasPlace 2 (some .boolean), Cond.methodLink RX2 73 yX0_likenessOf, Cond.instanceMethod yX0_likenessOf, Cond.selects RX0 yX0_likenessOf yX0_likenessOf, Cond.initialized RX0, Cond.code yX0_likenessOf cX0_likenessOf 5 (some .int), Cond.methodLink RX0 25 Lib.Math.max.name, Cond.static Lib.Math.max.name]
def wsL_best_r4 : List Cond := [Cond.initialized "java/lang/Math", Cond.code Lib.Math.max.name Lib.Math.max.code 2 (some .int), Cond.methodLink RX0 15 yX0_compare, Cond.instanceMethod yX0_compare, Cond.selects RX0 yX0_compare yX0_compare, Cond.code yX0_compare cX0_compare 6 none, Cond.methodLink RX0 34 yX4_at, Cond.methodLink RX0 38 yX0_least, Cond.instanceMethod yX0_least, Cond.selects RX0 yX0_least yX0_least, Cond.code yX0_least cX0_least 7 (some .int), Cond.methodLink RX0 46 Lib.Math.min.name, Cond.static Lib.Math.min.name, Cond.code Lib.Math.min.name Lib.Math.min.code 2 (some .int), Cond.methodLink RX0 31 yX0_between, Cond.instanceMethod yX0_between, Cond.selects RX0 yX0_between yX0_between, Cond.code yX0_between cX0_between 4 (some .int), Cond.fieldLink RX0 11 "TermGate$Edits" "table" "[I", Cond.methodLink RX0 42 yX0_put, Cond.instanceMethod yX0_put, Cond.selects RX0 yX0_put yX0_put, Cond.code yX0_put cX0_put 5 none]
def wsL_best : List Cond := .codeWith yL_best cL_best 4 (some .int) [(0, 9, 12, 13), (0, 9, 15, 15)] :: ((wsL_best_r1 ++ (wsL_best_r2 ++ (wsL_best_r3 ++ wsL_best_r4))) ++ wsX70 ++ wsX40 ++ wsX20 ++ wsX60 ++ wsX10 ++ wsX00 ++ (vx_at0 RX7 71 "java/lang/IllegalArgumentException" ["java/lang/RuntimeException", "java/lang/Exception"]).filter goodWord ++ (vx_at0 RX7 77 "java/lang/IllegalStateException" ["java/lang/RuntimeException", "java/lang/Exception"]).filter goodWord)
def wsL_bestByAll_r1 : List Cond := [Cond.classLink RL 13 "java/lang/IllegalArgumentException", Cond.classLink RL 15 "java/lang/IllegalStateException", Cond.methodLink RL 25 yX7_bestByAll, Cond.instanceMethod yX7_bestByAll, Cond.selects RX7 yX7_bestByAll yX7_bestByAll, Cond.initialized RX7, Cond.code yX7_bestByAll cX7_bestByAll 2 (some .int), Cond.fieldLink RX7 26 "TermGate" "memory" "LTermGate$Memory;", Cond.constantLong RX7 111 (-1), Cond.fieldLink RX7 10 "TermGate" "draft" "LTermGate$Row;", Cond.fieldLink RX7 60 "TermGate" "leastLikeness" "I", Cond.methodLink RX7 104 yX7_refuseUnlessClient, Cond.static yX7_refuseUnlessClient, Cond.code yX7_refuseUnlessClient cX7_refuseUnlessClient 1 none, Cond.classLink RX7 69 "java/lang/IllegalArgumentException", Cond.initialized "java/lang/IllegalArgumentException", Cond.methodLink RX7 86 yX7_refuseEmptyDraft, Cond.instanceMethod yX7_refuseEmptyDraft, Cond.selects RX7 yX7_refuseEmptyDraft yX7_refuseEmptyDraft, Cond.code yX7_refuseEmptyDraft cX7_refuseEmptyDraft 1 none, Cond.classLink RX7 75 "java/lang/IllegalStateException", Cond.initialized "java/lang/IllegalStateException", Cond.methodLink RX7 113 yX2_bestAmong, Cond.instanceMethod yX2_bestAmong]
def wsL_bestByAll_r2 : List Cond := [Cond.selects RX2 yX2_bestAmong yX2_bestAmong, Cond.initialized RX2, Cond.code yX2_bestAmong cX2_bestAmong 14 (some .int), Cond.fieldLink RX2 35 "TermGate$Memory" "count" "I", Cond.fieldLink RX2 24 "TermGate$Memory" "dueList" "LTermGate$Line;", Cond.fieldLink RX2 31 "TermGate$Memory" "edits" "LTermGate$Edits;", Cond.methodLink RX2 54 yX2_sentenceAt, Cond.instanceMethod yX2_sentenceAt, Cond.selects RX2 yX2_sentenceAt yX2_sentenceAt, Cond.code yX2_sentenceAt cX2_sentenceAt 2 (some (.object "TermGate$Sentence")), Cond.fieldLink RX2 11 "TermGate$Memory" "sentences" "[LTermGate$Sentence;", Cond.methodLink RX2 66 yX1_holds, Cond.instanceMethod yX1_holds, Cond.selects RX1 yX1_holds yX1_holds, Cond.initialized RX1, Cond.code yX1_holds cX1_holds 3 (some .boolean), Cond.fieldLink RX1 15 "TermGate$Line" "count" "I", Cond.methodLink RX1 23 yX1_at, Cond.instanceMethod yX1_at, Cond.selects RX1 yX1_at yX1_at, Cond.code yX1_at cX1_at 2 (some .int), Cond.fieldLink RX1 9 "TermGate$Line" "numbers" "[I", Cond.methodLink RX1 19 yX1_hasPlace, Cond.instanceMethod yX1_hasPlace]
def wsL_bestByAll_r3 : List Cond := [Cond.selects RX1 yX1_hasPlace yX1_hasPlace, Cond.code yX1_hasPlace cX1_hasPlace 2 (some .boolean), Cond.methodLink RX2 73 yX0_likenessOf, Cond.instanceMethod yX0_likenessOf, Cond.selects RX0 yX0_likenessOf yX0_likenessOf, Cond.initialized RX0, Cond.code yX0_likenessOf cX0_likenessOf 5 (some .int), Cond.methodLink RX0 25 Lib.Math.max.name, Cond.static Lib.Math.max.name, Cond.initialized "java/lang/Math", Cond.code Lib.Math.max.name Lib.Math.max.code 2 (some .int), Cond.methodLink RX0 15 yX0_compare, Cond.instanceMethod yX0_compare, Cond.selects RX0 yX0_compare yX0_compare, Cond.code yX0_compare cX0_compare 6 none, Cond.methodLink RX0 34 yX4_at, Cond.instanceMethod yX4_at, Cond.selects RX4 yX4_at yX4_at, Cond.initialized RX4, Cond.code yX4_at cX4_at 2 (some .int), Cond.fieldLink RX4 15 "TermGate$Row" "length" "I", Cond.fieldLink RX4 9 "TermGate$Row" "values" "[I", Cond.methodLink RX0 38 yX0_least, Cond.instanceMethod yX0_least]
def wsL_bestByAll_r4 : List Cond := [Cond.selects RX0 yX0_least yX0_least, Cond.code yX0_least cX0_least 7 (some .int), Cond.methodLink RX0 46 Lib.Math.min.name, Cond.static Lib.Math.min.name, Cond.code Lib.Math.min.name Lib.Math.min.code 2 (some .int), Cond.methodLink RX0 31 yX0_between, Cond.instanceMethod yX0_between, Cond.selects RX0 yX0_between yX0_between, Cond.code yX0_between cX0_between 4 (some .int), Cond.fieldLink RX0 11 "TermGate$Edits" "table" "[I", Cond.methodLink RX0 42 yX0_put, Cond.instanceMethod yX0_put, Cond.selects RX0 yX0_put yX0_put, Cond.code yX0_put cX0_put 5 none]
def wsL_bestByAll : List Cond := .codeWith yL_bestByAll cL_bestByAll 4 (some .int) [(0, 9, 12, 13), (0, 9, 15, 15)] :: ((wsL_bestByAll_r1 ++ (wsL_bestByAll_r2 ++ (wsL_bestByAll_r3 ++ wsL_bestByAll_r4))) ++ wsX70 ++ wsX40 ++ wsX20 ++ wsX60 ++ wsX10 ++ wsX00 ++ (vx_at0 RX7 71 "java/lang/IllegalArgumentException" ["java/lang/RuntimeException", "java/lang/Exception"]).filter goodWord ++ (vx_at0 RX7 77 "java/lang/IllegalStateException" ["java/lang/RuntimeException", "java/lang/Exception"]).filter goodWord)
def wsL_cost_r1 : List Cond := [Cond.classLink RL 13 "java/lang/IllegalArgumentException", Cond.classLink RL 15 "java/lang/IllegalStateException", Cond.methodLink RL 28 yX7_cost, Cond.instanceMethod yX7_cost, Cond.selects RX7 yX7_cost yX7_cost, Cond.initialized RX7, Cond.code yX7_cost cX7_cost 4 (some .int), Cond.fieldLink RX7 26 "TermGate" "memory" "LTermGate$Memory;", Cond.fieldLink RX7 10 "TermGate" "draft" "LTermGate$Row;", Cond.methodLink RX7 104 yX7_refuseUnlessClient, Cond.static yX7_refuseUnlessClient, Cond.code yX7_refuseUnlessClient cX7_refuseUnlessClient 1 none, Cond.classLink RX7 69 "java/lang/IllegalArgumentException", Cond.initialized "java/lang/IllegalArgumentException", Cond.methodLink RX7 86 yX7_refuseEmptyDraft, Cond.instanceMethod yX7_refuseEmptyDraft, Cond.selects RX7 yX7_refuseEmptyDraft yX7_refuseEmptyDraft, Cond.code yX7_refuseEmptyDraft cX7_refuseEmptyDraft 1 none, Cond.classLink RX7 75 "java/lang/IllegalStateException", Cond.initialized "java/lang/IllegalStateException", Cond.methodLink RX7 107 yX7_bestFor, Cond.instanceMethod yX7_bestFor, Cond.selects RX7 yX7_bestFor yX7_bestFor, Cond.code yX7_bestFor cX7_bestFor 3 (some .int)]
def wsL_cost_r2 : List Cond := [Cond.fieldLink RX7 60 "TermGate" "leastLikeness" "I", Cond.methodLink RX7 285 yX2_sharingWith, Cond.instanceMethod yX2_sharingWith, Cond.selects RX2 yX2_sharingWith yX2_sharingWith, Cond.initialized RX2, Cond.code yX2_sharingWith cX2_sharingWith 6 (some .long), Cond.fieldLink RX2 17 "TermGate$Memory" "having" "[J", Cond.methodLink RX2 48 yX4_at, Cond.instanceMethod yX4_at, Cond.selects RX4 yX4_at yX4_at, Cond.initialized RX4, Cond.code yX4_at cX4_at 2 (some .int), Cond.fieldLink RX4 15 "TermGate$Row" "length" "I", Cond.fieldLink RX4 9 "TermGate$Row" "values" "[I", Cond.methodLink RX7 113 yX2_bestAmong, Cond.instanceMethod yX2_bestAmong, Cond.selects RX2 yX2_bestAmong yX2_bestAmong, Cond.code yX2_bestAmong cX2_bestAmong 14 (some .int), Cond.fieldLink RX2 35 "TermGate$Memory" "count" "I", Cond.fieldLink RX2 24 "TermGate$Memory" "dueList" "LTermGate$Line;", Cond.fieldLink RX2 31 "TermGate$Memory" "edits" "LTermGate$Edits;", Cond.methodLink RX2 54 yX2_sentenceAt, Cond.instanceMethod yX2_sentenceAt, Cond.selects RX2 yX2_sentenceAt yX2_sentenceAt]
def wsL_cost_r3 : List Cond := [Cond.code yX2_sentenceAt cX2_sentenceAt 2 (some (.object "TermGate$Sentence")), Cond.fieldLink RX2 11 "TermGate$Memory" "sentences" "[LTermGate$Sentence;", Cond.methodLink RX2 66 yX1_holds, Cond.instanceMethod yX1_holds, Cond.selects RX1 yX1_holds yX1_holds, Cond.initialized RX1, Cond.code yX1_holds cX1_holds 3 (some .boolean), Cond.fieldLink RX1 15 "TermGate$Line" "count" "I", Cond.methodLink RX1 23 yX1_at, Cond.instanceMethod yX1_at, Cond.selects RX1 yX1_at yX1_at, Cond.code yX1_at cX1_at 2 (some .int), Cond.fieldLink RX1 9 "TermGate$Line" "numbers" "[I", Cond.methodLink RX1 19 yX1_hasPlace, Cond.instanceMethod yX1_hasPlace, Cond.selects RX1 yX1_hasPlace yX1_hasPlace, Cond.code yX1_hasPlace cX1_hasPlace 2 (some .boolean), Cond.methodLink RX2 73 yX0_likenessOf, Cond.instanceMethod yX0_likenessOf, Cond.selects RX0 yX0_likenessOf yX0_likenessOf, Cond.initialized RX0, Cond.code yX0_likenessOf cX0_likenessOf 5 (some .int), Cond.methodLink RX0 25 Lib.Math.max.name, Cond.static Lib.Math.max.name]
def wsL_cost_r4 : List Cond := [Cond.initialized "java/lang/Math", Cond.code Lib.Math.max.name Lib.Math.max.code 2 (some .int), Cond.methodLink RX0 15 yX0_compare, Cond.instanceMethod yX0_compare, Cond.selects RX0 yX0_compare yX0_compare, Cond.code yX0_compare cX0_compare 6 none, Cond.methodLink RX0 34 yX4_at, Cond.methodLink RX0 38 yX0_least, Cond.instanceMethod yX0_least, Cond.selects RX0 yX0_least yX0_least, Cond.code yX0_least cX0_least 7 (some .int), Cond.methodLink RX0 46 Lib.Math.min.name, Cond.static Lib.Math.min.name, Cond.code Lib.Math.min.name Lib.Math.min.code 2 (some .int), Cond.methodLink RX0 31 yX0_between, Cond.instanceMethod yX0_between, Cond.selects RX0 yX0_between yX0_between, Cond.code yX0_between cX0_between 4 (some .int), Cond.fieldLink RX0 11 "TermGate$Edits" "table" "[I", Cond.methodLink RX0 42 yX0_put, Cond.instanceMethod yX0_put, Cond.selects RX0 yX0_put yX0_put, Cond.code yX0_put cX0_put 5 none, Cond.methodLink RX7 117 yX2_shareOf]
def wsL_cost_r5 : List Cond := [Cond.instanceMethod yX2_shareOf, Cond.selects RX2 yX2_shareOf yX2_shareOf, Cond.code yX2_shareOf cX2_shareOf 5 (some .int), Cond.methodLink RX7 121 yX7_costOf, Cond.instanceMethod yX7_costOf, Cond.selects RX7 yX7_costOf yX7_costOf, Cond.code yX7_costOf cX7_costOf 5 (some .int), Cond.fieldLink RX7 63 "TermGate" "pricePerWord" "I"]
def wsL_cost : List Cond := .codeWith yL_cost cL_cost 5 (some .int) [(0, 10, 13, 13), (0, 10, 17, 15)] :: ((wsL_cost_r1 ++ (wsL_cost_r2 ++ (wsL_cost_r3 ++ (wsL_cost_r4 ++ wsL_cost_r5)))) ++ wsX70 ++ wsX40 ++ wsX20 ++ wsX60 ++ wsX10 ++ wsX00 ++ (vx_at0 RX7 71 "java/lang/IllegalArgumentException" ["java/lang/RuntimeException", "java/lang/Exception"]).filter goodWord ++ (vx_at0 RX7 77 "java/lang/IllegalStateException" ["java/lang/RuntimeException", "java/lang/Exception"]).filter goodWord)
def wsL_order_r1 : List Cond := [Cond.classLink RL 13 "java/lang/IllegalArgumentException", Cond.classLink RL 15 "java/lang/IllegalStateException", Cond.methodLink RL 32 yX7_order, Cond.instanceMethod yX7_order, Cond.selects RX7 yX7_order yX7_order, Cond.initialized RX7, Cond.code yX7_order cX7_order 4 (some .int), Cond.classLink RX7 75 "java/lang/IllegalStateException", Cond.initialized "java/lang/IllegalStateException", Cond.fieldLink RX7 56 "TermGate" "orderCount" "I", Cond.fieldLink RX7 32 "TermGate" "orders" "[LTermGate$Order;", Cond.classLink RX7 30 RX3, Cond.instantiable RX3 7, Cond.initialized RX3, Cond.classLink RX7 94 RX6, Cond.instantiable RX6 3, Cond.initialized RX6, Cond.fieldLink RX7 10 "TermGate" "draft" "LTermGate$Row;", Cond.methodLink RX7 104 yX7_refuseUnlessClient, Cond.static yX7_refuseUnlessClient, Cond.code yX7_refuseUnlessClient cX7_refuseUnlessClient 1 none, Cond.classLink RX7 69 "java/lang/IllegalArgumentException", Cond.initialized "java/lang/IllegalArgumentException", Cond.methodLink RX7 86 yX7_refuseEmptyDraft]
def wsL_order_r2 : List Cond := [Cond.instanceMethod yX7_refuseEmptyDraft, Cond.selects RX7 yX7_refuseEmptyDraft yX7_refuseEmptyDraft, Cond.code yX7_refuseEmptyDraft cX7_refuseEmptyDraft 1 none, Cond.methodLink RX7 125 yX6_init, Cond.instanceMethod yX6_init, Cond.code yX6_init cX6_init 4 none, Cond.methodLink RX6 3 objectInit, Cond.instanceMethod objectInit, Cond.code objectInit ⟨#[0xb1]⟩ 1 none, Cond.classLink RX6 9 RX4, Cond.instantiable RX4 2, Cond.initialized RX4, Cond.fieldLink RX6 12 "TermGate$Sentence" "words" "LTermGate$Row;", Cond.fieldLink RX6 18 "TermGate$Sentence" "became" "LTermGate$Row;", Cond.fieldLink RX6 21 "TermGate$Sentence" "client" "I", Cond.instanceMethod yX4_init, Cond.code yX4_init cX4_init 1 none, Cond.methodLink RX4 3 objectInit, Cond.arrayClass .int, Cond.fieldLink RX4 9 "TermGate$Row" "values" "[I", Cond.fieldLink RX4 15 "TermGate$Row" "length" "I", Cond.methodLink RX6 28 yX4_at, Cond.instanceMethod yX4_at, Cond.selects RX4 yX4_at yX4_at]
def wsL_order_r3 : List Cond := [Cond.code yX4_at cX4_at 2 (some .int), Cond.methodLink RX6 32 yX4_append, Cond.instanceMethod yX4_append, Cond.selects RX4 yX4_append yX4_append, Cond.code yX4_append cX4_append 3 none, Cond.methodLink RX7 128 yX3_init, Cond.instanceMethod yX3_init, Cond.code yX3_init cX3_init 4 none, Cond.methodLink RX3 3 objectInit, Cond.fieldLink RX3 9 "TermGate$Order" "standing" "I", Cond.fieldLink RX3 15 "TermGate$Order" "match" "I", Cond.fieldLink RX3 18 "TermGate$Order" "cost" "I", Cond.fieldLink RX3 21 "TermGate$Order" "pay" "I", Cond.fieldLink RX3 24 "TermGate$Order" "number" "I", Cond.fieldLink RX3 27 "TermGate$Order" "isRush" "Z", Cond.fieldLink RX3 31 "TermGate$Order" "sentence" "LTermGate$Sentence;", Cond.methodLink RX7 131 yX7_deskFor, Cond.instanceMethod yX7_deskFor, Cond.selects RX7 yX7_deskFor yX7_deskFor, Cond.code yX7_deskFor cX7_deskFor 2 (some (.object "TermGate$Line")), Cond.fieldLink RX7 42 "TermGate" "rushDesk" "LTermGate$Line;", Cond.fieldLink RX7 46 "TermGate" "otherDesk" "LTermGate$Line;", Cond.methodLink RX7 135 yX1_addLast, Cond.instanceMethod yX1_addLast]
def wsL_order_r4 : List Cond := [Cond.selects RX1 yX1_addLast yX1_addLast, Cond.initialized RX1, Cond.code yX1_addLast cX1_addLast 3 none, Cond.fieldLink RX1 15 "TermGate$Line" "count" "I", Cond.fieldLink RX1 9 "TermGate$Line" "numbers" "[I"]
def wsL_order : List Cond := .codeWith yL_order cL_order 5 (some .int) [(0, 10, 13, 13), (0, 10, 17, 15)] :: ((wsL_order_r1 ++ (wsL_order_r2 ++ (wsL_order_r3 ++ wsL_order_r4))) ++ wsX70 ++ wsX30 ++ wsX60 ++ wsX40 ++ wsX10 ++ (vx_at0 RX7 77 "java/lang/IllegalStateException" ["java/lang/RuntimeException", "java/lang/Exception"]).filter goodWord ++ (vx_at0 RX7 71 "java/lang/IllegalArgumentException" ["java/lang/RuntimeException", "java/lang/Exception"]).filter goodWord)
def wsL_take_r1 : List Cond := [Cond.classLink RL 13 "java/lang/IllegalArgumentException", Cond.classLink RL 15 "java/lang/IllegalStateException", Cond.methodLink RL 35 yX7_take, Cond.instanceMethod yX7_take, Cond.selects RX7 yX7_take yX7_take, Cond.initialized RX7, Cond.code yX7_take cX7_take 4 (some .int), Cond.classLink RX7 75 "java/lang/IllegalStateException", Cond.initialized "java/lang/IllegalStateException", Cond.fieldLink RX7 42 "TermGate" "rushDesk" "LTermGate$Line;", Cond.fieldLink RX7 46 "TermGate" "otherDesk" "LTermGate$Line;", Cond.methodLink RX7 138 yX7_refuseUnlessTranslator, Cond.static yX7_refuseUnlessTranslator, Cond.code yX7_refuseUnlessTranslator cX7_refuseUnlessTranslator 1 none, Cond.classLink RX7 69 "java/lang/IllegalArgumentException", Cond.initialized "java/lang/IllegalArgumentException", Cond.methodLink RX7 141 yX7_handOf, Cond.instanceMethod yX7_handOf, Cond.selects RX7 yX7_handOf yX7_handOf, Cond.code yX7_handOf cX7_handOf 2 (some (.object "TermGate$Order")), Cond.fieldLink RX7 36 "TermGate" "inHand" "[LTermGate$Order;", Cond.methodLink RX7 148 yX1_at, Cond.instanceMethod yX1_at, Cond.selects RX1 yX1_at yX1_at]
def wsL_take_r2 : List Cond := [Cond.initialized RX1, Cond.code yX1_at cX1_at 2 (some .int), Cond.fieldLink RX1 9 "TermGate$Line" "numbers" "[I", Cond.methodLink RX1 19 yX1_hasPlace, Cond.instanceMethod yX1_hasPlace, Cond.selects RX1 yX1_hasPlace yX1_hasPlace, Cond.code yX1_hasPlace cX1_hasPlace 2 (some .boolean), Cond.fieldLink RX1 15 "TermGate$Line" "count" "I", Cond.methodLink RX7 152 yX7_orderNumbered, Cond.instanceMethod yX7_orderNumbered, Cond.selects RX7 yX7_orderNumbered yX7_orderNumbered, Cond.code yX7_orderNumbered cX7_orderNumbered 2 (some (.object "TermGate$Order")), Cond.fieldLink RX7 32 "TermGate" "orders" "[LTermGate$Order;", Cond.methodLink RX7 155 yX1_removeFirst, Cond.instanceMethod yX1_removeFirst, Cond.selects RX1 yX1_removeFirst yX1_removeFirst, Cond.code yX1_removeFirst cX1_removeFirst 1 none, Cond.methodLink RX1 31 yX1_removeAt, Cond.instanceMethod yX1_removeAt, Cond.selects RX1 yX1_removeAt yX1_removeAt, Cond.code yX1_removeAt cX1_removeAt 3 none, Cond.methodLink RX7 158 yX7_putInHand, Cond.instanceMethod yX7_putInHand, Cond.selects RX7 yX7_putInHand yX7_putInHand]
def wsL_take_r3 : List Cond := [Cond.code yX7_putInHand cX7_putInHand 3 none, Cond.methodLink RX7 165 yX7_begin, Cond.instanceMethod yX7_begin, Cond.selects RX7 yX7_begin yX7_begin, Cond.code yX7_begin cX7_begin 5 none, Cond.fieldLink RX7 26 "TermGate" "memory" "LTermGate$Memory;", Cond.fieldLink RX7 66 "TermGate" "ratePerWord" "I", Cond.methodLink RX7 107 yX7_bestFor, Cond.instanceMethod yX7_bestFor, Cond.selects RX7 yX7_bestFor yX7_bestFor, Cond.code yX7_bestFor cX7_bestFor 3 (some .int), Cond.fieldLink RX7 60 "TermGate" "leastLikeness" "I", Cond.methodLink RX7 285 yX2_sharingWith, Cond.instanceMethod yX2_sharingWith, Cond.selects RX2 yX2_sharingWith yX2_sharingWith, Cond.initialized RX2, Cond.code yX2_sharingWith cX2_sharingWith 6 (some .long), Cond.fieldLink RX2 17 "TermGate$Memory" "having" "[J", Cond.methodLink RX2 48 yX4_at, Cond.instanceMethod yX4_at, Cond.selects RX4 yX4_at yX4_at, Cond.initialized RX4, Cond.code yX4_at cX4_at 2 (some .int), Cond.fieldLink RX4 15 "TermGate$Row" "length" "I"]
def wsL_take_r4 : List Cond := [Cond.fieldLink RX4 9 "TermGate$Row" "values" "[I", Cond.methodLink RX7 113 yX2_bestAmong, Cond.instanceMethod yX2_bestAmong, Cond.selects RX2 yX2_bestAmong yX2_bestAmong, Cond.code yX2_bestAmong cX2_bestAmong 14 (some .int), Cond.fieldLink RX2 35 "TermGate$Memory" "count" "I", Cond.fieldLink RX2 24 "TermGate$Memory" "dueList" "LTermGate$Line;", Cond.fieldLink RX2 31 "TermGate$Memory" "edits" "LTermGate$Edits;", Cond.methodLink RX2 54 yX2_sentenceAt, Cond.instanceMethod yX2_sentenceAt, Cond.selects RX2 yX2_sentenceAt yX2_sentenceAt, Cond.code yX2_sentenceAt cX2_sentenceAt 2 (some (.object "TermGate$Sentence")), Cond.fieldLink RX2 11 "TermGate$Memory" "sentences" "[LTermGate$Sentence;", Cond.methodLink RX2 66 yX1_holds, Cond.instanceMethod yX1_holds, Cond.selects RX1 yX1_holds yX1_holds, Cond.code yX1_holds cX1_holds 3 (some .boolean), Cond.methodLink RX1 23 yX1_at, Cond.methodLink RX2 73 yX0_likenessOf, Cond.instanceMethod yX0_likenessOf, Cond.selects RX0 yX0_likenessOf yX0_likenessOf, Cond.initialized RX0, Cond.code yX0_likenessOf cX0_likenessOf 5 (some .int), Cond.methodLink RX0 25 Lib.Math.max.name]
def wsL_take_r5 : List Cond := [Cond.static Lib.Math.max.name, Cond.initialized "java/lang/Math", Cond.code Lib.Math.max.name Lib.Math.max.code 2 (some .int), Cond.methodLink RX0 15 yX0_compare, Cond.instanceMethod yX0_compare, Cond.selects RX0 yX0_compare yX0_compare, Cond.code yX0_compare cX0_compare 6 none, Cond.methodLink RX0 34 yX4_at, Cond.methodLink RX0 38 yX0_least, Cond.instanceMethod yX0_least, Cond.selects RX0 yX0_least yX0_least, Cond.code yX0_least cX0_least 7 (some .int), Cond.methodLink RX0 46 Lib.Math.min.name, Cond.static Lib.Math.min.name, Cond.code Lib.Math.min.name Lib.Math.min.code 2 (some .int), Cond.methodLink RX0 31 yX0_between, Cond.instanceMethod yX0_between, Cond.selects RX0 yX0_between yX0_between, Cond.code yX0_between cX0_between 4 (some .int), Cond.fieldLink RX0 11 "TermGate$Edits" "table" "[I", Cond.methodLink RX0 42 yX0_put, Cond.instanceMethod yX0_put, Cond.selects RX0 yX0_put yX0_put, Cond.code yX0_put cX0_put 5 none]
def wsL_take_r6 : List Cond := [Cond.methodLink RX7 117 yX2_shareOf, Cond.instanceMethod yX2_shareOf, Cond.selects RX2 yX2_shareOf yX2_shareOf, Cond.code yX2_shareOf cX2_shareOf 5 (some .int), Cond.methodLink RX7 121 yX7_costOf, Cond.instanceMethod yX7_costOf, Cond.selects RX7 yX7_costOf yX7_costOf, Cond.code yX7_costOf cX7_costOf 5 (some .int), Cond.fieldLink RX7 63 "TermGate" "pricePerWord" "I", Cond.methodLink RX7 282 yX2_lendTo, Cond.instanceMethod yX2_lendTo, Cond.selects RX2 yX2_lendTo yX2_lendTo, Cond.code yX2_lendTo cX2_lendTo 8 none, Cond.methodLink RX2 80 yX0_compare, Cond.methodLink RX2 87 yX4_put, Cond.instanceMethod yX4_put, Cond.selects RX4 yX4_put yX4_put, Cond.code yX4_put cX4_put 3 none, Cond.methodLink RX4 19 yX4_has, Cond.instanceMethod yX4_has, Cond.selects RX4 yX4_has yX4_has, Cond.code yX4_has cX4_has 2 (some .boolean), Cond.methodLink RX2 91 yX0_skipBehind, Cond.instanceMethod yX0_skipBehind]
def wsL_take_r7 : List Cond := [Cond.selects RX0 yX0_skipBehind yX0_skipBehind, Cond.code yX0_skipBehind cX0_skipBehind 6 (some .int)]
def wsL_take : List Cond := .codeWith yL_take cL_take 4 (some .int) [(0, 9, 12, 13), (0, 9, 15, 15)] :: ((wsL_take_r1 ++ (wsL_take_r2 ++ (wsL_take_r3 ++ (wsL_take_r4 ++ (wsL_take_r5 ++ (wsL_take_r6 ++ wsL_take_r7)))))) ++ wsX70 ++ wsX10 ++ wsX30 ++ wsX60 ++ wsX40 ++ wsX20 ++ wsX00 ++ (vx_at0 RX7 77 "java/lang/IllegalStateException" ["java/lang/RuntimeException", "java/lang/Exception"]).filter goodWord ++ (vx_at0 RX7 71 "java/lang/IllegalArgumentException" ["java/lang/RuntimeException", "java/lang/Exception"]).filter goodWord)
def wsL_giveBack_r1 : List Cond := [Cond.classLink RL 13 "java/lang/IllegalArgumentException", Cond.classLink RL 15 "java/lang/IllegalStateException", Cond.methodLink RL 38 yX7_giveBack, Cond.instanceMethod yX7_giveBack, Cond.selects RX7 yX7_giveBack yX7_giveBack, Cond.initialized RX7, Cond.code yX7_giveBack cX7_giveBack 3 (some .int), Cond.methodLink RX7 172 yX7_orderInHandOf, Cond.instanceMethod yX7_orderInHandOf, Cond.selects RX7 yX7_orderInHandOf yX7_orderInHandOf, Cond.code yX7_orderInHandOf cX7_orderInHandOf 3 (some (.object "TermGate$Order")), Cond.classLink RX7 75 "java/lang/IllegalStateException", Cond.initialized "java/lang/IllegalStateException", Cond.methodLink RX7 138 yX7_refuseUnlessTranslator, Cond.static yX7_refuseUnlessTranslator, Cond.code yX7_refuseUnlessTranslator cX7_refuseUnlessTranslator 1 none, Cond.classLink RX7 69 "java/lang/IllegalArgumentException", Cond.initialized "java/lang/IllegalArgumentException", Cond.methodLink RX7 141 yX7_handOf, Cond.instanceMethod yX7_handOf, Cond.selects RX7 yX7_handOf yX7_handOf, Cond.code yX7_handOf cX7_handOf 2 (some (.object "TermGate$Order")), Cond.fieldLink RX7 36 "TermGate" "inHand" "[LTermGate$Order;", Cond.methodLink RX7 158 yX7_putInHand]
def wsL_giveBack_r2 : List Cond := [Cond.instanceMethod yX7_putInHand, Cond.selects RX7 yX7_putInHand yX7_putInHand, Cond.code yX7_putInHand cX7_putInHand 3 none, Cond.methodLink RX7 182 yX6_forgetAll, Cond.instanceMethod yX6_forgetAll, Cond.selects RX6 yX6_forgetAll yX6_forgetAll, Cond.initialized RX6, Cond.code yX6_forgetAll cX6_forgetAll 2 none, Cond.fieldLink RX6 18 "TermGate$Sentence" "became" "LTermGate$Row;", Cond.methodLink RX6 36 yX4_put, Cond.instanceMethod yX4_put, Cond.selects RX4 yX4_put yX4_put, Cond.initialized RX4, Cond.code yX4_put cX4_put 3 none, Cond.fieldLink RX4 9 "TermGate$Row" "values" "[I", Cond.methodLink RX4 19 yX4_has, Cond.instanceMethod yX4_has, Cond.selects RX4 yX4_has yX4_has, Cond.code yX4_has cX4_has 2 (some .boolean), Cond.fieldLink RX4 15 "TermGate$Row" "length" "I", Cond.methodLink RX7 131 yX7_deskFor, Cond.instanceMethod yX7_deskFor, Cond.selects RX7 yX7_deskFor yX7_deskFor, Cond.code yX7_deskFor cX7_deskFor 2 (some (.object "TermGate$Line"))]
def wsL_giveBack_r3 : List Cond := [Cond.fieldLink RX7 42 "TermGate" "rushDesk" "LTermGate$Line;", Cond.fieldLink RX7 46 "TermGate" "otherDesk" "LTermGate$Line;", Cond.methodLink RX7 189 yX1_addFirst, Cond.instanceMethod yX1_addFirst, Cond.selects RX1 yX1_addFirst yX1_addFirst, Cond.initialized RX1, Cond.code yX1_addFirst cX1_addFirst 5 none, Cond.fieldLink RX1 15 "TermGate$Line" "count" "I", Cond.fieldLink RX1 9 "TermGate$Line" "numbers" "[I", Cond.methodLink RX1 27 yX1_addLast, Cond.instanceMethod yX1_addLast, Cond.selects RX1 yX1_addLast yX1_addLast, Cond.code yX1_addLast cX1_addLast 3 none]
def wsL_giveBack : List Cond := .codeWith yL_giveBack cL_giveBack 4 (some .int) [(0, 9, 12, 13), (0, 9, 15, 15)] :: ((wsL_giveBack_r1 ++ (wsL_giveBack_r2 ++ wsL_giveBack_r3)) ++ wsX30 ++ wsX70 ++ wsX60 ++ wsX40 ++ wsX10 ++ (vx_at0 RX7 77 "java/lang/IllegalStateException" ["java/lang/RuntimeException", "java/lang/Exception"]).filter goodWord ++ (vx_at0 RX7 71 "java/lang/IllegalArgumentException" ["java/lang/RuntimeException", "java/lang/Exception"]).filter goodWord)
def wsL_translate_r1 : List Cond := [Cond.classLink RL 13 "java/lang/IllegalArgumentException", Cond.classLink RL 15 "java/lang/IllegalStateException", Cond.classLink RL 20 "java/lang/IndexOutOfBoundsException", Cond.methodLink RL 41 yX7_translate, Cond.instanceMethod yX7_translate, Cond.selects RX7 yX7_translate yX7_translate, Cond.initialized RX7, Cond.code yX7_translate cX7_translate 5 (some .int), Cond.classLink RX7 69 "java/lang/IllegalArgumentException", Cond.initialized "java/lang/IllegalArgumentException", Cond.methodLink RX7 172 yX7_orderInHandOf, Cond.instanceMethod yX7_orderInHandOf, Cond.selects RX7 yX7_orderInHandOf yX7_orderInHandOf, Cond.code yX7_orderInHandOf cX7_orderInHandOf 3 (some (.object "TermGate$Order")), Cond.classLink RX7 75 "java/lang/IllegalStateException", Cond.initialized "java/lang/IllegalStateException", Cond.methodLink RX7 138 yX7_refuseUnlessTranslator, Cond.static yX7_refuseUnlessTranslator, Cond.code yX7_refuseUnlessTranslator cX7_refuseUnlessTranslator 1 none, Cond.methodLink RX7 141 yX7_handOf, Cond.instanceMethod yX7_handOf, Cond.selects RX7 yX7_handOf yX7_handOf, Cond.code yX7_handOf cX7_handOf 2 (some (.object "TermGate$Order")), Cond.fieldLink RX7 36 "TermGate" "inHand" "[LTermGate$Order;"]
def wsL_translate_r2 : List Cond := [Cond.methodLink RX7 192 yX7_refuseUnlessPlace, Cond.static yX7_refuseUnlessPlace, Cond.code yX7_refuseUnlessPlace cX7_refuseUnlessPlace 2 none, Cond.classLink RX7 237 "java/lang/IndexOutOfBoundsException", Cond.initialized "java/lang/IndexOutOfBoundsException", Cond.methodLink RX7 276 yX4_has, Cond.instanceMethod yX4_has, Cond.selects RX4 yX4_has yX4_has, Cond.initialized RX4, Cond.code yX4_has cX4_has 2 (some .boolean), Cond.fieldLink RX4 15 "TermGate$Row" "length" "I", Cond.fieldLink RX4 9 "TermGate$Row" "values" "[I", Cond.methodLink RX7 199 yX4_put, Cond.instanceMethod yX4_put, Cond.selects RX4 yX4_put yX4_put, Cond.code yX4_put cX4_put 3 none, Cond.methodLink RX4 19 yX4_has, Cond.methodLink RX7 203 yX6_countOpen, Cond.instanceMethod yX6_countOpen, Cond.selects RX6 yX6_countOpen yX6_countOpen, Cond.initialized RX6, Cond.code yX6_countOpen cX6_countOpen 3 (some .int), Cond.fieldLink RX6 18 "TermGate$Sentence" "became" "LTermGate$Row;", Cond.methodLink RX6 28 yX4_at]
def wsL_translate_r3 : List Cond := [Cond.instanceMethod yX4_at, Cond.selects RX4 yX4_at yX4_at, Cond.code yX4_at cX4_at 2 (some .int)]
def wsL_translate : List Cond := .codeWith yL_translate cL_translate 6 (some .int) [(0, 12, 15, 13), (0, 12, 19, 15), (0, 12, 23, 20)] :: ((wsL_translate_r1 ++ (wsL_translate_r2 ++ wsL_translate_r3)) ++ wsX30 ++ wsX60 ++ wsX70 ++ wsX40 ++ (vx_at0 RX7 71 "java/lang/IllegalArgumentException" ["java/lang/RuntimeException", "java/lang/Exception"]).filter goodWord ++ (vx_at0 RX7 77 "java/lang/IllegalStateException" ["java/lang/RuntimeException", "java/lang/Exception"]).filter goodWord ++ (vx_at0 RX7 239 "java/lang/IndexOutOfBoundsException" ["java/lang/RuntimeException", "java/lang/Exception"]).filter goodWord)
def wsL_deliver_r1 : List Cond := [Cond.classLink RL 13 "java/lang/IllegalArgumentException", Cond.classLink RL 15 "java/lang/IllegalStateException", Cond.methodLink RL 45 yX7_deliver, Cond.instanceMethod yX7_deliver, Cond.selects RX7 yX7_deliver yX7_deliver, Cond.initialized RX7, Cond.code yX7_deliver cX7_deliver 4 (some .int), Cond.classLink RX7 75 "java/lang/IllegalStateException", Cond.initialized "java/lang/IllegalStateException", Cond.fieldLink RX7 19 "TermGate" "rulings" "LTermGate$Rulings;", Cond.fieldLink RX7 26 "TermGate" "memory" "LTermGate$Memory;", Cond.fieldLink RX7 49 "TermGate" "paidByClient" "[I", Cond.fieldLink RX7 53 "TermGate" "earnedByTranslator" "[I", Cond.methodLink RX7 172 yX7_orderInHandOf, Cond.instanceMethod yX7_orderInHandOf, Cond.selects RX7 yX7_orderInHandOf yX7_orderInHandOf, Cond.code yX7_orderInHandOf cX7_orderInHandOf 3 (some (.object "TermGate$Order")), Cond.methodLink RX7 138 yX7_refuseUnlessTranslator, Cond.static yX7_refuseUnlessTranslator, Cond.code yX7_refuseUnlessTranslator cX7_refuseUnlessTranslator 1 none, Cond.classLink RX7 69 "java/lang/IllegalArgumentException", Cond.initialized "java/lang/IllegalArgumentException", Cond.methodLink RX7 141 yX7_handOf, Cond.instanceMethod yX7_handOf]
def wsL_deliver_r2 : List Cond := [Cond.selects RX7 yX7_handOf yX7_handOf, Cond.code yX7_handOf cX7_handOf 2 (some (.object "TermGate$Order")), Cond.fieldLink RX7 36 "TermGate" "inHand" "[LTermGate$Order;", Cond.methodLink RX7 207 yX3_whyNot, Cond.instanceMethod yX3_whyNot, Cond.selects RX3 yX3_whyNot yX3_whyNot, Cond.initialized RX3, Cond.code yX3_whyNot cX3_whyNot 2 (some .int), Cond.fieldLink RX3 31 "TermGate$Order" "sentence" "LTermGate$Sentence;", Cond.methodLink RX3 35 yX6_firstOpen, Cond.instanceMethod yX6_firstOpen, Cond.selects RX6 yX6_firstOpen yX6_firstOpen, Cond.initialized RX6, Cond.code yX6_firstOpen cX6_firstOpen 2 (some .int), Cond.fieldLink RX6 18 "TermGate$Sentence" "became" "LTermGate$Row;", Cond.methodLink RX6 28 yX4_at, Cond.instanceMethod yX4_at, Cond.selects RX4 yX4_at yX4_at, Cond.initialized RX4, Cond.code yX4_at cX4_at 2 (some .int), Cond.fieldLink RX4 15 "TermGate$Row" "length" "I", Cond.fieldLink RX4 9 "TermGate$Row" "values" "[I", Cond.methodLink RX3 41 yX3_firstBroken, Cond.instanceMethod yX3_firstBroken]
def wsL_deliver_r3 : List Cond := [Cond.selects RX3 yX3_firstBroken yX3_firstBroken, Cond.code yX3_firstBroken cX3_firstBroken 2 (some .int), Cond.fieldLink RX3 27 "TermGate$Order" "isRush" "Z", Cond.methodLink RX3 45 yX6_firstAstray, Cond.instanceMethod yX6_firstAstray, Cond.selects RX6 yX6_firstAstray yX6_firstAstray, Cond.code yX6_firstAstray cX6_firstAstray 3 (some .int), Cond.fieldLink RX6 12 "TermGate$Sentence" "words" "LTermGate$Row;", Cond.methodLink RX6 46 yX6_isAstrayAt, Cond.instanceMethod yX6_isAstrayAt, Cond.selects RX6 yX6_isAstrayAt yX6_isAstrayAt, Cond.code yX6_isAstrayAt cX6_isAstrayAt 4 (some .boolean), Cond.fieldLink RX6 21 "TermGate$Sentence" "client" "I", Cond.methodLink RX6 40 yX5_rulingOf, Cond.instanceMethod yX5_rulingOf, Cond.selects RX5 yX5_rulingOf yX5_rulingOf, Cond.initialized RX5, Cond.code yX5_rulingOf cX5_rulingOf 4 (some .int), Cond.fieldLink RX5 15 "TermGate$Rulings" "ruled" "[I", Cond.methodLink RX5 27 yX5_slotOf, Cond.static yX5_slotOf, Cond.code yX5_slotOf cX5_slotOf 3 (some .int), Cond.methodLink RX7 158 yX7_putInHand, Cond.instanceMethod yX7_putInHand]
def wsL_deliver_r4 : List Cond := [Cond.selects RX7 yX7_putInHand yX7_putInHand, Cond.code yX7_putInHand cX7_putInHand 3 none, Cond.methodLink RX7 218 yX7_addTo, Cond.static yX7_addTo, Cond.code yX7_addTo cX7_addTo 3 none, Cond.methodLink RX7 225 yX2_keep, Cond.instanceMethod yX2_keep, Cond.selects RX2 yX2_keep yX2_keep, Cond.initialized RX2, Cond.code yX2_keep cX2_keep 5 (some .int), Cond.fieldLink RX2 35 "TermGate$Memory" "count" "I", Cond.fieldLink RX2 11 "TermGate$Memory" "sentences" "[LTermGate$Sentence;", Cond.fieldLink RX2 17 "TermGate$Memory" "having" "[J", Cond.methodLink RX2 48 yX4_at, Cond.methodLink RX7 229 yX2_listDue, Cond.instanceMethod yX2_listDue, Cond.selects RX2 yX2_listDue yX2_listDue, Cond.code yX2_listDue cX2_listDue 4 none, Cond.fieldLink RX2 24 "TermGate$Memory" "dueList" "LTermGate$Line;", Cond.methodLink RX2 53 yX1_at, Cond.instanceMethod yX1_at, Cond.selects RX1 yX1_at yX1_at, Cond.initialized RX1, Cond.code yX1_at cX1_at 2 (some .int)]
def wsL_deliver_r5 : List Cond := [Cond.fieldLink RX1 9 "TermGate$Line" "numbers" "[I", Cond.methodLink RX1 19 yX1_hasPlace, Cond.instanceMethod yX1_hasPlace, Cond.selects RX1 yX1_hasPlace yX1_hasPlace, Cond.code yX1_hasPlace cX1_hasPlace 2 (some .boolean), Cond.fieldLink RX1 15 "TermGate$Line" "count" "I", Cond.methodLink RX2 54 yX2_sentenceAt, Cond.instanceMethod yX2_sentenceAt, Cond.selects RX2 yX2_sentenceAt yX2_sentenceAt, Cond.code yX2_sentenceAt cX2_sentenceAt 2 (some (.object "TermGate$Sentence")), Cond.methodLink RX2 58 yX6_firstAstray, Cond.methodLink RX2 62 yX1_removeAt, Cond.instanceMethod yX1_removeAt, Cond.selects RX1 yX1_removeAt yX1_removeAt, Cond.code yX1_removeAt cX1_removeAt 3 none, Cond.methodLink RX2 66 yX1_holds, Cond.instanceMethod yX1_holds, Cond.selects RX1 yX1_holds yX1_holds, Cond.code yX1_holds cX1_holds 3 (some .boolean), Cond.methodLink RX1 23 yX1_at, Cond.methodLink RX2 70 yX1_addLast, Cond.instanceMethod yX1_addLast, Cond.selects RX1 yX1_addLast yX1_addLast, Cond.code yX1_addLast cX1_addLast 3 none]
def wsL_deliver : List Cond := .codeWith yL_deliver cL_deliver 4 (some .int) [(0, 9, 12, 13), (0, 9, 15, 15)] :: ((wsL_deliver_r1 ++ (wsL_deliver_r2 ++ (wsL_deliver_r3 ++ (wsL_deliver_r4 ++ wsL_deliver_r5)))) ++ wsX70 ++ wsX20 ++ wsX30 ++ wsX60 ++ wsX40 ++ wsX50 ++ wsX10 ++ (vx_at0 RX7 77 "java/lang/IllegalStateException" ["java/lang/RuntimeException", "java/lang/Exception"]).filter goodWord ++ (vx_at0 RX7 71 "java/lang/IllegalArgumentException" ["java/lang/RuntimeException", "java/lang/Exception"]).filter goodWord)
def wsL_why_r1 : List Cond := [Cond.classLink RL 13 "java/lang/IllegalArgumentException", Cond.classLink RL 15 "java/lang/IllegalStateException", Cond.methodLink RL 48 yX7_why, Cond.instanceMethod yX7_why, Cond.selects RX7 yX7_why yX7_why, Cond.initialized RX7, Cond.code yX7_why cX7_why 2 (some .int), Cond.fieldLink RX7 19 "TermGate" "rulings" "LTermGate$Rulings;", Cond.methodLink RX7 172 yX7_orderInHandOf, Cond.instanceMethod yX7_orderInHandOf, Cond.selects RX7 yX7_orderInHandOf yX7_orderInHandOf, Cond.code yX7_orderInHandOf cX7_orderInHandOf 3 (some (.object "TermGate$Order")), Cond.classLink RX7 75 "java/lang/IllegalStateException", Cond.initialized "java/lang/IllegalStateException", Cond.methodLink RX7 138 yX7_refuseUnlessTranslator, Cond.static yX7_refuseUnlessTranslator, Cond.code yX7_refuseUnlessTranslator cX7_refuseUnlessTranslator 1 none, Cond.classLink RX7 69 "java/lang/IllegalArgumentException", Cond.initialized "java/lang/IllegalArgumentException", Cond.methodLink RX7 141 yX7_handOf, Cond.instanceMethod yX7_handOf, Cond.selects RX7 yX7_handOf yX7_handOf, Cond.code yX7_handOf cX7_handOf 2 (some (.object "TermGate$Order")), Cond.fieldLink RX7 36 "TermGate" "inHand" "[LTermGate$Order;"]
def wsL_why_r2 : List Cond := [Cond.methodLink RX7 207 yX3_whyNot, Cond.instanceMethod yX3_whyNot, Cond.selects RX3 yX3_whyNot yX3_whyNot, Cond.initialized RX3, Cond.code yX3_whyNot cX3_whyNot 2 (some .int), Cond.fieldLink RX3 31 "TermGate$Order" "sentence" "LTermGate$Sentence;", Cond.methodLink RX3 35 yX6_firstOpen, Cond.instanceMethod yX6_firstOpen, Cond.selects RX6 yX6_firstOpen yX6_firstOpen, Cond.initialized RX6, Cond.code yX6_firstOpen cX6_firstOpen 2 (some .int), Cond.fieldLink RX6 18 "TermGate$Sentence" "became" "LTermGate$Row;", Cond.methodLink RX6 28 yX4_at, Cond.instanceMethod yX4_at, Cond.selects RX4 yX4_at yX4_at, Cond.initialized RX4, Cond.code yX4_at cX4_at 2 (some .int), Cond.fieldLink RX4 15 "TermGate$Row" "length" "I", Cond.fieldLink RX4 9 "TermGate$Row" "values" "[I", Cond.methodLink RX3 41 yX3_firstBroken, Cond.instanceMethod yX3_firstBroken, Cond.selects RX3 yX3_firstBroken yX3_firstBroken, Cond.code yX3_firstBroken cX3_firstBroken 2 (some .int), Cond.fieldLink RX3 27 "TermGate$Order" "isRush" "Z"]
def wsL_why_r3 : List Cond := [Cond.methodLink RX3 45 yX6_firstAstray, Cond.instanceMethod yX6_firstAstray, Cond.selects RX6 yX6_firstAstray yX6_firstAstray, Cond.code yX6_firstAstray cX6_firstAstray 3 (some .int), Cond.fieldLink RX6 12 "TermGate$Sentence" "words" "LTermGate$Row;", Cond.methodLink RX6 46 yX6_isAstrayAt, Cond.instanceMethod yX6_isAstrayAt, Cond.selects RX6 yX6_isAstrayAt yX6_isAstrayAt, Cond.code yX6_isAstrayAt cX6_isAstrayAt 4 (some .boolean), Cond.fieldLink RX6 21 "TermGate$Sentence" "client" "I", Cond.methodLink RX6 40 yX5_rulingOf, Cond.instanceMethod yX5_rulingOf, Cond.selects RX5 yX5_rulingOf yX5_rulingOf, Cond.initialized RX5, Cond.code yX5_rulingOf cX5_rulingOf 4 (some .int), Cond.fieldLink RX5 15 "TermGate$Rulings" "ruled" "[I", Cond.methodLink RX5 27 yX5_slotOf, Cond.static yX5_slotOf, Cond.code yX5_slotOf cX5_slotOf 3 (some .int)]
def wsL_why : List Cond := .codeWith yL_why cL_why 4 (some .int) [(0, 9, 12, 13), (0, 9, 15, 15)] :: ((wsL_why_r1 ++ (wsL_why_r2 ++ wsL_why_r3)) ++ wsX70 ++ wsX30 ++ wsX60 ++ wsX40 ++ wsX50 ++ (vx_at0 RX7 77 "java/lang/IllegalStateException" ["java/lang/RuntimeException", "java/lang/Exception"]).filter goodWord ++ (vx_at0 RX7 71 "java/lang/IllegalArgumentException" ["java/lang/RuntimeException", "java/lang/Exception"]).filter goodWord)
def wsL_wherefore_r1 : List Cond := [Cond.classLink RL 13 "java/lang/IllegalArgumentException", Cond.classLink RL 15 "java/lang/IllegalStateException", Cond.methodLink RL 51 yX7_wherefore, Cond.instanceMethod yX7_wherefore, Cond.selects RX7 yX7_wherefore yX7_wherefore, Cond.initialized RX7, Cond.code yX7_wherefore cX7_wherefore 2 (some .int), Cond.fieldLink RX7 19 "TermGate" "rulings" "LTermGate$Rulings;", Cond.methodLink RX7 172 yX7_orderInHandOf, Cond.instanceMethod yX7_orderInHandOf, Cond.selects RX7 yX7_orderInHandOf yX7_orderInHandOf, Cond.code yX7_orderInHandOf cX7_orderInHandOf 3 (some (.object "TermGate$Order")), Cond.classLink RX7 75 "java/lang/IllegalStateException", Cond.initialized "java/lang/IllegalStateException", Cond.methodLink RX7 138 yX7_refuseUnlessTranslator, Cond.static yX7_refuseUnlessTranslator, Cond.code yX7_refuseUnlessTranslator cX7_refuseUnlessTranslator 1 none, Cond.classLink RX7 69 "java/lang/IllegalArgumentException", Cond.initialized "java/lang/IllegalArgumentException", Cond.methodLink RX7 141 yX7_handOf, Cond.instanceMethod yX7_handOf, Cond.selects RX7 yX7_handOf yX7_handOf, Cond.code yX7_handOf cX7_handOf 2 (some (.object "TermGate$Order")), Cond.fieldLink RX7 36 "TermGate" "inHand" "[LTermGate$Order;"]
def wsL_wherefore_r2 : List Cond := [Cond.methodLink RX7 233 yX3_whereNot, Cond.instanceMethod yX3_whereNot, Cond.selects RX3 yX3_whereNot yX3_whereNot, Cond.initialized RX3, Cond.code yX3_whereNot cX3_whereNot 3 (some .int), Cond.fieldLink RX3 31 "TermGate$Order" "sentence" "LTermGate$Sentence;", Cond.methodLink RX3 35 yX6_firstOpen, Cond.instanceMethod yX6_firstOpen, Cond.selects RX6 yX6_firstOpen yX6_firstOpen, Cond.initialized RX6, Cond.code yX6_firstOpen cX6_firstOpen 2 (some .int), Cond.fieldLink RX6 18 "TermGate$Sentence" "became" "LTermGate$Row;", Cond.methodLink RX6 28 yX4_at, Cond.instanceMethod yX4_at, Cond.selects RX4 yX4_at yX4_at, Cond.initialized RX4, Cond.code yX4_at cX4_at 2 (some .int), Cond.fieldLink RX4 15 "TermGate$Row" "length" "I", Cond.fieldLink RX4 9 "TermGate$Row" "values" "[I", Cond.methodLink RX3 41 yX3_firstBroken, Cond.instanceMethod yX3_firstBroken, Cond.selects RX3 yX3_firstBroken yX3_firstBroken, Cond.code yX3_firstBroken cX3_firstBroken 2 (some .int), Cond.fieldLink RX3 27 "TermGate$Order" "isRush" "Z"]
def wsL_wherefore_r3 : List Cond := [Cond.methodLink RX3 45 yX6_firstAstray, Cond.instanceMethod yX6_firstAstray, Cond.selects RX6 yX6_firstAstray yX6_firstAstray, Cond.code yX6_firstAstray cX6_firstAstray 3 (some .int), Cond.fieldLink RX6 12 "TermGate$Sentence" "words" "LTermGate$Row;", Cond.methodLink RX6 46 yX6_isAstrayAt, Cond.instanceMethod yX6_isAstrayAt, Cond.selects RX6 yX6_isAstrayAt yX6_isAstrayAt, Cond.code yX6_isAstrayAt cX6_isAstrayAt 4 (some .boolean), Cond.fieldLink RX6 21 "TermGate$Sentence" "client" "I", Cond.methodLink RX6 40 yX5_rulingOf, Cond.instanceMethod yX5_rulingOf, Cond.selects RX5 yX5_rulingOf yX5_rulingOf, Cond.initialized RX5, Cond.code yX5_rulingOf cX5_rulingOf 4 (some .int), Cond.fieldLink RX5 15 "TermGate$Rulings" "ruled" "[I", Cond.methodLink RX5 27 yX5_slotOf, Cond.static yX5_slotOf, Cond.code yX5_slotOf cX5_slotOf 3 (some .int)]
def wsL_wherefore : List Cond := .codeWith yL_wherefore cL_wherefore 4 (some .int) [(0, 9, 12, 13), (0, 9, 15, 15)] :: ((wsL_wherefore_r1 ++ (wsL_wherefore_r2 ++ wsL_wherefore_r3)) ++ wsX70 ++ wsX30 ++ wsX60 ++ wsX40 ++ wsX50 ++ (vx_at0 RX7 77 "java/lang/IllegalStateException" ["java/lang/RuntimeException", "java/lang/Exception"]).filter goodWord ++ (vx_at0 RX7 71 "java/lang/IllegalArgumentException" ["java/lang/RuntimeException", "java/lang/Exception"]).filter goodWord)
def wsL_became_r1 : List Cond := [Cond.classLink RL 13 "java/lang/IllegalArgumentException", Cond.classLink RL 15 "java/lang/IllegalStateException", Cond.classLink RL 20 "java/lang/IndexOutOfBoundsException", Cond.methodLink RL 54 yX7_became, Cond.instanceMethod yX7_became, Cond.selects RX7 yX7_became yX7_became, Cond.initialized RX7, Cond.code yX7_became cX7_became 4 (some .int), Cond.methodLink RX7 172 yX7_orderInHandOf, Cond.instanceMethod yX7_orderInHandOf, Cond.selects RX7 yX7_orderInHandOf yX7_orderInHandOf, Cond.code yX7_orderInHandOf cX7_orderInHandOf 3 (some (.object "TermGate$Order")), Cond.classLink RX7 75 "java/lang/IllegalStateException", Cond.initialized "java/lang/IllegalStateException", Cond.methodLink RX7 138 yX7_refuseUnlessTranslator, Cond.static yX7_refuseUnlessTranslator, Cond.code yX7_refuseUnlessTranslator cX7_refuseUnlessTranslator 1 none, Cond.classLink RX7 69 "java/lang/IllegalArgumentException", Cond.initialized "java/lang/IllegalArgumentException", Cond.methodLink RX7 141 yX7_handOf, Cond.instanceMethod yX7_handOf, Cond.selects RX7 yX7_handOf yX7_handOf, Cond.code yX7_handOf cX7_handOf 2 (some (.object "TermGate$Order")), Cond.fieldLink RX7 36 "TermGate" "inHand" "[LTermGate$Order;"]
def wsL_became_r2 : List Cond := [Cond.methodLink RX7 192 yX7_refuseUnlessPlace, Cond.static yX7_refuseUnlessPlace, Cond.code yX7_refuseUnlessPlace cX7_refuseUnlessPlace 2 none, Cond.classLink RX7 237 "java/lang/IndexOutOfBoundsException", Cond.initialized "java/lang/IndexOutOfBoundsException", Cond.methodLink RX7 276 yX4_has, Cond.instanceMethod yX4_has, Cond.selects RX4 yX4_has yX4_has, Cond.initialized RX4, Cond.code yX4_has cX4_has 2 (some .boolean), Cond.fieldLink RX4 15 "TermGate$Row" "length" "I", Cond.fieldLink RX4 9 "TermGate$Row" "values" "[I", Cond.methodLink RX7 236 yX4_at, Cond.instanceMethod yX4_at, Cond.selects RX4 yX4_at yX4_at, Cond.code yX4_at cX4_at 2 (some .int)]
def wsL_became : List Cond := .codeWith yL_became cL_became 5 (some .int) [(0, 10, 13, 13), (0, 10, 17, 15), (0, 10, 21, 20)] :: ((wsL_became_r1 ++ wsL_became_r2) ++ wsX30 ++ wsX60 ++ wsX70 ++ wsX40 ++ (vx_at0 RX7 77 "java/lang/IllegalStateException" ["java/lang/RuntimeException", "java/lang/Exception"]).filter goodWord ++ (vx_at0 RX7 71 "java/lang/IllegalArgumentException" ["java/lang/RuntimeException", "java/lang/Exception"]).filter goodWord ++ (vx_at0 RX7 239 "java/lang/IndexOutOfBoundsException" ["java/lang/RuntimeException", "java/lang/Exception"]).filter goodWord)
def wsL_match : List Cond := .codeWith yL_match cL_match 4 (some .int) [(0, 9, 12, 13), (0, 9, 15, 15)] :: ([.classLink RL 13 "java/lang/IllegalArgumentException", .classLink RL 15 "java/lang/IllegalStateException", .methodLink RL 58 yX7_match, .instanceMethod yX7_match, .selects RX7 yX7_match yX7_match, .initialized RX7, .code yX7_match cX7_match 2 (some .int), .methodLink RX7 172 yX7_orderInHandOf, .instanceMethod yX7_orderInHandOf, .selects RX7 yX7_orderInHandOf yX7_orderInHandOf, .code yX7_orderInHandOf cX7_orderInHandOf 3 (some (.object "TermGate$Order")), .classLink RX7 75 "java/lang/IllegalStateException", .initialized "java/lang/IllegalStateException", .methodLink RX7 138 yX7_refuseUnlessTranslator, .static yX7_refuseUnlessTranslator, .code yX7_refuseUnlessTranslator cX7_refuseUnlessTranslator 1 none, .classLink RX7 69 "java/lang/IllegalArgumentException", .initialized "java/lang/IllegalArgumentException", .methodLink RX7 141 yX7_handOf, .instanceMethod yX7_handOf, .selects RX7 yX7_handOf yX7_handOf, .code yX7_handOf cX7_handOf 2 (some (.object "TermGate$Order")), .fieldLink RX7 36 "TermGate" "inHand" "[LTermGate$Order;"] ++ wsX30 ++ wsX70 ++ (vx_at0 RX7 77 "java/lang/IllegalStateException" ["java/lang/RuntimeException", "java/lang/Exception"]).filter goodWord ++ (vx_at0 RX7 71 "java/lang/IllegalArgumentException" ["java/lang/RuntimeException", "java/lang/Exception"]).filter goodWord)
def wsL_orderAt : List Cond := .codeWith yL_orderAt cL_orderAt 4 (some .int) [(0, 9, 12, 20)] :: ([.classLink RL 20 "java/lang/IndexOutOfBoundsException", .methodLink RL 61 yX7_orderAt, .instanceMethod yX7_orderAt, .selects RX7 yX7_orderAt yX7_orderAt, .initialized RX7, .code yX7_orderAt cX7_orderAt 3 (some .int), .classLink RX7 237 "java/lang/IndexOutOfBoundsException", .initialized "java/lang/IndexOutOfBoundsException", .methodLink RX7 152 yX7_orderNumbered, .instanceMethod yX7_orderNumbered, .selects RX7 yX7_orderNumbered yX7_orderNumbered, .code yX7_orderNumbered cX7_orderNumbered 2 (some (.object "TermGate$Order")), .fieldLink RX7 32 "TermGate" "orders" "[LTermGate$Order;"] ++ wsX30 ++ wsX70 ++ (vx_at0 RX7 239 "java/lang/IndexOutOfBoundsException" ["java/lang/RuntimeException", "java/lang/Exception"]).filter goodWord)
def wsL_say_r1 : List Cond := [Cond.classLink RL 13 "java/lang/IllegalArgumentException", Cond.methodLink RL 64 yX7_say, Cond.instanceMethod yX7_say, Cond.selects RX7 yX7_say yX7_say, Cond.initialized RX7, Cond.code yX7_say cX7_say 5 (some .int), Cond.classLink RX7 69 "java/lang/IllegalArgumentException", Cond.initialized "java/lang/IllegalArgumentException", Cond.fieldLink RX7 19 "TermGate" "rulings" "LTermGate$Rulings;", Cond.fieldLink RX7 26 "TermGate" "memory" "LTermGate$Memory;", Cond.methodLink RX7 240 yX7_refuseUnlessClientAndWord, Cond.static yX7_refuseUnlessClientAndWord, Cond.code yX7_refuseUnlessClientAndWord cX7_refuseUnlessClientAndWord 2 none, Cond.methodLink RX7 104 yX7_refuseUnlessClient, Cond.static yX7_refuseUnlessClient, Cond.code yX7_refuseUnlessClient cX7_refuseUnlessClient 1 none, Cond.methodLink RX7 243 yX5_slotOf, Cond.static yX5_slotOf, Cond.initialized RX5, Cond.code yX5_slotOf cX5_slotOf 3 (some .int), Cond.methodLink RX7 247 yX5_hear, Cond.instanceMethod yX5_hear, Cond.selects RX5 yX5_hear yX5_hear, Cond.code yX5_hear cX5_hear 7 none]
def wsL_say_r2 : List Cond := [Cond.fieldLink RX5 15 "TermGate$Rulings" "ruled" "[I", Cond.fieldLink RX5 18 "TermGate$Rulings" "soldThen" "[I", Cond.fieldLink RX5 9 "TermGate$Rulings" "said" "[I", Cond.methodLink RX5 31 yX5_agreedOn, Cond.instanceMethod yX5_agreedOn, Cond.selects RX5 yX5_agreedOn yX5_agreedOn, Cond.code yX5_agreedOn cX5_agreedOn 5 (some .int), Cond.methodLink RX5 35 yX5_saidBy, Cond.instanceMethod yX5_saidBy, Cond.selects RX5 yX5_saidBy yX5_saidBy, Cond.code yX5_saidBy cX5_saidBy 4 (some .int), Cond.methodLink RX7 229 yX2_listDue, Cond.instanceMethod yX2_listDue, Cond.selects RX2 yX2_listDue yX2_listDue, Cond.initialized RX2, Cond.code yX2_listDue cX2_listDue 4 none, Cond.fieldLink RX2 24 "TermGate$Memory" "dueList" "LTermGate$Line;", Cond.fieldLink RX2 35 "TermGate$Memory" "count" "I", Cond.methodLink RX2 53 yX1_at, Cond.instanceMethod yX1_at, Cond.selects RX1 yX1_at yX1_at, Cond.initialized RX1, Cond.code yX1_at cX1_at 2 (some .int), Cond.fieldLink RX1 9 "TermGate$Line" "numbers" "[I"]
def wsL_say_r3 : List Cond := [Cond.methodLink RX1 19 yX1_hasPlace, Cond.instanceMethod yX1_hasPlace, Cond.selects RX1 yX1_hasPlace yX1_hasPlace, Cond.code yX1_hasPlace cX1_hasPlace 2 (some .boolean), Cond.fieldLink RX1 15 "TermGate$Line" "count" "I", Cond.methodLink RX2 54 yX2_sentenceAt, Cond.instanceMethod yX2_sentenceAt, Cond.selects RX2 yX2_sentenceAt yX2_sentenceAt, Cond.code yX2_sentenceAt cX2_sentenceAt 2 (some (.object "TermGate$Sentence")), Cond.fieldLink RX2 11 "TermGate$Memory" "sentences" "[LTermGate$Sentence;", Cond.methodLink RX2 58 yX6_firstAstray, Cond.instanceMethod yX6_firstAstray, Cond.selects RX6 yX6_firstAstray yX6_firstAstray, Cond.initialized RX6, Cond.code yX6_firstAstray cX6_firstAstray 3 (some .int), Cond.fieldLink RX6 12 "TermGate$Sentence" "words" "LTermGate$Row;", Cond.methodLink RX6 46 yX6_isAstrayAt, Cond.instanceMethod yX6_isAstrayAt, Cond.selects RX6 yX6_isAstrayAt yX6_isAstrayAt, Cond.code yX6_isAstrayAt cX6_isAstrayAt 4 (some .boolean), Cond.fieldLink RX6 21 "TermGate$Sentence" "client" "I", Cond.fieldLink RX6 18 "TermGate$Sentence" "became" "LTermGate$Row;", Cond.methodLink RX6 28 yX4_at, Cond.instanceMethod yX4_at]
def wsL_say_r4 : List Cond := [Cond.selects RX4 yX4_at yX4_at, Cond.initialized RX4, Cond.code yX4_at cX4_at 2 (some .int), Cond.fieldLink RX4 15 "TermGate$Row" "length" "I", Cond.fieldLink RX4 9 "TermGate$Row" "values" "[I", Cond.methodLink RX6 40 yX5_rulingOf, Cond.instanceMethod yX5_rulingOf, Cond.selects RX5 yX5_rulingOf yX5_rulingOf, Cond.code yX5_rulingOf cX5_rulingOf 4 (some .int), Cond.methodLink RX5 27 yX5_slotOf, Cond.methodLink RX2 62 yX1_removeAt, Cond.instanceMethod yX1_removeAt, Cond.selects RX1 yX1_removeAt yX1_removeAt, Cond.code yX1_removeAt cX1_removeAt 3 none, Cond.methodLink RX2 66 yX1_holds, Cond.instanceMethod yX1_holds, Cond.selects RX1 yX1_holds yX1_holds, Cond.code yX1_holds cX1_holds 3 (some .boolean), Cond.methodLink RX1 23 yX1_at, Cond.methodLink RX2 70 yX1_addLast, Cond.instanceMethod yX1_addLast, Cond.selects RX1 yX1_addLast yX1_addLast, Cond.code yX1_addLast cX1_addLast 3 none]
def wsL_say : List Cond := .codeWith yL_say cL_say 7 (some .int) [(0, 14, 17, 13)] :: ((wsL_say_r1 ++ (wsL_say_r2 ++ (wsL_say_r3 ++ wsL_say_r4))) ++ wsX70 ++ wsX20 ++ wsX10 ++ wsX50 ++ wsX60 ++ wsX40 ++ (vx_at0 RX7 71 "java/lang/IllegalArgumentException" ["java/lang/RuntimeException", "java/lang/Exception"]).filter goodWord)
def wsL_ruling : List Cond := .codeWith yL_ruling cL_ruling 5 (some .int) [(0, 10, 13, 13)] :: ([.classLink RL 13 "java/lang/IllegalArgumentException", .methodLink RL 68 yX7_ruling, .instanceMethod yX7_ruling, .selects RX7 yX7_ruling yX7_ruling, .initialized RX7, .code yX7_ruling cX7_ruling 3 (some .int), .fieldLink RX7 19 "TermGate" "rulings" "LTermGate$Rulings;", .methodLink RX7 240 yX7_refuseUnlessClientAndWord, .static yX7_refuseUnlessClientAndWord, .code yX7_refuseUnlessClientAndWord cX7_refuseUnlessClientAndWord 2 none, .classLink RX7 69 "java/lang/IllegalArgumentException", .initialized "java/lang/IllegalArgumentException", .methodLink RX7 104 yX7_refuseUnlessClient, .static yX7_refuseUnlessClient, .code yX7_refuseUnlessClient cX7_refuseUnlessClient 1 none, .methodLink RX7 254 yX5_rulingOf, .instanceMethod yX5_rulingOf, .selects RX5 yX5_rulingOf yX5_rulingOf, .initialized RX5, .code yX5_rulingOf cX5_rulingOf 4 (some .int), .fieldLink RX5 15 "TermGate$Rulings" "ruled" "[I", .methodLink RX5 27 yX5_slotOf, .static yX5_slotOf, .code yX5_slotOf cX5_slotOf 3 (some .int)] ++ wsX70 ++ wsX50 ++ (vx_at0 RX7 71 "java/lang/IllegalArgumentException" ["java/lang/RuntimeException", "java/lang/Exception"]).filter goodWord)
def wsL_clientOf : List Cond := .codeWith yL_clientOf cL_clientOf 4 (some .int) [(0, 9, 12, 20)] :: ([.classLink RL 20 "java/lang/IndexOutOfBoundsException", .methodLink RL 71 yX7_clientOf, .instanceMethod yX7_clientOf, .selects RX7 yX7_clientOf yX7_clientOf, .initialized RX7, .code yX7_clientOf cX7_clientOf 2 (some .int), .methodLink RX7 82 yX7_soldSentence, .instanceMethod yX7_soldSentence, .selects RX7 yX7_soldSentence yX7_soldSentence, .code yX7_soldSentence cX7_soldSentence 3 (some (.object "TermGate$Sentence")), .classLink RX7 237 "java/lang/IndexOutOfBoundsException", .initialized "java/lang/IndexOutOfBoundsException", .fieldLink RX7 26 "TermGate" "memory" "LTermGate$Memory;", .methodLink RX7 279 yX2_sentenceAt, .instanceMethod yX2_sentenceAt, .selects RX2 yX2_sentenceAt yX2_sentenceAt, .initialized RX2, .code yX2_sentenceAt cX2_sentenceAt 2 (some (.object "TermGate$Sentence")), .fieldLink RX2 11 "TermGate$Memory" "sentences" "[LTermGate$Sentence;"] ++ wsX60 ++ wsX70 ++ wsX20 ++ (vx_at0 RX7 239 "java/lang/IndexOutOfBoundsException" ["java/lang/RuntimeException", "java/lang/Exception"]).filter goodWord)
def wsL_wordOf_r1 : List Cond := [Cond.classLink RL 20 "java/lang/IndexOutOfBoundsException", Cond.methodLink RL 74 yX7_wordOf, Cond.instanceMethod yX7_wordOf, Cond.selects RX7 yX7_wordOf yX7_wordOf, Cond.initialized RX7, Cond.code yX7_wordOf cX7_wordOf 4 (some .int), Cond.methodLink RX7 82 yX7_soldSentence, Cond.instanceMethod yX7_soldSentence, Cond.selects RX7 yX7_soldSentence yX7_soldSentence, Cond.code yX7_soldSentence cX7_soldSentence 3 (some (.object "TermGate$Sentence")), Cond.classLink RX7 237 "java/lang/IndexOutOfBoundsException", Cond.initialized "java/lang/IndexOutOfBoundsException", Cond.fieldLink RX7 26 "TermGate" "memory" "LTermGate$Memory;", Cond.methodLink RX7 279 yX2_sentenceAt, Cond.instanceMethod yX2_sentenceAt, Cond.selects RX2 yX2_sentenceAt yX2_sentenceAt, Cond.initialized RX2, Cond.code yX2_sentenceAt cX2_sentenceAt 2 (some (.object "TermGate$Sentence")), Cond.fieldLink RX2 11 "TermGate$Memory" "sentences" "[LTermGate$Sentence;", Cond.methodLink RX7 192 yX7_refuseUnlessPlace, Cond.static yX7_refuseUnlessPlace, Cond.code yX7_refuseUnlessPlace cX7_refuseUnlessPlace 2 none, Cond.methodLink RX7 276 yX4_has, Cond.instanceMethod yX4_has]
def wsL_wordOf_r2 : List Cond := [Cond.selects RX4 yX4_has yX4_has, Cond.initialized RX4, Cond.code yX4_has cX4_has 2 (some .boolean), Cond.fieldLink RX4 15 "TermGate$Row" "length" "I", Cond.fieldLink RX4 9 "TermGate$Row" "values" "[I", Cond.methodLink RX7 236 yX4_at, Cond.instanceMethod yX4_at, Cond.selects RX4 yX4_at yX4_at, Cond.code yX4_at cX4_at 2 (some .int)]
def wsL_wordOf : List Cond := .codeWith yL_wordOf cL_wordOf 5 (some .int) [(0, 10, 13, 20)] :: ((wsL_wordOf_r1 ++ wsL_wordOf_r2) ++ wsX60 ++ wsX70 ++ wsX20 ++ wsX40 ++ (vx_at0 RX7 239 "java/lang/IndexOutOfBoundsException" ["java/lang/RuntimeException", "java/lang/Exception"]).filter goodWord)
def wsL_becameOf_r1 : List Cond := [Cond.classLink RL 20 "java/lang/IndexOutOfBoundsException", Cond.methodLink RL 77 yX7_becameOf, Cond.instanceMethod yX7_becameOf, Cond.selects RX7 yX7_becameOf yX7_becameOf, Cond.initialized RX7, Cond.code yX7_becameOf cX7_becameOf 4 (some .int), Cond.methodLink RX7 82 yX7_soldSentence, Cond.instanceMethod yX7_soldSentence, Cond.selects RX7 yX7_soldSentence yX7_soldSentence, Cond.code yX7_soldSentence cX7_soldSentence 3 (some (.object "TermGate$Sentence")), Cond.classLink RX7 237 "java/lang/IndexOutOfBoundsException", Cond.initialized "java/lang/IndexOutOfBoundsException", Cond.fieldLink RX7 26 "TermGate" "memory" "LTermGate$Memory;", Cond.methodLink RX7 279 yX2_sentenceAt, Cond.instanceMethod yX2_sentenceAt, Cond.selects RX2 yX2_sentenceAt yX2_sentenceAt, Cond.initialized RX2, Cond.code yX2_sentenceAt cX2_sentenceAt 2 (some (.object "TermGate$Sentence")), Cond.fieldLink RX2 11 "TermGate$Memory" "sentences" "[LTermGate$Sentence;", Cond.methodLink RX7 192 yX7_refuseUnlessPlace, Cond.static yX7_refuseUnlessPlace, Cond.code yX7_refuseUnlessPlace cX7_refuseUnlessPlace 2 none, Cond.methodLink RX7 276 yX4_has, Cond.instanceMethod yX4_has]
def wsL_becameOf_r2 : List Cond := [Cond.selects RX4 yX4_has yX4_has, Cond.initialized RX4, Cond.code yX4_has cX4_has 2 (some .boolean), Cond.fieldLink RX4 15 "TermGate$Row" "length" "I", Cond.fieldLink RX4 9 "TermGate$Row" "values" "[I", Cond.methodLink RX7 236 yX4_at, Cond.instanceMethod yX4_at, Cond.selects RX4 yX4_at yX4_at, Cond.code yX4_at cX4_at 2 (some .int)]
def wsL_becameOf : List Cond := .codeWith yL_becameOf cL_becameOf 5 (some .int) [(0, 10, 13, 20)] :: ((wsL_becameOf_r1 ++ wsL_becameOf_r2) ++ wsX60 ++ wsX70 ++ wsX20 ++ wsX40 ++ (vx_at0 RX7 239 "java/lang/IndexOutOfBoundsException" ["java/lang/RuntimeException", "java/lang/Exception"]).filter goodWord)
def wsL_isDue_r1 : List Cond := [Cond.classLink RL 20 "java/lang/IndexOutOfBoundsException", Cond.methodLink RL 80 yX7_isDue, Cond.instanceMethod yX7_isDue, Cond.selects RX7 yX7_isDue yX7_isDue, Cond.initialized RX7, Cond.code yX7_isDue cX7_isDue 2 (some .boolean), Cond.fieldLink RX7 19 "TermGate" "rulings" "LTermGate$Rulings;", Cond.methodLink RX7 82 yX7_soldSentence, Cond.instanceMethod yX7_soldSentence, Cond.selects RX7 yX7_soldSentence yX7_soldSentence, Cond.code yX7_soldSentence cX7_soldSentence 3 (some (.object "TermGate$Sentence")), Cond.classLink RX7 237 "java/lang/IndexOutOfBoundsException", Cond.initialized "java/lang/IndexOutOfBoundsException", Cond.fieldLink RX7 26 "TermGate" "memory" "LTermGate$Memory;", Cond.methodLink RX7 279 yX2_sentenceAt, Cond.instanceMethod yX2_sentenceAt, Cond.selects RX2 yX2_sentenceAt yX2_sentenceAt, Cond.initialized RX2, Cond.code yX2_sentenceAt cX2_sentenceAt 2 (some (.object "TermGate$Sentence")), Cond.fieldLink RX2 11 "TermGate$Memory" "sentences" "[LTermGate$Sentence;", Cond.methodLink RX7 257 yX6_firstAstray, Cond.instanceMethod yX6_firstAstray, Cond.selects RX6 yX6_firstAstray yX6_firstAstray, Cond.initialized RX6]
def wsL_isDue_r2 : List Cond := [Cond.code yX6_firstAstray cX6_firstAstray 3 (some .int), Cond.fieldLink RX6 12 "TermGate$Sentence" "words" "LTermGate$Row;", Cond.methodLink RX6 46 yX6_isAstrayAt, Cond.instanceMethod yX6_isAstrayAt, Cond.selects RX6 yX6_isAstrayAt yX6_isAstrayAt, Cond.code yX6_isAstrayAt cX6_isAstrayAt 4 (some .boolean), Cond.fieldLink RX6 21 "TermGate$Sentence" "client" "I", Cond.fieldLink RX6 18 "TermGate$Sentence" "became" "LTermGate$Row;", Cond.methodLink RX6 28 yX4_at, Cond.instanceMethod yX4_at, Cond.selects RX4 yX4_at yX4_at, Cond.initialized RX4, Cond.code yX4_at cX4_at 2 (some .int), Cond.fieldLink RX4 15 "TermGate$Row" "length" "I", Cond.fieldLink RX4 9 "TermGate$Row" "values" "[I", Cond.methodLink RX6 40 yX5_rulingOf, Cond.instanceMethod yX5_rulingOf, Cond.selects RX5 yX5_rulingOf yX5_rulingOf, Cond.initialized RX5, Cond.code yX5_rulingOf cX5_rulingOf 4 (some .int), Cond.fieldLink RX5 15 "TermGate$Rulings" "ruled" "[I", Cond.methodLink RX5 27 yX5_slotOf, Cond.static yX5_slotOf, Cond.code yX5_slotOf cX5_slotOf 3 (some .int)]
def wsL_isDue : List Cond := .codeWith yL_isDue cL_isDue 4 (some .int) [(0, 16, 19, 20)] :: ((wsL_isDue_r1 ++ wsL_isDue_r2) ++ wsX70 ++ wsX20 ++ wsX60 ++ wsX40 ++ wsX50 ++ (vx_at0 RX7 239 "java/lang/IndexOutOfBoundsException" ["java/lang/RuntimeException", "java/lang/Exception"]).filter goodWord)
def wsL_dueAt : List Cond := .codeWith yL_dueAt cL_dueAt 4 (some .int) [(0, 9, 12, 20)] :: ([.classLink RL 20 "java/lang/IndexOutOfBoundsException", .methodLink RL 84 yX7_dueAt, .instanceMethod yX7_dueAt, .selects RX7 yX7_dueAt yX7_dueAt, .initialized RX7, .code yX7_dueAt cX7_dueAt 2 (some .int), .classLink RX7 237 "java/lang/IndexOutOfBoundsException", .initialized "java/lang/IndexOutOfBoundsException", .fieldLink RX7 26 "TermGate" "memory" "LTermGate$Memory;", .methodLink RX7 260 yX1_hasPlace, .instanceMethod yX1_hasPlace, .selects RX1 yX1_hasPlace yX1_hasPlace, .initialized RX1, .code yX1_hasPlace cX1_hasPlace 2 (some .boolean), .fieldLink RX1 15 "TermGate$Line" "count" "I", .fieldLink RX1 9 "TermGate$Line" "numbers" "[I", .methodLink RX7 148 yX1_at, .instanceMethod yX1_at, .selects RX1 yX1_at yX1_at, .code yX1_at cX1_at 2 (some .int), .methodLink RX1 19 yX1_hasPlace] ++ wsX70 ++ wsX20 ++ wsX10 ++ (vx_at0 RX7 239 "java/lang/IndexOutOfBoundsException" ["java/lang/RuntimeException", "java/lang/Exception"]).filter goodWord)
def wsL_mend_r1 : List Cond := [Cond.classLink RL 20 "java/lang/IndexOutOfBoundsException", Cond.classLink RL 15 "java/lang/IllegalStateException", Cond.methodLink RL 87 yX7_mend, Cond.instanceMethod yX7_mend, Cond.selects RX7 yX7_mend yX7_mend, Cond.initialized RX7, Cond.code yX7_mend cX7_mend 5 (some .int), Cond.classLink RX7 75 "java/lang/IllegalStateException", Cond.initialized "java/lang/IllegalStateException", Cond.fieldLink RX7 19 "TermGate" "rulings" "LTermGate$Rulings;", Cond.fieldLink RX7 49 "TermGate" "paidByClient" "[I", Cond.fieldLink RX7 26 "TermGate" "memory" "LTermGate$Memory;", Cond.methodLink RX7 82 yX7_soldSentence, Cond.instanceMethod yX7_soldSentence, Cond.selects RX7 yX7_soldSentence yX7_soldSentence, Cond.code yX7_soldSentence cX7_soldSentence 3 (some (.object "TermGate$Sentence")), Cond.classLink RX7 237 "java/lang/IndexOutOfBoundsException", Cond.initialized "java/lang/IndexOutOfBoundsException", Cond.methodLink RX7 279 yX2_sentenceAt, Cond.instanceMethod yX2_sentenceAt, Cond.selects RX2 yX2_sentenceAt yX2_sentenceAt, Cond.initialized RX2, Cond.code yX2_sentenceAt cX2_sentenceAt 2 (some (.object "TermGate$Sentence")), Cond.fieldLink RX2 11 "TermGate$Memory" "sentences" "[LTermGate$Sentence;"]
def wsL_mend_r2 : List Cond := [Cond.methodLink RX7 257 yX6_firstAstray, Cond.instanceMethod yX6_firstAstray, Cond.selects RX6 yX6_firstAstray yX6_firstAstray, Cond.initialized RX6, Cond.code yX6_firstAstray cX6_firstAstray 3 (some .int), Cond.fieldLink RX6 12 "TermGate$Sentence" "words" "LTermGate$Row;", Cond.methodLink RX6 46 yX6_isAstrayAt, Cond.instanceMethod yX6_isAstrayAt, Cond.selects RX6 yX6_isAstrayAt yX6_isAstrayAt, Cond.code yX6_isAstrayAt cX6_isAstrayAt 4 (some .boolean), Cond.fieldLink RX6 21 "TermGate$Sentence" "client" "I", Cond.fieldLink RX6 18 "TermGate$Sentence" "became" "LTermGate$Row;", Cond.methodLink RX6 28 yX4_at, Cond.instanceMethod yX4_at, Cond.selects RX4 yX4_at yX4_at, Cond.initialized RX4, Cond.code yX4_at cX4_at 2 (some .int), Cond.fieldLink RX4 15 "TermGate$Row" "length" "I", Cond.fieldLink RX4 9 "TermGate$Row" "values" "[I", Cond.methodLink RX6 40 yX5_rulingOf, Cond.instanceMethod yX5_rulingOf, Cond.selects RX5 yX5_rulingOf yX5_rulingOf, Cond.initialized RX5, Cond.code yX5_rulingOf cX5_rulingOf 4 (some .int)]
def wsL_mend_r3 : List Cond := [Cond.fieldLink RX5 15 "TermGate$Rulings" "ruled" "[I", Cond.methodLink RX5 27 yX5_slotOf, Cond.static yX5_slotOf, Cond.code yX5_slotOf cX5_slotOf 3 (some .int), Cond.methodLink RX7 264 yX6_isAstrayAt, Cond.methodLink RX7 236 yX4_at, Cond.methodLink RX7 268 yX7_mendingPrice, Cond.instanceMethod yX7_mendingPrice, Cond.selects RX7 yX7_mendingPrice yX7_mendingPrice, Cond.code yX7_mendingPrice cX7_mendingPrice 4 (some .int), Cond.methodLink RX7 289 yX5_soldAtChange, Cond.instanceMethod yX5_soldAtChange, Cond.selects RX5 yX5_soldAtChange yX5_soldAtChange, Cond.code yX5_soldAtChange cX5_soldAtChange 4 (some .int), Cond.fieldLink RX5 18 "TermGate$Rulings" "soldThen" "[I", Cond.methodLink RX7 218 yX7_addTo, Cond.static yX7_addTo, Cond.code yX7_addTo cX7_addTo 3 none, Cond.methodLink RX7 254 yX5_rulingOf, Cond.methodLink RX7 199 yX4_put, Cond.instanceMethod yX4_put, Cond.selects RX4 yX4_put yX4_put, Cond.code yX4_put cX4_put 3 none, Cond.methodLink RX4 19 yX4_has]
def wsL_mend_r4 : List Cond := [Cond.instanceMethod yX4_has, Cond.selects RX4 yX4_has yX4_has, Cond.code yX4_has cX4_has 2 (some .boolean), Cond.methodLink RX7 229 yX2_listDue, Cond.instanceMethod yX2_listDue, Cond.selects RX2 yX2_listDue yX2_listDue, Cond.code yX2_listDue cX2_listDue 4 none, Cond.fieldLink RX2 24 "TermGate$Memory" "dueList" "LTermGate$Line;", Cond.fieldLink RX2 35 "TermGate$Memory" "count" "I", Cond.methodLink RX2 53 yX1_at, Cond.instanceMethod yX1_at, Cond.selects RX1 yX1_at yX1_at, Cond.initialized RX1, Cond.code yX1_at cX1_at 2 (some .int), Cond.fieldLink RX1 9 "TermGate$Line" "numbers" "[I", Cond.methodLink RX1 19 yX1_hasPlace, Cond.instanceMethod yX1_hasPlace, Cond.selects RX1 yX1_hasPlace yX1_hasPlace, Cond.code yX1_hasPlace cX1_hasPlace 2 (some .boolean), Cond.fieldLink RX1 15 "TermGate$Line" "count" "I", Cond.methodLink RX2 54 yX2_sentenceAt, Cond.methodLink RX2 58 yX6_firstAstray, Cond.methodLink RX2 62 yX1_removeAt, Cond.instanceMethod yX1_removeAt]
def wsL_mend_r5 : List Cond := [Cond.selects RX1 yX1_removeAt yX1_removeAt, Cond.code yX1_removeAt cX1_removeAt 3 none, Cond.methodLink RX2 66 yX1_holds, Cond.instanceMethod yX1_holds, Cond.selects RX1 yX1_holds yX1_holds, Cond.code yX1_holds cX1_holds 3 (some .boolean), Cond.methodLink RX1 23 yX1_at, Cond.methodLink RX2 70 yX1_addLast, Cond.instanceMethod yX1_addLast, Cond.selects RX1 yX1_addLast yX1_addLast, Cond.code yX1_addLast cX1_addLast 3 none]
def wsL_mend : List Cond := .codeWith yL_mend cL_mend 4 (some .int) [(0, 9, 12, 20), (0, 9, 15, 15)] :: ((wsL_mend_r1 ++ (wsL_mend_r2 ++ (wsL_mend_r3 ++ (wsL_mend_r4 ++ wsL_mend_r5)))) ++ wsX70 ++ wsX60 ++ wsX40 ++ wsX20 ++ wsX50 ++ wsX10 ++ (vx_at0 RX7 77 "java/lang/IllegalStateException" ["java/lang/RuntimeException", "java/lang/Exception"]).filter goodWord ++ (vx_at0 RX7 239 "java/lang/IndexOutOfBoundsException" ["java/lang/RuntimeException", "java/lang/Exception"]).filter goodWord)
def wsL_setPrices : List Cond := .codeWith yL_setPrices cL_setPrices 5 (some .int) [(0, 7, 10, 13)] :: ([.classLink RL 13 "java/lang/IllegalArgumentException", .methodLink RL 90 yX7_setPrices, .instanceMethod yX7_setPrices, .selects RX7 yX7_setPrices yX7_setPrices, .initialized RX7, .code yX7_setPrices cX7_setPrices 4 none, .classLink RX7 69 "java/lang/IllegalArgumentException", .initialized "java/lang/IllegalArgumentException", .fieldLink RX7 60 "TermGate" "leastLikeness" "I", .fieldLink RX7 63 "TermGate" "pricePerWord" "I", .fieldLink RX7 66 "TermGate" "ratePerWord" "I"] ++ wsX70 ++ (vx_at0 RX7 71 "java/lang/IllegalArgumentException" ["java/lang/RuntimeException", "java/lang/Exception"]).filter goodWord)
def wsL_paid : List Cond := .codeWith yL_paid cL_paid 4 (some .int) [(0, 9, 12, 13)] :: ([.classLink RL 13 "java/lang/IllegalArgumentException", .methodLink RL 94 yX7_paid, .instanceMethod yX7_paid, .selects RX7 yX7_paid yX7_paid, .initialized RX7, .code yX7_paid cX7_paid 2 (some .int), .classLink RX7 69 "java/lang/IllegalArgumentException", .initialized "java/lang/IllegalArgumentException", .fieldLink RX7 49 "TermGate" "paidByClient" "[I"] ++ wsX70 ++ (vx_at0 RX7 71 "java/lang/IllegalArgumentException" ["java/lang/RuntimeException", "java/lang/Exception"]).filter goodWord)
def wsL_earned : List Cond := .codeWith yL_earned cL_earned 4 (some .int) [(0, 9, 12, 13)] :: ([.classLink RL 13 "java/lang/IllegalArgumentException", .methodLink RL 97 yX7_earned, .instanceMethod yX7_earned, .selects RX7 yX7_earned yX7_earned, .initialized RX7, .code yX7_earned cX7_earned 2 (some .int), .classLink RX7 69 "java/lang/IllegalArgumentException", .initialized "java/lang/IllegalArgumentException", .fieldLink RX7 53 "TermGate" "earnedByTranslator" "[I"] ++ wsX70 ++ (vx_at0 RX7 71 "java/lang/IllegalArgumentException" ["java/lang/RuntimeException", "java/lang/Exception"]).filter goodWord)
def wsL_law0_r1 : List Cond := [Cond.classLink RL 8 RX7, Cond.instantiable RX7 13, Cond.initialized RX7, Cond.classLink RL 101 RX8, Cond.instantiable RX8 35, Cond.initialized RX8, Cond.arrayClass .long, Cond.methodLink RL 100 yX7_init, Cond.instanceMethod yX7_init, Cond.code yX7_init cX7_init 1 none, Cond.methodLink RX7 1 objectInit, Cond.instanceMethod objectInit, Cond.code objectInit ⟨#[0xb1]⟩ 1 none, Cond.classLink RX7 7 RX4, Cond.instantiable RX4 2, Cond.initialized RX4, Cond.fieldLink RX7 10 "TermGate" "draft" "LTermGate$Row;", Cond.classLink RX7 16 RX5, Cond.instantiable RX5 3, Cond.initialized RX5, Cond.fieldLink RX7 19 "TermGate" "rulings" "LTermGate$Rulings;", Cond.classLink RX7 23 RX2, Cond.instantiable RX2 5, Cond.initialized RX2]
def wsL_law0_r2 : List Cond := [Cond.fieldLink RX7 26 "TermGate" "memory" "LTermGate$Memory;", Cond.classLink RX7 30 RX3, Cond.fieldLink RX7 32 "TermGate" "orders" "[LTermGate$Order;", Cond.fieldLink RX7 36 "TermGate" "inHand" "[LTermGate$Order;", Cond.classLink RX7 39 RX1, Cond.instantiable RX1 2, Cond.initialized RX1, Cond.fieldLink RX7 42 "TermGate" "rushDesk" "LTermGate$Line;", Cond.fieldLink RX7 46 "TermGate" "otherDesk" "LTermGate$Line;", Cond.arrayClass .int, Cond.fieldLink RX7 49 "TermGate" "paidByClient" "[I", Cond.fieldLink RX7 53 "TermGate" "earnedByTranslator" "[I", Cond.fieldLink RX7 56 "TermGate" "orderCount" "I", Cond.fieldLink RX7 60 "TermGate" "leastLikeness" "I", Cond.fieldLink RX7 63 "TermGate" "pricePerWord" "I", Cond.fieldLink RX7 66 "TermGate" "ratePerWord" "I", Cond.instanceMethod yX4_init, Cond.code yX4_init cX4_init 1 none, Cond.methodLink RX4 3 objectInit, Cond.fieldLink RX4 9 "TermGate$Row" "values" "[I", Cond.fieldLink RX4 15 "TermGate$Row" "length" "I", Cond.methodLink RX7 18 yX5_init, Cond.instanceMethod yX5_init, Cond.code yX5_init cX5_init 1 none]
def wsL_law0_r3 : List Cond := [Cond.methodLink RX5 3 objectInit, Cond.fieldLink RX5 9 "TermGate$Rulings" "said" "[I", Cond.fieldLink RX5 15 "TermGate$Rulings" "ruled" "[I", Cond.fieldLink RX5 18 "TermGate$Rulings" "soldThen" "[I", Cond.methodLink RX5 21 yJ7_fill_53178, Cond.static yJ7_fill_53178, Cond.initialized RJ7, Cond.code yJ7_fill_53178 cJ7_fill_53178 4 none, Cond.instanceMethod yX2_init, Cond.code yX2_init cX2_init 1 none, Cond.methodLink RX2 3 objectInit, Cond.classLink RX2 9 RX6, Cond.fieldLink RX2 11 "TermGate$Memory" "sentences" "[LTermGate$Sentence;", Cond.fieldLink RX2 17 "TermGate$Memory" "having" "[J", Cond.classLink RX2 21 RX1, Cond.fieldLink RX2 24 "TermGate$Memory" "dueList" "LTermGate$Line;", Cond.classLink RX2 28 RX0, Cond.instantiable RX0 1, Cond.initialized RX0, Cond.fieldLink RX2 31 "TermGate$Memory" "edits" "LTermGate$Edits;", Cond.fieldLink RX2 35 "TermGate$Memory" "count" "I", Cond.instanceMethod yX1_init, Cond.code yX1_init cX1_init 1 none, Cond.methodLink RX1 3 objectInit]
def wsL_law0_r4 : List Cond := [Cond.fieldLink RX1 9 "TermGate$Line" "numbers" "[I", Cond.fieldLink RX1 15 "TermGate$Line" "count" "I", Cond.instanceMethod yX0_init, Cond.code yX0_init cX0_init 1 none, Cond.methodLink RX0 3 objectInit, Cond.fieldLink RX0 11 "TermGate$Edits" "table" "[I", Cond.methodLink RL 103 yX8_init, Cond.instanceMethod yX8_init, Cond.code yX8_init cX8_init 2 none, Cond.methodLink RX8 1 objectInit, Cond.fieldLink RX8 7 "TermGateModel" "draft" "[I", Cond.fieldLink RX8 13 "TermGateModel" "least" "I", Cond.fieldLink RX8 17 "TermGateModel" "price" "I", Cond.fieldLink RX8 20 "TermGateModel" "rate" "I", Cond.fieldLink RX8 23 "TermGateModel" "clients" "[I", Cond.fieldLink RX8 26 "TermGateModel" "sizes" "[I", Cond.fieldLink RX8 29 "TermGateModel" "words" "[I", Cond.fieldLink RX8 32 "TermGateModel" "became" "[I", Cond.fieldLink RX8 35 "TermGateModel" "soldAt" "[I", Cond.fieldLink RX8 38 "TermGateModel" "orderClients" "[I", Cond.fieldLink RX8 41 "TermGateModel" "orderSizes" "[I", Cond.fieldLink RX8 44 "TermGateModel" "orderWords" "[I", Cond.arrayClass .boolean, Cond.fieldLink RX8 47 "TermGateModel" "isRush" "[Z"]
def wsL_law0_r5 : List Cond := [Cond.fieldLink RX8 51 "TermGateModel" "holders" "[I", Cond.fieldLink RX8 54 "TermGateModel" "turns" "[I", Cond.fieldLink RX8 57 "TermGateModel" "matches" "[I", Cond.fieldLink RX8 60 "TermGateModel" "become" "[I", Cond.fieldLink RX8 63 "TermGateModel" "costs" "[I", Cond.fieldLink RX8 66 "TermGateModel" "pays" "[I", Cond.fieldLink RX8 69 "TermGateModel" "says" "[I", Cond.fieldLink RX8 72 "TermGateModel" "ruledAt" "[I", Cond.fieldLink RX8 75 "TermGateModel" "listed" "[I", Cond.fieldLink RX8 78 "TermGateModel" "paid" "[I", Cond.fieldLink RX8 81 "TermGateModel" "earned" "[I", Cond.fieldLink RX8 84 "TermGateModel" "row" "[I", Cond.fieldLink RX8 87 "TermGateModel" "edits" "[I", Cond.methodLink RL 104 yL_word, Cond.static yL_word, Cond.initialized RL, Cond.codeWith yL_word cL_word 4 (some .int) [(0, 9, 12, 13), (0, 9, 15, 15)], Cond.classLink RL 13 "java/lang/IllegalArgumentException", Cond.classLink RL 15 "java/lang/IllegalStateException", Cond.methodLink RL 7 yX7_word, Cond.instanceMethod yX7_word, Cond.selects RX7 yX7_word yX7_word, Cond.code yX7_word cX7_word 2 (some .int), Cond.classLink RX7 69 "java/lang/IllegalArgumentException"]
def wsL_law0_r6 : List Cond := [Cond.initialized "java/lang/IllegalArgumentException", Cond.classLink RX7 75 "java/lang/IllegalStateException", Cond.initialized "java/lang/IllegalStateException", Cond.methodLink RX7 78 yX4_append, Cond.instanceMethod yX4_append, Cond.selects RX4 yX4_append yX4_append, Cond.code yX4_append cX4_append 3 none, Cond.methodLink RL 109 yX8_word, Cond.instanceMethod yX8_word, Cond.selects RX8 yX8_word yX8_word, Cond.code yX8_word cX8_word 2 (some .int), Cond.fieldLink RX8 131 "TermGateModel" "size" "I", Cond.methodLink RX8 114 yX8_isIn, Cond.static yX8_isIn, Cond.code yX8_isIn cX8_isIn 2 (some .boolean), Cond.methodLink RX8 118 yX8_holds, Cond.instanceMethod yX8_holds, Cond.selects RX8 yX8_holds yX8_holds, Cond.code yX8_holds cX8_holds 2 (some .boolean), Cond.fieldLink RX8 90 "TermGateModel" "thrown" "I", Cond.methodLink RL 110 yX8_thrown, Cond.instanceMethod yX8_thrown, Cond.selects RX8 yX8_thrown yX8_thrown, Cond.code yX8_thrown cX8_thrown 1 (some .int)]
def wsL_law0_r7 : List Cond := [Cond.methodLink RL 114 yX7_clear, Cond.instanceMethod yX7_clear, Cond.selects RX7 yX7_clear yX7_clear, Cond.code yX7_clear cX7_clear 2 (some .int), Cond.methodLink RL 117 yX8_clear, Cond.instanceMethod yX8_clear, Cond.selects RX8 yX8_clear yX8_clear, Cond.code yX8_clear cX8_clear 2 (some .int), Cond.methodLink RL 118 yL_likeness, Cond.static yL_likeness, Cond.codeWith yL_likeness cL_likeness 4 (some .int) [(0, 9, 12, 20), (0, 9, 15, 15)], Cond.classLink RL 20 "java/lang/IndexOutOfBoundsException", Cond.methodLink RL 17 yX7_likeness, Cond.instanceMethod yX7_likeness, Cond.selects RX7 yX7_likeness yX7_likeness, Cond.code yX7_likeness cX7_likeness 3 (some .int), Cond.methodLink RX7 82 yX7_soldSentence, Cond.instanceMethod yX7_soldSentence, Cond.selects RX7 yX7_soldSentence yX7_soldSentence, Cond.code yX7_soldSentence cX7_soldSentence 3 (some (.object "TermGate$Sentence")), Cond.classLink RX7 237 "java/lang/IndexOutOfBoundsException", Cond.initialized "java/lang/IndexOutOfBoundsException", Cond.methodLink RX7 279 yX2_sentenceAt, Cond.instanceMethod yX2_sentenceAt]
def wsL_law0_r8 : List Cond := [Cond.selects RX2 yX2_sentenceAt yX2_sentenceAt, Cond.code yX2_sentenceAt cX2_sentenceAt 2 (some (.object "TermGate$Sentence")), Cond.methodLink RX7 86 yX7_refuseEmptyDraft, Cond.instanceMethod yX7_refuseEmptyDraft, Cond.selects RX7 yX7_refuseEmptyDraft yX7_refuseEmptyDraft, Cond.code yX7_refuseEmptyDraft cX7_refuseEmptyDraft 1 none, Cond.methodLink RX7 98 yX0_likenessOf, Cond.instanceMethod yX0_likenessOf, Cond.selects RX0 yX0_likenessOf yX0_likenessOf, Cond.code yX0_likenessOf cX0_likenessOf 5 (some .int), Cond.methodLink RX0 25 Lib.Math.max.name, Cond.static Lib.Math.max.name, Cond.initialized "java/lang/Math", Cond.code Lib.Math.max.name Lib.Math.max.code 2 (some .int), Cond.methodLink RX0 15 yX0_compare, Cond.instanceMethod yX0_compare, Cond.selects RX0 yX0_compare yX0_compare, Cond.code yX0_compare cX0_compare 6 none, Cond.methodLink RX0 34 yX4_at, Cond.instanceMethod yX4_at, Cond.selects RX4 yX4_at yX4_at, Cond.code yX4_at cX4_at 2 (some .int), Cond.methodLink RX0 38 yX0_least, Cond.instanceMethod yX0_least]
def wsL_law0_r9 : List Cond := [Cond.selects RX0 yX0_least yX0_least, Cond.code yX0_least cX0_least 7 (some .int), Cond.methodLink RX0 46 Lib.Math.min.name, Cond.static Lib.Math.min.name, Cond.code Lib.Math.min.name Lib.Math.min.code 2 (some .int), Cond.methodLink RX0 31 yX0_between, Cond.instanceMethod yX0_between, Cond.selects RX0 yX0_between yX0_between, Cond.code yX0_between cX0_between 4 (some .int), Cond.methodLink RX0 42 yX0_put, Cond.instanceMethod yX0_put, Cond.selects RX0 yX0_put yX0_put, Cond.code yX0_put cX0_put 5 none, Cond.methodLink RL 120 yX8_likeness, Cond.instanceMethod yX8_likeness, Cond.selects RX8 yX8_likeness yX8_likeness, Cond.code yX8_likeness cX8_likeness 2 (some .int), Cond.methodLink RX8 151 yX8_isSentence, Cond.instanceMethod yX8_isSentence, Cond.selects RX8 yX8_isSentence yX8_isSentence, Cond.code yX8_isSentence cX8_isSentence 2 (some .boolean), Cond.fieldLink RX8 104 "TermGateModel" "sold" "I", Cond.methodLink RX8 154 yX8_takesDraft, Cond.instanceMethod yX8_takesDraft]
def wsL_law0_r10 : List Cond := [Cond.selects RX8 yX8_takesDraft yX8_takesDraft, Cond.code yX8_takesDraft cX8_takesDraft 2 none, Cond.fieldLink RX8 134 "TermGateModel" "rowSize" "I", Cond.methodLink RX8 144 yX8_likenessOf, Cond.instanceMethod yX8_likenessOf, Cond.selects RX8 yX8_likenessOf yX8_likenessOf, Cond.code yX8_likenessOf cX8_likenessOf 3 (some .int), Cond.methodLink RX8 140 yX8_compares, Cond.instanceMethod yX8_compares, Cond.selects RX8 yX8_compares yX8_compares, Cond.code yX8_compares cX8_compares 6 none, Cond.methodLink RX8 137 yX8_lesser, Cond.static yX8_lesser, Cond.code yX8_lesser cX8_lesser 2 (some .int), Cond.methodLink RL 121 yL_best, Cond.static yL_best, Cond.codeWith yL_best cL_best 4 (some .int) [(0, 9, 12, 13), (0, 9, 15, 15)], Cond.methodLink RL 22 yX7_best, Cond.instanceMethod yX7_best, Cond.selects RX7 yX7_best yX7_best, Cond.code yX7_best cX7_best 2 (some .int), Cond.methodLink RX7 104 yX7_refuseUnlessClient, Cond.static yX7_refuseUnlessClient, Cond.code yX7_refuseUnlessClient cX7_refuseUnlessClient 1 none]
def wsL_law0_r11 : List Cond := [Cond.methodLink RX7 107 yX7_bestFor, Cond.instanceMethod yX7_bestFor, Cond.selects RX7 yX7_bestFor yX7_bestFor, Cond.code yX7_bestFor cX7_bestFor 3 (some .int), Cond.methodLink RX7 285 yX2_sharingWith, Cond.instanceMethod yX2_sharingWith, Cond.selects RX2 yX2_sharingWith yX2_sharingWith, Cond.code yX2_sharingWith cX2_sharingWith 6 (some .long), Cond.methodLink RX2 48 yX4_at, Cond.methodLink RX7 113 yX2_bestAmong, Cond.instanceMethod yX2_bestAmong, Cond.selects RX2 yX2_bestAmong yX2_bestAmong, Cond.code yX2_bestAmong cX2_bestAmong 14 (some .int), Cond.methodLink RX2 54 yX2_sentenceAt, Cond.methodLink RX2 66 yX1_holds, Cond.instanceMethod yX1_holds, Cond.selects RX1 yX1_holds yX1_holds, Cond.code yX1_holds cX1_holds 3 (some .boolean), Cond.methodLink RX1 23 yX1_at, Cond.instanceMethod yX1_at, Cond.selects RX1 yX1_at yX1_at, Cond.code yX1_at cX1_at 2 (some .int), Cond.methodLink RX1 19 yX1_hasPlace, Cond.instanceMethod yX1_hasPlace]
def wsL_law0_r12 : List Cond := [Cond.selects RX1 yX1_hasPlace yX1_hasPlace, Cond.code yX1_hasPlace cX1_hasPlace 2 (some .boolean), Cond.methodLink RX2 73 yX0_likenessOf, Cond.methodLink RL 123 yX8_best, Cond.instanceMethod yX8_best, Cond.selects RX8 yX8_best yX8_best, Cond.code yX8_best cX8_best 2 (some .int), Cond.methodLink RX8 157 yX8_isAsked, Cond.instanceMethod yX8_isAsked, Cond.selects RX8 yX8_isAsked yX8_isAsked, Cond.code yX8_isAsked cX8_isAsked 3 (some .boolean), Cond.methodLink RX8 160 yX8_bestOf, Cond.instanceMethod yX8_bestOf, Cond.selects RX8 yX8_bestOf yX8_bestOf, Cond.code yX8_bestOf cX8_bestOf 8 (some .int), Cond.methodLink RL 124 yL_bestByAll, Cond.static yL_bestByAll, Cond.codeWith yL_bestByAll cL_bestByAll 4 (some .int) [(0, 9, 12, 13), (0, 9, 15, 15)], Cond.methodLink RL 25 yX7_bestByAll, Cond.instanceMethod yX7_bestByAll, Cond.selects RX7 yX7_bestByAll yX7_bestByAll, Cond.code yX7_bestByAll cX7_bestByAll 2 (some .int), Cond.constantLong RX7 111 (-1), Cond.methodLink RL 126 yX8_bestByAll]
def wsL_law0_r13 : List Cond := [Cond.instanceMethod yX8_bestByAll, Cond.selects RX8 yX8_bestByAll yX8_bestByAll, Cond.code yX8_bestByAll cX8_bestByAll 2 (some .int), Cond.methodLink RL 127 yL_cost, Cond.static yL_cost, Cond.codeWith yL_cost cL_cost 5 (some .int) [(0, 10, 13, 13), (0, 10, 17, 15)], Cond.methodLink RL 28 yX7_cost, Cond.instanceMethod yX7_cost, Cond.selects RX7 yX7_cost yX7_cost, Cond.code yX7_cost cX7_cost 4 (some .int), Cond.methodLink RX7 117 yX2_shareOf, Cond.instanceMethod yX2_shareOf, Cond.selects RX2 yX2_shareOf yX2_shareOf, Cond.code yX2_shareOf cX2_shareOf 5 (some .int), Cond.methodLink RX7 121 yX7_costOf, Cond.instanceMethod yX7_costOf, Cond.selects RX7 yX7_costOf yX7_costOf, Cond.code yX7_costOf cX7_costOf 5 (some .int), Cond.methodLink RL 130 yX8_cost, Cond.instanceMethod yX8_cost, Cond.selects RX8 yX8_cost yX8_cost, Cond.code yX8_cost cX8_cost 3 (some .int), Cond.methodLink RX8 163 yX8_costOf, Cond.instanceMethod yX8_costOf]
def wsL_law0_r14 : List Cond := [Cond.selects RX8 yX8_costOf yX8_costOf, Cond.code yX8_costOf cX8_costOf 4 (some .int), Cond.methodLink RX8 148 yX8_shareOf, Cond.instanceMethod yX8_shareOf, Cond.selects RX8 yX8_shareOf yX8_shareOf, Cond.code yX8_shareOf cX8_shareOf 3 (some .int), Cond.methodLink RL 131 yL_order, Cond.static yL_order, Cond.codeWith yL_order cL_order 5 (some .int) [(0, 10, 13, 13), (0, 10, 17, 15)], Cond.methodLink RL 32 yX7_order, Cond.instanceMethod yX7_order, Cond.selects RX7 yX7_order yX7_order, Cond.code yX7_order cX7_order 4 (some .int), Cond.instantiable RX3 7, Cond.initialized RX3, Cond.classLink RX7 94 RX6, Cond.instantiable RX6 3, Cond.initialized RX6, Cond.methodLink RX7 125 yX6_init, Cond.instanceMethod yX6_init, Cond.code yX6_init cX6_init 4 none, Cond.methodLink RX6 3 objectInit, Cond.classLink RX6 9 RX4, Cond.fieldLink RX6 12 "TermGate$Sentence" "words" "LTermGate$Row;"]
def wsL_law0_r15 : List Cond := [Cond.fieldLink RX6 18 "TermGate$Sentence" "became" "LTermGate$Row;", Cond.fieldLink RX6 21 "TermGate$Sentence" "client" "I", Cond.methodLink RX6 28 yX4_at, Cond.methodLink RX6 32 yX4_append, Cond.methodLink RX7 128 yX3_init, Cond.instanceMethod yX3_init, Cond.code yX3_init cX3_init 4 none, Cond.methodLink RX3 3 objectInit, Cond.fieldLink RX3 9 "TermGate$Order" "standing" "I", Cond.fieldLink RX3 15 "TermGate$Order" "match" "I", Cond.fieldLink RX3 18 "TermGate$Order" "cost" "I", Cond.fieldLink RX3 21 "TermGate$Order" "pay" "I", Cond.fieldLink RX3 24 "TermGate$Order" "number" "I", Cond.fieldLink RX3 27 "TermGate$Order" "isRush" "Z", Cond.fieldLink RX3 31 "TermGate$Order" "sentence" "LTermGate$Sentence;", Cond.methodLink RX7 131 yX7_deskFor, Cond.instanceMethod yX7_deskFor, Cond.selects RX7 yX7_deskFor yX7_deskFor, Cond.code yX7_deskFor cX7_deskFor 2 (some (.object "TermGate$Line")), Cond.methodLink RX7 135 yX1_addLast, Cond.instanceMethod yX1_addLast, Cond.selects RX1 yX1_addLast yX1_addLast, Cond.code yX1_addLast cX1_addLast 3 none, Cond.methodLink RL 133 yX8_order]
def wsL_law0_r16 : List Cond := [Cond.instanceMethod yX8_order, Cond.selects RX8 yX8_order yX8_order, Cond.code yX8_order cX8_order 4 (some .int), Cond.fieldLink RX8 167 "TermGateModel" "orders" "I", Cond.fieldLink RX8 170 "TermGateModel" "back" "I", Cond.methodLink RL 134 yL_take, Cond.static yL_take, Cond.codeWith yL_take cL_take 4 (some .int) [(0, 9, 12, 13), (0, 9, 15, 15)], Cond.methodLink RL 35 yX7_take, Cond.instanceMethod yX7_take, Cond.selects RX7 yX7_take yX7_take, Cond.code yX7_take cX7_take 4 (some .int), Cond.methodLink RX7 138 yX7_refuseUnlessTranslator, Cond.static yX7_refuseUnlessTranslator, Cond.code yX7_refuseUnlessTranslator cX7_refuseUnlessTranslator 1 none, Cond.methodLink RX7 141 yX7_handOf, Cond.instanceMethod yX7_handOf, Cond.selects RX7 yX7_handOf yX7_handOf, Cond.code yX7_handOf cX7_handOf 2 (some (.object "TermGate$Order")), Cond.methodLink RX7 148 yX1_at, Cond.methodLink RX7 152 yX7_orderNumbered, Cond.instanceMethod yX7_orderNumbered, Cond.selects RX7 yX7_orderNumbered yX7_orderNumbered, Cond.code yX7_orderNumbered cX7_orderNumbered 2 (some (.object "TermGate$Order"))]
def wsL_law0_r17 : List Cond := [Cond.methodLink RX7 155 yX1_removeFirst, Cond.instanceMethod yX1_removeFirst, Cond.selects RX1 yX1_removeFirst yX1_removeFirst, Cond.code yX1_removeFirst cX1_removeFirst 1 none, Cond.methodLink RX1 31 yX1_removeAt, Cond.instanceMethod yX1_removeAt, Cond.selects RX1 yX1_removeAt yX1_removeAt, Cond.code yX1_removeAt cX1_removeAt 3 none, Cond.methodLink RX7 158 yX7_putInHand, Cond.instanceMethod yX7_putInHand, Cond.selects RX7 yX7_putInHand yX7_putInHand, Cond.code yX7_putInHand cX7_putInHand 3 none, Cond.methodLink RX7 165 yX7_begin, Cond.instanceMethod yX7_begin, Cond.selects RX7 yX7_begin yX7_begin, Cond.code yX7_begin cX7_begin 5 none, Cond.methodLink RX7 282 yX2_lendTo, Cond.instanceMethod yX2_lendTo, Cond.selects RX2 yX2_lendTo yX2_lendTo, Cond.code yX2_lendTo cX2_lendTo 8 none, Cond.methodLink RX2 80 yX0_compare, Cond.methodLink RX2 87 yX4_put, Cond.instanceMethod yX4_put, Cond.selects RX4 yX4_put yX4_put]
def wsL_law0_r18 : List Cond := [Cond.code yX4_put cX4_put 3 none, Cond.methodLink RX4 19 yX4_has, Cond.instanceMethod yX4_has, Cond.selects RX4 yX4_has yX4_has, Cond.code yX4_has cX4_has 2 (some .boolean), Cond.methodLink RX2 91 yX0_skipBehind, Cond.instanceMethod yX0_skipBehind, Cond.selects RX0 yX0_skipBehind yX0_skipBehind, Cond.code yX0_skipBehind cX0_skipBehind 6 (some .int), Cond.methodLink RL 136 yX8_take, Cond.instanceMethod yX8_take, Cond.selects RX8 yX8_take yX8_take, Cond.code yX8_take cX8_take 4 (some .int), Cond.methodLink RX8 177 yX8_orderOf, Cond.instanceMethod yX8_orderOf, Cond.selects RX8 yX8_orderOf yX8_orderOf, Cond.code yX8_orderOf cX8_orderOf 4 (some .int), Cond.methodLink RX8 180 yX8_next, Cond.instanceMethod yX8_next, Cond.selects RX8 yX8_next yX8_next, Cond.code yX8_next cX8_next 5 (some .int), Cond.methodLink RX8 183 yX8_takes, Cond.instanceMethod yX8_takes, Cond.selects RX8 yX8_takes yX8_takes]
def wsL_law0_r19 : List Cond := [Cond.code yX8_takes cX8_takes 4 none, Cond.methodLink RX8 173 yX8_pairs, Cond.instanceMethod yX8_pairs, Cond.selects RX8 yX8_pairs yX8_pairs, Cond.code yX8_pairs cX8_pairs 9 none, Cond.methodLink RL 137 yL_giveBack, Cond.static yL_giveBack, Cond.codeWith yL_giveBack cL_giveBack 4 (some .int) [(0, 9, 12, 13), (0, 9, 15, 15)], Cond.methodLink RL 38 yX7_giveBack, Cond.instanceMethod yX7_giveBack, Cond.selects RX7 yX7_giveBack yX7_giveBack, Cond.code yX7_giveBack cX7_giveBack 3 (some .int), Cond.methodLink RX7 172 yX7_orderInHandOf, Cond.instanceMethod yX7_orderInHandOf, Cond.selects RX7 yX7_orderInHandOf yX7_orderInHandOf, Cond.code yX7_orderInHandOf cX7_orderInHandOf 3 (some (.object "TermGate$Order")), Cond.methodLink RX7 182 yX6_forgetAll, Cond.instanceMethod yX6_forgetAll, Cond.selects RX6 yX6_forgetAll yX6_forgetAll, Cond.code yX6_forgetAll cX6_forgetAll 2 none, Cond.methodLink RX6 36 yX4_put, Cond.methodLink RX7 189 yX1_addFirst, Cond.instanceMethod yX1_addFirst, Cond.selects RX1 yX1_addFirst yX1_addFirst]
def wsL_law0_r20 : List Cond := [Cond.code yX1_addFirst cX1_addFirst 5 none, Cond.methodLink RX1 27 yX1_addLast, Cond.methodLink RL 139 yX8_giveBack, Cond.instanceMethod yX8_giveBack, Cond.selects RX8 yX8_giveBack yX8_giveBack, Cond.code yX8_giveBack cX8_giveBack 3 (some .int), Cond.fieldLink RX8 189 "TermGateModel" "front" "I", Cond.methodLink RX8 186 yX8_isAtWork, Cond.instanceMethod yX8_isAtWork, Cond.selects RX8 yX8_isAtWork yX8_isAtWork, Cond.code yX8_isAtWork cX8_isAtWork 3 (some .boolean), Cond.methodLink RL 140 yL_translate, Cond.static yL_translate, Cond.codeWith yL_translate cL_translate 6 (some .int) [(0, 12, 15, 13), (0, 12, 19, 15), (0, 12, 23, 20)], Cond.methodLink RL 41 yX7_translate, Cond.instanceMethod yX7_translate, Cond.selects RX7 yX7_translate yX7_translate, Cond.code yX7_translate cX7_translate 5 (some .int), Cond.methodLink RX7 192 yX7_refuseUnlessPlace, Cond.static yX7_refuseUnlessPlace, Cond.code yX7_refuseUnlessPlace cX7_refuseUnlessPlace 2 none, Cond.methodLink RX7 276 yX4_has, Cond.methodLink RX7 199 yX4_put, Cond.methodLink RX7 203 yX6_countOpen]
def wsL_law0_r21 : List Cond := [Cond.instanceMethod yX6_countOpen, Cond.selects RX6 yX6_countOpen yX6_countOpen, Cond.code yX6_countOpen cX6_countOpen 3 (some .int), Cond.methodLink RL 143 yX8_translate, Cond.instanceMethod yX8_translate, Cond.selects RX8 yX8_translate yX8_translate, Cond.code yX8_translate cX8_translate 6 (some .int), Cond.methodLink RX8 192 yX8_open, Cond.instanceMethod yX8_open, Cond.selects RX8 yX8_open yX8_open, Cond.code yX8_open cX8_open 4 (some .int), Cond.methodLink RL 144 yL_deliver, Cond.static yL_deliver, Cond.codeWith yL_deliver cL_deliver 4 (some .int) [(0, 9, 12, 13), (0, 9, 15, 15)], Cond.methodLink RL 45 yX7_deliver, Cond.instanceMethod yX7_deliver, Cond.selects RX7 yX7_deliver yX7_deliver, Cond.code yX7_deliver cX7_deliver 4 (some .int), Cond.methodLink RX7 207 yX3_whyNot, Cond.instanceMethod yX3_whyNot, Cond.selects RX3 yX3_whyNot yX3_whyNot, Cond.code yX3_whyNot cX3_whyNot 2 (some .int), Cond.methodLink RX3 35 yX6_firstOpen, Cond.instanceMethod yX6_firstOpen]
def wsL_law0_r22 : List Cond := [Cond.selects RX6 yX6_firstOpen yX6_firstOpen, Cond.code yX6_firstOpen cX6_firstOpen 2 (some .int), Cond.methodLink RX3 41 yX3_firstBroken, Cond.instanceMethod yX3_firstBroken, Cond.selects RX3 yX3_firstBroken yX3_firstBroken, Cond.code yX3_firstBroken cX3_firstBroken 2 (some .int), Cond.methodLink RX3 45 yX6_firstAstray, Cond.instanceMethod yX6_firstAstray, Cond.selects RX6 yX6_firstAstray yX6_firstAstray, Cond.code yX6_firstAstray cX6_firstAstray 3 (some .int), Cond.methodLink RX6 46 yX6_isAstrayAt, Cond.instanceMethod yX6_isAstrayAt, Cond.selects RX6 yX6_isAstrayAt yX6_isAstrayAt, Cond.code yX6_isAstrayAt cX6_isAstrayAt 4 (some .boolean), Cond.methodLink RX6 40 yX5_rulingOf, Cond.instanceMethod yX5_rulingOf, Cond.selects RX5 yX5_rulingOf yX5_rulingOf, Cond.code yX5_rulingOf cX5_rulingOf 4 (some .int), Cond.methodLink RX5 27 yX5_slotOf, Cond.static yX5_slotOf, Cond.code yX5_slotOf cX5_slotOf 3 (some .int), Cond.methodLink RX7 218 yX7_addTo, Cond.static yX7_addTo, Cond.code yX7_addTo cX7_addTo 3 none]
def wsL_law0_r23 : List Cond := [Cond.methodLink RX7 225 yX2_keep, Cond.instanceMethod yX2_keep, Cond.selects RX2 yX2_keep yX2_keep, Cond.code yX2_keep cX2_keep 5 (some .int), Cond.methodLink RX7 229 yX2_listDue, Cond.instanceMethod yX2_listDue, Cond.selects RX2 yX2_listDue yX2_listDue, Cond.code yX2_listDue cX2_listDue 4 none, Cond.methodLink RX2 53 yX1_at, Cond.methodLink RX2 58 yX6_firstAstray, Cond.methodLink RX2 62 yX1_removeAt, Cond.methodLink RX2 70 yX1_addLast, Cond.methodLink RL 146 yX8_deliver, Cond.instanceMethod yX8_deliver, Cond.selects RX8 yX8_deliver yX8_deliver, Cond.code yX8_deliver cX8_deliver 4 (some .int), Cond.methodLink RX8 195 yX8_hindered, Cond.instanceMethod yX8_hindered, Cond.selects RX8 yX8_hindered yX8_hindered, Cond.code yX8_hindered cX8_hindered 7 (some .int), Cond.methodLink RX8 100 yX8_isAgainst, Cond.instanceMethod yX8_isAgainst, Cond.selects RX8 yX8_isAgainst yX8_isAgainst, Cond.code yX8_isAgainst cX8_isAgainst 5 (some .boolean)]
def wsL_law0_r24 : List Cond := [Cond.methodLink RX8 97 yX8_rulingOf, Cond.instanceMethod yX8_rulingOf, Cond.selects RX8 yX8_rulingOf yX8_rulingOf, Cond.code yX8_rulingOf cX8_rulingOf 6 (some .int), Cond.methodLink RX8 93 yX8_at, Cond.static yX8_at, Cond.code yX8_at cX8_at 2 (some .int), Cond.methodLink RX8 198 yX8_sells, Cond.instanceMethod yX8_sells, Cond.selects RX8 yX8_sells yX8_sells, Cond.code yX8_sells cX8_sells 3 none, Cond.fieldLink RX8 121 "TermGateModel" "moment" "I", Cond.methodLink RX8 124 yX8_lists, Cond.instanceMethod yX8_lists, Cond.selects RX8 yX8_lists yX8_lists, Cond.code yX8_lists cX8_lists 3 none, Cond.fieldLink RX8 111 "TermGateModel" "listings" "I", Cond.methodLink RX8 107 yX8_isDueNow, Cond.instanceMethod yX8_isDueNow, Cond.selects RX8 yX8_isDueNow yX8_isDueNow, Cond.code yX8_isDueNow cX8_isDueNow 4 (some .boolean), Cond.methodLink RL 147 yL_why, Cond.static yL_why, Cond.codeWith yL_why cL_why 4 (some .int) [(0, 9, 12, 13), (0, 9, 15, 15)]]
def wsL_law0_r25 : List Cond := [Cond.methodLink RL 48 yX7_why, Cond.instanceMethod yX7_why, Cond.selects RX7 yX7_why yX7_why, Cond.code yX7_why cX7_why 2 (some .int), Cond.methodLink RL 149 yX8_why, Cond.instanceMethod yX8_why, Cond.selects RX8 yX8_why yX8_why, Cond.code yX8_why cX8_why 3 (some .int), Cond.methodLink RL 150 yL_wherefore, Cond.static yL_wherefore, Cond.codeWith yL_wherefore cL_wherefore 4 (some .int) [(0, 9, 12, 13), (0, 9, 15, 15)], Cond.methodLink RL 51 yX7_wherefore, Cond.instanceMethod yX7_wherefore, Cond.selects RX7 yX7_wherefore yX7_wherefore, Cond.code yX7_wherefore cX7_wherefore 2 (some .int), Cond.methodLink RX7 233 yX3_whereNot, Cond.instanceMethod yX3_whereNot, Cond.selects RX3 yX3_whereNot yX3_whereNot, Cond.code yX3_whereNot cX3_whereNot 3 (some .int), Cond.methodLink RL 152 yX8_wherefore, Cond.instanceMethod yX8_wherefore, Cond.selects RX8 yX8_wherefore yX8_wherefore, Cond.code yX8_wherefore cX8_wherefore 2 (some .int), Cond.methodLink RL 153 yL_became]
def wsL_law0_r26 : List Cond := [Cond.static yL_became, Cond.codeWith yL_became cL_became 5 (some .int) [(0, 10, 13, 13), (0, 10, 17, 15), (0, 10, 21, 20)], Cond.methodLink RL 54 yX7_became, Cond.instanceMethod yX7_became, Cond.selects RX7 yX7_became yX7_became, Cond.code yX7_became cX7_became 4 (some .int), Cond.methodLink RX7 236 yX4_at, Cond.methodLink RL 156 yX8_became, Cond.instanceMethod yX8_became, Cond.selects RX8 yX8_became yX8_became, Cond.code yX8_became cX8_became 5 (some .int), Cond.methodLink RL 157 yL_match, Cond.static yL_match, Cond.codeWith yL_match cL_match 4 (some .int) [(0, 9, 12, 13), (0, 9, 15, 15)], Cond.methodLink RL 58 yX7_match, Cond.instanceMethod yX7_match, Cond.selects RX7 yX7_match yX7_match, Cond.code yX7_match cX7_match 2 (some .int), Cond.methodLink RL 159 yX8_match, Cond.instanceMethod yX8_match, Cond.selects RX8 yX8_match yX8_match, Cond.code yX8_match cX8_match 2 (some .int), Cond.methodLink RL 160 yX7_waiting, Cond.instanceMethod yX7_waiting]
def wsL_law0_r27 : List Cond := [Cond.selects RX7 yX7_waiting yX7_waiting, Cond.code yX7_waiting cX7_waiting 2 (some .int), Cond.methodLink RL 164 yX8_waiting, Cond.instanceMethod yX8_waiting, Cond.selects RX8 yX8_waiting yX8_waiting, Cond.code yX8_waiting cX8_waiting 4 (some .int), Cond.methodLink RL 165 yL_orderAt, Cond.static yL_orderAt, Cond.codeWith yL_orderAt cL_orderAt 4 (some .int) [(0, 9, 12, 20)], Cond.methodLink RL 61 yX7_orderAt, Cond.instanceMethod yX7_orderAt, Cond.selects RX7 yX7_orderAt yX7_orderAt, Cond.code yX7_orderAt cX7_orderAt 3 (some .int), Cond.methodLink RL 167 yX8_orderAt, Cond.instanceMethod yX8_orderAt, Cond.selects RX8 yX8_orderAt yX8_orderAt, Cond.code yX8_orderAt cX8_orderAt 2 (some .int), Cond.methodLink RL 168 yL_say, Cond.static yL_say, Cond.codeWith yL_say cL_say 7 (some .int) [(0, 14, 17, 13)], Cond.methodLink RL 64 yX7_say, Cond.instanceMethod yX7_say, Cond.selects RX7 yX7_say yX7_say, Cond.code yX7_say cX7_say 5 (some .int)]
def wsL_law0_r28 : List Cond := [Cond.methodLink RX7 240 yX7_refuseUnlessClientAndWord, Cond.static yX7_refuseUnlessClientAndWord, Cond.code yX7_refuseUnlessClientAndWord cX7_refuseUnlessClientAndWord 2 none, Cond.methodLink RX7 243 yX5_slotOf, Cond.methodLink RX7 247 yX5_hear, Cond.instanceMethod yX5_hear, Cond.selects RX5 yX5_hear yX5_hear, Cond.code yX5_hear cX5_hear 7 none, Cond.methodLink RX5 31 yX5_agreedOn, Cond.instanceMethod yX5_agreedOn, Cond.selects RX5 yX5_agreedOn yX5_agreedOn, Cond.code yX5_agreedOn cX5_agreedOn 5 (some .int), Cond.methodLink RX5 35 yX5_saidBy, Cond.instanceMethod yX5_saidBy, Cond.selects RX5 yX5_saidBy yX5_saidBy, Cond.code yX5_saidBy cX5_saidBy 4 (some .int), Cond.methodLink RL 171 yX8_say, Cond.instanceMethod yX8_say, Cond.selects RX8 yX8_say yX8_say, Cond.code yX8_say cX8_say 7 (some .int), Cond.methodLink RX8 127 yX8_dueNow, Cond.instanceMethod yX8_dueNow, Cond.selects RX8 yX8_dueNow yX8_dueNow, Cond.code yX8_dueNow cX8_dueNow 3 (some .int)]
def wsL_law0_r29 : List Cond := [Cond.methodLink RL 172 yL_ruling, Cond.static yL_ruling, Cond.codeWith yL_ruling cL_ruling 5 (some .int) [(0, 10, 13, 13)], Cond.methodLink RL 68 yX7_ruling, Cond.instanceMethod yX7_ruling, Cond.selects RX7 yX7_ruling yX7_ruling, Cond.code yX7_ruling cX7_ruling 3 (some .int), Cond.methodLink RX7 254 yX5_rulingOf, Cond.methodLink RL 174 yX8_ruling, Cond.instanceMethod yX8_ruling, Cond.selects RX8 yX8_ruling yX8_ruling, Cond.code yX8_ruling cX8_ruling 3 (some .int), Cond.methodLink RL 175 yX7_sold, Cond.instanceMethod yX7_sold, Cond.selects RX7 yX7_sold yX7_sold, Cond.code yX7_sold cX7_sold 1 (some .int), Cond.methodLink RL 178 yX8_sold, Cond.instanceMethod yX8_sold, Cond.selects RX8 yX8_sold yX8_sold, Cond.code yX8_sold cX8_sold 1 (some .int), Cond.methodLink RL 179 yL_clientOf, Cond.static yL_clientOf, Cond.codeWith yL_clientOf cL_clientOf 4 (some .int) [(0, 9, 12, 20)], Cond.methodLink RL 71 yX7_clientOf]
def wsL_law0_r30 : List Cond := [Cond.instanceMethod yX7_clientOf, Cond.selects RX7 yX7_clientOf yX7_clientOf, Cond.code yX7_clientOf cX7_clientOf 2 (some .int), Cond.methodLink RL 181 yX8_clientOf, Cond.instanceMethod yX8_clientOf, Cond.selects RX8 yX8_clientOf yX8_clientOf, Cond.code yX8_clientOf cX8_clientOf 2 (some .int), Cond.methodLink RL 182 yL_wordOf, Cond.static yL_wordOf, Cond.codeWith yL_wordOf cL_wordOf 5 (some .int) [(0, 10, 13, 20)], Cond.methodLink RL 74 yX7_wordOf, Cond.instanceMethod yX7_wordOf, Cond.selects RX7 yX7_wordOf yX7_wordOf, Cond.code yX7_wordOf cX7_wordOf 4 (some .int), Cond.methodLink RL 184 yX8_wordOf, Cond.instanceMethod yX8_wordOf, Cond.selects RX8 yX8_wordOf yX8_wordOf, Cond.code yX8_wordOf cX8_wordOf 3 (some .int), Cond.methodLink RX8 201 yX8_isPlace, Cond.instanceMethod yX8_isPlace, Cond.selects RX8 yX8_isPlace yX8_isPlace, Cond.code yX8_isPlace cX8_isPlace 4 (some .boolean), Cond.methodLink RL 185 yL_becameOf, Cond.static yL_becameOf]
def wsL_law0_r31 : List Cond := [Cond.codeWith yL_becameOf cL_becameOf 5 (some .int) [(0, 10, 13, 20)], Cond.methodLink RL 77 yX7_becameOf, Cond.instanceMethod yX7_becameOf, Cond.selects RX7 yX7_becameOf yX7_becameOf, Cond.code yX7_becameOf cX7_becameOf 4 (some .int), Cond.methodLink RL 187 yX8_becameOf, Cond.instanceMethod yX8_becameOf, Cond.selects RX8 yX8_becameOf yX8_becameOf, Cond.code yX8_becameOf cX8_becameOf 3 (some .int), Cond.methodLink RL 188 yL_isDue, Cond.static yL_isDue, Cond.codeWith yL_isDue cL_isDue 4 (some .int) [(0, 16, 19, 20)], Cond.methodLink RL 80 yX7_isDue, Cond.instanceMethod yX7_isDue, Cond.selects RX7 yX7_isDue yX7_isDue, Cond.code yX7_isDue cX7_isDue 2 (some .boolean), Cond.methodLink RX7 257 yX6_firstAstray, Cond.methodLink RL 190 yX8_isDue, Cond.instanceMethod yX8_isDue, Cond.selects RX8 yX8_isDue yX8_isDue, Cond.code yX8_isDue cX8_isDue 2 (some .boolean), Cond.methodLink RL 191 yX7_due, Cond.instanceMethod yX7_due, Cond.selects RX7 yX7_due yX7_due]
def wsL_law0_r32 : List Cond := [Cond.code yX7_due cX7_due 1 (some .int), Cond.methodLink RL 194 yX8_due, Cond.instanceMethod yX8_due, Cond.selects RX8 yX8_due yX8_due, Cond.code yX8_due cX8_due 1 (some .int), Cond.methodLink RL 195 yL_dueAt, Cond.static yL_dueAt, Cond.codeWith yL_dueAt cL_dueAt 4 (some .int) [(0, 9, 12, 20)], Cond.methodLink RL 84 yX7_dueAt, Cond.instanceMethod yX7_dueAt, Cond.selects RX7 yX7_dueAt yX7_dueAt, Cond.code yX7_dueAt cX7_dueAt 2 (some .int), Cond.methodLink RX7 260 yX1_hasPlace, Cond.methodLink RL 197 yX8_dueAt, Cond.instanceMethod yX8_dueAt, Cond.selects RX8 yX8_dueAt yX8_dueAt, Cond.code yX8_dueAt cX8_dueAt 6 (some .int), Cond.methodLink RL 198 yL_mend, Cond.static yL_mend, Cond.codeWith yL_mend cL_mend 4 (some .int) [(0, 9, 12, 20), (0, 9, 15, 15)], Cond.methodLink RL 87 yX7_mend, Cond.instanceMethod yX7_mend, Cond.selects RX7 yX7_mend yX7_mend, Cond.code yX7_mend cX7_mend 5 (some .int)]
def wsL_law0_r33 : List Cond := [Cond.methodLink RX7 264 yX6_isAstrayAt, Cond.methodLink RX7 268 yX7_mendingPrice, Cond.instanceMethod yX7_mendingPrice, Cond.selects RX7 yX7_mendingPrice yX7_mendingPrice, Cond.code yX7_mendingPrice cX7_mendingPrice 4 (some .int), Cond.methodLink RX7 289 yX5_soldAtChange, Cond.instanceMethod yX5_soldAtChange, Cond.selects RX5 yX5_soldAtChange yX5_soldAtChange, Cond.code yX5_soldAtChange cX5_soldAtChange 4 (some .int), Cond.methodLink RL 200 yX8_mend, Cond.instanceMethod yX8_mend, Cond.selects RX8 yX8_mend yX8_mend, Cond.code yX8_mend cX8_mend 6 (some .int), Cond.methodLink RL 201 yL_setPrices, Cond.static yL_setPrices, Cond.codeWith yL_setPrices cL_setPrices 5 (some .int) [(0, 7, 10, 13)], Cond.methodLink RL 90 yX7_setPrices, Cond.instanceMethod yX7_setPrices, Cond.selects RX7 yX7_setPrices yX7_setPrices, Cond.code yX7_setPrices cX7_setPrices 4 none, Cond.methodLink RL 204 yX8_setPrices, Cond.instanceMethod yX8_setPrices, Cond.selects RX8 yX8_setPrices yX8_setPrices, Cond.code yX8_setPrices cX8_setPrices 4 none]
def wsL_law0_r34 : List Cond := [Cond.methodLink RL 205 yL_paid, Cond.static yL_paid, Cond.codeWith yL_paid cL_paid 4 (some .int) [(0, 9, 12, 13)], Cond.methodLink RL 94 yX7_paid, Cond.instanceMethod yX7_paid, Cond.selects RX7 yX7_paid yX7_paid, Cond.code yX7_paid cX7_paid 2 (some .int), Cond.methodLink RL 207 yX8_paid, Cond.instanceMethod yX8_paid, Cond.selects RX8 yX8_paid yX8_paid, Cond.code yX8_paid cX8_paid 2 (some .int), Cond.methodLink RL 208 yL_earned, Cond.static yL_earned, Cond.codeWith yL_earned cL_earned 4 (some .int) [(0, 9, 12, 13)], Cond.methodLink RL 97 yX7_earned, Cond.instanceMethod yX7_earned, Cond.selects RX7 yX7_earned yX7_earned, Cond.code yX7_earned cX7_earned 2 (some .int), Cond.methodLink RL 210 yX8_earned, Cond.instanceMethod yX8_earned, Cond.selects RX8 yX8_earned yX8_earned, Cond.code yX8_earned cX8_earned 2 (some .int), Cond.methodLink RL 211 yX7_purse, Cond.instanceMethod yX7_purse]
def wsL_law0_r35 : List Cond := [Cond.selects RX7 yX7_purse yX7_purse, Cond.code yX7_purse cX7_purse 1 (some .int), Cond.methodLink RX7 272 yX7_sumOf, Cond.static yX7_sumOf, Cond.code yX7_sumOf cX7_sumOf 6 (some .int), Cond.methodLink RL 214 yX8_purse, Cond.instanceMethod yX8_purse, Cond.selects RX8 yX8_purse yX8_purse, Cond.code yX8_purse cX8_purse 3 (some .int)]
def wsL_law0 : List Cond := (wsL_law0_r1 ++ (wsL_law0_r2 ++ (wsL_law0_r3 ++ (wsL_law0_r4 ++ (wsL_law0_r5 ++ (wsL_law0_r6 ++ (wsL_law0_r7 ++ (wsL_law0_r8 ++ (wsL_law0_r9 ++ (wsL_law0_r10 ++ (wsL_law0_r11 ++ (wsL_law0_r12 ++ (wsL_law0_r13 ++ (wsL_law0_r14 ++ (wsL_law0_r15 ++ (wsL_law0_r16 ++ (wsL_law0_r17 ++ (wsL_law0_r18 ++ (wsL_law0_r19 ++ (wsL_law0_r20 ++ (wsL_law0_r21 ++ (wsL_law0_r22 ++ (wsL_law0_r23 ++ (wsL_law0_r24 ++ (wsL_law0_r25 ++ (wsL_law0_r26 ++ (wsL_law0_r27 ++ (wsL_law0_r28 ++ (wsL_law0_r29 ++ (wsL_law0_r30 ++ (wsL_law0_r31 ++ (wsL_law0_r32 ++ (wsL_law0_r33 ++ (wsL_law0_r34 ++ wsL_law0_r35)))))))))))))))))))))))))))))))))) ++ wsX70 ++ wsX80 ++ wsX40 ++ wsX50 ++ wsX20 ++ wsX10 ++ wsX00 ++ wsX60 ++ wsX30 ++ ([] : List Cond)
def wsL_law : List Cond := wsL_law0 ++ (vx_at0 RX7 71 "java/lang/IllegalArgumentException" ["java/lang/RuntimeException", "java/lang/Exception"]).filter goodWord ++ (vx_at0 RX7 77 "java/lang/IllegalStateException" ["java/lang/RuntimeException", "java/lang/Exception"]).filter goodWord ++ (vx_at0 RX7 239 "java/lang/IndexOutOfBoundsException" ["java/lang/RuntimeException", "java/lang/Exception"]).filter goodWord
theorem inJx145de : ∀ w ∈ wsJx145de0, w ∈ lw_tbl := by decide +kernel
theorem inJ9 : ∀ w ∈ wsJ90, w ∈ lw_tbl := by decide +kernel
theorem inJ7 : ∀ w ∈ wsJ70, w ∈ lw_tbl := by decide +kernel
abbrev vwCl : List vw_C := [(RX0, TX0, 1), (RX1, TX1, 2), (RX2, TX2, 5), (RX3, TX3, 7), (RX4, TX4, 2), (RX5, TX5, 3), (RX6, TX6, 3), (RX7, TX7, 13), (RX8, TX8, 35)]
/-! ===== END printed: names ===== -/
end
section
-- worlds by names: the cells 0 .. N-1, each with its address and what it holds
def wn (N : Nat) (adr : Nat → Nat) (c : Nat → va_E) : va_W := (List.range N).map (fun k => (adr k, c k))
theorem wn_get {N : Nat} {adr : Nat → Nat} {c : Nat → va_E} {k : Nat} {e : va_E} (hk : k < N) (he : c k = e) : (wn N adr c)[k]? = some (adr k, e) := by
  subst he
  simp [wn, hk]
theorem wn_len {N : Nat} {adr : Nat → Nat} {c : Nat → va_E} : (wn N adr c).length = N := by simp [wn]
theorem wn_set {N : Nat} {adr : Nat → Nat} {c : Nat → va_E} {k : Nat} {e : va_E} : (wn N adr c).set k (adr k, e) = wn N adr (va_up c k e) := by
  apply List.ext_getElem?
  intro j
  by_cases hj : j = k
  · subst hj
    by_cases h : j < N
    · rw [List.getElem?_set_self (by rw [wn_len]; exact h)]
      exact (wn_get h (va_up_self c j e)).symm
    · rw [List.getElem?_eq_none (by rw [List.length_set, wn_len]; omega), List.getElem?_eq_none (by rw [wn_len]; omega)]
  · rw [List.getElem?_set_ne (Ne.symm hj)]
    by_cases h : j < N
    · rw [wn_get h rfl, wn_get h (va_up_ne c e hj)]
    · rw [List.getElem?_eq_none (by rw [wn_len]; omega), List.getElem?_eq_none (by rw [wn_len]; omega)]
theorem wn_push {N : Nat} {adr : Nat → Nat} {c : Nat → va_E} {q : Nat} {e : va_E} : wn N adr c ++ [(q, e)] = wn (N + 1) (va_up adr N q) (va_up c N e) := by
  apply List.ext_getElem?
  intro j
  by_cases h : j < N
  · rw [List.getElem?_append_left (by rw [wn_len]; exact h), wn_get h rfl, wn_get (show j < N + 1 by omega) (va_up_ne c e (show j ≠ N by omega)), va_up_ne adr q (show j ≠ N by omega)]
  · by_cases h2 : j = N
    · subst h2
      rw [List.getElem?_append_right (by rw [wn_len]; exact Nat.le_refl _), wn_len, Nat.sub_self, wn_get (show j < j + 1 by omega) (va_up_self c j e), va_up_self]
      rfl
    · rw [List.getElem?_eq_none (by rw [List.length_append, wn_len]; show N + 1 ≤ j; omega), List.getElem?_eq_none (by rw [wn_len]; omega)]
def MW (D : va_G) (A : Nat → Prop) (N : Nat) (adr : Nat → Nat) (c : Nat → va_E) (H : Heap) : Prop := va_P D vwCl (wn N adr c) H ∧ va_D A (wn N adr c)
abbrev Cel (D : va_G) (H : Heap) (a : Nat) (e : va_E) : Prop := va_at D vwCl (a, e) H
theorem MW.cel {D : va_G} {A : Nat → Prop} {N : Nat} {adr : Nat → Nat} {c : Nat → va_E} {H : Heap} (h : MW D A N adr c H) {k : Nat} {e : va_E} (hk : k < N) (he : c k = e) : Cel D H (adr k) e := h.1 k _ (wn_get hk he)
theorem MW.inj {D : va_G} {A : Nat → Prop} {N : Nat} {adr : Nat → Nat} {c : Nat → va_E} {H : Heap} (h : MW D A N adr c H) {i j : Nat} (hi : i < N) (hj : j < N) (he : adr i = adr j) : i = j := h.2.1 i j _ _ (wn_get hi rfl) (wn_get hj rfl) he
theorem MW.own {D : va_G} {A : Nat → Prop} {N : Nat} {adr : Nat → Nat} {c : Nat → va_E} {H : Heap} (h : MW D A N adr c H) {k : Nat} (hk : k < N) : A (adr k) := h.2.2 k _ (wn_get hk rfl)
theorem MW.lt {D : va_G} {A : Nat → Prop} {N : Nat} {adr : Nat → Nat} {c : Nat → va_E} {H : Heap} (h : MW D A N adr c H) {k : Nat} (hk : k < N) : adr k < H.size := (h.1 k _ (wn_get hk rfl)).lt
theorem MW.kept {D : va_G} {A : Nat → Prop} {N : Nat} {adr : Nat → Nat} {c : Nat → va_E} {H H1 : Heap} (h : MW D A N adr c H) (hq : ∀ k, k < N → H1[adr k]? = H[adr k]?) : MW D A N adr c H1 :=
  ⟨h.1.kept (fun k q hk => by
    have hl : k < N := by have := (List.getElem?_eq_some_iff.mp hk).1; rwa [wn_len] at this
    rw [wn_get hl rfl] at hk
    cases hk
    exact hq k hl), h.2⟩
theorem MW.weaken {D : va_G} {A B : Nat → Prop} {N : Nat} {adr : Nat → Nat} {c : Nat → va_E} {H : Heap} (h : MW D A N adr c H) (hB : ∀ k, k < N → B (adr k)) : MW D B N adr c H :=
  ⟨h.1, h.2.1, fun k q hk => by
    have hl : k < N := by have := (List.getElem?_eq_some_iff.mp hk).1; rwa [wn_len] at this
    rw [wn_get hl rfl] at hk
    cases hk
    exact hB k hl⟩
theorem MW.congr {D : va_G} {A : Nat → Prop} {N : Nat} {adr adr' : Nat → Nat} {c c' : Nat → va_E} {H : Heap} (h : MW D A N adr c H) (ha : ∀ k, k < N → adr' k = adr k) (hc : ∀ k, k < N → c' k = c k) : MW D A N adr' c' H := by
  have e : wn N adr' c' = wn N adr c := List.map_congr_left (fun k hk => by rw [ha k (List.mem_range.mp hk), hc k (List.mem_range.mp hk)])
  unfold MW
  rw [e]
  exact h
theorem Cel.one {D : va_G} {H : Heap} {a : Nat} {e : va_E} (h : Cel D H a e) : va_P D vwCl [(a, e)] H := by
  intro k q hk
  have hz : k < 1 := (List.getElem?_eq_some_iff.mp hk).1
  rw [show k = 0 by omega] at hk
  cases hk
  exact h
theorem Cel.kept {D : va_G} {H H1 : Heap} {a : Nat} {e : va_E} (h : Cel D H a e) (hq : H1[a]? = H[a]?) : Cel D H1 a e := va_at.kept h hq
-- what the tables say: the classes, the array classes, the links to nest mates
abbrev tyL (ac : Nat → ClassId) : List (ClassId × FieldType) := [(ac 0, .int), (ac 1, .long), (ac 2, .boolean), (ac 3, .object RX3), (ac 4, .object RX6)]
def nestL : List Cond := [.methodLinkNest RX7 9 yX4_init RX7, .fieldLinkNest RX6 25 "TermGate$Row" "length" "I" RX7, .fieldLinkNest RX0 19 "TermGate$Row" "length" "I" RX7, .fieldLinkNest RX7 72 "TermGate$Row" "length" "I" RX7, .fieldLinkNest RX2 43 "TermGate$Row" "length" "I" RX7, .methodLinkNest RX7 25 yX2_init RX7, .methodLinkNest RX2 23 yX1_init RX7, .fieldLinkNest RX2 52 "TermGate$Line" "count" "I" RX7, .fieldLinkNest RX7 145 "TermGate$Line" "count" "I" RX7, .methodLinkNest RX2 30 yX0_init RX7, .fieldLinkNest RX7 251 "TermGate$Memory" "dueList" "LTermGate$Line;" RX7, .fieldLinkNest RX7 89 "TermGate$Memory" "edits" "LTermGate$Edits;" RX7, .fieldLinkNest RX7 211 "TermGate$Memory" "count" "I" RX7, .methodLinkNest RX7 41 yX1_init RX7, .methodLinkNest RX6 11 yX4_init RX7, .fieldLinkNest RX2 77 "TermGate$Sentence" "client" "I" RX7, .fieldLinkNest RX7 212 "TermGate$Sentence" "client" "I" RX7, .fieldLinkNest RX2 39 "TermGate$Sentence" "words" "LTermGate$Row;" RX7, .fieldLinkNest RX7 93 "TermGate$Sentence" "words" "LTermGate$Row;" RX7, .fieldLinkNest RX2 84 "TermGate$Sentence" "became" "LTermGate$Row;" RX7, .fieldLinkNest RX7 196 "TermGate$Sentence" "became" "LTermGate$Row;" RX7, .fieldLinkNest RX7 169 "TermGate$Order" "number" "I" RX7, .fieldLinkNest RX7 185 "TermGate$Order" "isRush" "Z" RX7, .fieldLinkNest RX7 178 "TermGate$Order" "sentence" "LTermGate$Sentence;" RX7, .fieldLinkNest RX7 162 "TermGate$Order" "standing" "I" RX7, .fieldLinkNest RX7 175 "TermGate$Order" "match" "I" RX7, .fieldLinkNest RX7 215 "TermGate$Order" "cost" "I" RX7, .fieldLinkNest RX7 222 "TermGate$Order" "pay" "I" RX7]
theorem nestL_in : ∀ w ∈ nestL, w ∈ tables_1 := by decide +kernel
def isNest (w : Cond) : Bool := match w with
  | .fieldLinkNest .. => true
  | .methodLinkNest .. => true
  | _ => false
theorem nestL_is : ∀ w ∈ nestL, isNest w = true := by decide +kernel
def NW (U : State) : Prop := ∀ w ∈ nestL, va_Nw w U
theorem NW.warm {s U : State} (hW : s.WarmedH U.vm) (h : NW s) : NW U := by
  intro w hw
  have h1 := h w hw
  have h2 := nestL_is w hw
  cases w with
  | fieldLinkNest a i b n d z => exact va_Nw.warmF hW h1
  | methodLinkNest a i x z => exact va_Nw.warmM hW h1
  | _ => simp [isNest] at h2
theorem NW.same {u U : State} (hv : u.vm = U.vm) (h : NW u) : NW U := by
  intro w hw
  have h1 := h w hw
  have h2 := nestL_is w hw
  cases w with
  | fieldLinkNest a i b n d z => exact va_Nw.same rfl hv h1
  | methodLinkNest a i x z => exact va_Nw.same rfl hv h1
  | _ => simp [isNest] at h2
def KN (D : va_G) (ac : Nat → ClassId) (U : State) : Prop := va_K D vwCl (tyL ac) U ∧ NW U
theorem KN.warm {D : va_G} {ac : Nat → ClassId} {s U : State} (hW : s.WarmedH U.vm) (h : KN D ac s) : KN D ac U := ⟨va_K.moved hW.alike h.1, h.2.warm hW⟩
theorem KN.call {D : va_G} {ac : Nat → ClassId} {U : State} {g : JFrame} {mk : MethodId} {a : Array Value} (h : KN D ac U) : KN D ac (U.calling g mk a) := ⟨va_K.moved (u := U) (U := U.calling g mk a) (Vm.Alike.refl U.vm) h.1, NW.same (u := U) rfl h.2⟩
theorem KN.nest {D : va_G} {ac : Nat → ClassId} {s : State} (h : KN D ac s) (i : Nat) {w : Cond} (hw : nestL[i]? = some w) : va_Nw w s := h.2 w (List.mem_of_getElem? hw)
-- contracts that only read: the heap is as before
abbrev RPre (D : va_G) (ac : Nat → ClassId) (H : Heap) (av : List Value) : Array Value → State → Prop := va_Pc av (fun U => U.heap = H ∧ KN D ac U)
abbrev ROi (l : Launch) (y : MethodName) (ws : List Cond) (rm : Room) (av : List Value) (D : va_G) (ac : Nat → ClassId) (H : Heap) (post : Int32 → Prop) : Prop := Met l y ws rm (RPre D ac H av) (va_Qi (fun r (_ : Unit) => post r) (fun _ t => t.heap = H) (fun _ => False)) 0 0 (fun _ => False)
abbrev ROl (l : Launch) (y : MethodName) (ws : List Cond) (rm : Room) (av : List Value) (D : va_G) (ac : Nat → ClassId) (H : Heap) (post : Int64 → Prop) : Prop := Met l y ws rm (RPre D ac H av) (va_Ql (fun r (_ : Unit) => post r) (fun _ t => t.heap = H) (fun _ => False)) 0 0 (fun _ => False)
abbrev ROq (l : Launch) (y : MethodName) (ws : List Cond) (rm : Room) (av : List Value) (D : va_G) (ac : Nat → ClassId) (H : Heap) (post : Option Nat → Prop) : Prop := Met l y ws rm (RPre D ac H av) (va_Qq (fun r (_ : Unit) => post r) (fun _ t => t.heap = H) (fun _ => False)) 0 0 (fun _ => False)
-- contracts that write: the world by names afterwards
abbrev WRi (l : Launch) (y : MethodName) (ws : List Cond) (rm : Room) (av : List Value) (D : va_G) (ac : Nat → ClassId) (H : Heap) (A : Nat → Prop) (N : Nat) (adr : Nat → Nat) (post : Int32 → (Nat → va_E) → Prop) : Prop := Met l y ws rm (RPre D ac H av) (va_Qi post (fun c t => MW D A N adr c t.heap) A) 0 0 A
abbrev WRv (l : Launch) (y : MethodName) (ws : List Cond) (rm : Room) (av : List Value) (D : va_G) (ac : Nat → ClassId) (H : Heap) (A : Nat → Prop) (N : Nat) (adr : Nat → Nat) (post : (Nat → va_E) → Prop) : Prop := Met l y ws rm (RPre D ac H av) (va_Qv post (fun c t => MW D A N adr c t.heap) A) 0 0 A
theorem RPre.blind {D : va_G} {ac : Nat → ClassId} {H : Heap} {av : List Value} : FrameBlind (RPre D ac H av) := fun a U g mk q => by
  obtain ⟨q0, q1, q2⟩ := q
  exact ⟨q0, q1, q2.call⟩
section RS
variable {s : State} {H : Heap} {D : va_G} {ac : Nat → ClassId}
theorem pS {As : List Value} (hK : KN D ac s) : PreS s H (RPre D ac H As) As := ⟨RPre.blind, fun U hU hW => ⟨rfl, hU, hK.warm hW⟩⟩
theorem pV {As : List Value} {b ci : Nat} {C : String} {T : u_T} {N : Nat} {fs : List Value} (hK : KN D ac s) (hc : vwCl[ci]? = some (C, T, N)) (hb : Cel D H b (.inr (ci, fs))) : PreV s H C b (RPre D ac H (.ref b :: As)) As :=
  ⟨RPre.blind, va_recv hK.1 hb.one (q0 := 0) hc rfl, fun U hU hW => ⟨rfl, hU, hK.warm hW⟩⟩
end RS
section RW
variable {p : Program} {l : Launch} {e : Env} {R : Room} {s : State} {m : MethodId} {args : Array Value} {below : List Frame} {meth : Method} {c : Code} {H : Heap} {locs : List Loc} {cells slots : Nat} {Q : State → Prop}
variable {cc : ByteArray} {pc : Nat} {ls : Array Slot} {rest st0 : List Value} {D : va_G} {ac : Nat → ClassId} {a : Nat} {A : Nat → Prop} {H0 : Heap} {N : Nat} {adr : Nat → Nat} {w : Nat → va_E}
theorem m_get (hx : p.tables.exec = Jvm.exec) (hb : c.code = cc) {own C : String} {T : u_T} {n ci index : Nat} {Ts : List Cond} (hts : ∀ w ∈ Ts, w.before args s = true) (hin : ∀ w ∈ u_ws C T n, w ∈ Ts) (hown : s.vm.findClass own = some m.cls) (hK : KN D ac s) (hc : vwCl[ci]? = some (C, T, n)) {fs : List Value} (he : Cel D H a (.inr (ci, fs))) (k : Nat) (hk : k < n) (hlink : (Cond.fieldLink own index (T k).1 (T k).2.1 (T k).2.2.1).before args s = true) {v : Value} (hv : fs[k]? = some v) (hdg : decode cc pc = .ok (.getfield index, 3))
    (kk : W p l e R s m args below meth c H locs cells slots Q (F0 m (pc + 3) ls (v :: rest))) : W p l e R s m args below meth c H locs cells slots Q (F0 m pc ls (.ref a :: rest)) :=
  va_get hx hb hts hin hown hK.1 he.one 0 rfl hc k hk hlink (fun _ h9 => h9) hv hdg kk
theorem m_getN (hx : p.tables.exec = Jvm.exec) (hb : c.code = cc) {own C host : String} {T : u_T} {n ci index : Nat} {Ts : List Cond} (hts : ∀ w ∈ Ts, w.before args s = true) (hin : ∀ w ∈ u_ws C T n, w ∈ Ts) (hown : s.vm.findClass own = some m.cls) (hK : KN D ac s) (hc : vwCl[ci]? = some (C, T, n)) {fs : List Value} (he : Cel D H a (.inr (ci, fs))) (k : Nat) (hk : k < n) (i9 : Nat) (hlink : nestL[i9]? = some (Cond.fieldLinkNest own index (T k).1 (T k).2.1 (T k).2.2.1 host)) {v : Value} (hv : fs[k]? = some v) (hdg : decode cc pc = .ok (.getfield index, 3))
    (kk : W p l e R s m args below meth c H locs cells slots Q (F0 m (pc + 3) ls (v :: rest))) : W p l e R s m args below meth c H locs cells slots Q (F0 m pc ls (.ref a :: rest)) :=
  va_getN hx hb hts hin hown hK.1 he.one 0 rfl hc k hk (va_Nw.use rfl (hK.nest i9 hlink)) (fun _ h9 => h9) hv hdg kk
theorem m_put (hx : p.tables.exec = Jvm.exec) (hb : c.code = cc) {own C : String} {T : u_T} {n ci index : Nat} {Ts : List Cond} (hts : ∀ w ∈ Ts, w.before args s = true) (hin : ∀ w ∈ u_ws C T n, w ∈ Ts) (ty0 : Nat → FieldType) (hty : ∀ k, k < n → parseFieldDescriptor (T k).2.2.1 = some (ty0 k)) (hnm : ∀ a, a < n → ∀ b, b < n → a ≠ b → (T a).2.1 ≠ (T b).2.1) (hown : s.vm.findClass own = some m.cls) (hK : KN D ac s) (hM : MW D A N adr w H) (hS : va_S A H0 H locs) (hc : vwCl[ci]? = some (C, T, n)) (q0 : Nat) (hq : q0 < N) {fs : List Value} (he : w q0 = .inr (ci, fs)) (k : Nat) (hk : k < n) (hlink : (Cond.fieldLink own index (T k).1 (T k).2.1 (T k).2.2.1).before args s = true) (hfin : (T k).2.2.2 = false) {ty : FieldType} {v : Value} (hd : parseFieldDescriptor (T k).2.2.1 = some ty) (hn : narrow ty v = v) (hfit : fits ty v = true) (hl : k < fs.length) (hdg : decode cc pc = .ok (.putfield index, 3))
    (kk : ∀ (H1 : Heap) (locs1 : List Loc), MW D A N adr (va_up w q0 (.inr (ci, fs.set k v))) H1 → va_S A H0 H1 locs1 → W p l e R s m args below meth c H1 locs1 cells slots Q (F0 m (pc + 3) ls rest)) : W p l e R s m args below meth c H locs cells slots Q (F0 m pc ls (v :: .ref (adr q0) :: rest)) :=
  va_put hx hb hts hin ty0 hty hnm hown hK.1 hM.1 hM.2 hS q0 (wn_get hq he) hc k hk hlink (fun _ h9 => h9) hfin hd hn hfit hl hdg (fun H1 l1 h1 h2 h3 => kk H1 l1 ⟨by rw [wn_set] at h1; exact h1, by rw [wn_set] at h2; exact h2⟩ h3)
theorem m_putN (hx : p.tables.exec = Jvm.exec) (hb : c.code = cc) {own C host : String} {T : u_T} {n ci index : Nat} {Ts : List Cond} (hts : ∀ w ∈ Ts, w.before args s = true) (hin : ∀ w ∈ u_ws C T n, w ∈ Ts) (ty0 : Nat → FieldType) (hty : ∀ k, k < n → parseFieldDescriptor (T k).2.2.1 = some (ty0 k)) (hnm : ∀ a, a < n → ∀ b, b < n → a ≠ b → (T a).2.1 ≠ (T b).2.1) (hown : s.vm.findClass own = some m.cls) (hK : KN D ac s) (hM : MW D A N adr w H) (hS : va_S A H0 H locs) (hc : vwCl[ci]? = some (C, T, n)) (q0 : Nat) (hq : q0 < N) {fs : List Value} (he : w q0 = .inr (ci, fs)) (k : Nat) (hk : k < n) (i9 : Nat) (hlink : nestL[i9]? = some (Cond.fieldLinkNest own index (T k).1 (T k).2.1 (T k).2.2.1 host)) (hfin : (T k).2.2.2 = false) {ty : FieldType} {v : Value} (hd : parseFieldDescriptor (T k).2.2.1 = some ty) (hn : narrow ty v = v) (hfit : fits ty v = true) (hl : k < fs.length) (hdg : decode cc pc = .ok (.putfield index, 3))
    (kk : ∀ (H1 : Heap) (locs1 : List Loc), MW D A N adr (va_up w q0 (.inr (ci, fs.set k v))) H1 → va_S A H0 H1 locs1 → W p l e R s m args below meth c H1 locs1 cells slots Q (F0 m (pc + 3) ls rest)) : W p l e R s m args below meth c H locs cells slots Q (F0 m pc ls (v :: .ref (adr q0) :: rest)) :=
  va_putN hx hb hts hin ty0 hty hnm hown hK.1 hM.1 hM.2 hS q0 (wn_get hq he) hc k hk (va_Nw.use rfl (hK.nest i9 hlink)) (fun _ h9 => h9) hfin hd hn hfit hl hdg (fun H1 l1 h1 h2 h3 => kk H1 l1 ⟨by rw [wn_set] at h1; exact h1, by rw [wn_set] at h2; exact h2⟩ h3)
theorem m_putF (hx : p.tables.exec = Jvm.exec) (hb : c.code = cc) {own C : String} {T : u_T} {n ci index : Nat} {Ts : List Cond} (hts : ∀ w ∈ Ts, w.before args s = true) (hin : ∀ w ∈ u_ws C T n, w ∈ Ts) (ty0 : Nat → FieldType) (hty : ∀ k, k < n → parseFieldDescriptor (T k).2.2.1 = some (ty0 k)) (hnm : ∀ a, a < n → ∀ b, b < n → a ≠ b → (T a).2.1 ≠ (T b).2.1) (hown : s.vm.findClass own = some m.cls) (hK : KN D ac s) (hM : MW D A N adr w H) (hS : va_S A H0 H locs) (hc : vwCl[ci]? = some (C, T, n)) (q0 : Nat) (hq : q0 < N) {fs : List Value} (he : w q0 = .inr (ci, fs)) (k : Nat) (hk : k < n) (hlink : (Cond.fieldLink own index (T k).1 (T k).2.1 (T k).2.2.1).before args s = true) (hfin : (T k).2.2.2 = true) (hin2 : meth.name = "<init>") (hdecl : (T k).1 = own) {ty : FieldType} {v : Value} (hd : parseFieldDescriptor (T k).2.2.1 = some ty) (hn : narrow ty v = v) (hfit : fits ty v = true) (hl : k < fs.length) (hdg : decode cc pc = .ok (.putfield index, 3))
    (kk : ∀ (H1 : Heap) (locs1 : List Loc), MW D A N adr (va_up w q0 (.inr (ci, fs.set k v))) H1 → va_S A H0 H1 locs1 → W p l e R s m args below meth c H1 locs1 cells slots Q (F0 m (pc + 3) ls rest)) : W p l e R s m args below meth c H locs cells slots Q (F0 m pc ls (v :: .ref (adr q0) :: rest)) :=
  va_putF hx hb hts hin ty0 hty hnm hown hK.1 hM.1 hM.2 hS q0 (wn_get hq he) hc k hk hlink (fun _ h9 => h9) hfin hin2 hdecl hd hn hfit hl hdg (fun H1 l1 h1 h2 h3 => kk H1 l1 ⟨by rw [wn_set] at h1; exact h1, by rw [wn_set] at h2; exact h2⟩ h3)
theorem m_iald (hx : p.tables.exec = Jvm.exec) (hb : c.code = cc) (hK : KN D ac s) {n : Nat} {f : Nat → Int32} (he : Cel D H a (.inl (ac 0, n, .inl f))) {i : Int32} (hin : vp_in i n) (hdg : decode cc pc = .ok (.iaload, 1))
    (kk : W p l e R s m args below meth c H locs cells slots Q (F0 m (pc + 1) ls (.int (f i.toNatClampNeg) :: rest))) : W p l e R s m args below meth c H locs cells slots Q (F0 m pc ls (.int i :: .ref a :: rest)) :=
  va_iald hx hb hK.1 he.one 0 0 rfl rfl hin hdg kk
theorem m_zald (hx : p.tables.exec = Jvm.exec) (hb : c.code = cc) (hK : KN D ac s) {n : Nat} {f : Nat → Int32} (he : Cel D H a (.inl (ac 2, n, .inl f))) {i : Int32} (hin : vp_in i n) (hdg : decode cc pc = .ok (.baload, 1))
    (kk : W p l e R s m args below meth c H locs cells slots Q (F0 m (pc + 1) ls (.int (f i.toNatClampNeg) :: rest))) : W p l e R s m args below meth c H locs cells slots Q (F0 m pc ls (.int i :: .ref a :: rest)) :=
  va_zald hx hb hK.1 he.one 0 2 rfl rfl hin hdg kk
theorem m_lald (hx : p.tables.exec = Jvm.exec) (hb : c.code = cc) (hK : KN D ac s) {n : Nat} {f : Nat → Int64} (he : Cel D H a (.inl (ac 1, n, .inr (.inl f)))) {i : Int32} (hin : vp_in i n) (hdg : decode cc pc = .ok (.laload, 1))
    (kk : W p l e R s m args below meth c H locs cells slots Q (F0 m (pc + 1) ls (.long (f i.toNatClampNeg) :: rest))) : W p l e R s m args below meth c H locs cells slots Q (F0 m pc ls (.int i :: .ref a :: rest)) :=
  va_lald hx hb hK.1 he.one 0 1 rfl rfl hin hdg kk
theorem m_alen (hx : p.tables.exec = Jvm.exec) (hb : c.code = cc) (hK : KN D ac s) (t0 : Nat) {x : vp_A} (he : Cel D H a (.inl (ac t0, x))) {ty : FieldType} (ht : (tyL ac)[t0]? = some (ac t0, ty)) {v : Int32} (hv : Int32.ofNat x.1 = v) (hdg : decode cc pc = .ok (.arraylength, 1))
    (kk : W p l e R s m args below meth c H locs cells slots Q (F0 m (pc + 1) ls (.int v :: rest))) : W p l e R s m args below meth c H locs cells slots Q (F0 m pc ls (.ref a :: rest)) :=
  va_alen hx hb hK.1 he.one 0 t0 rfl ht hv hdg kk
theorem m_aldq (hx : p.tables.exec = Jvm.exec) (hb : c.code = cc) (hK : KN D ac s) (t0 : Nat) {C : String} {n : Nat} {f : Nat → Option Nat} (he : Cel D H a (.inl (ac t0, n, .inr (.inr (.inr (.inr f)))))) (ht : (tyL ac)[t0]? = some (ac t0, .object C)) {i : Int32} (hin : vp_in i n) (hdg : decode cc pc = .ok (.aaload, 1))
    (kk : W p l e R s m args below meth c H locs cells slots Q (F0 m (pc + 1) ls (va_rf (f i.toNatClampNeg) :: rest))) : W p l e R s m args below meth c H locs cells slots Q (F0 m pc ls (.int i :: .ref a :: rest)) :=
  va_aldq hx hb hK.1 he.one 0 t0 rfl ht hin hdg kk
theorem m_iast (hx : p.tables.exec = Jvm.exec) (hb : c.code = cc) (hK : KN D ac s) (hM : MW D A N adr w H) (hS : va_S A H0 H locs) (q0 : Nat) (hq : q0 < N) {n : Nat} {f : Nat → Int32} (he : w q0 = .inl (ac 0, n, .inl f)) {i x : Int32} (hin : vp_in i n) (hdg : decode cc pc = .ok (.iastore, 1))
    (kk : ∀ (H1 : Heap) (locs1 : List Loc), MW D A N adr (va_up w q0 (.inl (ac 0, n, .inl (upd f i.toNatClampNeg x)))) H1 → va_S A H0 H1 locs1 → W p l e R s m args below meth c H1 locs1 cells slots Q (F0 m (pc + 1) ls rest)) : W p l e R s m args below meth c H locs cells slots Q (F0 m pc ls (.int x :: .int i :: .ref (adr q0) :: rest)) :=
  va_iast hx hb hK.1 hM.1 hM.2 hS q0 0 (wn_get hq he) rfl hin hdg (fun H1 l1 h1 h2 h3 => kk H1 l1 ⟨by rw [wn_set] at h1; exact h1, by rw [wn_set] at h2; exact h2⟩ h3)
theorem m_zast (hx : p.tables.exec = Jvm.exec) (hb : c.code = cc) (hK : KN D ac s) (hM : MW D A N adr w H) (hS : va_S A H0 H locs) (q0 : Nat) (hq : q0 < N) {n : Nat} {f : Nat → Int32} (he : w q0 = .inl (ac 2, n, .inl f)) {i x : Int32} (hin : vp_in i n) (hdg : decode cc pc = .ok (.bastore, 1))
    (kk : ∀ (H1 : Heap) (locs1 : List Loc), MW D A N adr (va_up w q0 (.inl (ac 2, n, .inl (upd f i.toNatClampNeg (vp_nar .boolean x))))) H1 → va_S A H0 H1 locs1 → W p l e R s m args below meth c H1 locs1 cells slots Q (F0 m (pc + 1) ls rest)) : W p l e R s m args below meth c H locs cells slots Q (F0 m pc ls (.int x :: .int i :: .ref (adr q0) :: rest)) :=
  va_zast hx hb hK.1 hM.1 hM.2 hS q0 2 (wn_get hq he) rfl hin hdg (fun H1 l1 h1 h2 h3 => kk H1 l1 ⟨by rw [wn_set] at h1; exact h1, by rw [wn_set] at h2; exact h2⟩ h3)
theorem m_last (hx : p.tables.exec = Jvm.exec) (hb : c.code = cc) (hK : KN D ac s) (hM : MW D A N adr w H) (hS : va_S A H0 H locs) (q0 : Nat) (hq : q0 < N) {n : Nat} {f : Nat → Int64} (he : w q0 = .inl (ac 1, n, .inr (.inl f))) {i : Int32} {x : Int64} (hin : vp_in i n) (hdg : decode cc pc = .ok (.lastore, 1))
    (kk : ∀ (H1 : Heap) (locs1 : List Loc), MW D A N adr (va_up w q0 (.inl (ac 1, n, .inr (.inl (vp_updL f i.toNatClampNeg x))))) H1 → va_S A H0 H1 locs1 → W p l e R s m args below meth c H1 locs1 cells slots Q (F0 m (pc + 1) ls rest)) : W p l e R s m args below meth c H locs cells slots Q (F0 m pc ls (.long x :: .int i :: .ref (adr q0) :: rest)) :=
  va_last hx hb hK.1 hM.1 hM.2 hS q0 1 (wn_get hq he) rfl hin hdg (fun H1 l1 h1 h2 h3 => kk H1 l1 ⟨by rw [wn_set] at h1; exact h1, by rw [wn_set] at h2; exact h2⟩ h3)
theorem m_astq (hx : p.tables.exec = Jvm.exec) (hb : c.code = cc) (hK : KN D ac s) (hM : MW D A N adr w H) (hS : va_S A H0 H locs) (t0 q0 : Nat) (hq : q0 < N) {n : Nat} {f : Nat → Option Nat} (he : w q0 = .inl (ac t0, n, .inr (.inr (.inr (.inr f))))) (qk ci : Nat) (hk : qk < N) {vs : List Value} (hv : w qk = .inr (ci, vs)) {r : vw_C} (hc : vwCl[ci]? = some r) (ht : (tyL ac)[t0]? = some (ac t0, .object r.1)) {i : Int32} (hin : vp_in i n) (hdg : decode cc pc = .ok (.aastore, 1))
    (kk : ∀ (H1 : Heap) (locs1 : List Loc), MW D A N adr (va_up w q0 (.inl (ac t0, n, .inr (.inr (.inr (.inr (va_up f i.toNatClampNeg (some (adr qk))))))))) H1 → va_S A H0 H1 locs1 → W p l e R s m args below meth c H1 locs1 cells slots Q (F0 m (pc + 1) ls rest)) : W p l e R s m args below meth c H locs cells slots Q (F0 m pc ls (.ref (adr qk) :: .int i :: .ref (adr q0) :: rest)) :=
  va_astq hx hb hK.1 hM.1 hM.2 hS q0 t0 qk ci (wn_get hq he) ht (wn_get hk hv) hc hin hdg (fun H1 l1 h1 h2 h3 => kk H1 l1 ⟨by rw [wn_set] at h1; exact h1, by rw [wn_set] at h2; exact h2⟩ h3)
theorem m_astqN (hx : p.tables.exec = Jvm.exec) (hb : c.code = cc) (hK : KN D ac s) (hM : MW D A N adr w H) (hS : va_S A H0 H locs) (t0 q0 : Nat) (hq : q0 < N) {n : Nat} {f : Nat → Option Nat} (he : w q0 = .inl (ac t0, n, .inr (.inr (.inr (.inr f))))) {C : String} (ht : (tyL ac)[t0]? = some (ac t0, .object C)) {i : Int32} (hin : vp_in i n) (hdg : decode cc pc = .ok (.aastore, 1))
    (kk : ∀ (H1 : Heap) (locs1 : List Loc), MW D A N adr (va_up w q0 (.inl (ac t0, n, .inr (.inr (.inr (.inr (va_up f i.toNatClampNeg none))))))) H1 → va_S A H0 H1 locs1 → W p l e R s m args below meth c H1 locs1 cells slots Q (F0 m (pc + 1) ls rest)) : W p l e R s m args below meth c H locs cells slots Q (F0 m pc ls (.null :: .int i :: .ref (adr q0) :: rest)) :=
  va_astqN hx hb hK.1 hM.1 hM.2 hS q0 t0 (wn_get hq he) ht hin hdg (fun H1 l1 h1 h2 h3 => kk H1 l1 ⟨by rw [wn_set] at h1; exact h1, by rw [wn_set] at h2; exact h2⟩ h3)
-- calls of contracts that only read
theorem r_calli {post : Int32 → Prop} {av : Array Value} {A0 : Nat → Prop} (hr : va_Run p l e R s m args below meth c H locs cells slots 0 0 (F0 m pc ls st0) rest (va_Qi (fun r (_ : Unit) => post r) (fun _ t => t.heap = H) (fun _ => False) av) (fun _ => False)) (hS : va_S A0 H0 H locs)
    (kk : ∀ (r : Int32) (locs1 : List Loc), post r → va_S A0 H0 H locs1 → W p l e R s m args below meth c H locs1 cells slots Q (F0 m (pc + 3) ls (.int r :: rest))) : W p l e R s m args below meth c H locs cells slots Q (F0 m pc ls st0) :=
  va_calli hr hS (fun _ _ h => h.elim) (fun _ h => h.elim) (fun r u t H1 locs1 ht hvm hp hB hz hk hS1 => by
    have hB : t.heap = H := hB
    have e : H1 = H := ht.symm.trans hB
    subst e
    exact kk r locs1 hp hS1)
theorem r_calll {post : Int64 → Prop} {av : Array Value} {A0 : Nat → Prop} (hr : va_Run p l e R s m args below meth c H locs cells slots 0 0 (F0 m pc ls st0) rest (va_Ql (fun r (_ : Unit) => post r) (fun _ t => t.heap = H) (fun _ => False) av) (fun _ => False)) (hS : va_S A0 H0 H locs)
    (kk : ∀ (r : Int64) (locs1 : List Loc), post r → va_S A0 H0 H locs1 → W p l e R s m args below meth c H locs1 cells slots Q (F0 m (pc + 3) ls (.long r :: rest))) : W p l e R s m args below meth c H locs cells slots Q (F0 m pc ls st0) :=
  va_calll hr hS (fun _ _ h => h.elim) (fun _ h => h.elim) (fun r u t H1 locs1 ht hvm hp hB hz hk hS1 => by
    have hB : t.heap = H := hB
    have e : H1 = H := ht.symm.trans hB
    subst e
    exact kk r locs1 hp hS1)
theorem r_callq {post : Option Nat → Prop} {av : Array Value} {A0 : Nat → Prop} (hr : va_Run p l e R s m args below meth c H locs cells slots 0 0 (F0 m pc ls st0) rest (va_Qq (fun r (_ : Unit) => post r) (fun _ t => t.heap = H) (fun _ => False) av) (fun _ => False)) (hS : va_S A0 H0 H locs)
    (kk : ∀ (r : Option Nat) (locs1 : List Loc), post r → va_S A0 H0 H locs1 → W p l e R s m args below meth c H locs1 cells slots Q (F0 m (pc + 3) ls (va_rf r :: rest))) : W p l e R s m args below meth c H locs cells slots Q (F0 m pc ls st0) :=
  va_callq hr hS (fun _ _ h => h.elim) (fun _ h => h.elim) (fun r u t H1 locs1 ht hvm hp hB hz hk hS1 => by
    have hB : t.heap = H := hB
    have e : H1 = H := ht.symm.trans hB
    subst e
    exact kk r locs1 hp hS1)
-- calls of contracts that write
theorem w_calli {post : Int32 → (Nat → va_E) → Prop} {av : Array Value} (hr : va_Run p l e R s m args below meth c H locs cells slots 0 0 (F0 m pc ls st0) rest (va_Qi post (fun c t => MW D A N adr c t.heap) A av) A) (hS : va_S A H0 H locs)
    (kk : ∀ (r : Int32) (w1 : Nat → va_E) (H1 : Heap) (locs1 : List Loc), post r w1 → MW D A N adr w1 H1 → va_S A H0 H1 locs1 → W p l e R s m args below meth c H1 locs1 cells slots Q (F0 m (pc + 3) ls (.int r :: rest))) : W p l e R s m args below meth c H locs cells slots Q (F0 m pc ls st0) :=
  va_calli hr hS (fun _ _ h => h) (fun _ h => h) (fun r u t H1 locs1 ht hvm hp hB hz hk hS1 => by
    have hB : MW D A N adr u t.heap := hB
    rw [ht] at hB
    exact kk r u H1 locs1 hp hB hS1)
theorem w_callv {post : (Nat → va_E) → Prop} {av : Array Value} (hr : va_Run p l e R s m args below meth c H locs cells slots 0 0 (F0 m pc ls st0) rest (va_Qv post (fun c t => MW D A N adr c t.heap) A av) A) (hS : va_S A H0 H locs)
    (kk : ∀ (w1 : Nat → va_E) (H1 : Heap) (locs1 : List Loc), post w1 → MW D A N adr w1 H1 → va_S A H0 H1 locs1 → W p l e R s m args below meth c H1 locs1 cells slots Q (F0 m (pc + 3) ls rest)) : W p l e R s m args below meth c H locs cells slots Q (F0 m pc ls st0) :=
  va_callv hr hS (fun _ _ h => h) (fun _ h => h) (fun u t H1 locs1 ht hvm hp hB hz hk hS1 => by
    have hB : MW D A N adr u t.heap := hB
    rw [ht] at hB
    exact kk u H1 locs1 hp hB hS1)
-- ends
theorem e_i {post : Int32 → Prop} {v : Int32} {mc ms : Nat} (hx : p.tables.exec = Jvm.exec) (hb : c.code = cc) (hlocks : meth.locks = false) (hr : meth.sig.returnType = some .int) (hdg : decode cc pc = .ok (.ireturn, 1)) (hS : va_S (fun _ => False) s.heap s.heap locs) (hp : post v) : W p l e R s m args below meth c s.heap locs mc ms (MQ below (va_Qi (fun r (_ : Unit) => post r) (fun _ t => t.heap = s.heap) (fun _ => False)) args s mc ms (fun _ => False)) (F0 m pc ls [.int v]) :=
  W.iret hx hb hr (fun t ht hW => ⟨⟨v, (), rfl, hp, ht⟩, hS.F ht⟩) hS.2.2 hdg hlocks
theorem e_z {post : Int32 → Prop} {v : Int32} {mc ms : Nat} (hx : p.tables.exec = Jvm.exec) (hb : c.code = cc) (hlocks : meth.locks = false) (hr : meth.sig.returnType = some .boolean) (hdg : decode cc pc = .ok (.ireturn, 1)) (hn : narrow .boolean (.int v) = .int v) (hS : va_S (fun _ => False) s.heap s.heap locs) (hp : post v) : W p l e R s m args below meth c s.heap locs mc ms (MQ below (va_Qi (fun r (_ : Unit) => post r) (fun _ t => t.heap = s.heap) (fun _ => False)) args s mc ms (fun _ => False)) (F0 m pc ls [.int v]) :=
  W.zret hx hb hr hn (fun t ht hW => ⟨⟨v, (), rfl, hp, ht⟩, hS.F ht⟩) hS.2.2 hdg hlocks
theorem e_l {post : Int64 → Prop} {v : Int64} {mc ms : Nat} (hx : p.tables.exec = Jvm.exec) (hb : c.code = cc) (hlocks : meth.locks = false) (hr : meth.sig.returnType = some .long) (hdg : decode cc pc = .ok (.lreturn, 1)) (hS : va_S (fun _ => False) s.heap s.heap locs) (hp : post v) : W p l e R s m args below meth c s.heap locs mc ms (MQ below (va_Ql (fun r (_ : Unit) => post r) (fun _ t => t.heap = s.heap) (fun _ => False)) args s mc ms (fun _ => False)) (F0 m pc ls [.long v]) :=
  W.lret hx hb hr (fun t ht hW => ⟨⟨v, (), rfl, hp, ht⟩, hS.F ht⟩) hS.2.2 hdg hlocks
theorem e_q {post : Option Nat → Prop} {r : Option Nat} {mc ms : Nat} {rt : FieldType} (hx : p.tables.exec = Jvm.exec) (hb : c.code = cc) (hlocks : meth.locks = false) (hr : meth.sig.returnType = some rt) (hrt : (∃ n, rt = .object n) ∨ ∃ t, rt = .array t) (hdg : decode cc pc = .ok (.areturn, 1)) (hS : va_S (fun _ => False) s.heap s.heap locs) (hp : post r) : W p l e R s m args below meth c s.heap locs mc ms (MQ below (va_Qq (fun r (_ : Unit) => post r) (fun _ t => t.heap = s.heap) (fun _ => False)) args s mc ms (fun _ => False)) (F0 m pc ls [va_rf r]) :=
  W.aret hx hb hr hrt (va_rf_or r) (fun t ht hW => ⟨⟨r, (), rfl, hp, ht⟩, hS.F ht⟩) hS.2.2 hdg hlocks
theorem e_wi {post : Int32 → (Nat → va_E) → Prop} {v : Int32} {mc ms : Nat} (hx : p.tables.exec = Jvm.exec) (hb : c.code = cc) (hlocks : meth.locks = false) (hr : meth.sig.returnType = some .int) (hdg : decode cc pc = .ok (.ireturn, 1)) (hM : MW D A N adr w H) (hS : va_S A s.heap H locs) (hp : post v w) : W p l e R s m args below meth c H locs mc ms (MQ below (va_Qi post (fun c t => MW D A N adr c t.heap) A) args s mc ms A) (F0 m pc ls [.int v]) :=
  W.iret hx hb hr (fun t ht hW => ⟨⟨v, w, rfl, hp, by show MW D A N adr w t.heap; rw [ht]; exact hM⟩, hS.F ht⟩) hS.2.2 hdg hlocks
theorem e_wz {post : Int32 → (Nat → va_E) → Prop} {v : Int32} {mc ms : Nat} (hx : p.tables.exec = Jvm.exec) (hb : c.code = cc) (hlocks : meth.locks = false) (hr : meth.sig.returnType = some .boolean) (hdg : decode cc pc = .ok (.ireturn, 1)) (hn : narrow .boolean (.int v) = .int v) (hM : MW D A N adr w H) (hS : va_S A s.heap H locs) (hp : post v w) : W p l e R s m args below meth c H locs mc ms (MQ below (va_Qi post (fun c t => MW D A N adr c t.heap) A) args s mc ms A) (F0 m pc ls [.int v]) :=
  W.zret hx hb hr hn (fun t ht hW => ⟨⟨v, w, rfl, hp, by show MW D A N adr w t.heap; rw [ht]; exact hM⟩, hS.F ht⟩) hS.2.2 hdg hlocks
theorem e_wv {post : (Nat → va_E) → Prop} {mc ms : Nat} (hx : p.tables.exec = Jvm.exec) (hb : c.code = cc) (hlocks : meth.locks = false) (hr : meth.sig.returnType = none) (hdg : decode cc pc = .ok (.return_, 1)) (hM : MW D A N adr w H) (hS : va_S A s.heap H locs) (hp : post w) : W p l e R s m args below meth c H locs mc ms (MQ below (va_Qv post (fun c t => MW D A N adr c t.heap) A) args s mc ms A) (F0 m pc ls []) :=
  W.vret hx hb hr (fun t ht hW => ⟨⟨w, rfl, hp, by show MW D A N adr w t.heap; rw [ht]; exact hM⟩, hS.F ht⟩) hS.2.2 hdg hlocks
end RW
-- small facts of ints
theorem vin_lit {x : Int32} {n : Nat} (h0 : ¬ x < 0) (h1 : x < Int32.ofNat n) (hn : n < 2 ^ 31) : vp_in x n := by
  rw [vp_in_iff]
  have h2 : (nI n).toInt = (n : Int) := nI_toInt hn
  have h3 : x.toInt < (nI n).toInt := Int32.lt_iff_toInt_lt.mp h1
  have h4 : ¬ x.toInt < (0 : Int32).toInt := fun q => h0 (Int32.lt_iff_toInt_lt.mpr q)
  have h5 : (0 : Int32).toInt = 0 := by decide
  omega
theorem vin_a {x : Int32} {n : Nat} (h0 : ¬ x < 0) (h1 : ¬ Int32.ofNat n ≤ x) (hn : n < 2 ^ 31) : vp_in x n := by
  rw [vp_in_iff]
  have h2 : (nI n).toInt = (n : Int) := nI_toInt hn
  have h3 : ¬ (nI n).toInt ≤ x.toInt := fun q => h1 (Int32.le_iff_toInt_le.mpr q)
  have h4 : ¬ x.toInt < (0 : Int32).toInt := fun q => h0 (Int32.lt_iff_toInt_lt.mpr q)
  have h5 : (0 : Int32).toInt = 0 := by decide
  omega
theorem vin_b {x : Int32} {n : Nat} (h0 : ¬ x < 0) (h1 : x < Int32.ofNat n) (hn : n < 2 ^ 31) : vp_in x n := vin_lit h0 h1 hn
/-- a place of n: which one, if any -/
def ix (x : Int32) (n : Nat) : Option Nat := if x < 0 then none else if nI n ≤ x then none else some x.toNatClampNeg
theorem ix_nI {j n : Nat} (h : j < n) (hn : n < 2 ^ 31) : ix (nI j) n = some j := by
  unfold ix
  rw [if_neg (nI_pos (by omega)), if_neg (nI_ge h hn), nI_clamp (by omega)]
theorem ix_nIn {j n : Nat} (h : n ≤ j) (hj : j < 2 ^ 31) : ix (nI j) n = none := by
  unfold ix
  rw [if_neg (nI_pos hj), if_pos (nI_le h hj)]
theorem ix_neg {x : Int32} {n : Nat} (h : x < 0) : ix x n = none := by
  unfold ix
  rw [if_pos h]
theorem ix_big {x : Int32} {n : Nat} (h : nI n ≤ x) : ix x n = none := by
  unfold ix
  by_cases h0 : x < 0
  · rw [if_pos h0]
  · rw [if_neg h0, if_pos h]
theorem ix_of {x : Int32} {n j : Nat} (h : ix x n = some j) (hn : n < 2 ^ 31) : j < n ∧ x = nI j := by
  unfold ix at h
  by_cases h0 : x < 0
  · rw [if_pos h0] at h; cases h
  · by_cases h1 : nI n ≤ x
    · rw [if_neg h0, if_pos h1] at h; cases h
    · rw [if_neg h0, if_neg h1] at h
      rcases pk_ix x hn with q | q | ⟨k, q1, q2⟩
      · exact absurd q h0
      · exact absurd q h1
      · subst q2
        rw [nI_clamp (by omega)] at h
        cases h
        exact ⟨q1, rfl⟩
theorem ix_some {x : Int32} {n : Nat} (h0 : ¬ x < 0) (h1 : ¬ nI n ≤ x) : ix x n = some x.toNatClampNeg := by
  unfold ix
  rw [if_neg h0, if_neg h1]
theorem ix_none {x : Int32} {n : Nat} (h : ix x n = none) : x < 0 ∨ nI n ≤ x := by
  unfold ix at h
  by_cases h0 : x < 0
  · exact Or.inl h0
  · by_cases h1 : nI n ≤ x
    · exact Or.inr h1
    · rw [if_neg h0, if_neg h1] at h; cases h
theorem nle_dead {x : Int32} {n k : Nat} (h1 : ¬ nI n ≤ x) (h2 : nI k ≤ x) (hnk : n ≤ k) (hk : k < 2 ^ 31) : False := by
  have a1 : ¬ (nI n).toInt ≤ x.toInt := fun q => h1 (Int32.le_iff_toInt_le.mpr q)
  have a2 : (nI k).toInt ≤ x.toInt := Int32.le_iff_toInt_le.mp h2
  rw [nI_toInt (by omega)] at a1
  rw [nI_toInt (by omega)] at a2
  omega
theorem nle_lt {a b : Nat} (h : ¬ nI a ≤ nI b) (ha : a < 2 ^ 31) (hb : b < 2 ^ 31) : b < a := by
  rw [nI_leI ha hb] at h
  omega
theorem le_le {a b : Nat} (h : nI a ≤ nI b) (ha : a < 2 ^ 31) (hb : b < 2 ^ 31) : a ≤ b := (nI_leI ha hb).mp h
theorem lt_lt {a b : Nat} (h : nI a < nI b) (ha : a < 2 ^ 31) (hb : b < 2 ^ 31) : a < b := (nI_ltI ha hb).mp h
theorem nlt_le {a b : Nat} (h : ¬ nI a < nI b) (ha : a < 2 ^ 31) (hb : b < 2 ^ 31) : b ≤ a := by
  rw [nI_ltI ha hb] at h
  omega
section TOP
variable {p : Program} {l : Launch} {e : Env} {R : Room} {s : State} {m : MethodId} {args : Array Value} {below : List Frame} {meth : Method} {c : Code} {H : Heap} {locs : List Loc} {cells slots : Nat} {Q : State → Prop} {pc : Nat} {ls : Array Slot} {rest : List Value}
theorem m_top {x y : Int32} (h : x = y) (kk : W p l e R s m args below meth c H locs cells slots Q (F0 m pc ls (.int y :: rest))) : W p l e R s m args below meth c H locs cells slots Q (F0 m pc ls (.int x :: rest)) := by rw [h]; exact kk
theorem m_topl {x y : Int64} (h : x = y) (kk : W p l e R s m args below meth c H locs cells slots Q (F0 m pc ls (.long y :: rest))) : W p l e R s m args below meth c H locs cells slots Q (F0 m pc ls (.long x :: rest)) := by rw [h]; exact kk
theorem m_topq {x y : Option Nat} (h : x = y) (kk : W p l e R s m args below meth c H locs cells slots Q (F0 m pc ls (va_rf y :: rest))) : W p l e R s m args below meth c H locs cells slots Q (F0 m pc ls (va_rf x :: rest)) := by rw [h]; exact kk
theorem m_topn (kk : W p l e R s m args below meth c H locs cells slots Q (F0 m pc ls (.null :: rest))) : W p l e R s m args below meth c H locs cells slots Q (F0 m pc ls (va_rf none :: rest)) := kk
theorem m_topr {a : Nat} (kk : W p l e R s m args below meth c H locs cells slots Q (F0 m pc ls (.ref a :: rest))) : W p l e R s m args below meth c H locs cells slots Q (F0 m pc ls (va_rf (some a) :: rest)) := kk
end TOP
def shF (x : Int32) (f : Nat → Int32) : Nat → Int32 := fun j => if j = 0 then x else f (j - 1)
def mixF (i : Nat) (f g : Nat → Int32) : Nat → Int32 := fun j => if j < i then f j else g j
theorem mixF_0 {f g : Nat → Int32} : mixF 0 f g = g := by funext j; simp [mixF]
theorem mixF_s {i : Nat} {f g : Nat → Int32} : upd (mixF i f g) i (f i) = mixF (i + 1) f g := by
  funext j
  by_cases h : j = i
  · subst h; simp [mixF, upd]
  · simp only [mixF, upd, if_neg h]
    by_cases h2 : j < i
    · rw [if_pos h2, if_pos (by omega)]
    · rw [if_neg h2, if_neg (by omega)]
def cutF (k : Nat) (f : Nat → Int32) : Nat → Int32 := fun j => if j < k then f j else f (j + 1)
def cutT (k i : Nat) (f : Nat → Int32) : Nat → Int32 := fun j => if j < i then cutF k f j else f j
theorem cutT_0 {k : Nat} {f : Nat → Int32} : cutT k k f = f := by
  funext j
  unfold cutT cutF
  by_cases h : j < k
  · rw [if_pos h, if_pos h]
  · rw [if_neg h]
theorem cutT_s {k i : Nat} (hk : k ≤ i) {f : Nat → Int32} : upd (cutT k i f) i (f (i + 1)) = cutT k (i + 1) f := by
  funext j
  by_cases h : j = i
  · subst h
    simp only [upd, cutT, cutF, if_true]
    rw [if_pos (by omega), if_neg (by omega)]
  · simp only [upd, cutT, if_neg h]
    by_cases h2 : j < i
    · rw [if_pos h2, if_pos (by omega)]
    · rw [if_neg h2, if_neg (by omega)]
end
section
theorem dX0_init_0 : decode cX0_init 0 = .ok (.aload_n 0, 1) := by decide +kernel
theorem dX0_init_1 : decode cX0_init 1 = .ok (.invokespecial 3, 3) := by decide +kernel
theorem dX0_init_4 : decode cX0_init 4 = .ok (.aload_n 0, 1) := by decide +kernel
theorem dX0_init_5 : decode cX0_init 5 = .ok (.bipush 81, 2) := by decide +kernel
theorem dX0_init_7 : decode cX0_init 7 = .ok (.newarray .int, 2) := by decide +kernel
theorem dX0_init_9 : decode cX0_init 9 = .ok (.putfield 11, 3) := by decide +kernel
theorem dX0_init_12 : decode cX0_init 12 = .ok (.return_, 1) := by decide +kernel
set_option maxRecDepth 20000 in
theorem ggX0_likenessOf_X0_compare : GoodIn wsX0_likenessOf wsX0_compare := goodIn_r _ [9, 10, 11, 12, 13, 14, 15, 16, 17, 18, 19, 8, 20, 21, 22, 3, 23, 24, 25, 26, 27, 28, 29, 30, 31, 32, 33, 34, 35] (by decide +kernel) (by decide +kernel)
set_option maxRecDepth 20000 in
theorem gX0_likenessOf_X0_compare : GoodIn wsX0_likenessOf (wsV RX0 15 RX0 yX0_compare wsX0_compare) := goodIn_app (goodIn_of _ (by decide +kernel)) ggX0_likenessOf_X0_compare
set_option maxRecDepth 20000 in
theorem ggX0_likenessOf_X0_between : GoodIn wsX0_likenessOf wsX0_between := goodIn_r _ [27, 28, 35] (by decide +kernel) (by decide +kernel)
set_option maxRecDepth 20000 in
theorem gX0_likenessOf_X0_between : GoodIn wsX0_likenessOf (wsV RX0 31 RX0 yX0_between wsX0_between) := goodIn_app (goodIn_of _ (by decide +kernel)) ggX0_likenessOf_X0_between
theorem dX0_likenessOf_0 : decode cX0_likenessOf 0 = .ok (.aload_n 0, 1) := by decide +kernel
theorem dX0_likenessOf_1 : decode cX0_likenessOf 1 = .ok (.aload_n 1, 1) := by decide +kernel
theorem dX0_likenessOf_2 : decode cX0_likenessOf 2 = .ok (.aload_n 2, 1) := by decide +kernel
theorem dX0_likenessOf_3 : decode cX0_likenessOf 3 = .ok (.invokevirtual 15, 3) := by decide +kernel
theorem dX0_likenessOf_6 : decode cX0_likenessOf 6 = .ok (.aload_n 1, 1) := by decide +kernel
theorem dX0_likenessOf_7 : decode cX0_likenessOf 7 = .ok (.getfield 19, 3) := by decide +kernel
theorem dX0_likenessOf_10 : decode cX0_likenessOf 10 = .ok (.aload_n 2, 1) := by decide +kernel
theorem dX0_likenessOf_11 : decode cX0_likenessOf 11 = .ok (.getfield 19, 3) := by decide +kernel
theorem dX0_likenessOf_14 : decode cX0_likenessOf 14 = .ok (.invokestatic 25, 3) := by decide +kernel
theorem dX0_likenessOf_17 : decode cX0_likenessOf 17 = .ok (.istore_n 3, 1) := by decide +kernel
theorem dX0_likenessOf_18 : decode cX0_likenessOf 18 = .ok (.iload_n 3, 1) := by decide +kernel
theorem dX0_likenessOf_19 : decode cX0_likenessOf 19 = .ok (.ifCond .gt 6, 3) := by decide +kernel
theorem dX0_likenessOf_22 : decode cX0_likenessOf 22 = .ok (.bipush 100, 2) := by decide +kernel
theorem dX0_likenessOf_24 : decode cX0_likenessOf 24 = .ok (.ireturn, 1) := by decide +kernel
theorem dX0_likenessOf_25 : decode cX0_likenessOf 25 = .ok (.bipush 100, 2) := by decide +kernel
theorem dX0_likenessOf_27 : decode cX0_likenessOf 27 = .ok (.aload_n 0, 1) := by decide +kernel
theorem dX0_likenessOf_28 : decode cX0_likenessOf 28 = .ok (.aload_n 1, 1) := by decide +kernel
theorem dX0_likenessOf_29 : decode cX0_likenessOf 29 = .ok (.getfield 19, 3) := by decide +kernel
theorem dX0_likenessOf_32 : decode cX0_likenessOf 32 = .ok (.aload_n 2, 1) := by decide +kernel
theorem dX0_likenessOf_33 : decode cX0_likenessOf 33 = .ok (.getfield 19, 3) := by decide +kernel
theorem dX0_likenessOf_36 : decode cX0_likenessOf 36 = .ok (.invokevirtual 31, 3) := by decide +kernel
theorem dX0_likenessOf_39 : decode cX0_likenessOf 39 = .ok (.imul, 1) := by decide +kernel
theorem dX0_likenessOf_40 : decode cX0_likenessOf 40 = .ok (.istore 4, 2) := by decide +kernel
theorem dX0_likenessOf_42 : decode cX0_likenessOf 42 = .ok (.bipush 100, 2) := by decide +kernel
theorem dX0_likenessOf_44 : decode cX0_likenessOf 44 = .ok (.iload 4, 2) := by decide +kernel
theorem dX0_likenessOf_46 : decode cX0_likenessOf 46 = .ok (.iload_n 3, 1) := by decide +kernel
theorem dX0_likenessOf_47 : decode cX0_likenessOf 47 = .ok (.iadd, 1) := by decide +kernel
theorem dX0_likenessOf_48 : decode cX0_likenessOf 48 = .ok (.iconst 1, 1) := by decide +kernel
theorem dX0_likenessOf_49 : decode cX0_likenessOf 49 = .ok (.isub, 1) := by decide +kernel
theorem dX0_likenessOf_50 : decode cX0_likenessOf 50 = .ok (.iload_n 3, 1) := by decide +kernel
theorem dX0_likenessOf_51 : decode cX0_likenessOf 51 = .ok (.idiv, 1) := by decide +kernel
theorem dX0_likenessOf_52 : decode cX0_likenessOf 52 = .ok (.isub, 1) := by decide +kernel
theorem dX0_likenessOf_53 : decode cX0_likenessOf 53 = .ok (.ireturn, 1) := by decide +kernel
set_option maxRecDepth 20000 in
theorem ggX0_compare_X4_at : GoodIn wsX0_compare wsX4_at := goodIn_r _ [5, 6, 7, 26, 27] (by decide +kernel) (by decide +kernel)
set_option maxRecDepth 20000 in
theorem gX0_compare_X4_at : GoodIn wsX0_compare (wsV RX0 34 RX4 yX4_at wsX4_at) := goodIn_app (goodIn_of _ (by decide +kernel)) ggX0_compare_X4_at
set_option maxRecDepth 20000 in
theorem ggX0_compare_X0_least : GoodIn wsX0_compare wsX0_least := goodIn_r _ [12, 13, 14, 15, 16, 17, 18, 19, 11, 20, 21, 28] (by decide +kernel) (by decide +kernel)
set_option maxRecDepth 20000 in
theorem gX0_compare_X0_least : GoodIn wsX0_compare (wsV RX0 38 RX0 yX0_least wsX0_least) := goodIn_app (goodIn_of _ (by decide +kernel)) ggX0_compare_X0_least
set_option maxRecDepth 20000 in
theorem ggX0_compare_X0_put : GoodIn wsX0_compare wsX0_put := goodIn_r _ [25, 21, 28] (by decide +kernel) (by decide +kernel)
set_option maxRecDepth 20000 in
theorem gX0_compare_X0_put : GoodIn wsX0_compare (wsV RX0 42 RX0 yX0_put wsX0_put) := goodIn_app (goodIn_of _ (by decide +kernel)) ggX0_compare_X0_put
theorem dX0_compare_0 : decode cX0_compare 0 = .ok (.iconst 0, 1) := by decide +kernel
theorem dX0_compare_1 : decode cX0_compare 1 = .ok (.istore_n 3, 1) := by decide +kernel
theorem dX0_compare_2 : decode cX0_compare 2 = .ok (.iload_n 3, 1) := by decide +kernel
theorem dX0_compare_3 : decode cX0_compare 3 = .ok (.aload_n 1, 1) := by decide +kernel
theorem dX0_compare_4 : decode cX0_compare 4 = .ok (.getfield 19, 3) := by decide +kernel
theorem dX0_compare_7 : decode cX0_compare 7 = .ok (.if_icmp .gt 68, 3) := by decide +kernel
theorem dX0_compare_10 : decode cX0_compare 10 = .ok (.iconst 0, 1) := by decide +kernel
theorem dX0_compare_11 : decode cX0_compare 11 = .ok (.istore 4, 2) := by decide +kernel
theorem dX0_compare_13 : decode cX0_compare 13 = .ok (.iload 4, 2) := by decide +kernel
theorem dX0_compare_15 : decode cX0_compare 15 = .ok (.aload_n 2, 1) := by decide +kernel
theorem dX0_compare_16 : decode cX0_compare 16 = .ok (.getfield 19, 3) := by decide +kernel
theorem dX0_compare_19 : decode cX0_compare 19 = .ok (.if_icmp .gt 50, 3) := by decide +kernel
theorem dX0_compare_22 : decode cX0_compare 22 = .ok (.aload_n 1, 1) := by decide +kernel
theorem dX0_compare_23 : decode cX0_compare 23 = .ok (.iload_n 3, 1) := by decide +kernel
theorem dX0_compare_24 : decode cX0_compare 24 = .ok (.iconst 1, 1) := by decide +kernel
theorem dX0_compare_25 : decode cX0_compare 25 = .ok (.isub, 1) := by decide +kernel
theorem dX0_compare_26 : decode cX0_compare 26 = .ok (.invokevirtual 34, 3) := by decide +kernel
theorem dX0_compare_29 : decode cX0_compare 29 = .ok (.aload_n 2, 1) := by decide +kernel
theorem dX0_compare_30 : decode cX0_compare 30 = .ok (.iload 4, 2) := by decide +kernel
theorem dX0_compare_32 : decode cX0_compare 32 = .ok (.iconst 1, 1) := by decide +kernel
theorem dX0_compare_33 : decode cX0_compare 33 = .ok (.isub, 1) := by decide +kernel
theorem dX0_compare_34 : decode cX0_compare 34 = .ok (.invokevirtual 34, 3) := by decide +kernel
theorem dX0_compare_37 : decode cX0_compare 37 = .ok (.if_icmp .ne 7, 3) := by decide +kernel
theorem dX0_compare_40 : decode cX0_compare 40 = .ok (.iconst 1, 1) := by decide +kernel
theorem dX0_compare_41 : decode cX0_compare 41 = .ok (.goto 4, 3) := by decide +kernel
theorem dX0_compare_44 : decode cX0_compare 44 = .ok (.iconst 0, 1) := by decide +kernel
theorem dX0_compare_45 : decode cX0_compare 45 = .ok (.istore 5, 2) := by decide +kernel
theorem dX0_compare_47 : decode cX0_compare 47 = .ok (.aload_n 0, 1) := by decide +kernel
theorem dX0_compare_48 : decode cX0_compare 48 = .ok (.iload_n 3, 1) := by decide +kernel
theorem dX0_compare_49 : decode cX0_compare 49 = .ok (.iload 4, 2) := by decide +kernel
theorem dX0_compare_51 : decode cX0_compare 51 = .ok (.aload_n 0, 1) := by decide +kernel
theorem dX0_compare_52 : decode cX0_compare 52 = .ok (.iload_n 3, 1) := by decide +kernel
theorem dX0_compare_53 : decode cX0_compare 53 = .ok (.iload 4, 2) := by decide +kernel
theorem dX0_compare_55 : decode cX0_compare 55 = .ok (.iload 5, 2) := by decide +kernel
theorem dX0_compare_57 : decode cX0_compare 57 = .ok (.invokevirtual 38, 3) := by decide +kernel
theorem dX0_compare_60 : decode cX0_compare 60 = .ok (.invokevirtual 42, 3) := by decide +kernel
theorem dX0_compare_63 : decode cX0_compare 63 = .ok (.iinc 4 1, 3) := by decide +kernel
theorem dX0_compare_66 : decode cX0_compare 66 = .ok (.goto (-53), 3) := by decide +kernel
theorem dX0_compare_69 : decode cX0_compare 69 = .ok (.iinc 3 1, 3) := by decide +kernel
theorem dX0_compare_72 : decode cX0_compare 72 = .ok (.goto (-70), 3) := by decide +kernel
theorem dX0_compare_75 : decode cX0_compare 75 = .ok (.return_, 1) := by decide +kernel
set_option maxRecDepth 20000 in
theorem ggX0_least_X0_between : GoodIn wsX0_least wsX0_between := goodIn_r _ [9, 10, 11] (by decide +kernel) (by decide +kernel)
set_option maxRecDepth 20000 in
theorem gX0_least_X0_between : GoodIn wsX0_least (wsV RX0 31 RX0 yX0_between wsX0_between) := goodIn_app (goodIn_of _ (by decide +kernel)) ggX0_least_X0_between
theorem dX0_least_0 : decode cX0_least 0 = .ok (.iload_n 1, 1) := by decide +kernel
theorem dX0_least_1 : decode cX0_least 1 = .ok (.ifCond .eq 7, 3) := by decide +kernel
theorem dX0_least_4 : decode cX0_least 4 = .ok (.iload_n 2, 1) := by decide +kernel
theorem dX0_least_5 : decode cX0_least 5 = .ok (.ifCond .ne 7, 3) := by decide +kernel
theorem dX0_least_8 : decode cX0_least 8 = .ok (.iload_n 1, 1) := by decide +kernel
theorem dX0_least_9 : decode cX0_least 9 = .ok (.iload_n 2, 1) := by decide +kernel
theorem dX0_least_10 : decode cX0_least 10 = .ok (.iadd, 1) := by decide +kernel
theorem dX0_least_11 : decode cX0_least 11 = .ok (.ireturn, 1) := by decide +kernel
theorem dX0_least_12 : decode cX0_least 12 = .ok (.aload_n 0, 1) := by decide +kernel
theorem dX0_least_13 : decode cX0_least 13 = .ok (.iload_n 1, 1) := by decide +kernel
theorem dX0_least_14 : decode cX0_least 14 = .ok (.iconst 1, 1) := by decide +kernel
theorem dX0_least_15 : decode cX0_least 15 = .ok (.isub, 1) := by decide +kernel
theorem dX0_least_16 : decode cX0_least 16 = .ok (.iload_n 2, 1) := by decide +kernel
theorem dX0_least_17 : decode cX0_least 17 = .ok (.iconst 1, 1) := by decide +kernel
theorem dX0_least_18 : decode cX0_least 18 = .ok (.isub, 1) := by decide +kernel
theorem dX0_least_19 : decode cX0_least 19 = .ok (.invokevirtual 31, 3) := by decide +kernel
theorem dX0_least_22 : decode cX0_least 22 = .ok (.iload_n 3, 1) := by decide +kernel
theorem dX0_least_23 : decode cX0_least 23 = .ok (.ifCond .eq 7, 3) := by decide +kernel
theorem dX0_least_26 : decode cX0_least 26 = .ok (.iconst 0, 1) := by decide +kernel
theorem dX0_least_27 : decode cX0_least 27 = .ok (.goto 4, 3) := by decide +kernel
theorem dX0_least_30 : decode cX0_least 30 = .ok (.iconst 1, 1) := by decide +kernel
theorem dX0_least_31 : decode cX0_least 31 = .ok (.iadd, 1) := by decide +kernel
theorem dX0_least_32 : decode cX0_least 32 = .ok (.istore 4, 2) := by decide +kernel
theorem dX0_least_34 : decode cX0_least 34 = .ok (.aload_n 0, 1) := by decide +kernel
theorem dX0_least_35 : decode cX0_least 35 = .ok (.iload_n 1, 1) := by decide +kernel
theorem dX0_least_36 : decode cX0_least 36 = .ok (.iconst 1, 1) := by decide +kernel
theorem dX0_least_37 : decode cX0_least 37 = .ok (.isub, 1) := by decide +kernel
theorem dX0_least_38 : decode cX0_least 38 = .ok (.iload_n 2, 1) := by decide +kernel
theorem dX0_least_39 : decode cX0_least 39 = .ok (.invokevirtual 31, 3) := by decide +kernel
theorem dX0_least_42 : decode cX0_least 42 = .ok (.iconst 1, 1) := by decide +kernel
theorem dX0_least_43 : decode cX0_least 43 = .ok (.iadd, 1) := by decide +kernel
theorem dX0_least_44 : decode cX0_least 44 = .ok (.istore 5, 2) := by decide +kernel
theorem dX0_least_46 : decode cX0_least 46 = .ok (.aload_n 0, 1) := by decide +kernel
theorem dX0_least_47 : decode cX0_least 47 = .ok (.iload_n 1, 1) := by decide +kernel
theorem dX0_least_48 : decode cX0_least 48 = .ok (.iload_n 2, 1) := by decide +kernel
theorem dX0_least_49 : decode cX0_least 49 = .ok (.iconst 1, 1) := by decide +kernel
theorem dX0_least_50 : decode cX0_least 50 = .ok (.isub, 1) := by decide +kernel
theorem dX0_least_51 : decode cX0_least 51 = .ok (.invokevirtual 31, 3) := by decide +kernel
theorem dX0_least_54 : decode cX0_least 54 = .ok (.iconst 1, 1) := by decide +kernel
theorem dX0_least_55 : decode cX0_least 55 = .ok (.iadd, 1) := by decide +kernel
theorem dX0_least_56 : decode cX0_least 56 = .ok (.istore 6, 2) := by decide +kernel
theorem dX0_least_58 : decode cX0_least 58 = .ok (.iload 4, 2) := by decide +kernel
theorem dX0_least_60 : decode cX0_least 60 = .ok (.iload 5, 2) := by decide +kernel
theorem dX0_least_62 : decode cX0_least 62 = .ok (.iload 6, 2) := by decide +kernel
theorem dX0_least_64 : decode cX0_least 64 = .ok (.invokestatic 46, 3) := by decide +kernel
theorem dX0_least_67 : decode cX0_least 67 = .ok (.invokestatic 46, 3) := by decide +kernel
theorem dX0_least_70 : decode cX0_least 70 = .ok (.ireturn, 1) := by decide +kernel
theorem dX0_between_0 : decode cX0_between 0 = .ok (.iload_n 1, 1) := by decide +kernel
theorem dX0_between_1 : decode cX0_between 1 = .ok (.bipush 9, 2) := by decide +kernel
theorem dX0_between_3 : decode cX0_between 3 = .ok (.imul, 1) := by decide +kernel
theorem dX0_between_4 : decode cX0_between 4 = .ok (.iload_n 2, 1) := by decide +kernel
theorem dX0_between_5 : decode cX0_between 5 = .ok (.iadd, 1) := by decide +kernel
theorem dX0_between_6 : decode cX0_between 6 = .ok (.istore_n 3, 1) := by decide +kernel
theorem dX0_between_7 : decode cX0_between 7 = .ok (.iload_n 3, 1) := by decide +kernel
theorem dX0_between_8 : decode cX0_between 8 = .ok (.ifCond .lt 21, 3) := by decide +kernel
theorem dX0_between_11 : decode cX0_between 11 = .ok (.iload_n 3, 1) := by decide +kernel
theorem dX0_between_12 : decode cX0_between 12 = .ok (.aload_n 0, 1) := by decide +kernel
theorem dX0_between_13 : decode cX0_between 13 = .ok (.getfield 11, 3) := by decide +kernel
theorem dX0_between_16 : decode cX0_between 16 = .ok (.arraylength, 1) := by decide +kernel
theorem dX0_between_17 : decode cX0_between 17 = .ok (.if_icmp .ge 12, 3) := by decide +kernel
theorem dX0_between_20 : decode cX0_between 20 = .ok (.aload_n 0, 1) := by decide +kernel
theorem dX0_between_21 : decode cX0_between 21 = .ok (.getfield 11, 3) := by decide +kernel
theorem dX0_between_24 : decode cX0_between 24 = .ok (.iload_n 3, 1) := by decide +kernel
theorem dX0_between_25 : decode cX0_between 25 = .ok (.iaload, 1) := by decide +kernel
theorem dX0_between_26 : decode cX0_between 26 = .ok (.goto 4, 3) := by decide +kernel
theorem dX0_between_29 : decode cX0_between 29 = .ok (.iconst 0, 1) := by decide +kernel
theorem dX0_between_30 : decode cX0_between 30 = .ok (.ireturn, 1) := by decide +kernel
set_option maxRecDepth 20000 in
theorem ggX0_skipBehind_X0_between : GoodIn wsX0_skipBehind wsX0_between := goodIn_r _ [5, 6, 7] (by decide +kernel) (by decide +kernel)
set_option maxRecDepth 20000 in
theorem gX0_skipBehind_X0_between : GoodIn wsX0_skipBehind (wsV RX0 31 RX0 yX0_between wsX0_between) := goodIn_app (goodIn_of _ (by decide +kernel)) ggX0_skipBehind_X0_between
theorem dX0_skipBehind_0 : decode cX0_skipBehind 0 = .ok (.aload_n 0, 1) := by decide +kernel
theorem dX0_skipBehind_1 : decode cX0_skipBehind 1 = .ok (.iload_n 1, 1) := by decide +kernel
theorem dX0_skipBehind_2 : decode cX0_skipBehind 2 = .ok (.iconst 1, 1) := by decide +kernel
theorem dX0_skipBehind_3 : decode cX0_skipBehind 3 = .ok (.isub, 1) := by decide +kernel
theorem dX0_skipBehind_4 : decode cX0_skipBehind 4 = .ok (.iload_n 2, 1) := by decide +kernel
theorem dX0_skipBehind_5 : decode cX0_skipBehind 5 = .ok (.invokevirtual 31, 3) := by decide +kernel
theorem dX0_skipBehind_8 : decode cX0_skipBehind 8 = .ok (.istore_n 3, 1) := by decide +kernel
theorem dX0_skipBehind_9 : decode cX0_skipBehind 9 = .ok (.aload_n 0, 1) := by decide +kernel
theorem dX0_skipBehind_10 : decode cX0_skipBehind 10 = .ok (.iload_n 1, 1) := by decide +kernel
theorem dX0_skipBehind_11 : decode cX0_skipBehind 11 = .ok (.iload_n 2, 1) := by decide +kernel
theorem dX0_skipBehind_12 : decode cX0_skipBehind 12 = .ok (.iconst 1, 1) := by decide +kernel
theorem dX0_skipBehind_13 : decode cX0_skipBehind 13 = .ok (.isub, 1) := by decide +kernel
theorem dX0_skipBehind_14 : decode cX0_skipBehind 14 = .ok (.invokevirtual 31, 3) := by decide +kernel
theorem dX0_skipBehind_17 : decode cX0_skipBehind 17 = .ok (.istore 4, 2) := by decide +kernel
theorem dX0_skipBehind_19 : decode cX0_skipBehind 19 = .ok (.aload_n 0, 1) := by decide +kernel
theorem dX0_skipBehind_20 : decode cX0_skipBehind 20 = .ok (.iload_n 1, 1) := by decide +kernel
theorem dX0_skipBehind_21 : decode cX0_skipBehind 21 = .ok (.iconst 1, 1) := by decide +kernel
theorem dX0_skipBehind_22 : decode cX0_skipBehind 22 = .ok (.isub, 1) := by decide +kernel
theorem dX0_skipBehind_23 : decode cX0_skipBehind 23 = .ok (.iload_n 2, 1) := by decide +kernel
theorem dX0_skipBehind_24 : decode cX0_skipBehind 24 = .ok (.iconst 1, 1) := by decide +kernel
theorem dX0_skipBehind_25 : decode cX0_skipBehind 25 = .ok (.isub, 1) := by decide +kernel
theorem dX0_skipBehind_26 : decode cX0_skipBehind 26 = .ok (.invokevirtual 31, 3) := by decide +kernel
theorem dX0_skipBehind_29 : decode cX0_skipBehind 29 = .ok (.istore 5, 2) := by decide +kernel
theorem dX0_skipBehind_31 : decode cX0_skipBehind 31 = .ok (.iload_n 3, 1) := by decide +kernel
theorem dX0_skipBehind_32 : decode cX0_skipBehind 32 = .ok (.iload 4, 2) := by decide +kernel
theorem dX0_skipBehind_34 : decode cX0_skipBehind 34 = .ok (.if_icmp .gt 11, 3) := by decide +kernel
theorem dX0_skipBehind_37 : decode cX0_skipBehind 37 = .ok (.iload_n 3, 1) := by decide +kernel
theorem dX0_skipBehind_38 : decode cX0_skipBehind 38 = .ok (.iload 5, 2) := by decide +kernel
theorem dX0_skipBehind_40 : decode cX0_skipBehind 40 = .ok (.if_icmp .gt 5, 3) := by decide +kernel
theorem dX0_skipBehind_43 : decode cX0_skipBehind 43 = .ok (.iconst 0, 1) := by decide +kernel
theorem dX0_skipBehind_44 : decode cX0_skipBehind 44 = .ok (.ireturn, 1) := by decide +kernel
theorem dX0_skipBehind_45 : decode cX0_skipBehind 45 = .ok (.iload 4, 2) := by decide +kernel
theorem dX0_skipBehind_47 : decode cX0_skipBehind 47 = .ok (.iload 5, 2) := by decide +kernel
theorem dX0_skipBehind_49 : decode cX0_skipBehind 49 = .ok (.if_icmp .gt 7, 3) := by decide +kernel
theorem dX0_skipBehind_52 : decode cX0_skipBehind 52 = .ok (.iconst 1, 1) := by decide +kernel
theorem dX0_skipBehind_53 : decode cX0_skipBehind 53 = .ok (.goto 4, 3) := by decide +kernel
theorem dX0_skipBehind_56 : decode cX0_skipBehind 56 = .ok (.iconst 2, 1) := by decide +kernel
theorem dX0_skipBehind_57 : decode cX0_skipBehind 57 = .ok (.ireturn, 1) := by decide +kernel
theorem dX0_put_0 : decode cX0_put 0 = .ok (.iload_n 1, 1) := by decide +kernel
theorem dX0_put_1 : decode cX0_put 1 = .ok (.bipush 9, 2) := by decide +kernel
theorem dX0_put_3 : decode cX0_put 3 = .ok (.imul, 1) := by decide +kernel
theorem dX0_put_4 : decode cX0_put 4 = .ok (.iload_n 2, 1) := by decide +kernel
theorem dX0_put_5 : decode cX0_put 5 = .ok (.iadd, 1) := by decide +kernel
theorem dX0_put_6 : decode cX0_put 6 = .ok (.istore 4, 2) := by decide +kernel
theorem dX0_put_8 : decode cX0_put 8 = .ok (.iload 4, 2) := by decide +kernel
theorem dX0_put_10 : decode cX0_put 10 = .ok (.ifCond .lt 21, 3) := by decide +kernel
theorem dX0_put_13 : decode cX0_put 13 = .ok (.iload 4, 2) := by decide +kernel
theorem dX0_put_15 : decode cX0_put 15 = .ok (.aload_n 0, 1) := by decide +kernel
theorem dX0_put_16 : decode cX0_put 16 = .ok (.getfield 11, 3) := by decide +kernel
theorem dX0_put_19 : decode cX0_put 19 = .ok (.arraylength, 1) := by decide +kernel
theorem dX0_put_20 : decode cX0_put 20 = .ok (.if_icmp .ge 11, 3) := by decide +kernel
theorem dX0_put_23 : decode cX0_put 23 = .ok (.aload_n 0, 1) := by decide +kernel
theorem dX0_put_24 : decode cX0_put 24 = .ok (.getfield 11, 3) := by decide +kernel
theorem dX0_put_27 : decode cX0_put 27 = .ok (.iload 4, 2) := by decide +kernel
theorem dX0_put_29 : decode cX0_put 29 = .ok (.iload_n 3, 1) := by decide +kernel
theorem dX0_put_30 : decode cX0_put 30 = .ok (.iastore, 1) := by decide +kernel
theorem dX0_put_31 : decode cX0_put 31 = .ok (.return_, 1) := by decide +kernel
theorem dX1_init_0 : decode cX1_init 0 = .ok (.aload_n 0, 1) := by decide +kernel
theorem dX1_init_1 : decode cX1_init 1 = .ok (.invokespecial 3, 3) := by decide +kernel
theorem dX1_init_4 : decode cX1_init 4 = .ok (.aload_n 0, 1) := by decide +kernel
theorem dX1_init_5 : decode cX1_init 5 = .ok (.bipush 60, 2) := by decide +kernel
theorem dX1_init_7 : decode cX1_init 7 = .ok (.newarray .int, 2) := by decide +kernel
theorem dX1_init_9 : decode cX1_init 9 = .ok (.putfield 9, 3) := by decide +kernel
theorem dX1_init_12 : decode cX1_init 12 = .ok (.aload_n 0, 1) := by decide +kernel
theorem dX1_init_13 : decode cX1_init 13 = .ok (.iconst 0, 1) := by decide +kernel
theorem dX1_init_14 : decode cX1_init 14 = .ok (.putfield 15, 3) := by decide +kernel
theorem dX1_init_17 : decode cX1_init 17 = .ok (.return_, 1) := by decide +kernel
theorem dX1_hasPlace_0 : decode cX1_hasPlace 0 = .ok (.iload_n 1, 1) := by decide +kernel
theorem dX1_hasPlace_1 : decode cX1_hasPlace 1 = .ok (.ifCond .lt 24, 3) := by decide +kernel
theorem dX1_hasPlace_4 : decode cX1_hasPlace 4 = .ok (.iload_n 1, 1) := by decide +kernel
theorem dX1_hasPlace_5 : decode cX1_hasPlace 5 = .ok (.aload_n 0, 1) := by decide +kernel
theorem dX1_hasPlace_6 : decode cX1_hasPlace 6 = .ok (.getfield 15, 3) := by decide +kernel
theorem dX1_hasPlace_9 : decode cX1_hasPlace 9 = .ok (.if_icmp .ge 16, 3) := by decide +kernel
theorem dX1_hasPlace_12 : decode cX1_hasPlace 12 = .ok (.iload_n 1, 1) := by decide +kernel
theorem dX1_hasPlace_13 : decode cX1_hasPlace 13 = .ok (.aload_n 0, 1) := by decide +kernel
theorem dX1_hasPlace_14 : decode cX1_hasPlace 14 = .ok (.getfield 9, 3) := by decide +kernel
theorem dX1_hasPlace_17 : decode cX1_hasPlace 17 = .ok (.arraylength, 1) := by decide +kernel
theorem dX1_hasPlace_18 : decode cX1_hasPlace 18 = .ok (.if_icmp .ge 7, 3) := by decide +kernel
theorem dX1_hasPlace_21 : decode cX1_hasPlace 21 = .ok (.iconst 1, 1) := by decide +kernel
theorem dX1_hasPlace_22 : decode cX1_hasPlace 22 = .ok (.goto 4, 3) := by decide +kernel
theorem dX1_hasPlace_25 : decode cX1_hasPlace 25 = .ok (.iconst 0, 1) := by decide +kernel
theorem dX1_hasPlace_26 : decode cX1_hasPlace 26 = .ok (.ireturn, 1) := by decide +kernel
set_option maxRecDepth 20000 in
theorem ggX1_at_X1_hasPlace : GoodIn wsX1_at wsX1_hasPlace := goodIn_r _ [6, 7, 1, 8, 9] (by decide +kernel) (by decide +kernel)
set_option maxRecDepth 20000 in
theorem gX1_at_X1_hasPlace : GoodIn wsX1_at (wsV RX1 19 RX1 yX1_hasPlace wsX1_hasPlace) := goodIn_app (goodIn_of _ (by decide +kernel)) ggX1_at_X1_hasPlace
theorem dX1_at_0 : decode cX1_at 0 = .ok (.aload_n 0, 1) := by decide +kernel
theorem dX1_at_1 : decode cX1_at 1 = .ok (.iload_n 1, 1) := by decide +kernel
theorem dX1_at_2 : decode cX1_at 2 = .ok (.invokevirtual 19, 3) := by decide +kernel
theorem dX1_at_5 : decode cX1_at 5 = .ok (.ifCond .eq 12, 3) := by decide +kernel
theorem dX1_at_8 : decode cX1_at 8 = .ok (.aload_n 0, 1) := by decide +kernel
theorem dX1_at_9 : decode cX1_at 9 = .ok (.getfield 9, 3) := by decide +kernel
theorem dX1_at_12 : decode cX1_at 12 = .ok (.iload_n 1, 1) := by decide +kernel
theorem dX1_at_13 : decode cX1_at 13 = .ok (.iaload, 1) := by decide +kernel
theorem dX1_at_14 : decode cX1_at 14 = .ok (.goto 4, 3) := by decide +kernel
theorem dX1_at_17 : decode cX1_at 17 = .ok (.iconst (-1), 1) := by decide +kernel
theorem dX1_at_18 : decode cX1_at 18 = .ok (.ireturn, 1) := by decide +kernel
set_option maxRecDepth 20000 in
theorem ggX1_holds_X1_at : GoodIn wsX1_holds wsX1_at := goodIn_r _ [6, 7, 8, 9, 10, 5, 11, 1, 12, 13] (by decide +kernel) (by decide +kernel)
set_option maxRecDepth 20000 in
theorem gX1_holds_X1_at : GoodIn wsX1_holds (wsV RX1 23 RX1 yX1_at wsX1_at) := goodIn_app (goodIn_of _ (by decide +kernel)) ggX1_holds_X1_at
theorem dX1_holds_0 : decode cX1_holds 0 = .ok (.iconst 0, 1) := by decide +kernel
theorem dX1_holds_1 : decode cX1_holds 1 = .ok (.istore_n 2, 1) := by decide +kernel
theorem dX1_holds_2 : decode cX1_holds 2 = .ok (.iload_n 2, 1) := by decide +kernel
theorem dX1_holds_3 : decode cX1_holds 3 = .ok (.aload_n 0, 1) := by decide +kernel
theorem dX1_holds_4 : decode cX1_holds 4 = .ok (.getfield 15, 3) := by decide +kernel
theorem dX1_holds_7 : decode cX1_holds 7 = .ok (.if_icmp .ge 20, 3) := by decide +kernel
theorem dX1_holds_10 : decode cX1_holds 10 = .ok (.aload_n 0, 1) := by decide +kernel
theorem dX1_holds_11 : decode cX1_holds 11 = .ok (.iload_n 2, 1) := by decide +kernel
theorem dX1_holds_12 : decode cX1_holds 12 = .ok (.invokevirtual 23, 3) := by decide +kernel
theorem dX1_holds_15 : decode cX1_holds 15 = .ok (.iload_n 1, 1) := by decide +kernel
theorem dX1_holds_16 : decode cX1_holds 16 = .ok (.if_icmp .ne 5, 3) := by decide +kernel
theorem dX1_holds_19 : decode cX1_holds 19 = .ok (.iconst 1, 1) := by decide +kernel
theorem dX1_holds_20 : decode cX1_holds 20 = .ok (.ireturn, 1) := by decide +kernel
theorem dX1_holds_21 : decode cX1_holds 21 = .ok (.iinc 2 1, 3) := by decide +kernel
theorem dX1_holds_24 : decode cX1_holds 24 = .ok (.goto (-22), 3) := by decide +kernel
theorem dX1_holds_27 : decode cX1_holds 27 = .ok (.iconst 0, 1) := by decide +kernel
theorem dX1_holds_28 : decode cX1_holds 28 = .ok (.ireturn, 1) := by decide +kernel
theorem dX1_addLast_0 : decode cX1_addLast 0 = .ok (.aload_n 0, 1) := by decide +kernel
theorem dX1_addLast_1 : decode cX1_addLast 1 = .ok (.getfield 15, 3) := by decide +kernel
theorem dX1_addLast_4 : decode cX1_addLast 4 = .ok (.istore_n 2, 1) := by decide +kernel
theorem dX1_addLast_5 : decode cX1_addLast 5 = .ok (.iload_n 2, 1) := by decide +kernel
theorem dX1_addLast_6 : decode cX1_addLast 6 = .ok (.ifCond .lt 26, 3) := by decide +kernel
theorem dX1_addLast_9 : decode cX1_addLast 9 = .ok (.iload_n 2, 1) := by decide +kernel
theorem dX1_addLast_10 : decode cX1_addLast 10 = .ok (.aload_n 0, 1) := by decide +kernel
theorem dX1_addLast_11 : decode cX1_addLast 11 = .ok (.getfield 9, 3) := by decide +kernel
theorem dX1_addLast_14 : decode cX1_addLast 14 = .ok (.arraylength, 1) := by decide +kernel
theorem dX1_addLast_15 : decode cX1_addLast 15 = .ok (.if_icmp .ge 17, 3) := by decide +kernel
theorem dX1_addLast_18 : decode cX1_addLast 18 = .ok (.aload_n 0, 1) := by decide +kernel
theorem dX1_addLast_19 : decode cX1_addLast 19 = .ok (.getfield 9, 3) := by decide +kernel
theorem dX1_addLast_22 : decode cX1_addLast 22 = .ok (.iload_n 2, 1) := by decide +kernel
theorem dX1_addLast_23 : decode cX1_addLast 23 = .ok (.iload_n 1, 1) := by decide +kernel
theorem dX1_addLast_24 : decode cX1_addLast 24 = .ok (.iastore, 1) := by decide +kernel
theorem dX1_addLast_25 : decode cX1_addLast 25 = .ok (.aload_n 0, 1) := by decide +kernel
theorem dX1_addLast_26 : decode cX1_addLast 26 = .ok (.iload_n 2, 1) := by decide +kernel
theorem dX1_addLast_27 : decode cX1_addLast 27 = .ok (.iconst 1, 1) := by decide +kernel
theorem dX1_addLast_28 : decode cX1_addLast 28 = .ok (.iadd, 1) := by decide +kernel
theorem dX1_addLast_29 : decode cX1_addLast 29 = .ok (.putfield 15, 3) := by decide +kernel
theorem dX1_addLast_32 : decode cX1_addLast 32 = .ok (.return_, 1) := by decide +kernel
set_option maxRecDepth 20000 in
theorem ggX1_addFirst_X1_addLast : GoodIn wsX1_addFirst wsX1_addLast := goodIn_r _ [7, 1, 2, 8, 9] (by decide +kernel) (by decide +kernel)
set_option maxRecDepth 20000 in
theorem gX1_addFirst_X1_addLast : GoodIn wsX1_addFirst (wsV RX1 27 RX1 yX1_addLast wsX1_addLast) := goodIn_app (goodIn_of _ (by decide +kernel)) ggX1_addFirst_X1_addLast
theorem dX1_addFirst_0 : decode cX1_addFirst 0 = .ok (.iload_n 1, 1) := by decide +kernel
theorem dX1_addFirst_1 : decode cX1_addFirst 1 = .ok (.istore_n 2, 1) := by decide +kernel
theorem dX1_addFirst_2 : decode cX1_addFirst 2 = .ok (.iconst 0, 1) := by decide +kernel
theorem dX1_addFirst_3 : decode cX1_addFirst 3 = .ok (.istore_n 3, 1) := by decide +kernel
theorem dX1_addFirst_4 : decode cX1_addFirst 4 = .ok (.iload_n 3, 1) := by decide +kernel
theorem dX1_addFirst_5 : decode cX1_addFirst 5 = .ok (.aload_n 0, 1) := by decide +kernel
theorem dX1_addFirst_6 : decode cX1_addFirst 6 = .ok (.getfield 15, 3) := by decide +kernel
theorem dX1_addFirst_9 : decode cX1_addFirst 9 = .ok (.if_icmp .ge 36, 3) := by decide +kernel
theorem dX1_addFirst_12 : decode cX1_addFirst 12 = .ok (.iload_n 3, 1) := by decide +kernel
theorem dX1_addFirst_13 : decode cX1_addFirst 13 = .ok (.aload_n 0, 1) := by decide +kernel
theorem dX1_addFirst_14 : decode cX1_addFirst 14 = .ok (.getfield 9, 3) := by decide +kernel
theorem dX1_addFirst_17 : decode cX1_addFirst 17 = .ok (.arraylength, 1) := by decide +kernel
theorem dX1_addFirst_18 : decode cX1_addFirst 18 = .ok (.if_icmp .ge 27, 3) := by decide +kernel
theorem dX1_addFirst_21 : decode cX1_addFirst 21 = .ok (.aload_n 0, 1) := by decide +kernel
theorem dX1_addFirst_22 : decode cX1_addFirst 22 = .ok (.getfield 9, 3) := by decide +kernel
theorem dX1_addFirst_25 : decode cX1_addFirst 25 = .ok (.iload_n 3, 1) := by decide +kernel
theorem dX1_addFirst_26 : decode cX1_addFirst 26 = .ok (.iaload, 1) := by decide +kernel
theorem dX1_addFirst_27 : decode cX1_addFirst 27 = .ok (.istore 4, 2) := by decide +kernel
theorem dX1_addFirst_29 : decode cX1_addFirst 29 = .ok (.aload_n 0, 1) := by decide +kernel
theorem dX1_addFirst_30 : decode cX1_addFirst 30 = .ok (.getfield 9, 3) := by decide +kernel
theorem dX1_addFirst_33 : decode cX1_addFirst 33 = .ok (.iload_n 3, 1) := by decide +kernel
theorem dX1_addFirst_34 : decode cX1_addFirst 34 = .ok (.iload_n 2, 1) := by decide +kernel
theorem dX1_addFirst_35 : decode cX1_addFirst 35 = .ok (.iastore, 1) := by decide +kernel
theorem dX1_addFirst_36 : decode cX1_addFirst 36 = .ok (.iload 4, 2) := by decide +kernel
theorem dX1_addFirst_38 : decode cX1_addFirst 38 = .ok (.istore_n 2, 1) := by decide +kernel
theorem dX1_addFirst_39 : decode cX1_addFirst 39 = .ok (.iinc 3 1, 3) := by decide +kernel
theorem dX1_addFirst_42 : decode cX1_addFirst 42 = .ok (.goto (-38), 3) := by decide +kernel
theorem dX1_addFirst_45 : decode cX1_addFirst 45 = .ok (.aload_n 0, 1) := by decide +kernel
theorem dX1_addFirst_46 : decode cX1_addFirst 46 = .ok (.iload_n 2, 1) := by decide +kernel
theorem dX1_addFirst_47 : decode cX1_addFirst 47 = .ok (.invokevirtual 27, 3) := by decide +kernel
theorem dX1_addFirst_50 : decode cX1_addFirst 50 = .ok (.return_, 1) := by decide +kernel
set_option maxRecDepth 20000 in
theorem ggX1_removeFirst_X1_removeAt : GoodIn wsX1_removeFirst wsX1_removeAt := goodIn_r _ [5, 6, 7, 8, 9, 10, 4, 11, 12, 13] (by decide +kernel) (by decide +kernel)
set_option maxRecDepth 20000 in
theorem gX1_removeFirst_X1_removeAt : GoodIn wsX1_removeFirst (wsV RX1 31 RX1 yX1_removeAt wsX1_removeAt) := goodIn_app (goodIn_of _ (by decide +kernel)) ggX1_removeFirst_X1_removeAt
theorem dX1_removeFirst_0 : decode cX1_removeFirst 0 = .ok (.aload_n 0, 1) := by decide +kernel
theorem dX1_removeFirst_1 : decode cX1_removeFirst 1 = .ok (.iconst 0, 1) := by decide +kernel
theorem dX1_removeFirst_2 : decode cX1_removeFirst 2 = .ok (.invokevirtual 31, 3) := by decide +kernel
theorem dX1_removeFirst_5 : decode cX1_removeFirst 5 = .ok (.return_, 1) := by decide +kernel
set_option maxRecDepth 20000 in
theorem ggX1_removeAt_X1_hasPlace : GoodIn wsX1_removeAt wsX1_hasPlace := goodIn_r _ [7, 1, 2, 8, 9] (by decide +kernel) (by decide +kernel)
set_option maxRecDepth 20000 in
theorem gX1_removeAt_X1_hasPlace : GoodIn wsX1_removeAt (wsV RX1 19 RX1 yX1_hasPlace wsX1_hasPlace) := goodIn_app (goodIn_of _ (by decide +kernel)) ggX1_removeAt_X1_hasPlace
theorem dX1_removeAt_0 : decode cX1_removeAt 0 = .ok (.aload_n 0, 1) := by decide +kernel
theorem dX1_removeAt_1 : decode cX1_removeAt 1 = .ok (.iload_n 1, 1) := by decide +kernel
theorem dX1_removeAt_2 : decode cX1_removeAt 2 = .ok (.invokevirtual 19, 3) := by decide +kernel
theorem dX1_removeAt_5 : decode cX1_removeAt 5 = .ok (.ifCond .ne 4, 3) := by decide +kernel
theorem dX1_removeAt_8 : decode cX1_removeAt 8 = .ok (.return_, 1) := by decide +kernel
theorem dX1_removeAt_9 : decode cX1_removeAt 9 = .ok (.iload_n 1, 1) := by decide +kernel
theorem dX1_removeAt_10 : decode cX1_removeAt 10 = .ok (.iconst 1, 1) := by decide +kernel
theorem dX1_removeAt_11 : decode cX1_removeAt 11 = .ok (.iadd, 1) := by decide +kernel
theorem dX1_removeAt_12 : decode cX1_removeAt 12 = .ok (.istore_n 2, 1) := by decide +kernel
theorem dX1_removeAt_13 : decode cX1_removeAt 13 = .ok (.iload_n 2, 1) := by decide +kernel
theorem dX1_removeAt_14 : decode cX1_removeAt 14 = .ok (.aload_n 0, 1) := by decide +kernel
theorem dX1_removeAt_15 : decode cX1_removeAt 15 = .ok (.getfield 15, 3) := by decide +kernel
theorem dX1_removeAt_18 : decode cX1_removeAt 18 = .ok (.if_icmp .ge 32, 3) := by decide +kernel
theorem dX1_removeAt_21 : decode cX1_removeAt 21 = .ok (.iload_n 2, 1) := by decide +kernel
theorem dX1_removeAt_22 : decode cX1_removeAt 22 = .ok (.aload_n 0, 1) := by decide +kernel
theorem dX1_removeAt_23 : decode cX1_removeAt 23 = .ok (.getfield 9, 3) := by decide +kernel
theorem dX1_removeAt_26 : decode cX1_removeAt 26 = .ok (.arraylength, 1) := by decide +kernel
theorem dX1_removeAt_27 : decode cX1_removeAt 27 = .ok (.if_icmp .ge 23, 3) := by decide +kernel
theorem dX1_removeAt_30 : decode cX1_removeAt 30 = .ok (.aload_n 0, 1) := by decide +kernel
theorem dX1_removeAt_31 : decode cX1_removeAt 31 = .ok (.getfield 9, 3) := by decide +kernel
theorem dX1_removeAt_34 : decode cX1_removeAt 34 = .ok (.iload_n 2, 1) := by decide +kernel
theorem dX1_removeAt_35 : decode cX1_removeAt 35 = .ok (.iconst 1, 1) := by decide +kernel
theorem dX1_removeAt_36 : decode cX1_removeAt 36 = .ok (.isub, 1) := by decide +kernel
theorem dX1_removeAt_37 : decode cX1_removeAt 37 = .ok (.aload_n 0, 1) := by decide +kernel
theorem dX1_removeAt_38 : decode cX1_removeAt 38 = .ok (.getfield 9, 3) := by decide +kernel
theorem dX1_removeAt_41 : decode cX1_removeAt 41 = .ok (.iload_n 2, 1) := by decide +kernel
theorem dX1_removeAt_42 : decode cX1_removeAt 42 = .ok (.iaload, 1) := by decide +kernel
theorem dX1_removeAt_43 : decode cX1_removeAt 43 = .ok (.iastore, 1) := by decide +kernel
theorem dX1_removeAt_44 : decode cX1_removeAt 44 = .ok (.iinc 2 1, 3) := by decide +kernel
theorem dX1_removeAt_47 : decode cX1_removeAt 47 = .ok (.goto (-34), 3) := by decide +kernel
theorem dX1_removeAt_50 : decode cX1_removeAt 50 = .ok (.aload_n 0, 1) := by decide +kernel
theorem dX1_removeAt_51 : decode cX1_removeAt 51 = .ok (.dup, 1) := by decide +kernel
theorem dX1_removeAt_52 : decode cX1_removeAt 52 = .ok (.getfield 15, 3) := by decide +kernel
theorem dX1_removeAt_55 : decode cX1_removeAt 55 = .ok (.iconst 1, 1) := by decide +kernel
theorem dX1_removeAt_56 : decode cX1_removeAt 56 = .ok (.isub, 1) := by decide +kernel
theorem dX1_removeAt_57 : decode cX1_removeAt 57 = .ok (.putfield 15, 3) := by decide +kernel
theorem dX1_removeAt_60 : decode cX1_removeAt 60 = .ok (.return_, 1) := by decide +kernel
set_option maxRecDepth 20000 in
theorem ggX2_init_X1_init : GoodIn wsX2_init wsX1_init := goodIn_r _ [18, 19, 2, 3, 20, 21, 22, 32, 33] (by decide +kernel) (by decide +kernel)
set_option maxRecDepth 20000 in
theorem gX2_init_X1_init_n23 : GoodIn wsX2_init (wsX1_init) := ggX2_init_X1_init
set_option maxRecDepth 20000 in
theorem ggX2_init_X0_init : GoodIn wsX2_init wsX0_init := goodIn_r _ [24, 25, 2, 3, 20, 26, 34] (by decide +kernel) (by decide +kernel)
set_option maxRecDepth 20000 in
theorem gX2_init_X0_init_n30 : GoodIn wsX2_init (wsX0_init) := ggX2_init_X0_init
theorem dX2_init_0 : decode cX2_init 0 = .ok (.aload_n 0, 1) := by decide +kernel
theorem dX2_init_1 : decode cX2_init 1 = .ok (.invokespecial 3, 3) := by decide +kernel
theorem dX2_init_4 : decode cX2_init 4 = .ok (.aload_n 0, 1) := by decide +kernel
theorem dX2_init_5 : decode cX2_init 5 = .ok (.bipush 40, 2) := by decide +kernel
theorem dX2_init_7 : decode cX2_init 7 = .ok (.anewarray 9, 3) := by decide +kernel
theorem dX2_init_10 : decode cX2_init 10 = .ok (.putfield 11, 3) := by decide +kernel
theorem dX2_init_13 : decode cX2_init 13 = .ok (.aload_n 0, 1) := by decide +kernel
theorem dX2_init_14 : decode cX2_init 14 = .ok (.bipush 50, 2) := by decide +kernel
theorem dX2_init_16 : decode cX2_init 16 = .ok (.newarray .long, 2) := by decide +kernel
theorem dX2_init_18 : decode cX2_init 18 = .ok (.putfield 17, 3) := by decide +kernel
theorem dX2_init_21 : decode cX2_init 21 = .ok (.aload_n 0, 1) := by decide +kernel
theorem dX2_init_22 : decode cX2_init 22 = .ok (.new 21, 3) := by decide +kernel
theorem dX2_init_25 : decode cX2_init 25 = .ok (.dup, 1) := by decide +kernel
theorem dX2_init_26 : decode cX2_init 26 = .ok (.invokespecial 23, 3) := by decide +kernel
theorem dX2_init_29 : decode cX2_init 29 = .ok (.putfield 24, 3) := by decide +kernel
theorem dX2_init_32 : decode cX2_init 32 = .ok (.aload_n 0, 1) := by decide +kernel
theorem dX2_init_33 : decode cX2_init 33 = .ok (.new 28, 3) := by decide +kernel
theorem dX2_init_36 : decode cX2_init 36 = .ok (.dup, 1) := by decide +kernel
theorem dX2_init_37 : decode cX2_init 37 = .ok (.invokespecial 30, 3) := by decide +kernel
theorem dX2_init_40 : decode cX2_init 40 = .ok (.putfield 31, 3) := by decide +kernel
theorem dX2_init_43 : decode cX2_init 43 = .ok (.aload_n 0, 1) := by decide +kernel
theorem dX2_init_44 : decode cX2_init 44 = .ok (.iconst 0, 1) := by decide +kernel
theorem dX2_init_45 : decode cX2_init 45 = .ok (.putfield 35, 3) := by decide +kernel
theorem dX2_init_48 : decode cX2_init 48 = .ok (.return_, 1) := by decide +kernel
theorem dX2_sentenceAt_0 : decode cX2_sentenceAt 0 = .ok (.iload_n 1, 1) := by decide +kernel
theorem dX2_sentenceAt_1 : decode cX2_sentenceAt 1 = .ok (.ifCond .lt 21, 3) := by decide +kernel
theorem dX2_sentenceAt_4 : decode cX2_sentenceAt 4 = .ok (.iload_n 1, 1) := by decide +kernel
theorem dX2_sentenceAt_5 : decode cX2_sentenceAt 5 = .ok (.aload_n 0, 1) := by decide +kernel
theorem dX2_sentenceAt_6 : decode cX2_sentenceAt 6 = .ok (.getfield 11, 3) := by decide +kernel
theorem dX2_sentenceAt_9 : decode cX2_sentenceAt 9 = .ok (.arraylength, 1) := by decide +kernel
theorem dX2_sentenceAt_10 : decode cX2_sentenceAt 10 = .ok (.if_icmp .ge 12, 3) := by decide +kernel
theorem dX2_sentenceAt_13 : decode cX2_sentenceAt 13 = .ok (.aload_n 0, 1) := by decide +kernel
theorem dX2_sentenceAt_14 : decode cX2_sentenceAt 14 = .ok (.getfield 11, 3) := by decide +kernel
theorem dX2_sentenceAt_17 : decode cX2_sentenceAt 17 = .ok (.iload_n 1, 1) := by decide +kernel
theorem dX2_sentenceAt_18 : decode cX2_sentenceAt 18 = .ok (.aaload, 1) := by decide +kernel
theorem dX2_sentenceAt_19 : decode cX2_sentenceAt 19 = .ok (.goto 4, 3) := by decide +kernel
theorem dX2_sentenceAt_22 : decode cX2_sentenceAt 22 = .ok (.aconst_null, 1) := by decide +kernel
theorem dX2_sentenceAt_23 : decode cX2_sentenceAt 23 = .ok (.areturn, 1) := by decide +kernel
set_option maxRecDepth 20000 in
theorem ggX2_keep_X4_at : GoodIn wsX2_keep wsX4_at := goodIn_r _ [8, 9, 10, 19, 20] (by decide +kernel) (by decide +kernel)
set_option maxRecDepth 20000 in
theorem gX2_keep_X4_at : GoodIn wsX2_keep (wsV RX2 48 RX4 yX4_at wsX4_at) := goodIn_app (goodIn_of _ (by decide +kernel)) ggX2_keep_X4_at
theorem dX2_keep_0 : decode cX2_keep 0 = .ok (.aload_n 0, 1) := by decide +kernel
theorem dX2_keep_1 : decode cX2_keep 1 = .ok (.getfield 35, 3) := by decide +kernel
theorem dX2_keep_4 : decode cX2_keep 4 = .ok (.istore_n 2, 1) := by decide +kernel
theorem dX2_keep_5 : decode cX2_keep 5 = .ok (.iload_n 2, 1) := by decide +kernel
theorem dX2_keep_6 : decode cX2_keep 6 = .ok (.ifCond .lt 12, 3) := by decide +kernel
theorem dX2_keep_9 : decode cX2_keep 9 = .ok (.iload_n 2, 1) := by decide +kernel
theorem dX2_keep_10 : decode cX2_keep 10 = .ok (.aload_n 0, 1) := by decide +kernel
theorem dX2_keep_11 : decode cX2_keep 11 = .ok (.getfield 11, 3) := by decide +kernel
theorem dX2_keep_14 : decode cX2_keep 14 = .ok (.arraylength, 1) := by decide +kernel
theorem dX2_keep_15 : decode cX2_keep 15 = .ok (.if_icmp .lt 5, 3) := by decide +kernel
theorem dX2_keep_18 : decode cX2_keep 18 = .ok (.iconst (-1), 1) := by decide +kernel
theorem dX2_keep_19 : decode cX2_keep 19 = .ok (.ireturn, 1) := by decide +kernel
theorem dX2_keep_20 : decode cX2_keep 20 = .ok (.aload_n 0, 1) := by decide +kernel
theorem dX2_keep_21 : decode cX2_keep 21 = .ok (.getfield 11, 3) := by decide +kernel
theorem dX2_keep_24 : decode cX2_keep 24 = .ok (.iload_n 2, 1) := by decide +kernel
theorem dX2_keep_25 : decode cX2_keep 25 = .ok (.aload_n 1, 1) := by decide +kernel
theorem dX2_keep_26 : decode cX2_keep 26 = .ok (.aastore, 1) := by decide +kernel
theorem dX2_keep_27 : decode cX2_keep 27 = .ok (.iconst 0, 1) := by decide +kernel
theorem dX2_keep_28 : decode cX2_keep 28 = .ok (.istore_n 3, 1) := by decide +kernel
theorem dX2_keep_29 : decode cX2_keep 29 = .ok (.iload_n 3, 1) := by decide +kernel
theorem dX2_keep_30 : decode cX2_keep 30 = .ok (.aload_n 1, 1) := by decide +kernel
theorem dX2_keep_31 : decode cX2_keep 31 = .ok (.getfield 39, 3) := by decide +kernel
theorem dX2_keep_34 : decode cX2_keep 34 = .ok (.getfield 43, 3) := by decide +kernel
theorem dX2_keep_37 : decode cX2_keep 37 = .ok (.if_icmp .ge 47, 3) := by decide +kernel
theorem dX2_keep_40 : decode cX2_keep 40 = .ok (.aload_n 1, 1) := by decide +kernel
theorem dX2_keep_41 : decode cX2_keep 41 = .ok (.getfield 39, 3) := by decide +kernel
theorem dX2_keep_44 : decode cX2_keep 44 = .ok (.iload_n 3, 1) := by decide +kernel
theorem dX2_keep_45 : decode cX2_keep 45 = .ok (.invokevirtual 48, 3) := by decide +kernel
theorem dX2_keep_48 : decode cX2_keep 48 = .ok (.istore 4, 2) := by decide +kernel
theorem dX2_keep_50 : decode cX2_keep 50 = .ok (.iload 4, 2) := by decide +kernel
theorem dX2_keep_52 : decode cX2_keep 52 = .ok (.ifCond .lt 26, 3) := by decide +kernel
theorem dX2_keep_55 : decode cX2_keep 55 = .ok (.iload 4, 2) := by decide +kernel
theorem dX2_keep_57 : decode cX2_keep 57 = .ok (.aload_n 0, 1) := by decide +kernel
theorem dX2_keep_58 : decode cX2_keep 58 = .ok (.getfield 17, 3) := by decide +kernel
theorem dX2_keep_61 : decode cX2_keep 61 = .ok (.arraylength, 1) := by decide +kernel
theorem dX2_keep_62 : decode cX2_keep 62 = .ok (.if_icmp .ge 16, 3) := by decide +kernel
theorem dX2_keep_65 : decode cX2_keep 65 = .ok (.aload_n 0, 1) := by decide +kernel
theorem dX2_keep_66 : decode cX2_keep 66 = .ok (.getfield 17, 3) := by decide +kernel
theorem dX2_keep_69 : decode cX2_keep 69 = .ok (.iload 4, 2) := by decide +kernel
theorem dX2_keep_71 : decode cX2_keep 71 = .ok (.dup2, 1) := by decide +kernel
theorem dX2_keep_72 : decode cX2_keep 72 = .ok (.laload, 1) := by decide +kernel
theorem dX2_keep_73 : decode cX2_keep 73 = .ok (.lconst 1, 1) := by decide +kernel
theorem dX2_keep_74 : decode cX2_keep 74 = .ok (.iload_n 2, 1) := by decide +kernel
theorem dX2_keep_75 : decode cX2_keep 75 = .ok (.lshl, 1) := by decide +kernel
theorem dX2_keep_76 : decode cX2_keep 76 = .ok (.lor, 1) := by decide +kernel
theorem dX2_keep_77 : decode cX2_keep 77 = .ok (.lastore, 1) := by decide +kernel
theorem dX2_keep_78 : decode cX2_keep 78 = .ok (.iinc 3 1, 3) := by decide +kernel
theorem dX2_keep_81 : decode cX2_keep 81 = .ok (.goto (-52), 3) := by decide +kernel
theorem dX2_keep_84 : decode cX2_keep 84 = .ok (.aload_n 0, 1) := by decide +kernel
theorem dX2_keep_85 : decode cX2_keep 85 = .ok (.iload_n 2, 1) := by decide +kernel
theorem dX2_keep_86 : decode cX2_keep 86 = .ok (.iconst 1, 1) := by decide +kernel
theorem dX2_keep_87 : decode cX2_keep 87 = .ok (.iadd, 1) := by decide +kernel
theorem dX2_keep_88 : decode cX2_keep 88 = .ok (.putfield 35, 3) := by decide +kernel
theorem dX2_keep_91 : decode cX2_keep 91 = .ok (.iload_n 2, 1) := by decide +kernel
theorem dX2_keep_92 : decode cX2_keep 92 = .ok (.ireturn, 1) := by decide +kernel
set_option maxRecDepth 20000 in
theorem ggX2_listDue_X1_at : GoodIn wsX2_listDue wsX1_at := goodIn_r _ [7, 8, 9, 10, 11, 6, 12, 13, 66, 67] (by decide +kernel) (by decide +kernel)
set_option maxRecDepth 20000 in
theorem gX2_listDue_X1_at : GoodIn wsX2_listDue (wsV RX2 53 RX1 yX1_at wsX1_at) := goodIn_app (goodIn_of _ (by decide +kernel)) ggX2_listDue_X1_at
set_option maxRecDepth 20000 in
theorem ggX2_listDue_X2_sentenceAt : GoodIn wsX2_listDue wsX2_sentenceAt := goodIn_r _ [18, 19, 61, 62, 63, 64, 65] (by decide +kernel) (by decide +kernel)
set_option maxRecDepth 20000 in
theorem gX2_listDue_X2_sentenceAt : GoodIn wsX2_listDue (wsV RX2 54 RX2 yX2_sentenceAt wsX2_sentenceAt) := goodIn_app (goodIn_of _ (by decide +kernel)) ggX2_listDue_X2_sentenceAt
set_option maxRecDepth 20000 in
theorem ggX2_listDue_X6_firstAstray : GoodIn wsX2_listDue wsX6_firstAstray := goodIn_r _ [24, 25, 26, 27, 28, 23, 29, 30, 31, 32, 33, 34, 35, 36, 37, 38, 39, 40, 41, 42, 43, 44, 45, 46, 47, 68, 69, 70, 71, 72, 73, 74, 75] (by decide +kernel) (by decide +kernel)
set_option maxRecDepth 20000 in
theorem gX2_listDue_X6_firstAstray : GoodIn wsX2_listDue (wsV RX2 58 RX6 yX6_firstAstray wsX6_firstAstray) := goodIn_app (goodIn_of _ (by decide +kernel)) ggX2_listDue_X6_firstAstray
set_option maxRecDepth 20000 in
theorem ggX2_listDue_X1_removeAt : GoodIn wsX2_listDue wsX1_removeAt := goodIn_r _ [51, 13, 8, 9, 10, 11, 6, 12, 66, 67] (by decide +kernel) (by decide +kernel)
set_option maxRecDepth 20000 in
theorem gX2_listDue_X1_removeAt : GoodIn wsX2_listDue (wsV RX2 62 RX1 yX1_removeAt wsX1_removeAt) := goodIn_app (goodIn_of _ (by decide +kernel)) ggX2_listDue_X1_removeAt
set_option maxRecDepth 20000 in
theorem ggX2_listDue_X1_holds : GoodIn wsX2_listDue wsX1_holds := goodIn_r _ [55, 13, 56, 4, 5, 6, 7, 8, 9, 10, 11, 12, 66, 67] (by decide +kernel) (by decide +kernel)
set_option maxRecDepth 20000 in
theorem gX2_listDue_X1_holds : GoodIn wsX2_listDue (wsV RX2 66 RX1 yX1_holds wsX1_holds) := goodIn_app (goodIn_of _ (by decide +kernel)) ggX2_listDue_X1_holds
set_option maxRecDepth 20000 in
theorem ggX2_listDue_X1_addLast : GoodIn wsX2_listDue wsX1_addLast := goodIn_r _ [60, 13, 8, 66, 67] (by decide +kernel) (by decide +kernel)
set_option maxRecDepth 20000 in
theorem gX2_listDue_X1_addLast : GoodIn wsX2_listDue (wsV RX2 70 RX1 yX1_addLast wsX1_addLast) := goodIn_app (goodIn_of _ (by decide +kernel)) ggX2_listDue_X1_addLast
theorem dX2_listDue_0 : decode cX2_listDue 0 = .ok (.aload_n 0, 1) := by decide +kernel
theorem dX2_listDue_1 : decode cX2_listDue 1 = .ok (.getfield 24, 3) := by decide +kernel
theorem dX2_listDue_4 : decode cX2_listDue 4 = .ok (.getfield 52, 3) := by decide +kernel
theorem dX2_listDue_7 : decode cX2_listDue 7 = .ok (.iconst 1, 1) := by decide +kernel
theorem dX2_listDue_8 : decode cX2_listDue 8 = .ok (.isub, 1) := by decide +kernel
theorem dX2_listDue_9 : decode cX2_listDue 9 = .ok (.istore_n 2, 1) := by decide +kernel
theorem dX2_listDue_10 : decode cX2_listDue 10 = .ok (.iload_n 2, 1) := by decide +kernel
theorem dX2_listDue_11 : decode cX2_listDue 11 = .ok (.ifCond .lt 43, 3) := by decide +kernel
theorem dX2_listDue_14 : decode cX2_listDue 14 = .ok (.aload_n 0, 1) := by decide +kernel
theorem dX2_listDue_15 : decode cX2_listDue 15 = .ok (.aload_n 0, 1) := by decide +kernel
theorem dX2_listDue_16 : decode cX2_listDue 16 = .ok (.getfield 24, 3) := by decide +kernel
theorem dX2_listDue_19 : decode cX2_listDue 19 = .ok (.iload_n 2, 1) := by decide +kernel
theorem dX2_listDue_20 : decode cX2_listDue 20 = .ok (.invokevirtual 53, 3) := by decide +kernel
theorem dX2_listDue_23 : decode cX2_listDue 23 = .ok (.invokevirtual 54, 3) := by decide +kernel
theorem dX2_listDue_26 : decode cX2_listDue 26 = .ok (.astore_n 3, 1) := by decide +kernel
theorem dX2_listDue_27 : decode cX2_listDue 27 = .ok (.aload_n 3, 1) := by decide +kernel
theorem dX2_listDue_28 : decode cX2_listDue 28 = .ok (.ifnull 12, 3) := by decide +kernel
theorem dX2_listDue_31 : decode cX2_listDue 31 = .ok (.aload_n 3, 1) := by decide +kernel
theorem dX2_listDue_32 : decode cX2_listDue 32 = .ok (.aload_n 1, 1) := by decide +kernel
theorem dX2_listDue_33 : decode cX2_listDue 33 = .ok (.invokevirtual 58, 3) := by decide +kernel
theorem dX2_listDue_36 : decode cX2_listDue 36 = .ok (.iconst (-1), 1) := by decide +kernel
theorem dX2_listDue_37 : decode cX2_listDue 37 = .ok (.if_icmp .ne 11, 3) := by decide +kernel
theorem dX2_listDue_40 : decode cX2_listDue 40 = .ok (.aload_n 0, 1) := by decide +kernel
theorem dX2_listDue_41 : decode cX2_listDue 41 = .ok (.getfield 24, 3) := by decide +kernel
theorem dX2_listDue_44 : decode cX2_listDue 44 = .ok (.iload_n 2, 1) := by decide +kernel
theorem dX2_listDue_45 : decode cX2_listDue 45 = .ok (.invokevirtual 62, 3) := by decide +kernel
theorem dX2_listDue_48 : decode cX2_listDue 48 = .ok (.iinc 2 (-1), 3) := by decide +kernel
theorem dX2_listDue_51 : decode cX2_listDue 51 = .ok (.goto (-41), 3) := by decide +kernel
theorem dX2_listDue_54 : decode cX2_listDue 54 = .ok (.iconst 0, 1) := by decide +kernel
theorem dX2_listDue_55 : decode cX2_listDue 55 = .ok (.istore_n 2, 1) := by decide +kernel
theorem dX2_listDue_56 : decode cX2_listDue 56 = .ok (.iload_n 2, 1) := by decide +kernel
theorem dX2_listDue_57 : decode cX2_listDue 57 = .ok (.aload_n 0, 1) := by decide +kernel
theorem dX2_listDue_58 : decode cX2_listDue 58 = .ok (.getfield 35, 3) := by decide +kernel
theorem dX2_listDue_61 : decode cX2_listDue 61 = .ok (.if_icmp .ge 47, 3) := by decide +kernel
theorem dX2_listDue_64 : decode cX2_listDue 64 = .ok (.aload_n 0, 1) := by decide +kernel
theorem dX2_listDue_65 : decode cX2_listDue 65 = .ok (.iload_n 2, 1) := by decide +kernel
theorem dX2_listDue_66 : decode cX2_listDue 66 = .ok (.invokevirtual 54, 3) := by decide +kernel
theorem dX2_listDue_69 : decode cX2_listDue 69 = .ok (.astore_n 3, 1) := by decide +kernel
theorem dX2_listDue_70 : decode cX2_listDue 70 = .ok (.aload_n 3, 1) := by decide +kernel
theorem dX2_listDue_71 : decode cX2_listDue 71 = .ok (.ifnull 31, 3) := by decide +kernel
theorem dX2_listDue_74 : decode cX2_listDue 74 = .ok (.aload_n 3, 1) := by decide +kernel
theorem dX2_listDue_75 : decode cX2_listDue 75 = .ok (.aload_n 1, 1) := by decide +kernel
theorem dX2_listDue_76 : decode cX2_listDue 76 = .ok (.invokevirtual 58, 3) := by decide +kernel
theorem dX2_listDue_79 : decode cX2_listDue 79 = .ok (.iconst (-1), 1) := by decide +kernel
theorem dX2_listDue_80 : decode cX2_listDue 80 = .ok (.if_icmp .eq 22, 3) := by decide +kernel
theorem dX2_listDue_83 : decode cX2_listDue 83 = .ok (.aload_n 0, 1) := by decide +kernel
theorem dX2_listDue_84 : decode cX2_listDue 84 = .ok (.getfield 24, 3) := by decide +kernel
theorem dX2_listDue_87 : decode cX2_listDue 87 = .ok (.iload_n 2, 1) := by decide +kernel
theorem dX2_listDue_88 : decode cX2_listDue 88 = .ok (.invokevirtual 66, 3) := by decide +kernel
theorem dX2_listDue_91 : decode cX2_listDue 91 = .ok (.ifCond .ne 11, 3) := by decide +kernel
theorem dX2_listDue_94 : decode cX2_listDue 94 = .ok (.aload_n 0, 1) := by decide +kernel
theorem dX2_listDue_95 : decode cX2_listDue 95 = .ok (.getfield 24, 3) := by decide +kernel
theorem dX2_listDue_98 : decode cX2_listDue 98 = .ok (.iload_n 2, 1) := by decide +kernel
theorem dX2_listDue_99 : decode cX2_listDue 99 = .ok (.invokevirtual 70, 3) := by decide +kernel
theorem dX2_listDue_102 : decode cX2_listDue 102 = .ok (.iinc 2 1, 3) := by decide +kernel
theorem dX2_listDue_105 : decode cX2_listDue 105 = .ok (.goto (-49), 3) := by decide +kernel
theorem dX2_listDue_108 : decode cX2_listDue 108 = .ok (.return_, 1) := by decide +kernel
set_option maxRecDepth 20000 in
theorem ggX2_sharingWith_X4_at : GoodIn wsX2_sharingWith wsX4_at := goodIn_r _ [6, 7, 8, 9, 10] (by decide +kernel) (by decide +kernel)
set_option maxRecDepth 20000 in
theorem gX2_sharingWith_X4_at : GoodIn wsX2_sharingWith (wsV RX2 48 RX4 yX4_at wsX4_at) := goodIn_app (goodIn_of _ (by decide +kernel)) ggX2_sharingWith_X4_at
theorem dX2_sharingWith_0 : decode cX2_sharingWith 0 = .ok (.lconst 0, 1) := by decide +kernel
theorem dX2_sharingWith_1 : decode cX2_sharingWith 1 = .ok (.lstore_n 2, 1) := by decide +kernel
theorem dX2_sharingWith_2 : decode cX2_sharingWith 2 = .ok (.iconst 0, 1) := by decide +kernel
theorem dX2_sharingWith_3 : decode cX2_sharingWith 3 = .ok (.istore 4, 2) := by decide +kernel
theorem dX2_sharingWith_5 : decode cX2_sharingWith 5 = .ok (.iload 4, 2) := by decide +kernel
theorem dX2_sharingWith_7 : decode cX2_sharingWith 7 = .ok (.aload_n 1, 1) := by decide +kernel
theorem dX2_sharingWith_8 : decode cX2_sharingWith 8 = .ok (.getfield 43, 3) := by decide +kernel
theorem dX2_sharingWith_11 : decode cX2_sharingWith 11 = .ok (.if_icmp .ge 42, 3) := by decide +kernel
theorem dX2_sharingWith_14 : decode cX2_sharingWith 14 = .ok (.aload_n 1, 1) := by decide +kernel
theorem dX2_sharingWith_15 : decode cX2_sharingWith 15 = .ok (.iload 4, 2) := by decide +kernel
theorem dX2_sharingWith_17 : decode cX2_sharingWith 17 = .ok (.invokevirtual 48, 3) := by decide +kernel
theorem dX2_sharingWith_20 : decode cX2_sharingWith 20 = .ok (.istore 5, 2) := by decide +kernel
theorem dX2_sharingWith_22 : decode cX2_sharingWith 22 = .ok (.iload 5, 2) := by decide +kernel
theorem dX2_sharingWith_24 : decode cX2_sharingWith 24 = .ok (.ifCond .lt 23, 3) := by decide +kernel
theorem dX2_sharingWith_27 : decode cX2_sharingWith 27 = .ok (.iload 5, 2) := by decide +kernel
theorem dX2_sharingWith_29 : decode cX2_sharingWith 29 = .ok (.aload_n 0, 1) := by decide +kernel
theorem dX2_sharingWith_30 : decode cX2_sharingWith 30 = .ok (.getfield 17, 3) := by decide +kernel
theorem dX2_sharingWith_33 : decode cX2_sharingWith 33 = .ok (.arraylength, 1) := by decide +kernel
theorem dX2_sharingWith_34 : decode cX2_sharingWith 34 = .ok (.if_icmp .ge 13, 3) := by decide +kernel
theorem dX2_sharingWith_37 : decode cX2_sharingWith 37 = .ok (.lload_n 2, 1) := by decide +kernel
theorem dX2_sharingWith_38 : decode cX2_sharingWith 38 = .ok (.aload_n 0, 1) := by decide +kernel
theorem dX2_sharingWith_39 : decode cX2_sharingWith 39 = .ok (.getfield 17, 3) := by decide +kernel
theorem dX2_sharingWith_42 : decode cX2_sharingWith 42 = .ok (.iload 5, 2) := by decide +kernel
theorem dX2_sharingWith_44 : decode cX2_sharingWith 44 = .ok (.laload, 1) := by decide +kernel
theorem dX2_sharingWith_45 : decode cX2_sharingWith 45 = .ok (.lor, 1) := by decide +kernel
theorem dX2_sharingWith_46 : decode cX2_sharingWith 46 = .ok (.lstore_n 2, 1) := by decide +kernel
theorem dX2_sharingWith_47 : decode cX2_sharingWith 47 = .ok (.iinc 4 1, 3) := by decide +kernel
theorem dX2_sharingWith_50 : decode cX2_sharingWith 50 = .ok (.goto (-45), 3) := by decide +kernel
theorem dX2_sharingWith_53 : decode cX2_sharingWith 53 = .ok (.lload_n 2, 1) := by decide +kernel
theorem dX2_sharingWith_54 : decode cX2_sharingWith 54 = .ok (.lreturn, 1) := by decide +kernel
set_option maxRecDepth 20000 in
theorem ggX2_bestAmong_X2_sentenceAt : GoodIn wsX2_bestAmong wsX2_sentenceAt := goodIn_r _ [8, 9, 61, 62, 63, 64, 65] (by decide +kernel) (by decide +kernel)
set_option maxRecDepth 20000 in
theorem gX2_bestAmong_X2_sentenceAt : GoodIn wsX2_bestAmong (wsV RX2 54 RX2 yX2_sentenceAt wsX2_sentenceAt) := goodIn_app (goodIn_of _ (by decide +kernel)) ggX2_bestAmong_X2_sentenceAt
set_option maxRecDepth 20000 in
theorem ggX2_bestAmong_X1_holds : GoodIn wsX2_bestAmong wsX1_holds := goodIn_r _ [14, 15, 16, 17, 18, 13, 19, 20, 21, 22, 23, 24, 69, 70] (by decide +kernel) (by decide +kernel)
set_option maxRecDepth 20000 in
theorem gX2_bestAmong_X1_holds : GoodIn wsX2_bestAmong (wsV RX2 66 RX1 yX1_holds wsX1_holds) := goodIn_app (goodIn_of _ (by decide +kernel)) ggX2_bestAmong_X1_holds
set_option maxRecDepth 20000 in
theorem ggX2_bestAmong_X0_likenessOf : GoodIn wsX2_bestAmong wsX0_likenessOf := goodIn_r _ [29, 30, 31, 32, 33, 34, 35, 36, 28, 37, 38, 39, 40, 41, 42, 43, 44, 45, 46, 47, 48, 49, 50, 51, 52, 53, 54, 55, 56, 57, 58, 59, 60, 71, 72, 73] (by decide +kernel) (by decide +kernel)
set_option maxRecDepth 20000 in
theorem gX2_bestAmong_X0_likenessOf : GoodIn wsX2_bestAmong (wsV RX2 73 RX0 yX0_likenessOf wsX0_likenessOf) := goodIn_app (goodIn_of _ (by decide +kernel)) ggX2_bestAmong_X0_likenessOf
theorem dX2_bestAmong_0 : decode cX2_bestAmong 0 = .ok (.iconst (-1), 1) := by decide +kernel
theorem dX2_bestAmong_1 : decode cX2_bestAmong 1 = .ok (.istore 6, 2) := by decide +kernel
theorem dX2_bestAmong_3 : decode cX2_bestAmong 3 = .ok (.iconst 0, 1) := by decide +kernel
theorem dX2_bestAmong_4 : decode cX2_bestAmong 4 = .ok (.istore 7, 2) := by decide +kernel
theorem dX2_bestAmong_6 : decode cX2_bestAmong 6 = .ok (.iconst 0, 1) := by decide +kernel
theorem dX2_bestAmong_7 : decode cX2_bestAmong 7 = .ok (.istore 8, 2) := by decide +kernel
theorem dX2_bestAmong_9 : decode cX2_bestAmong 9 = .ok (.iconst 0, 1) := by decide +kernel
theorem dX2_bestAmong_10 : decode cX2_bestAmong 10 = .ok (.istore 9, 2) := by decide +kernel
theorem dX2_bestAmong_12 : decode cX2_bestAmong 12 = .ok (.iload 9, 2) := by decide +kernel
theorem dX2_bestAmong_14 : decode cX2_bestAmong 14 = .ok (.aload_n 0, 1) := by decide +kernel
theorem dX2_bestAmong_15 : decode cX2_bestAmong 15 = .ok (.getfield 35, 3) := by decide +kernel
theorem dX2_bestAmong_18 : decode cX2_bestAmong 18 = .ok (.if_icmp .ge 135, 3) := by decide +kernel
theorem dX2_bestAmong_21 : decode cX2_bestAmong 21 = .ok (.aload_n 0, 1) := by decide +kernel
theorem dX2_bestAmong_22 : decode cX2_bestAmong 22 = .ok (.iload 9, 2) := by decide +kernel
theorem dX2_bestAmong_24 : decode cX2_bestAmong 24 = .ok (.invokevirtual 54, 3) := by decide +kernel
theorem dX2_bestAmong_27 : decode cX2_bestAmong 27 = .ok (.astore 10, 2) := by decide +kernel
theorem dX2_bestAmong_29 : decode cX2_bestAmong 29 = .ok (.aload 10, 2) := by decide +kernel
theorem dX2_bestAmong_31 : decode cX2_bestAmong 31 = .ok (.ifnull 116, 3) := by decide +kernel
theorem dX2_bestAmong_34 : decode cX2_bestAmong 34 = .ok (.lload_n 1, 1) := by decide +kernel
theorem dX2_bestAmong_35 : decode cX2_bestAmong 35 = .ok (.iload 9, 2) := by decide +kernel
theorem dX2_bestAmong_37 : decode cX2_bestAmong 37 = .ok (.lshr, 1) := by decide +kernel
theorem dX2_bestAmong_38 : decode cX2_bestAmong 38 = .ok (.lconst 1, 1) := by decide +kernel
theorem dX2_bestAmong_39 : decode cX2_bestAmong 39 = .ok (.land, 1) := by decide +kernel
theorem dX2_bestAmong_40 : decode cX2_bestAmong 40 = .ok (.lconst 0, 1) := by decide +kernel
theorem dX2_bestAmong_41 : decode cX2_bestAmong 41 = .ok (.lcmp, 1) := by decide +kernel
theorem dX2_bestAmong_42 : decode cX2_bestAmong 42 = .ok (.ifCond .eq 105, 3) := by decide +kernel
theorem dX2_bestAmong_45 : decode cX2_bestAmong 45 = .ok (.aload_n 0, 1) := by decide +kernel
theorem dX2_bestAmong_46 : decode cX2_bestAmong 46 = .ok (.getfield 24, 3) := by decide +kernel
theorem dX2_bestAmong_49 : decode cX2_bestAmong 49 = .ok (.iload 9, 2) := by decide +kernel
theorem dX2_bestAmong_51 : decode cX2_bestAmong 51 = .ok (.invokevirtual 66, 3) := by decide +kernel
theorem dX2_bestAmong_54 : decode cX2_bestAmong 54 = .ok (.ifCond .eq 6, 3) := by decide +kernel
theorem dX2_bestAmong_57 : decode cX2_bestAmong 57 = .ok (.goto 90, 3) := by decide +kernel
theorem dX2_bestAmong_60 : decode cX2_bestAmong 60 = .ok (.aload_n 0, 1) := by decide +kernel
theorem dX2_bestAmong_61 : decode cX2_bestAmong 61 = .ok (.getfield 31, 3) := by decide +kernel
theorem dX2_bestAmong_64 : decode cX2_bestAmong 64 = .ok (.aload_n 3, 1) := by decide +kernel
theorem dX2_bestAmong_65 : decode cX2_bestAmong 65 = .ok (.aload 10, 2) := by decide +kernel
theorem dX2_bestAmong_67 : decode cX2_bestAmong 67 = .ok (.getfield 39, 3) := by decide +kernel
theorem dX2_bestAmong_70 : decode cX2_bestAmong 70 = .ok (.invokevirtual 73, 3) := by decide +kernel
theorem dX2_bestAmong_73 : decode cX2_bestAmong 73 = .ok (.istore 11, 2) := by decide +kernel
theorem dX2_bestAmong_75 : decode cX2_bestAmong 75 = .ok (.aload 10, 2) := by decide +kernel
theorem dX2_bestAmong_77 : decode cX2_bestAmong 77 = .ok (.getfield 77, 3) := by decide +kernel
theorem dX2_bestAmong_80 : decode cX2_bestAmong 80 = .ok (.iload 4, 2) := by decide +kernel
theorem dX2_bestAmong_82 : decode cX2_bestAmong 82 = .ok (.if_icmp .ne 7, 3) := by decide +kernel
theorem dX2_bestAmong_85 : decode cX2_bestAmong 85 = .ok (.iconst 1, 1) := by decide +kernel
theorem dX2_bestAmong_86 : decode cX2_bestAmong 86 = .ok (.goto 4, 3) := by decide +kernel
theorem dX2_bestAmong_89 : decode cX2_bestAmong 89 = .ok (.iconst 0, 1) := by decide +kernel
theorem dX2_bestAmong_90 : decode cX2_bestAmong 90 = .ok (.istore 12, 2) := by decide +kernel
theorem dX2_bestAmong_92 : decode cX2_bestAmong 92 = .ok (.iload 11, 2) := by decide +kernel
theorem dX2_bestAmong_94 : decode cX2_bestAmong 94 = .ok (.iload 7, 2) := by decide +kernel
theorem dX2_bestAmong_96 : decode cX2_bestAmong 96 = .ok (.if_icmp .ne 17, 3) := by decide +kernel
theorem dX2_bestAmong_99 : decode cX2_bestAmong 99 = .ok (.iload 12, 2) := by decide +kernel
theorem dX2_bestAmong_101 : decode cX2_bestAmong 101 = .ok (.ifCond .ne 8, 3) := by decide +kernel
theorem dX2_bestAmong_104 : decode cX2_bestAmong 104 = .ok (.iload 8, 2) := by decide +kernel
theorem dX2_bestAmong_106 : decode cX2_bestAmong 106 = .ok (.ifCond .ne 7, 3) := by decide +kernel
theorem dX2_bestAmong_109 : decode cX2_bestAmong 109 = .ok (.iconst 1, 1) := by decide +kernel
theorem dX2_bestAmong_110 : decode cX2_bestAmong 110 = .ok (.goto 4, 3) := by decide +kernel
theorem dX2_bestAmong_113 : decode cX2_bestAmong 113 = .ok (.iconst 0, 1) := by decide +kernel
theorem dX2_bestAmong_114 : decode cX2_bestAmong 114 = .ok (.istore 13, 2) := by decide +kernel
theorem dX2_bestAmong_116 : decode cX2_bestAmong 116 = .ok (.iload 11, 2) := by decide +kernel
theorem dX2_bestAmong_118 : decode cX2_bestAmong 118 = .ok (.iload 5, 2) := by decide +kernel
theorem dX2_bestAmong_120 : decode cX2_bestAmong 120 = .ok (.if_icmp .lt 27, 3) := by decide +kernel
theorem dX2_bestAmong_123 : decode cX2_bestAmong 123 = .ok (.iload 11, 2) := by decide +kernel
theorem dX2_bestAmong_125 : decode cX2_bestAmong 125 = .ok (.iload 7, 2) := by decide +kernel
theorem dX2_bestAmong_127 : decode cX2_bestAmong 127 = .ok (.if_icmp .gt 8, 3) := by decide +kernel
theorem dX2_bestAmong_130 : decode cX2_bestAmong 130 = .ok (.iload 13, 2) := by decide +kernel
theorem dX2_bestAmong_132 : decode cX2_bestAmong 132 = .ok (.ifCond .eq 15, 3) := by decide +kernel
theorem dX2_bestAmong_135 : decode cX2_bestAmong 135 = .ok (.iload 9, 2) := by decide +kernel
theorem dX2_bestAmong_137 : decode cX2_bestAmong 137 = .ok (.istore 6, 2) := by decide +kernel
theorem dX2_bestAmong_139 : decode cX2_bestAmong 139 = .ok (.iload 11, 2) := by decide +kernel
theorem dX2_bestAmong_141 : decode cX2_bestAmong 141 = .ok (.istore 7, 2) := by decide +kernel
theorem dX2_bestAmong_143 : decode cX2_bestAmong 143 = .ok (.iload 12, 2) := by decide +kernel
theorem dX2_bestAmong_145 : decode cX2_bestAmong 145 = .ok (.istore 8, 2) := by decide +kernel
theorem dX2_bestAmong_147 : decode cX2_bestAmong 147 = .ok (.iinc 9 1, 3) := by decide +kernel
theorem dX2_bestAmong_150 : decode cX2_bestAmong 150 = .ok (.goto (-138), 3) := by decide +kernel
theorem dX2_bestAmong_153 : decode cX2_bestAmong 153 = .ok (.iload 6, 2) := by decide +kernel
theorem dX2_bestAmong_155 : decode cX2_bestAmong 155 = .ok (.ireturn, 1) := by decide +kernel
set_option maxRecDepth 20000 in
theorem ggX2_shareOf_X2_sentenceAt : GoodIn wsX2_shareOf wsX2_sentenceAt := goodIn_r _ [6, 7, 44, 45, 46, 47, 48] (by decide +kernel) (by decide +kernel)
set_option maxRecDepth 20000 in
theorem gX2_shareOf_X2_sentenceAt : GoodIn wsX2_shareOf (wsV RX2 54 RX2 yX2_sentenceAt wsX2_sentenceAt) := goodIn_app (goodIn_of _ (by decide +kernel)) ggX2_shareOf_X2_sentenceAt
set_option maxRecDepth 20000 in
theorem ggX2_shareOf_X0_likenessOf : GoodIn wsX2_shareOf wsX0_likenessOf := goodIn_r _ [12, 13, 14, 15, 16, 17, 18, 19, 11, 20, 21, 22, 23, 24, 25, 26, 27, 28, 29, 30, 31, 32, 33, 34, 35, 36, 37, 38, 39, 40, 41, 42, 43, 52, 53, 54] (by decide +kernel) (by decide +kernel)
set_option maxRecDepth 20000 in
theorem gX2_shareOf_X0_likenessOf : GoodIn wsX2_shareOf (wsV RX2 73 RX0 yX0_likenessOf wsX0_likenessOf) := goodIn_app (goodIn_of _ (by decide +kernel)) ggX2_shareOf_X0_likenessOf
theorem dX2_shareOf_0 : decode cX2_shareOf 0 = .ok (.aload_n 0, 1) := by decide +kernel
theorem dX2_shareOf_1 : decode cX2_shareOf 1 = .ok (.iload_n 2, 1) := by decide +kernel
theorem dX2_shareOf_2 : decode cX2_shareOf 2 = .ok (.invokevirtual 54, 3) := by decide +kernel
theorem dX2_shareOf_5 : decode cX2_shareOf 5 = .ok (.astore_n 3, 1) := by decide +kernel
theorem dX2_shareOf_6 : decode cX2_shareOf 6 = .ok (.aload_n 3, 1) := by decide +kernel
theorem dX2_shareOf_7 : decode cX2_shareOf 7 = .ok (.ifnonnull 6, 3) := by decide +kernel
theorem dX2_shareOf_10 : decode cX2_shareOf 10 = .ok (.bipush 100, 2) := by decide +kernel
theorem dX2_shareOf_12 : decode cX2_shareOf 12 = .ok (.ireturn, 1) := by decide +kernel
theorem dX2_shareOf_13 : decode cX2_shareOf 13 = .ok (.aload_n 0, 1) := by decide +kernel
theorem dX2_shareOf_14 : decode cX2_shareOf 14 = .ok (.getfield 31, 3) := by decide +kernel
theorem dX2_shareOf_17 : decode cX2_shareOf 17 = .ok (.aload_n 1, 1) := by decide +kernel
theorem dX2_shareOf_18 : decode cX2_shareOf 18 = .ok (.aload_n 3, 1) := by decide +kernel
theorem dX2_shareOf_19 : decode cX2_shareOf 19 = .ok (.getfield 39, 3) := by decide +kernel
theorem dX2_shareOf_22 : decode cX2_shareOf 22 = .ok (.invokevirtual 73, 3) := by decide +kernel
theorem dX2_shareOf_25 : decode cX2_shareOf 25 = .ok (.istore 4, 2) := by decide +kernel
theorem dX2_shareOf_27 : decode cX2_shareOf 27 = .ok (.iload 4, 2) := by decide +kernel
theorem dX2_shareOf_29 : decode cX2_shareOf 29 = .ok (.bipush 100, 2) := by decide +kernel
theorem dX2_shareOf_31 : decode cX2_shareOf 31 = .ok (.if_icmp .lt 6, 3) := by decide +kernel
theorem dX2_shareOf_34 : decode cX2_shareOf 34 = .ok (.bipush 20, 2) := by decide +kernel
theorem dX2_shareOf_36 : decode cX2_shareOf 36 = .ok (.ireturn, 1) := by decide +kernel
theorem dX2_shareOf_37 : decode cX2_shareOf 37 = .ok (.iload 4, 2) := by decide +kernel
theorem dX2_shareOf_39 : decode cX2_shareOf 39 = .ok (.bipush 85, 2) := by decide +kernel
theorem dX2_shareOf_41 : decode cX2_shareOf 41 = .ok (.if_icmp .lt 6, 3) := by decide +kernel
theorem dX2_shareOf_44 : decode cX2_shareOf 44 = .ok (.bipush 50, 2) := by decide +kernel
theorem dX2_shareOf_46 : decode cX2_shareOf 46 = .ok (.ireturn, 1) := by decide +kernel
theorem dX2_shareOf_47 : decode cX2_shareOf 47 = .ok (.iload 4, 2) := by decide +kernel
theorem dX2_shareOf_49 : decode cX2_shareOf 49 = .ok (.bipush 70, 2) := by decide +kernel
theorem dX2_shareOf_51 : decode cX2_shareOf 51 = .ok (.if_icmp .lt 8, 3) := by decide +kernel
theorem dX2_shareOf_54 : decode cX2_shareOf 54 = .ok (.bipush 70, 2) := by decide +kernel
theorem dX2_shareOf_56 : decode cX2_shareOf 56 = .ok (.goto 5, 3) := by decide +kernel
theorem dX2_shareOf_59 : decode cX2_shareOf 59 = .ok (.bipush 90, 2) := by decide +kernel
theorem dX2_shareOf_61 : decode cX2_shareOf 61 = .ok (.ireturn, 1) := by decide +kernel
set_option maxRecDepth 20000 in
theorem ggX2_lendTo_X2_sentenceAt : GoodIn wsX2_lendTo wsX2_sentenceAt := goodIn_r _ [6, 7, 50, 51, 52, 53, 54] (by decide +kernel) (by decide +kernel)
set_option maxRecDepth 20000 in
theorem gX2_lendTo_X2_sentenceAt : GoodIn wsX2_lendTo (wsV RX2 54 RX2 yX2_sentenceAt wsX2_sentenceAt) := goodIn_app (goodIn_of _ (by decide +kernel)) ggX2_lendTo_X2_sentenceAt
set_option maxRecDepth 20000 in
theorem ggX2_lendTo_X0_compare : GoodIn wsX2_lendTo wsX0_compare := goodIn_r _ [12, 13, 14, 15, 16, 17, 18, 19, 20, 21, 22, 11, 23, 24, 25, 26, 27, 28, 29, 30, 31, 32, 33, 34, 35, 36, 58, 59, 60] (by decide +kernel) (by decide +kernel)
set_option maxRecDepth 20000 in
theorem gX2_lendTo_X0_compare : GoodIn wsX2_lendTo (wsV RX2 80 RX0 yX0_compare wsX0_compare) := goodIn_app (goodIn_of _ (by decide +kernel)) ggX2_lendTo_X0_compare
set_option maxRecDepth 20000 in
theorem ggX2_lendTo_X4_at : GoodIn wsX2_lendTo wsX4_at := goodIn_r _ [17, 18, 19, 58, 59] (by decide +kernel) (by decide +kernel)
set_option maxRecDepth 20000 in
theorem gX2_lendTo_X4_at : GoodIn wsX2_lendTo (wsV RX2 48 RX4 yX4_at wsX4_at) := goodIn_app (goodIn_of _ (by decide +kernel)) ggX2_lendTo_X4_at
set_option maxRecDepth 20000 in
theorem ggX2_lendTo_X4_put : GoodIn wsX2_lendTo wsX4_put := goodIn_r _ [41, 19, 42, 43, 44, 16, 45, 18, 58, 59] (by decide +kernel) (by decide +kernel)
set_option maxRecDepth 20000 in
theorem gX2_lendTo_X4_put : GoodIn wsX2_lendTo (wsV RX2 87 RX4 yX4_put wsX4_put) := goodIn_app (goodIn_of _ (by decide +kernel)) ggX2_lendTo_X4_put
set_option maxRecDepth 20000 in
theorem ggX2_lendTo_X0_skipBehind : GoodIn wsX2_lendTo wsX0_skipBehind := goodIn_r _ [49, 28, 29, 30, 11, 31, 32, 60] (by decide +kernel) (by decide +kernel)
set_option maxRecDepth 20000 in
theorem gX2_lendTo_X0_skipBehind : GoodIn wsX2_lendTo (wsV RX2 91 RX0 yX0_skipBehind wsX0_skipBehind) := goodIn_app (goodIn_of _ (by decide +kernel)) ggX2_lendTo_X0_skipBehind
theorem dX2_lendTo_0 : decode cX2_lendTo 0 = .ok (.aload_n 0, 1) := by decide +kernel
theorem dX2_lendTo_1 : decode cX2_lendTo 1 = .ok (.iload_n 2, 1) := by decide +kernel
theorem dX2_lendTo_2 : decode cX2_lendTo 2 = .ok (.invokevirtual 54, 3) := by decide +kernel
theorem dX2_lendTo_5 : decode cX2_lendTo 5 = .ok (.astore_n 3, 1) := by decide +kernel
theorem dX2_lendTo_6 : decode cX2_lendTo 6 = .ok (.aload_n 3, 1) := by decide +kernel
theorem dX2_lendTo_7 : decode cX2_lendTo 7 = .ok (.ifnonnull 4, 3) := by decide +kernel
theorem dX2_lendTo_10 : decode cX2_lendTo 10 = .ok (.return_, 1) := by decide +kernel
theorem dX2_lendTo_11 : decode cX2_lendTo 11 = .ok (.aload_n 0, 1) := by decide +kernel
theorem dX2_lendTo_12 : decode cX2_lendTo 12 = .ok (.getfield 31, 3) := by decide +kernel
theorem dX2_lendTo_15 : decode cX2_lendTo 15 = .ok (.aload_n 1, 1) := by decide +kernel
theorem dX2_lendTo_16 : decode cX2_lendTo 16 = .ok (.getfield 39, 3) := by decide +kernel
theorem dX2_lendTo_19 : decode cX2_lendTo 19 = .ok (.aload_n 3, 1) := by decide +kernel
theorem dX2_lendTo_20 : decode cX2_lendTo 20 = .ok (.getfield 39, 3) := by decide +kernel
theorem dX2_lendTo_23 : decode cX2_lendTo 23 = .ok (.invokevirtual 80, 3) := by decide +kernel
theorem dX2_lendTo_26 : decode cX2_lendTo 26 = .ok (.aload_n 1, 1) := by decide +kernel
theorem dX2_lendTo_27 : decode cX2_lendTo 27 = .ok (.getfield 39, 3) := by decide +kernel
theorem dX2_lendTo_30 : decode cX2_lendTo 30 = .ok (.getfield 43, 3) := by decide +kernel
theorem dX2_lendTo_33 : decode cX2_lendTo 33 = .ok (.istore 4, 2) := by decide +kernel
theorem dX2_lendTo_35 : decode cX2_lendTo 35 = .ok (.aload_n 3, 1) := by decide +kernel
theorem dX2_lendTo_36 : decode cX2_lendTo 36 = .ok (.getfield 39, 3) := by decide +kernel
theorem dX2_lendTo_39 : decode cX2_lendTo 39 = .ok (.getfield 43, 3) := by decide +kernel
theorem dX2_lendTo_42 : decode cX2_lendTo 42 = .ok (.istore 5, 2) := by decide +kernel
theorem dX2_lendTo_44 : decode cX2_lendTo 44 = .ok (.iconst 0, 1) := by decide +kernel
theorem dX2_lendTo_45 : decode cX2_lendTo 45 = .ok (.istore 6, 2) := by decide +kernel
theorem dX2_lendTo_47 : decode cX2_lendTo 47 = .ok (.iload 6, 2) := by decide +kernel
theorem dX2_lendTo_49 : decode cX2_lendTo 49 = .ok (.bipush 16, 2) := by decide +kernel
theorem dX2_lendTo_51 : decode cX2_lendTo 51 = .ok (.if_icmp .ge 115, 3) := by decide +kernel
theorem dX2_lendTo_54 : decode cX2_lendTo 54 = .ok (.iload 4, 2) := by decide +kernel
theorem dX2_lendTo_56 : decode cX2_lendTo 56 = .ok (.ifCond .le 110, 3) := by decide +kernel
theorem dX2_lendTo_59 : decode cX2_lendTo 59 = .ok (.iload 5, 2) := by decide +kernel
theorem dX2_lendTo_61 : decode cX2_lendTo 61 = .ok (.ifCond .le 105, 3) := by decide +kernel
theorem dX2_lendTo_64 : decode cX2_lendTo 64 = .ok (.aload_n 1, 1) := by decide +kernel
theorem dX2_lendTo_65 : decode cX2_lendTo 65 = .ok (.getfield 39, 3) := by decide +kernel
theorem dX2_lendTo_68 : decode cX2_lendTo 68 = .ok (.iload 4, 2) := by decide +kernel
theorem dX2_lendTo_70 : decode cX2_lendTo 70 = .ok (.iconst 1, 1) := by decide +kernel
theorem dX2_lendTo_71 : decode cX2_lendTo 71 = .ok (.isub, 1) := by decide +kernel
theorem dX2_lendTo_72 : decode cX2_lendTo 72 = .ok (.invokevirtual 48, 3) := by decide +kernel
theorem dX2_lendTo_75 : decode cX2_lendTo 75 = .ok (.aload_n 3, 1) := by decide +kernel
theorem dX2_lendTo_76 : decode cX2_lendTo 76 = .ok (.getfield 39, 3) := by decide +kernel
theorem dX2_lendTo_79 : decode cX2_lendTo 79 = .ok (.iload 5, 2) := by decide +kernel
theorem dX2_lendTo_81 : decode cX2_lendTo 81 = .ok (.iconst 1, 1) := by decide +kernel
theorem dX2_lendTo_82 : decode cX2_lendTo 82 = .ok (.isub, 1) := by decide +kernel
theorem dX2_lendTo_83 : decode cX2_lendTo 83 = .ok (.invokevirtual 48, 3) := by decide +kernel
theorem dX2_lendTo_86 : decode cX2_lendTo 86 = .ok (.if_icmp .ne 30, 3) := by decide +kernel
theorem dX2_lendTo_89 : decode cX2_lendTo 89 = .ok (.iinc 4 (-1), 3) := by decide +kernel
theorem dX2_lendTo_92 : decode cX2_lendTo 92 = .ok (.iinc 5 (-1), 3) := by decide +kernel
theorem dX2_lendTo_95 : decode cX2_lendTo 95 = .ok (.aload_n 1, 1) := by decide +kernel
theorem dX2_lendTo_96 : decode cX2_lendTo 96 = .ok (.getfield 84, 3) := by decide +kernel
theorem dX2_lendTo_99 : decode cX2_lendTo 99 = .ok (.iload 4, 2) := by decide +kernel
theorem dX2_lendTo_101 : decode cX2_lendTo 101 = .ok (.aload_n 3, 1) := by decide +kernel
theorem dX2_lendTo_102 : decode cX2_lendTo 102 = .ok (.getfield 84, 3) := by decide +kernel
theorem dX2_lendTo_105 : decode cX2_lendTo 105 = .ok (.iload 5, 2) := by decide +kernel
theorem dX2_lendTo_107 : decode cX2_lendTo 107 = .ok (.invokevirtual 48, 3) := by decide +kernel
theorem dX2_lendTo_110 : decode cX2_lendTo 110 = .ok (.invokevirtual 87, 3) := by decide +kernel
theorem dX2_lendTo_113 : decode cX2_lendTo 113 = .ok (.goto 47, 3) := by decide +kernel
theorem dX2_lendTo_116 : decode cX2_lendTo 116 = .ok (.aload_n 0, 1) := by decide +kernel
theorem dX2_lendTo_117 : decode cX2_lendTo 117 = .ok (.getfield 31, 3) := by decide +kernel
theorem dX2_lendTo_120 : decode cX2_lendTo 120 = .ok (.iload 4, 2) := by decide +kernel
theorem dX2_lendTo_122 : decode cX2_lendTo 122 = .ok (.iload 5, 2) := by decide +kernel
theorem dX2_lendTo_124 : decode cX2_lendTo 124 = .ok (.invokevirtual 91, 3) := by decide +kernel
theorem dX2_lendTo_127 : decode cX2_lendTo 127 = .ok (.istore 7, 2) := by decide +kernel
theorem dX2_lendTo_129 : decode cX2_lendTo 129 = .ok (.iload 4, 2) := by decide +kernel
theorem dX2_lendTo_131 : decode cX2_lendTo 131 = .ok (.iload 7, 2) := by decide +kernel
theorem dX2_lendTo_133 : decode cX2_lendTo 133 = .ok (.iconst 1, 1) := by decide +kernel
theorem dX2_lendTo_134 : decode cX2_lendTo 134 = .ok (.if_icmp .ne 7, 3) := by decide +kernel
theorem dX2_lendTo_137 : decode cX2_lendTo 137 = .ok (.iconst 0, 1) := by decide +kernel
theorem dX2_lendTo_138 : decode cX2_lendTo 138 = .ok (.goto 4, 3) := by decide +kernel
theorem dX2_lendTo_141 : decode cX2_lendTo 141 = .ok (.iconst 1, 1) := by decide +kernel
theorem dX2_lendTo_142 : decode cX2_lendTo 142 = .ok (.isub, 1) := by decide +kernel
theorem dX2_lendTo_143 : decode cX2_lendTo 143 = .ok (.istore 4, 2) := by decide +kernel
theorem dX2_lendTo_145 : decode cX2_lendTo 145 = .ok (.iload 5, 2) := by decide +kernel
theorem dX2_lendTo_147 : decode cX2_lendTo 147 = .ok (.iload 7, 2) := by decide +kernel
theorem dX2_lendTo_149 : decode cX2_lendTo 149 = .ok (.ifCond .ne 7, 3) := by decide +kernel
theorem dX2_lendTo_152 : decode cX2_lendTo 152 = .ok (.iconst 0, 1) := by decide +kernel
theorem dX2_lendTo_153 : decode cX2_lendTo 153 = .ok (.goto 4, 3) := by decide +kernel
theorem dX2_lendTo_156 : decode cX2_lendTo 156 = .ok (.iconst 1, 1) := by decide +kernel
theorem dX2_lendTo_157 : decode cX2_lendTo 157 = .ok (.isub, 1) := by decide +kernel
theorem dX2_lendTo_158 : decode cX2_lendTo 158 = .ok (.istore 5, 2) := by decide +kernel
theorem dX2_lendTo_160 : decode cX2_lendTo 160 = .ok (.iinc 6 1, 3) := by decide +kernel
theorem dX2_lendTo_163 : decode cX2_lendTo 163 = .ok (.goto (-116), 3) := by decide +kernel
theorem dX2_lendTo_166 : decode cX2_lendTo 166 = .ok (.return_, 1) := by decide +kernel
theorem dX3_init_0 : decode cX3_init 0 = .ok (.aload_n 0, 1) := by decide +kernel
theorem dX3_init_1 : decode cX3_init 1 = .ok (.invokespecial 3, 3) := by decide +kernel
theorem dX3_init_4 : decode cX3_init 4 = .ok (.aload_n 0, 1) := by decide +kernel
theorem dX3_init_5 : decode cX3_init 5 = .ok (.iconst (-1), 1) := by decide +kernel
theorem dX3_init_6 : decode cX3_init 6 = .ok (.putfield 9, 3) := by decide +kernel
theorem dX3_init_9 : decode cX3_init 9 = .ok (.aload_n 0, 1) := by decide +kernel
theorem dX3_init_10 : decode cX3_init 10 = .ok (.iconst (-1), 1) := by decide +kernel
theorem dX3_init_11 : decode cX3_init 11 = .ok (.putfield 15, 3) := by decide +kernel
theorem dX3_init_14 : decode cX3_init 14 = .ok (.aload_n 0, 1) := by decide +kernel
theorem dX3_init_15 : decode cX3_init 15 = .ok (.iconst 0, 1) := by decide +kernel
theorem dX3_init_16 : decode cX3_init 16 = .ok (.putfield 18, 3) := by decide +kernel
theorem dX3_init_19 : decode cX3_init 19 = .ok (.aload_n 0, 1) := by decide +kernel
theorem dX3_init_20 : decode cX3_init 20 = .ok (.iconst 0, 1) := by decide +kernel
theorem dX3_init_21 : decode cX3_init 21 = .ok (.putfield 21, 3) := by decide +kernel
theorem dX3_init_24 : decode cX3_init 24 = .ok (.aload_n 0, 1) := by decide +kernel
theorem dX3_init_25 : decode cX3_init 25 = .ok (.iload_n 1, 1) := by decide +kernel
theorem dX3_init_26 : decode cX3_init 26 = .ok (.putfield 24, 3) := by decide +kernel
theorem dX3_init_29 : decode cX3_init 29 = .ok (.aload_n 0, 1) := by decide +kernel
theorem dX3_init_30 : decode cX3_init 30 = .ok (.iload_n 2, 1) := by decide +kernel
theorem dX3_init_31 : decode cX3_init 31 = .ok (.putfield 27, 3) := by decide +kernel
theorem dX3_init_34 : decode cX3_init 34 = .ok (.aload_n 0, 1) := by decide +kernel
theorem dX3_init_35 : decode cX3_init 35 = .ok (.aload_n 3, 1) := by decide +kernel
theorem dX3_init_36 : decode cX3_init 36 = .ok (.putfield 31, 3) := by decide +kernel
theorem dX3_init_39 : decode cX3_init 39 = .ok (.return_, 1) := by decide +kernel
set_option maxRecDepth 20000 in
theorem ggX3_whyNot_X6_firstOpen : GoodIn wsX3_whyNot wsX6_firstOpen := goodIn_r _ [6, 7, 8, 9, 10, 11, 12, 13, 14, 47, 48, 49, 50, 51] (by decide +kernel) (by decide +kernel)
set_option maxRecDepth 20000 in
theorem gX3_whyNot_X6_firstOpen : GoodIn wsX3_whyNot (wsV RX3 35 RX6 yX6_firstOpen wsX6_firstOpen) := goodIn_app (goodIn_of _ (by decide +kernel)) ggX3_whyNot_X6_firstOpen
set_option maxRecDepth 20000 in
theorem ggX3_whyNot_X3_firstBroken : GoodIn wsX3_whyNot wsX3_firstBroken := goodIn_r _ [19, 20, 1, 21, 22, 23, 5, 24, 25, 26, 27, 28, 29, 30, 7, 8, 9, 10, 11, 12, 13, 14, 31, 32, 33, 34, 35, 36, 37, 38, 39, 40, 41, 42, 43, 44, 45, 46, 47, 48, 49, 50, 51, 52, 53, 54] (by decide +kernel) (by decide +kernel)
set_option maxRecDepth 20000 in
theorem gX3_whyNot_X3_firstBroken : GoodIn wsX3_whyNot (wsV RX3 41 RX3 yX3_firstBroken wsX3_firstBroken) := goodIn_app (goodIn_of _ (by decide +kernel)) ggX3_whyNot_X3_firstBroken
theorem dX3_whyNot_0 : decode cX3_whyNot 0 = .ok (.aload_n 0, 1) := by decide +kernel
theorem dX3_whyNot_1 : decode cX3_whyNot 1 = .ok (.getfield 31, 3) := by decide +kernel
theorem dX3_whyNot_4 : decode cX3_whyNot 4 = .ok (.invokevirtual 35, 3) := by decide +kernel
theorem dX3_whyNot_7 : decode cX3_whyNot 7 = .ok (.iconst (-1), 1) := by decide +kernel
theorem dX3_whyNot_8 : decode cX3_whyNot 8 = .ok (.if_icmp .eq 5, 3) := by decide +kernel
theorem dX3_whyNot_11 : decode cX3_whyNot 11 = .ok (.iconst 1, 1) := by decide +kernel
theorem dX3_whyNot_12 : decode cX3_whyNot 12 = .ok (.ireturn, 1) := by decide +kernel
theorem dX3_whyNot_13 : decode cX3_whyNot 13 = .ok (.aload_n 0, 1) := by decide +kernel
theorem dX3_whyNot_14 : decode cX3_whyNot 14 = .ok (.aload_n 1, 1) := by decide +kernel
theorem dX3_whyNot_15 : decode cX3_whyNot 15 = .ok (.invokevirtual 41, 3) := by decide +kernel
theorem dX3_whyNot_18 : decode cX3_whyNot 18 = .ok (.iconst (-1), 1) := by decide +kernel
theorem dX3_whyNot_19 : decode cX3_whyNot 19 = .ok (.if_icmp .eq 7, 3) := by decide +kernel
theorem dX3_whyNot_22 : decode cX3_whyNot 22 = .ok (.iconst 2, 1) := by decide +kernel
theorem dX3_whyNot_23 : decode cX3_whyNot 23 = .ok (.goto 4, 3) := by decide +kernel
theorem dX3_whyNot_26 : decode cX3_whyNot 26 = .ok (.iconst 0, 1) := by decide +kernel
theorem dX3_whyNot_27 : decode cX3_whyNot 27 = .ok (.ireturn, 1) := by decide +kernel
set_option maxRecDepth 20000 in
theorem ggX3_whereNot_X6_firstOpen : GoodIn wsX3_whereNot wsX6_firstOpen := goodIn_r _ [6, 7, 8, 9, 10, 11, 12, 13, 14, 47, 48, 49, 50, 51] (by decide +kernel) (by decide +kernel)
set_option maxRecDepth 20000 in
theorem gX3_whereNot_X6_firstOpen : GoodIn wsX3_whereNot (wsV RX3 35 RX6 yX6_firstOpen wsX6_firstOpen) := goodIn_app (goodIn_of _ (by decide +kernel)) ggX3_whereNot_X6_firstOpen
set_option maxRecDepth 20000 in
theorem ggX3_whereNot_X3_firstBroken : GoodIn wsX3_whereNot wsX3_firstBroken := goodIn_r _ [19, 20, 1, 21, 22, 23, 5, 24, 25, 26, 27, 28, 29, 30, 7, 8, 9, 10, 11, 12, 13, 14, 31, 32, 33, 34, 35, 36, 37, 38, 39, 40, 41, 42, 43, 44, 45, 46, 47, 48, 49, 50, 51, 52, 53, 54] (by decide +kernel) (by decide +kernel)
set_option maxRecDepth 20000 in
theorem gX3_whereNot_X3_firstBroken : GoodIn wsX3_whereNot (wsV RX3 41 RX3 yX3_firstBroken wsX3_firstBroken) := goodIn_app (goodIn_of _ (by decide +kernel)) ggX3_whereNot_X3_firstBroken
theorem dX3_whereNot_0 : decode cX3_whereNot 0 = .ok (.aload_n 0, 1) := by decide +kernel
theorem dX3_whereNot_1 : decode cX3_whereNot 1 = .ok (.getfield 31, 3) := by decide +kernel
theorem dX3_whereNot_4 : decode cX3_whereNot 4 = .ok (.invokevirtual 35, 3) := by decide +kernel
theorem dX3_whereNot_7 : decode cX3_whereNot 7 = .ok (.istore_n 2, 1) := by decide +kernel
theorem dX3_whereNot_8 : decode cX3_whereNot 8 = .ok (.iload_n 2, 1) := by decide +kernel
theorem dX3_whereNot_9 : decode cX3_whereNot 9 = .ok (.iconst (-1), 1) := by decide +kernel
theorem dX3_whereNot_10 : decode cX3_whereNot 10 = .ok (.if_icmp .eq 7, 3) := by decide +kernel
theorem dX3_whereNot_13 : decode cX3_whereNot 13 = .ok (.iload_n 2, 1) := by decide +kernel
theorem dX3_whereNot_14 : decode cX3_whereNot 14 = .ok (.goto 8, 3) := by decide +kernel
theorem dX3_whereNot_17 : decode cX3_whereNot 17 = .ok (.aload_n 0, 1) := by decide +kernel
theorem dX3_whereNot_18 : decode cX3_whereNot 18 = .ok (.aload_n 1, 1) := by decide +kernel
theorem dX3_whereNot_19 : decode cX3_whereNot 19 = .ok (.invokevirtual 41, 3) := by decide +kernel
theorem dX3_whereNot_22 : decode cX3_whereNot 22 = .ok (.ireturn, 1) := by decide +kernel
set_option maxRecDepth 20000 in
theorem ggX3_firstBroken_X6_firstAstray : GoodIn wsX3_firstBroken wsX6_firstAstray := goodIn_r _ [7, 8, 9, 10, 11, 6, 12, 13, 14, 15, 16, 17, 18, 19, 20, 21, 22, 23, 24, 25, 26, 27, 28, 29, 30, 38, 39, 40, 41, 42, 43, 44, 45] (by decide +kernel) (by decide +kernel)
set_option maxRecDepth 20000 in
theorem gX3_firstBroken_X6_firstAstray : GoodIn wsX3_firstBroken (wsV RX3 45 RX6 yX6_firstAstray wsX6_firstAstray) := goodIn_app (goodIn_of _ (by decide +kernel)) ggX3_firstBroken_X6_firstAstray
theorem dX3_firstBroken_0 : decode cX3_firstBroken 0 = .ok (.aload_n 0, 1) := by decide +kernel
theorem dX3_firstBroken_1 : decode cX3_firstBroken 1 = .ok (.getfield 27, 3) := by decide +kernel
theorem dX3_firstBroken_4 : decode cX3_firstBroken 4 = .ok (.ifCond .eq 7, 3) := by decide +kernel
theorem dX3_firstBroken_7 : decode cX3_firstBroken 7 = .ok (.iconst (-1), 1) := by decide +kernel
theorem dX3_firstBroken_8 : decode cX3_firstBroken 8 = .ok (.goto 11, 3) := by decide +kernel
theorem dX3_firstBroken_11 : decode cX3_firstBroken 11 = .ok (.aload_n 0, 1) := by decide +kernel
theorem dX3_firstBroken_12 : decode cX3_firstBroken 12 = .ok (.getfield 31, 3) := by decide +kernel
theorem dX3_firstBroken_15 : decode cX3_firstBroken 15 = .ok (.aload_n 1, 1) := by decide +kernel
theorem dX3_firstBroken_16 : decode cX3_firstBroken 16 = .ok (.invokevirtual 45, 3) := by decide +kernel
theorem dX3_firstBroken_19 : decode cX3_firstBroken 19 = .ok (.ireturn, 1) := by decide +kernel
theorem dX4_init_0 : decode cX4_init 0 = .ok (.aload_n 0, 1) := by decide +kernel
theorem dX4_init_1 : decode cX4_init 1 = .ok (.invokespecial 3, 3) := by decide +kernel
theorem dX4_init_4 : decode cX4_init 4 = .ok (.aload_n 0, 1) := by decide +kernel
theorem dX4_init_5 : decode cX4_init 5 = .ok (.bipush 8, 2) := by decide +kernel
theorem dX4_init_7 : decode cX4_init 7 = .ok (.newarray .int, 2) := by decide +kernel
theorem dX4_init_9 : decode cX4_init 9 = .ok (.putfield 9, 3) := by decide +kernel
theorem dX4_init_12 : decode cX4_init 12 = .ok (.aload_n 0, 1) := by decide +kernel
theorem dX4_init_13 : decode cX4_init 13 = .ok (.iconst 0, 1) := by decide +kernel
theorem dX4_init_14 : decode cX4_init 14 = .ok (.putfield 15, 3) := by decide +kernel
theorem dX4_init_17 : decode cX4_init 17 = .ok (.return_, 1) := by decide +kernel
theorem dX4_has_0 : decode cX4_has 0 = .ok (.iload_n 1, 1) := by decide +kernel
theorem dX4_has_1 : decode cX4_has 1 = .ok (.ifCond .lt 24, 3) := by decide +kernel
theorem dX4_has_4 : decode cX4_has 4 = .ok (.iload_n 1, 1) := by decide +kernel
theorem dX4_has_5 : decode cX4_has 5 = .ok (.aload_n 0, 1) := by decide +kernel
theorem dX4_has_6 : decode cX4_has 6 = .ok (.getfield 15, 3) := by decide +kernel
theorem dX4_has_9 : decode cX4_has 9 = .ok (.if_icmp .ge 16, 3) := by decide +kernel
theorem dX4_has_12 : decode cX4_has 12 = .ok (.iload_n 1, 1) := by decide +kernel
theorem dX4_has_13 : decode cX4_has 13 = .ok (.aload_n 0, 1) := by decide +kernel
theorem dX4_has_14 : decode cX4_has 14 = .ok (.getfield 9, 3) := by decide +kernel
theorem dX4_has_17 : decode cX4_has 17 = .ok (.arraylength, 1) := by decide +kernel
theorem dX4_has_18 : decode cX4_has 18 = .ok (.if_icmp .ge 7, 3) := by decide +kernel
theorem dX4_has_21 : decode cX4_has 21 = .ok (.iconst 1, 1) := by decide +kernel
theorem dX4_has_22 : decode cX4_has 22 = .ok (.goto 4, 3) := by decide +kernel
theorem dX4_has_25 : decode cX4_has 25 = .ok (.iconst 0, 1) := by decide +kernel
theorem dX4_has_26 : decode cX4_has 26 = .ok (.ireturn, 1) := by decide +kernel
theorem dX4_at_0 : decode cX4_at 0 = .ok (.iload_n 1, 1) := by decide +kernel
theorem dX4_at_1 : decode cX4_at 1 = .ok (.ifCond .lt 29, 3) := by decide +kernel
theorem dX4_at_4 : decode cX4_at 4 = .ok (.iload_n 1, 1) := by decide +kernel
theorem dX4_at_5 : decode cX4_at 5 = .ok (.aload_n 0, 1) := by decide +kernel
theorem dX4_at_6 : decode cX4_at 6 = .ok (.getfield 15, 3) := by decide +kernel
theorem dX4_at_9 : decode cX4_at 9 = .ok (.if_icmp .ge 21, 3) := by decide +kernel
theorem dX4_at_12 : decode cX4_at 12 = .ok (.iload_n 1, 1) := by decide +kernel
theorem dX4_at_13 : decode cX4_at 13 = .ok (.aload_n 0, 1) := by decide +kernel
theorem dX4_at_14 : decode cX4_at 14 = .ok (.getfield 9, 3) := by decide +kernel
theorem dX4_at_17 : decode cX4_at 17 = .ok (.arraylength, 1) := by decide +kernel
theorem dX4_at_18 : decode cX4_at 18 = .ok (.if_icmp .ge 12, 3) := by decide +kernel
theorem dX4_at_21 : decode cX4_at 21 = .ok (.aload_n 0, 1) := by decide +kernel
theorem dX4_at_22 : decode cX4_at 22 = .ok (.getfield 9, 3) := by decide +kernel
theorem dX4_at_25 : decode cX4_at 25 = .ok (.iload_n 1, 1) := by decide +kernel
theorem dX4_at_26 : decode cX4_at 26 = .ok (.iaload, 1) := by decide +kernel
theorem dX4_at_27 : decode cX4_at 27 = .ok (.goto 4, 3) := by decide +kernel
theorem dX4_at_30 : decode cX4_at 30 = .ok (.iconst (-1), 1) := by decide +kernel
theorem dX4_at_31 : decode cX4_at 31 = .ok (.ireturn, 1) := by decide +kernel
set_option maxRecDepth 20000 in
theorem ggX4_put_X4_has : GoodIn wsX4_put wsX4_has := goodIn_r _ [6, 7, 1, 8, 9] (by decide +kernel) (by decide +kernel)
set_option maxRecDepth 20000 in
theorem gX4_put_X4_has : GoodIn wsX4_put (wsV RX4 19 RX4 yX4_has wsX4_has) := goodIn_app (goodIn_of _ (by decide +kernel)) ggX4_put_X4_has
theorem dX4_put_0 : decode cX4_put 0 = .ok (.aload_n 0, 1) := by decide +kernel
theorem dX4_put_1 : decode cX4_put 1 = .ok (.iload_n 1, 1) := by decide +kernel
theorem dX4_put_2 : decode cX4_put 2 = .ok (.invokevirtual 19, 3) := by decide +kernel
theorem dX4_put_5 : decode cX4_put 5 = .ok (.ifCond .eq 10, 3) := by decide +kernel
theorem dX4_put_8 : decode cX4_put 8 = .ok (.aload_n 0, 1) := by decide +kernel
theorem dX4_put_9 : decode cX4_put 9 = .ok (.getfield 9, 3) := by decide +kernel
theorem dX4_put_12 : decode cX4_put 12 = .ok (.iload_n 1, 1) := by decide +kernel
theorem dX4_put_13 : decode cX4_put 13 = .ok (.iload_n 2, 1) := by decide +kernel
theorem dX4_put_14 : decode cX4_put 14 = .ok (.iastore, 1) := by decide +kernel
theorem dX4_put_15 : decode cX4_put 15 = .ok (.return_, 1) := by decide +kernel
theorem dX4_append_0 : decode cX4_append 0 = .ok (.aload_n 0, 1) := by decide +kernel
theorem dX4_append_1 : decode cX4_append 1 = .ok (.getfield 15, 3) := by decide +kernel
theorem dX4_append_4 : decode cX4_append 4 = .ok (.istore_n 2, 1) := by decide +kernel
theorem dX4_append_5 : decode cX4_append 5 = .ok (.iload_n 2, 1) := by decide +kernel
theorem dX4_append_6 : decode cX4_append 6 = .ok (.ifCond .lt 26, 3) := by decide +kernel
theorem dX4_append_9 : decode cX4_append 9 = .ok (.iload_n 2, 1) := by decide +kernel
theorem dX4_append_10 : decode cX4_append 10 = .ok (.aload_n 0, 1) := by decide +kernel
theorem dX4_append_11 : decode cX4_append 11 = .ok (.getfield 9, 3) := by decide +kernel
theorem dX4_append_14 : decode cX4_append 14 = .ok (.arraylength, 1) := by decide +kernel
theorem dX4_append_15 : decode cX4_append 15 = .ok (.if_icmp .ge 17, 3) := by decide +kernel
theorem dX4_append_18 : decode cX4_append 18 = .ok (.aload_n 0, 1) := by decide +kernel
theorem dX4_append_19 : decode cX4_append 19 = .ok (.getfield 9, 3) := by decide +kernel
theorem dX4_append_22 : decode cX4_append 22 = .ok (.iload_n 2, 1) := by decide +kernel
theorem dX4_append_23 : decode cX4_append 23 = .ok (.iload_n 1, 1) := by decide +kernel
theorem dX4_append_24 : decode cX4_append 24 = .ok (.iastore, 1) := by decide +kernel
theorem dX4_append_25 : decode cX4_append 25 = .ok (.aload_n 0, 1) := by decide +kernel
theorem dX4_append_26 : decode cX4_append 26 = .ok (.iload_n 2, 1) := by decide +kernel
theorem dX4_append_27 : decode cX4_append 27 = .ok (.iconst 1, 1) := by decide +kernel
theorem dX4_append_28 : decode cX4_append 28 = .ok (.iadd, 1) := by decide +kernel
theorem dX4_append_29 : decode cX4_append 29 = .ok (.putfield 15, 3) := by decide +kernel
theorem dX4_append_32 : decode cX4_append 32 = .ok (.return_, 1) := by decide +kernel
set_option maxRecDepth 20000 in
theorem ggX5_init_J7_fill_53178 : GoodIn wsX5_init wsJ7_fill_53178 := goodIn_r _ [11] (by decide +kernel) (by decide +kernel)
set_option maxRecDepth 20000 in
theorem gX5_init_J7_fill_53178 : GoodIn wsX5_init (va_wsS RX5 21 yJ7_fill_53178 wsJ7_fill_53178) := goodIn_app (goodIn_of _ (by decide +kernel)) ggX5_init_J7_fill_53178
theorem dX5_init_0 : decode cX5_init 0 = .ok (.aload_n 0, 1) := by decide +kernel
theorem dX5_init_1 : decode cX5_init 1 = .ok (.invokespecial 3, 3) := by decide +kernel
theorem dX5_init_4 : decode cX5_init 4 = .ok (.aload_n 0, 1) := by decide +kernel
theorem dX5_init_5 : decode cX5_init 5 = .ok (.sipush 600, 3) := by decide +kernel
theorem dX5_init_8 : decode cX5_init 8 = .ok (.newarray .int, 2) := by decide +kernel
theorem dX5_init_10 : decode cX5_init 10 = .ok (.putfield 9, 3) := by decide +kernel
theorem dX5_init_13 : decode cX5_init 13 = .ok (.aload_n 0, 1) := by decide +kernel
theorem dX5_init_14 : decode cX5_init 14 = .ok (.sipush 200, 3) := by decide +kernel
theorem dX5_init_17 : decode cX5_init 17 = .ok (.newarray .int, 2) := by decide +kernel
theorem dX5_init_19 : decode cX5_init 19 = .ok (.putfield 15, 3) := by decide +kernel
theorem dX5_init_22 : decode cX5_init 22 = .ok (.aload_n 0, 1) := by decide +kernel
theorem dX5_init_23 : decode cX5_init 23 = .ok (.sipush 200, 3) := by decide +kernel
theorem dX5_init_26 : decode cX5_init 26 = .ok (.newarray .int, 2) := by decide +kernel
theorem dX5_init_28 : decode cX5_init 28 = .ok (.putfield 18, 3) := by decide +kernel
theorem dX5_init_31 : decode cX5_init 31 = .ok (.aload_n 0, 1) := by decide +kernel
theorem dX5_init_32 : decode cX5_init 32 = .ok (.getfield 9, 3) := by decide +kernel
theorem dX5_init_35 : decode cX5_init 35 = .ok (.iconst (-1), 1) := by decide +kernel
theorem dX5_init_36 : decode cX5_init 36 = .ok (.invokestatic 21, 3) := by decide +kernel
theorem dX5_init_39 : decode cX5_init 39 = .ok (.aload_n 0, 1) := by decide +kernel
theorem dX5_init_40 : decode cX5_init 40 = .ok (.getfield 15, 3) := by decide +kernel
theorem dX5_init_43 : decode cX5_init 43 = .ok (.iconst (-1), 1) := by decide +kernel
theorem dX5_init_44 : decode cX5_init 44 = .ok (.invokestatic 21, 3) := by decide +kernel
theorem dX5_init_47 : decode cX5_init 47 = .ok (.return_, 1) := by decide +kernel
theorem dX5_slotOf_0 : decode cX5_slotOf 0 = .ok (.iload_n 0, 1) := by decide +kernel
theorem dX5_slotOf_1 : decode cX5_slotOf 1 = .ok (.ifCond .lt 22, 3) := by decide +kernel
theorem dX5_slotOf_4 : decode cX5_slotOf 4 = .ok (.iload_n 0, 1) := by decide +kernel
theorem dX5_slotOf_5 : decode cX5_slotOf 5 = .ok (.iconst 4, 1) := by decide +kernel
theorem dX5_slotOf_6 : decode cX5_slotOf 6 = .ok (.if_icmp .ge 17, 3) := by decide +kernel
theorem dX5_slotOf_9 : decode cX5_slotOf 9 = .ok (.iload_n 1, 1) := by decide +kernel
theorem dX5_slotOf_10 : decode cX5_slotOf 10 = .ok (.ifCond .lt 13, 3) := by decide +kernel
theorem dX5_slotOf_13 : decode cX5_slotOf 13 = .ok (.iload_n 1, 1) := by decide +kernel
theorem dX5_slotOf_14 : decode cX5_slotOf 14 = .ok (.bipush 50, 2) := by decide +kernel
theorem dX5_slotOf_16 : decode cX5_slotOf 16 = .ok (.if_icmp .ge 7, 3) := by decide +kernel
theorem dX5_slotOf_19 : decode cX5_slotOf 19 = .ok (.iconst 1, 1) := by decide +kernel
theorem dX5_slotOf_20 : decode cX5_slotOf 20 = .ok (.goto 4, 3) := by decide +kernel
theorem dX5_slotOf_23 : decode cX5_slotOf 23 = .ok (.iconst 0, 1) := by decide +kernel
theorem dX5_slotOf_24 : decode cX5_slotOf 24 = .ok (.istore_n 2, 1) := by decide +kernel
theorem dX5_slotOf_25 : decode cX5_slotOf 25 = .ok (.iload_n 2, 1) := by decide +kernel
theorem dX5_slotOf_26 : decode cX5_slotOf 26 = .ok (.ifCond .eq 12, 3) := by decide +kernel
theorem dX5_slotOf_29 : decode cX5_slotOf 29 = .ok (.iload_n 0, 1) := by decide +kernel
theorem dX5_slotOf_30 : decode cX5_slotOf 30 = .ok (.bipush 50, 2) := by decide +kernel
theorem dX5_slotOf_32 : decode cX5_slotOf 32 = .ok (.imul, 1) := by decide +kernel
theorem dX5_slotOf_33 : decode cX5_slotOf 33 = .ok (.iload_n 1, 1) := by decide +kernel
theorem dX5_slotOf_34 : decode cX5_slotOf 34 = .ok (.iadd, 1) := by decide +kernel
theorem dX5_slotOf_35 : decode cX5_slotOf 35 = .ok (.goto 4, 3) := by decide +kernel
theorem dX5_slotOf_38 : decode cX5_slotOf 38 = .ok (.iconst (-1), 1) := by decide +kernel
theorem dX5_slotOf_39 : decode cX5_slotOf 39 = .ok (.ireturn, 1) := by decide +kernel
set_option maxRecDepth 20000 in
theorem ggX5_rulingOf_X5_slotOf : GoodIn wsX5_rulingOf wsX5_slotOf := goodIn_r _ [5] (by decide +kernel) (by decide +kernel)
set_option maxRecDepth 20000 in
theorem gX5_rulingOf_X5_slotOf : GoodIn wsX5_rulingOf (va_wsS RX5 27 yX5_slotOf wsX5_slotOf) := goodIn_app (goodIn_of _ (by decide +kernel)) ggX5_rulingOf_X5_slotOf
theorem dX5_rulingOf_0 : decode cX5_rulingOf 0 = .ok (.iload_n 1, 1) := by decide +kernel
theorem dX5_rulingOf_1 : decode cX5_rulingOf 1 = .ok (.iload_n 2, 1) := by decide +kernel
theorem dX5_rulingOf_2 : decode cX5_rulingOf 2 = .ok (.invokestatic 27, 3) := by decide +kernel
theorem dX5_rulingOf_5 : decode cX5_rulingOf 5 = .ok (.istore_n 3, 1) := by decide +kernel
theorem dX5_rulingOf_6 : decode cX5_rulingOf 6 = .ok (.iload_n 3, 1) := by decide +kernel
theorem dX5_rulingOf_7 : decode cX5_rulingOf 7 = .ok (.ifCond .lt 21, 3) := by decide +kernel
theorem dX5_rulingOf_10 : decode cX5_rulingOf 10 = .ok (.iload_n 3, 1) := by decide +kernel
theorem dX5_rulingOf_11 : decode cX5_rulingOf 11 = .ok (.aload_n 0, 1) := by decide +kernel
theorem dX5_rulingOf_12 : decode cX5_rulingOf 12 = .ok (.getfield 15, 3) := by decide +kernel
theorem dX5_rulingOf_15 : decode cX5_rulingOf 15 = .ok (.arraylength, 1) := by decide +kernel
theorem dX5_rulingOf_16 : decode cX5_rulingOf 16 = .ok (.if_icmp .ge 12, 3) := by decide +kernel
theorem dX5_rulingOf_19 : decode cX5_rulingOf 19 = .ok (.aload_n 0, 1) := by decide +kernel
theorem dX5_rulingOf_20 : decode cX5_rulingOf 20 = .ok (.getfield 15, 3) := by decide +kernel
theorem dX5_rulingOf_23 : decode cX5_rulingOf 23 = .ok (.iload_n 3, 1) := by decide +kernel
theorem dX5_rulingOf_24 : decode cX5_rulingOf 24 = .ok (.iaload, 1) := by decide +kernel
theorem dX5_rulingOf_25 : decode cX5_rulingOf 25 = .ok (.goto 4, 3) := by decide +kernel
theorem dX5_rulingOf_28 : decode cX5_rulingOf 28 = .ok (.iconst (-1), 1) := by decide +kernel
theorem dX5_rulingOf_29 : decode cX5_rulingOf 29 = .ok (.ireturn, 1) := by decide +kernel
set_option maxRecDepth 20000 in
theorem ggX5_soldAtChange_X5_slotOf : GoodIn wsX5_soldAtChange wsX5_slotOf := goodIn_r _ [5] (by decide +kernel) (by decide +kernel)
set_option maxRecDepth 20000 in
theorem gX5_soldAtChange_X5_slotOf : GoodIn wsX5_soldAtChange (va_wsS RX5 27 yX5_slotOf wsX5_slotOf) := goodIn_app (goodIn_of _ (by decide +kernel)) ggX5_soldAtChange_X5_slotOf
theorem dX5_soldAtChange_0 : decode cX5_soldAtChange 0 = .ok (.iload_n 1, 1) := by decide +kernel
theorem dX5_soldAtChange_1 : decode cX5_soldAtChange 1 = .ok (.iload_n 2, 1) := by decide +kernel
theorem dX5_soldAtChange_2 : decode cX5_soldAtChange 2 = .ok (.invokestatic 27, 3) := by decide +kernel
theorem dX5_soldAtChange_5 : decode cX5_soldAtChange 5 = .ok (.istore_n 3, 1) := by decide +kernel
theorem dX5_soldAtChange_6 : decode cX5_soldAtChange 6 = .ok (.iload_n 3, 1) := by decide +kernel
theorem dX5_soldAtChange_7 : decode cX5_soldAtChange 7 = .ok (.ifCond .lt 21, 3) := by decide +kernel
theorem dX5_soldAtChange_10 : decode cX5_soldAtChange 10 = .ok (.iload_n 3, 1) := by decide +kernel
theorem dX5_soldAtChange_11 : decode cX5_soldAtChange 11 = .ok (.aload_n 0, 1) := by decide +kernel
theorem dX5_soldAtChange_12 : decode cX5_soldAtChange 12 = .ok (.getfield 18, 3) := by decide +kernel
theorem dX5_soldAtChange_15 : decode cX5_soldAtChange 15 = .ok (.arraylength, 1) := by decide +kernel
theorem dX5_soldAtChange_16 : decode cX5_soldAtChange 16 = .ok (.if_icmp .ge 12, 3) := by decide +kernel
theorem dX5_soldAtChange_19 : decode cX5_soldAtChange 19 = .ok (.aload_n 0, 1) := by decide +kernel
theorem dX5_soldAtChange_20 : decode cX5_soldAtChange 20 = .ok (.getfield 18, 3) := by decide +kernel
theorem dX5_soldAtChange_23 : decode cX5_soldAtChange 23 = .ok (.iload_n 3, 1) := by decide +kernel
theorem dX5_soldAtChange_24 : decode cX5_soldAtChange 24 = .ok (.iaload, 1) := by decide +kernel
theorem dX5_soldAtChange_25 : decode cX5_soldAtChange 25 = .ok (.goto 4, 3) := by decide +kernel
theorem dX5_soldAtChange_28 : decode cX5_soldAtChange 28 = .ok (.iconst 0, 1) := by decide +kernel
theorem dX5_soldAtChange_29 : decode cX5_soldAtChange 29 = .ok (.ireturn, 1) := by decide +kernel
set_option maxRecDepth 20000 in
theorem ggX5_hear_X5_agreedOn : GoodIn wsX5_hear wsX5_agreedOn := goodIn_r _ [8, 9, 10, 11, 7, 12, 3, 13, 14, 15] (by decide +kernel) (by decide +kernel)
set_option maxRecDepth 20000 in
theorem gX5_hear_X5_agreedOn : GoodIn wsX5_hear (wsV RX5 31 RX5 yX5_agreedOn wsX5_agreedOn) := goodIn_app (goodIn_of _ (by decide +kernel)) ggX5_hear_X5_agreedOn
theorem dX5_hear_0 : decode cX5_hear 0 = .ok (.iload_n 1, 1) := by decide +kernel
theorem dX5_hear_1 : decode cX5_hear 1 = .ok (.iconst 4, 1) := by decide +kernel
theorem dX5_hear_2 : decode cX5_hear 2 = .ok (.imul, 1) := by decide +kernel
theorem dX5_hear_3 : decode cX5_hear 3 = .ok (.bipush 50, 2) := by decide +kernel
theorem dX5_hear_5 : decode cX5_hear 5 = .ok (.imul, 1) := by decide +kernel
theorem dX5_hear_6 : decode cX5_hear 6 = .ok (.iload_n 2, 1) := by decide +kernel
theorem dX5_hear_7 : decode cX5_hear 7 = .ok (.iadd, 1) := by decide +kernel
theorem dX5_hear_8 : decode cX5_hear 8 = .ok (.istore 5, 2) := by decide +kernel
theorem dX5_hear_10 : decode cX5_hear 10 = .ok (.iload_n 2, 1) := by decide +kernel
theorem dX5_hear_11 : decode cX5_hear 11 = .ok (.ifCond .lt 36, 3) := by decide +kernel
theorem dX5_hear_14 : decode cX5_hear 14 = .ok (.iload_n 2, 1) := by decide +kernel
theorem dX5_hear_15 : decode cX5_hear 15 = .ok (.aload_n 0, 1) := by decide +kernel
theorem dX5_hear_16 : decode cX5_hear 16 = .ok (.getfield 15, 3) := by decide +kernel
theorem dX5_hear_19 : decode cX5_hear 19 = .ok (.arraylength, 1) := by decide +kernel
theorem dX5_hear_20 : decode cX5_hear 20 = .ok (.if_icmp .ge 27, 3) := by decide +kernel
theorem dX5_hear_23 : decode cX5_hear 23 = .ok (.iload_n 2, 1) := by decide +kernel
theorem dX5_hear_24 : decode cX5_hear 24 = .ok (.aload_n 0, 1) := by decide +kernel
theorem dX5_hear_25 : decode cX5_hear 25 = .ok (.getfield 18, 3) := by decide +kernel
theorem dX5_hear_28 : decode cX5_hear 28 = .ok (.arraylength, 1) := by decide +kernel
theorem dX5_hear_29 : decode cX5_hear 29 = .ok (.if_icmp .ge 18, 3) := by decide +kernel
theorem dX5_hear_32 : decode cX5_hear 32 = .ok (.iload 5, 2) := by decide +kernel
theorem dX5_hear_34 : decode cX5_hear 34 = .ok (.ifCond .lt 13, 3) := by decide +kernel
theorem dX5_hear_37 : decode cX5_hear 37 = .ok (.iload 5, 2) := by decide +kernel
theorem dX5_hear_39 : decode cX5_hear 39 = .ok (.aload_n 0, 1) := by decide +kernel
theorem dX5_hear_40 : decode cX5_hear 40 = .ok (.getfield 9, 3) := by decide +kernel
theorem dX5_hear_43 : decode cX5_hear 43 = .ok (.arraylength, 1) := by decide +kernel
theorem dX5_hear_44 : decode cX5_hear 44 = .ok (.if_icmp .lt 4, 3) := by decide +kernel
theorem dX5_hear_47 : decode cX5_hear 47 = .ok (.return_, 1) := by decide +kernel
theorem dX5_hear_48 : decode cX5_hear 48 = .ok (.aload_n 0, 1) := by decide +kernel
theorem dX5_hear_49 : decode cX5_hear 49 = .ok (.getfield 9, 3) := by decide +kernel
theorem dX5_hear_52 : decode cX5_hear 52 = .ok (.iload 5, 2) := by decide +kernel
theorem dX5_hear_54 : decode cX5_hear 54 = .ok (.iload_n 3, 1) := by decide +kernel
theorem dX5_hear_55 : decode cX5_hear 55 = .ok (.iastore, 1) := by decide +kernel
theorem dX5_hear_56 : decode cX5_hear 56 = .ok (.aload_n 0, 1) := by decide +kernel
theorem dX5_hear_57 : decode cX5_hear 57 = .ok (.iload_n 2, 1) := by decide +kernel
theorem dX5_hear_58 : decode cX5_hear 58 = .ok (.invokevirtual 31, 3) := by decide +kernel
theorem dX5_hear_61 : decode cX5_hear 61 = .ok (.istore 6, 2) := by decide +kernel
theorem dX5_hear_63 : decode cX5_hear 63 = .ok (.iload 6, 2) := by decide +kernel
theorem dX5_hear_65 : decode cX5_hear 65 = .ok (.aload_n 0, 1) := by decide +kernel
theorem dX5_hear_66 : decode cX5_hear 66 = .ok (.getfield 15, 3) := by decide +kernel
theorem dX5_hear_69 : decode cX5_hear 69 = .ok (.iload_n 2, 1) := by decide +kernel
theorem dX5_hear_70 : decode cX5_hear 70 = .ok (.iaload, 1) := by decide +kernel
theorem dX5_hear_71 : decode cX5_hear 71 = .ok (.if_icmp .eq 19, 3) := by decide +kernel
theorem dX5_hear_74 : decode cX5_hear 74 = .ok (.aload_n 0, 1) := by decide +kernel
theorem dX5_hear_75 : decode cX5_hear 75 = .ok (.getfield 15, 3) := by decide +kernel
theorem dX5_hear_78 : decode cX5_hear 78 = .ok (.iload_n 2, 1) := by decide +kernel
theorem dX5_hear_79 : decode cX5_hear 79 = .ok (.iload 6, 2) := by decide +kernel
theorem dX5_hear_81 : decode cX5_hear 81 = .ok (.iastore, 1) := by decide +kernel
theorem dX5_hear_82 : decode cX5_hear 82 = .ok (.aload_n 0, 1) := by decide +kernel
theorem dX5_hear_83 : decode cX5_hear 83 = .ok (.getfield 18, 3) := by decide +kernel
theorem dX5_hear_86 : decode cX5_hear 86 = .ok (.iload_n 2, 1) := by decide +kernel
theorem dX5_hear_87 : decode cX5_hear 87 = .ok (.iload 4, 2) := by decide +kernel
theorem dX5_hear_89 : decode cX5_hear 89 = .ok (.iastore, 1) := by decide +kernel
theorem dX5_hear_90 : decode cX5_hear 90 = .ok (.return_, 1) := by decide +kernel
set_option maxRecDepth 20000 in
theorem ggX5_agreedOn_X5_saidBy : GoodIn wsX5_agreedOn wsX5_saidBy := goodIn_r _ [5, 6, 7, 8, 9] (by decide +kernel) (by decide +kernel)
set_option maxRecDepth 20000 in
theorem gX5_agreedOn_X5_saidBy : GoodIn wsX5_agreedOn (wsV RX5 35 RX5 yX5_saidBy wsX5_saidBy) := goodIn_app (goodIn_of _ (by decide +kernel)) ggX5_agreedOn_X5_saidBy
theorem dX5_agreedOn_0 : decode cX5_agreedOn 0 = .ok (.aload_n 0, 1) := by decide +kernel
theorem dX5_agreedOn_1 : decode cX5_agreedOn 1 = .ok (.iconst 0, 1) := by decide +kernel
theorem dX5_agreedOn_2 : decode cX5_agreedOn 2 = .ok (.iload_n 1, 1) := by decide +kernel
theorem dX5_agreedOn_3 : decode cX5_agreedOn 3 = .ok (.invokevirtual 35, 3) := by decide +kernel
theorem dX5_agreedOn_6 : decode cX5_agreedOn 6 = .ok (.istore_n 2, 1) := by decide +kernel
theorem dX5_agreedOn_7 : decode cX5_agreedOn 7 = .ok (.aload_n 0, 1) := by decide +kernel
theorem dX5_agreedOn_8 : decode cX5_agreedOn 8 = .ok (.iconst 1, 1) := by decide +kernel
theorem dX5_agreedOn_9 : decode cX5_agreedOn 9 = .ok (.iload_n 1, 1) := by decide +kernel
theorem dX5_agreedOn_10 : decode cX5_agreedOn 10 = .ok (.invokevirtual 35, 3) := by decide +kernel
theorem dX5_agreedOn_13 : decode cX5_agreedOn 13 = .ok (.istore_n 3, 1) := by decide +kernel
theorem dX5_agreedOn_14 : decode cX5_agreedOn 14 = .ok (.aload_n 0, 1) := by decide +kernel
theorem dX5_agreedOn_15 : decode cX5_agreedOn 15 = .ok (.iconst 2, 1) := by decide +kernel
theorem dX5_agreedOn_16 : decode cX5_agreedOn 16 = .ok (.iload_n 1, 1) := by decide +kernel
theorem dX5_agreedOn_17 : decode cX5_agreedOn 17 = .ok (.invokevirtual 35, 3) := by decide +kernel
theorem dX5_agreedOn_20 : decode cX5_agreedOn 20 = .ok (.istore 4, 2) := by decide +kernel
theorem dX5_agreedOn_22 : decode cX5_agreedOn 22 = .ok (.iload_n 2, 1) := by decide +kernel
theorem dX5_agreedOn_23 : decode cX5_agreedOn 23 = .ok (.iload_n 3, 1) := by decide +kernel
theorem dX5_agreedOn_24 : decode cX5_agreedOn 24 = .ok (.if_icmp .eq 9, 3) := by decide +kernel
theorem dX5_agreedOn_27 : decode cX5_agreedOn 27 = .ok (.iload_n 2, 1) := by decide +kernel
theorem dX5_agreedOn_28 : decode cX5_agreedOn 28 = .ok (.iload 4, 2) := by decide +kernel
theorem dX5_agreedOn_30 : decode cX5_agreedOn 30 = .ok (.if_icmp .ne 5, 3) := by decide +kernel
theorem dX5_agreedOn_33 : decode cX5_agreedOn 33 = .ok (.iload_n 2, 1) := by decide +kernel
theorem dX5_agreedOn_34 : decode cX5_agreedOn 34 = .ok (.ireturn, 1) := by decide +kernel
theorem dX5_agreedOn_35 : decode cX5_agreedOn 35 = .ok (.iload_n 3, 1) := by decide +kernel
theorem dX5_agreedOn_36 : decode cX5_agreedOn 36 = .ok (.iload 4, 2) := by decide +kernel
theorem dX5_agreedOn_38 : decode cX5_agreedOn 38 = .ok (.if_icmp .ne 7, 3) := by decide +kernel
theorem dX5_agreedOn_41 : decode cX5_agreedOn 41 = .ok (.iload_n 3, 1) := by decide +kernel
theorem dX5_agreedOn_42 : decode cX5_agreedOn 42 = .ok (.goto 4, 3) := by decide +kernel
theorem dX5_agreedOn_45 : decode cX5_agreedOn 45 = .ok (.iconst (-1), 1) := by decide +kernel
theorem dX5_agreedOn_46 : decode cX5_agreedOn 46 = .ok (.ireturn, 1) := by decide +kernel
theorem dX5_saidBy_0 : decode cX5_saidBy 0 = .ok (.iload_n 1, 1) := by decide +kernel
theorem dX5_saidBy_1 : decode cX5_saidBy 1 = .ok (.iconst 4, 1) := by decide +kernel
theorem dX5_saidBy_2 : decode cX5_saidBy 2 = .ok (.imul, 1) := by decide +kernel
theorem dX5_saidBy_3 : decode cX5_saidBy 3 = .ok (.bipush 50, 2) := by decide +kernel
theorem dX5_saidBy_5 : decode cX5_saidBy 5 = .ok (.imul, 1) := by decide +kernel
theorem dX5_saidBy_6 : decode cX5_saidBy 6 = .ok (.iload_n 2, 1) := by decide +kernel
theorem dX5_saidBy_7 : decode cX5_saidBy 7 = .ok (.iadd, 1) := by decide +kernel
theorem dX5_saidBy_8 : decode cX5_saidBy 8 = .ok (.istore_n 3, 1) := by decide +kernel
theorem dX5_saidBy_9 : decode cX5_saidBy 9 = .ok (.iload_n 3, 1) := by decide +kernel
theorem dX5_saidBy_10 : decode cX5_saidBy 10 = .ok (.ifCond .lt 21, 3) := by decide +kernel
theorem dX5_saidBy_13 : decode cX5_saidBy 13 = .ok (.iload_n 3, 1) := by decide +kernel
theorem dX5_saidBy_14 : decode cX5_saidBy 14 = .ok (.aload_n 0, 1) := by decide +kernel
theorem dX5_saidBy_15 : decode cX5_saidBy 15 = .ok (.getfield 9, 3) := by decide +kernel
theorem dX5_saidBy_18 : decode cX5_saidBy 18 = .ok (.arraylength, 1) := by decide +kernel
theorem dX5_saidBy_19 : decode cX5_saidBy 19 = .ok (.if_icmp .ge 12, 3) := by decide +kernel
theorem dX5_saidBy_22 : decode cX5_saidBy 22 = .ok (.aload_n 0, 1) := by decide +kernel
theorem dX5_saidBy_23 : decode cX5_saidBy 23 = .ok (.getfield 9, 3) := by decide +kernel
theorem dX5_saidBy_26 : decode cX5_saidBy 26 = .ok (.iload_n 3, 1) := by decide +kernel
theorem dX5_saidBy_27 : decode cX5_saidBy 27 = .ok (.iaload, 1) := by decide +kernel
theorem dX5_saidBy_28 : decode cX5_saidBy 28 = .ok (.goto 4, 3) := by decide +kernel
theorem dX5_saidBy_31 : decode cX5_saidBy 31 = .ok (.iconst (-1), 1) := by decide +kernel
theorem dX5_saidBy_32 : decode cX5_saidBy 32 = .ok (.ireturn, 1) := by decide +kernel
set_option maxRecDepth 20000 in
theorem ggX6_init_X4_init : GoodIn wsX6_init wsX4_init := goodIn_r _ [11, 12, 2, 3, 13, 14, 15, 24, 25] (by decide +kernel) (by decide +kernel)
set_option maxRecDepth 20000 in
theorem gX6_init_X4_init_n11 : GoodIn wsX6_init (wsX4_init) := ggX6_init_X4_init
set_option maxRecDepth 20000 in
theorem ggX6_init_X4_at : GoodIn wsX6_init wsX4_at := goodIn_r _ [19, 15, 14, 24, 25] (by decide +kernel) (by decide +kernel)
set_option maxRecDepth 20000 in
theorem gX6_init_X4_at : GoodIn wsX6_init (wsV RX6 28 RX4 yX4_at wsX4_at) := goodIn_app (goodIn_of _ (by decide +kernel)) ggX6_init_X4_at
set_option maxRecDepth 20000 in
theorem ggX6_init_X4_append : GoodIn wsX6_init wsX4_append := goodIn_r _ [23, 15, 14, 24, 25] (by decide +kernel) (by decide +kernel)
set_option maxRecDepth 20000 in
theorem gX6_init_X4_append : GoodIn wsX6_init (wsV RX6 32 RX4 yX4_append wsX4_append) := goodIn_app (goodIn_of _ (by decide +kernel)) ggX6_init_X4_append
theorem dX6_init_0 : decode cX6_init 0 = .ok (.aload_n 0, 1) := by decide +kernel
theorem dX6_init_1 : decode cX6_init 1 = .ok (.invokespecial 3, 3) := by decide +kernel
theorem dX6_init_4 : decode cX6_init 4 = .ok (.aload_n 0, 1) := by decide +kernel
theorem dX6_init_5 : decode cX6_init 5 = .ok (.new 9, 3) := by decide +kernel
theorem dX6_init_8 : decode cX6_init 8 = .ok (.dup, 1) := by decide +kernel
theorem dX6_init_9 : decode cX6_init 9 = .ok (.invokespecial 11, 3) := by decide +kernel
theorem dX6_init_12 : decode cX6_init 12 = .ok (.putfield 12, 3) := by decide +kernel
theorem dX6_init_15 : decode cX6_init 15 = .ok (.aload_n 0, 1) := by decide +kernel
theorem dX6_init_16 : decode cX6_init 16 = .ok (.new 9, 3) := by decide +kernel
theorem dX6_init_19 : decode cX6_init 19 = .ok (.dup, 1) := by decide +kernel
theorem dX6_init_20 : decode cX6_init 20 = .ok (.invokespecial 11, 3) := by decide +kernel
theorem dX6_init_23 : decode cX6_init 23 = .ok (.putfield 18, 3) := by decide +kernel
theorem dX6_init_26 : decode cX6_init 26 = .ok (.aload_n 0, 1) := by decide +kernel
theorem dX6_init_27 : decode cX6_init 27 = .ok (.iload_n 1, 1) := by decide +kernel
theorem dX6_init_28 : decode cX6_init 28 = .ok (.putfield 21, 3) := by decide +kernel
theorem dX6_init_31 : decode cX6_init 31 = .ok (.iconst 0, 1) := by decide +kernel
theorem dX6_init_32 : decode cX6_init 32 = .ok (.istore_n 3, 1) := by decide +kernel
theorem dX6_init_33 : decode cX6_init 33 = .ok (.iload_n 3, 1) := by decide +kernel
theorem dX6_init_34 : decode cX6_init 34 = .ok (.aload_n 2, 1) := by decide +kernel
theorem dX6_init_35 : decode cX6_init 35 = .ok (.getfield 25, 3) := by decide +kernel
theorem dX6_init_38 : decode cX6_init 38 = .ok (.if_icmp .ge 29, 3) := by decide +kernel
theorem dX6_init_41 : decode cX6_init 41 = .ok (.aload_n 0, 1) := by decide +kernel
theorem dX6_init_42 : decode cX6_init 42 = .ok (.getfield 12, 3) := by decide +kernel
theorem dX6_init_45 : decode cX6_init 45 = .ok (.aload_n 2, 1) := by decide +kernel
theorem dX6_init_46 : decode cX6_init 46 = .ok (.iload_n 3, 1) := by decide +kernel
theorem dX6_init_47 : decode cX6_init 47 = .ok (.invokevirtual 28, 3) := by decide +kernel
theorem dX6_init_50 : decode cX6_init 50 = .ok (.invokevirtual 32, 3) := by decide +kernel
theorem dX6_init_53 : decode cX6_init 53 = .ok (.aload_n 0, 1) := by decide +kernel
theorem dX6_init_54 : decode cX6_init 54 = .ok (.getfield 18, 3) := by decide +kernel
theorem dX6_init_57 : decode cX6_init 57 = .ok (.iconst (-1), 1) := by decide +kernel
theorem dX6_init_58 : decode cX6_init 58 = .ok (.invokevirtual 32, 3) := by decide +kernel
theorem dX6_init_61 : decode cX6_init 61 = .ok (.iinc 3 1, 3) := by decide +kernel
theorem dX6_init_64 : decode cX6_init 64 = .ok (.goto (-31), 3) := by decide +kernel
theorem dX6_init_67 : decode cX6_init 67 = .ok (.return_, 1) := by decide +kernel
set_option maxRecDepth 20000 in
theorem ggX6_forgetAll_X4_put : GoodIn wsX6_forgetAll wsX4_put := goodIn_r _ [6, 7, 8, 9, 10, 5, 11, 12, 16, 17] (by decide +kernel) (by decide +kernel)
set_option maxRecDepth 20000 in
theorem gX6_forgetAll_X4_put : GoodIn wsX6_forgetAll (wsV RX6 36 RX4 yX4_put wsX4_put) := goodIn_app (goodIn_of _ (by decide +kernel)) ggX6_forgetAll_X4_put
theorem dX6_forgetAll_0 : decode cX6_forgetAll 0 = .ok (.iconst 0, 1) := by decide +kernel
theorem dX6_forgetAll_1 : decode cX6_forgetAll 1 = .ok (.istore_n 1, 1) := by decide +kernel
theorem dX6_forgetAll_2 : decode cX6_forgetAll 2 = .ok (.iload_n 1, 1) := by decide +kernel
theorem dX6_forgetAll_3 : decode cX6_forgetAll 3 = .ok (.aload_n 0, 1) := by decide +kernel
theorem dX6_forgetAll_4 : decode cX6_forgetAll 4 = .ok (.getfield 18, 3) := by decide +kernel
theorem dX6_forgetAll_7 : decode cX6_forgetAll 7 = .ok (.getfield 25, 3) := by decide +kernel
theorem dX6_forgetAll_10 : decode cX6_forgetAll 10 = .ok (.if_icmp .ge 18, 3) := by decide +kernel
theorem dX6_forgetAll_13 : decode cX6_forgetAll 13 = .ok (.aload_n 0, 1) := by decide +kernel
theorem dX6_forgetAll_14 : decode cX6_forgetAll 14 = .ok (.getfield 18, 3) := by decide +kernel
theorem dX6_forgetAll_17 : decode cX6_forgetAll 17 = .ok (.iload_n 1, 1) := by decide +kernel
theorem dX6_forgetAll_18 : decode cX6_forgetAll 18 = .ok (.iconst (-1), 1) := by decide +kernel
theorem dX6_forgetAll_19 : decode cX6_forgetAll 19 = .ok (.invokevirtual 36, 3) := by decide +kernel
theorem dX6_forgetAll_22 : decode cX6_forgetAll 22 = .ok (.iinc 1 1, 3) := by decide +kernel
theorem dX6_forgetAll_25 : decode cX6_forgetAll 25 = .ok (.goto (-23), 3) := by decide +kernel
theorem dX6_forgetAll_28 : decode cX6_forgetAll 28 = .ok (.return_, 1) := by decide +kernel
set_option maxRecDepth 20000 in
theorem ggX6_countOpen_X4_at : GoodIn wsX6_countOpen wsX4_at := goodIn_r _ [6, 7, 8, 12, 13] (by decide +kernel) (by decide +kernel)
set_option maxRecDepth 20000 in
theorem gX6_countOpen_X4_at : GoodIn wsX6_countOpen (wsV RX6 28 RX4 yX4_at wsX4_at) := goodIn_app (goodIn_of _ (by decide +kernel)) ggX6_countOpen_X4_at
theorem dX6_countOpen_0 : decode cX6_countOpen 0 = .ok (.iconst 0, 1) := by decide +kernel
theorem dX6_countOpen_1 : decode cX6_countOpen 1 = .ok (.istore_n 1, 1) := by decide +kernel
theorem dX6_countOpen_2 : decode cX6_countOpen 2 = .ok (.iconst 0, 1) := by decide +kernel
theorem dX6_countOpen_3 : decode cX6_countOpen 3 = .ok (.istore_n 2, 1) := by decide +kernel
theorem dX6_countOpen_4 : decode cX6_countOpen 4 = .ok (.iload_n 2, 1) := by decide +kernel
theorem dX6_countOpen_5 : decode cX6_countOpen 5 = .ok (.aload_n 0, 1) := by decide +kernel
theorem dX6_countOpen_6 : decode cX6_countOpen 6 = .ok (.getfield 18, 3) := by decide +kernel
theorem dX6_countOpen_9 : decode cX6_countOpen 9 = .ok (.getfield 25, 3) := by decide +kernel
theorem dX6_countOpen_12 : decode cX6_countOpen 12 = .ok (.if_icmp .ge 24, 3) := by decide +kernel
theorem dX6_countOpen_15 : decode cX6_countOpen 15 = .ok (.aload_n 0, 1) := by decide +kernel
theorem dX6_countOpen_16 : decode cX6_countOpen 16 = .ok (.getfield 18, 3) := by decide +kernel
theorem dX6_countOpen_19 : decode cX6_countOpen 19 = .ok (.iload_n 2, 1) := by decide +kernel
theorem dX6_countOpen_20 : decode cX6_countOpen 20 = .ok (.invokevirtual 28, 3) := by decide +kernel
theorem dX6_countOpen_23 : decode cX6_countOpen 23 = .ok (.iconst (-1), 1) := by decide +kernel
theorem dX6_countOpen_24 : decode cX6_countOpen 24 = .ok (.if_icmp .ne 6, 3) := by decide +kernel
theorem dX6_countOpen_27 : decode cX6_countOpen 27 = .ok (.iinc 1 1, 3) := by decide +kernel
theorem dX6_countOpen_30 : decode cX6_countOpen 30 = .ok (.iinc 2 1, 3) := by decide +kernel
theorem dX6_countOpen_33 : decode cX6_countOpen 33 = .ok (.goto (-29), 3) := by decide +kernel
theorem dX6_countOpen_36 : decode cX6_countOpen 36 = .ok (.iload_n 1, 1) := by decide +kernel
theorem dX6_countOpen_37 : decode cX6_countOpen 37 = .ok (.ireturn, 1) := by decide +kernel
set_option maxRecDepth 20000 in
theorem ggX6_firstOpen_X4_at : GoodIn wsX6_firstOpen wsX4_at := goodIn_r _ [6, 7, 8, 12, 13] (by decide +kernel) (by decide +kernel)
set_option maxRecDepth 20000 in
theorem gX6_firstOpen_X4_at : GoodIn wsX6_firstOpen (wsV RX6 28 RX4 yX4_at wsX4_at) := goodIn_app (goodIn_of _ (by decide +kernel)) ggX6_firstOpen_X4_at
theorem dX6_firstOpen_0 : decode cX6_firstOpen 0 = .ok (.iconst 0, 1) := by decide +kernel
theorem dX6_firstOpen_1 : decode cX6_firstOpen 1 = .ok (.istore_n 1, 1) := by decide +kernel
theorem dX6_firstOpen_2 : decode cX6_firstOpen 2 = .ok (.iload_n 1, 1) := by decide +kernel
theorem dX6_firstOpen_3 : decode cX6_firstOpen 3 = .ok (.aload_n 0, 1) := by decide +kernel
theorem dX6_firstOpen_4 : decode cX6_firstOpen 4 = .ok (.getfield 18, 3) := by decide +kernel
theorem dX6_firstOpen_7 : decode cX6_firstOpen 7 = .ok (.getfield 25, 3) := by decide +kernel
theorem dX6_firstOpen_10 : decode cX6_firstOpen 10 = .ok (.if_icmp .ge 23, 3) := by decide +kernel
theorem dX6_firstOpen_13 : decode cX6_firstOpen 13 = .ok (.aload_n 0, 1) := by decide +kernel
theorem dX6_firstOpen_14 : decode cX6_firstOpen 14 = .ok (.getfield 18, 3) := by decide +kernel
theorem dX6_firstOpen_17 : decode cX6_firstOpen 17 = .ok (.iload_n 1, 1) := by decide +kernel
theorem dX6_firstOpen_18 : decode cX6_firstOpen 18 = .ok (.invokevirtual 28, 3) := by decide +kernel
theorem dX6_firstOpen_21 : decode cX6_firstOpen 21 = .ok (.iconst (-1), 1) := by decide +kernel
theorem dX6_firstOpen_22 : decode cX6_firstOpen 22 = .ok (.if_icmp .ne 5, 3) := by decide +kernel
theorem dX6_firstOpen_25 : decode cX6_firstOpen 25 = .ok (.iload_n 1, 1) := by decide +kernel
theorem dX6_firstOpen_26 : decode cX6_firstOpen 26 = .ok (.ireturn, 1) := by decide +kernel
theorem dX6_firstOpen_27 : decode cX6_firstOpen 27 = .ok (.iinc 1 1, 3) := by decide +kernel
theorem dX6_firstOpen_30 : decode cX6_firstOpen 30 = .ok (.goto (-28), 3) := by decide +kernel
theorem dX6_firstOpen_33 : decode cX6_firstOpen 33 = .ok (.iconst (-1), 1) := by decide +kernel
theorem dX6_firstOpen_34 : decode cX6_firstOpen 34 = .ok (.ireturn, 1) := by decide +kernel
set_option maxRecDepth 20000 in
theorem ggX6_isAstrayAt_X4_at : GoodIn wsX6_isAstrayAt wsX4_at := goodIn_r _ [8, 9, 10, 23, 24] (by decide +kernel) (by decide +kernel)
set_option maxRecDepth 20000 in
theorem gX6_isAstrayAt_X4_at : GoodIn wsX6_isAstrayAt (wsV RX6 28 RX4 yX4_at wsX4_at) := goodIn_app (goodIn_of _ (by decide +kernel)) ggX6_isAstrayAt_X4_at
set_option maxRecDepth 20000 in
theorem ggX6_isAstrayAt_X5_rulingOf : GoodIn wsX6_isAstrayAt wsX5_rulingOf := goodIn_r _ [15, 16, 17, 18, 14, 19, 25, 26, 27] (by decide +kernel) (by decide +kernel)
set_option maxRecDepth 20000 in
theorem gX6_isAstrayAt_X5_rulingOf : GoodIn wsX6_isAstrayAt (wsV RX6 40 RX5 yX5_rulingOf wsX5_rulingOf) := goodIn_app (goodIn_of _ (by decide +kernel)) ggX6_isAstrayAt_X5_rulingOf
theorem dX6_isAstrayAt_0 : decode cX6_isAstrayAt 0 = .ok (.aload_n 2, 1) := by decide +kernel
theorem dX6_isAstrayAt_1 : decode cX6_isAstrayAt 1 = .ok (.aload_n 0, 1) := by decide +kernel
theorem dX6_isAstrayAt_2 : decode cX6_isAstrayAt 2 = .ok (.getfield 21, 3) := by decide +kernel
theorem dX6_isAstrayAt_5 : decode cX6_isAstrayAt 5 = .ok (.aload_n 0, 1) := by decide +kernel
theorem dX6_isAstrayAt_6 : decode cX6_isAstrayAt 6 = .ok (.getfield 12, 3) := by decide +kernel
theorem dX6_isAstrayAt_9 : decode cX6_isAstrayAt 9 = .ok (.iload_n 1, 1) := by decide +kernel
theorem dX6_isAstrayAt_10 : decode cX6_isAstrayAt 10 = .ok (.invokevirtual 28, 3) := by decide +kernel
theorem dX6_isAstrayAt_13 : decode cX6_isAstrayAt 13 = .ok (.invokevirtual 40, 3) := by decide +kernel
theorem dX6_isAstrayAt_16 : decode cX6_isAstrayAt 16 = .ok (.istore_n 3, 1) := by decide +kernel
theorem dX6_isAstrayAt_17 : decode cX6_isAstrayAt 17 = .ok (.iload_n 3, 1) := by decide +kernel
theorem dX6_isAstrayAt_18 : decode cX6_isAstrayAt 18 = .ok (.iconst (-1), 1) := by decide +kernel
theorem dX6_isAstrayAt_19 : decode cX6_isAstrayAt 19 = .ok (.if_icmp .eq 19, 3) := by decide +kernel
theorem dX6_isAstrayAt_22 : decode cX6_isAstrayAt 22 = .ok (.iload_n 3, 1) := by decide +kernel
theorem dX6_isAstrayAt_23 : decode cX6_isAstrayAt 23 = .ok (.aload_n 0, 1) := by decide +kernel
theorem dX6_isAstrayAt_24 : decode cX6_isAstrayAt 24 = .ok (.getfield 18, 3) := by decide +kernel
theorem dX6_isAstrayAt_27 : decode cX6_isAstrayAt 27 = .ok (.iload_n 1, 1) := by decide +kernel
theorem dX6_isAstrayAt_28 : decode cX6_isAstrayAt 28 = .ok (.invokevirtual 28, 3) := by decide +kernel
theorem dX6_isAstrayAt_31 : decode cX6_isAstrayAt 31 = .ok (.if_icmp .eq 7, 3) := by decide +kernel
theorem dX6_isAstrayAt_34 : decode cX6_isAstrayAt 34 = .ok (.iconst 1, 1) := by decide +kernel
theorem dX6_isAstrayAt_35 : decode cX6_isAstrayAt 35 = .ok (.goto 4, 3) := by decide +kernel
theorem dX6_isAstrayAt_38 : decode cX6_isAstrayAt 38 = .ok (.iconst 0, 1) := by decide +kernel
theorem dX6_isAstrayAt_39 : decode cX6_isAstrayAt 39 = .ok (.ireturn, 1) := by decide +kernel
set_option maxRecDepth 20000 in
theorem ggX6_firstAstray_X6_isAstrayAt : GoodIn wsX6_firstAstray wsX6_isAstrayAt := goodIn_r _ [6, 7, 1, 8, 9, 10, 11, 12, 13, 14, 15, 16, 17, 18, 19, 20, 21, 22, 23, 24, 25, 26, 27, 28, 29, 30, 31, 32] (by decide +kernel) (by decide +kernel)
set_option maxRecDepth 20000 in
theorem gX6_firstAstray_X6_isAstrayAt : GoodIn wsX6_firstAstray (wsV RX6 46 RX6 yX6_isAstrayAt wsX6_isAstrayAt) := goodIn_app (goodIn_of _ (by decide +kernel)) ggX6_firstAstray_X6_isAstrayAt
theorem dX6_firstAstray_0 : decode cX6_firstAstray 0 = .ok (.iconst 0, 1) := by decide +kernel
theorem dX6_firstAstray_1 : decode cX6_firstAstray 1 = .ok (.istore_n 2, 1) := by decide +kernel
theorem dX6_firstAstray_2 : decode cX6_firstAstray 2 = .ok (.iload_n 2, 1) := by decide +kernel
theorem dX6_firstAstray_3 : decode cX6_firstAstray 3 = .ok (.aload_n 0, 1) := by decide +kernel
theorem dX6_firstAstray_4 : decode cX6_firstAstray 4 = .ok (.getfield 12, 3) := by decide +kernel
theorem dX6_firstAstray_7 : decode cX6_firstAstray 7 = .ok (.getfield 25, 3) := by decide +kernel
theorem dX6_firstAstray_10 : decode cX6_firstAstray 10 = .ok (.if_icmp .ge 20, 3) := by decide +kernel
theorem dX6_firstAstray_13 : decode cX6_firstAstray 13 = .ok (.aload_n 0, 1) := by decide +kernel
theorem dX6_firstAstray_14 : decode cX6_firstAstray 14 = .ok (.iload_n 2, 1) := by decide +kernel
theorem dX6_firstAstray_15 : decode cX6_firstAstray 15 = .ok (.aload_n 1, 1) := by decide +kernel
theorem dX6_firstAstray_16 : decode cX6_firstAstray 16 = .ok (.invokevirtual 46, 3) := by decide +kernel
theorem dX6_firstAstray_19 : decode cX6_firstAstray 19 = .ok (.ifCond .eq 5, 3) := by decide +kernel
theorem dX6_firstAstray_22 : decode cX6_firstAstray 22 = .ok (.iload_n 2, 1) := by decide +kernel
theorem dX6_firstAstray_23 : decode cX6_firstAstray 23 = .ok (.ireturn, 1) := by decide +kernel
theorem dX6_firstAstray_24 : decode cX6_firstAstray 24 = .ok (.iinc 2 1, 3) := by decide +kernel
theorem dX6_firstAstray_27 : decode cX6_firstAstray 27 = .ok (.goto (-25), 3) := by decide +kernel
theorem dX6_firstAstray_30 : decode cX6_firstAstray 30 = .ok (.iconst (-1), 1) := by decide +kernel
theorem dX6_firstAstray_31 : decode cX6_firstAstray 31 = .ok (.ireturn, 1) := by decide +kernel
theorem dJ9_max_7cf53_0 : decode cJ9_max_7cf53 0 = .ok (.iload_n 0, 1) := by decide +kernel
theorem dJ9_max_7cf53_1 : decode cJ9_max_7cf53 1 = .ok (.iload_n 1, 1) := by decide +kernel
theorem dJ9_max_7cf53_2 : decode cJ9_max_7cf53 2 = .ok (.if_icmp .lt 7, 3) := by decide +kernel
theorem dJ9_max_7cf53_5 : decode cJ9_max_7cf53 5 = .ok (.iload_n 0, 1) := by decide +kernel
theorem dJ9_max_7cf53_6 : decode cJ9_max_7cf53 6 = .ok (.goto 4, 3) := by decide +kernel
theorem dJ9_max_7cf53_9 : decode cJ9_max_7cf53 9 = .ok (.iload_n 1, 1) := by decide +kernel
theorem dJ9_max_7cf53_10 : decode cJ9_max_7cf53 10 = .ok (.ireturn, 1) := by decide +kernel
theorem dJ9_min_7cf53_0 : decode cJ9_min_7cf53 0 = .ok (.iload_n 0, 1) := by decide +kernel
theorem dJ9_min_7cf53_1 : decode cJ9_min_7cf53 1 = .ok (.iload_n 1, 1) := by decide +kernel
theorem dJ9_min_7cf53_2 : decode cJ9_min_7cf53 2 = .ok (.if_icmp .gt 7, 3) := by decide +kernel
theorem dJ9_min_7cf53_5 : decode cJ9_min_7cf53 5 = .ok (.iload_n 0, 1) := by decide +kernel
theorem dJ9_min_7cf53_6 : decode cJ9_min_7cf53 6 = .ok (.goto 4, 3) := by decide +kernel
theorem dJ9_min_7cf53_9 : decode cJ9_min_7cf53 9 = .ok (.iload_n 1, 1) := by decide +kernel
theorem dJ9_min_7cf53_10 : decode cJ9_min_7cf53 10 = .ok (.ireturn, 1) := by decide +kernel
theorem dJ7_fill_53178_0 : decode cJ7_fill_53178 0 = .ok (.iconst 0, 1) := by decide +kernel
theorem dJ7_fill_53178_1 : decode cJ7_fill_53178 1 = .ok (.istore_n 2, 1) := by decide +kernel
theorem dJ7_fill_53178_2 : decode cJ7_fill_53178 2 = .ok (.aload_n 0, 1) := by decide +kernel
theorem dJ7_fill_53178_3 : decode cJ7_fill_53178 3 = .ok (.arraylength, 1) := by decide +kernel
theorem dJ7_fill_53178_4 : decode cJ7_fill_53178 4 = .ok (.istore_n 3, 1) := by decide +kernel
theorem dJ7_fill_53178_5 : decode cJ7_fill_53178 5 = .ok (.iload_n 2, 1) := by decide +kernel
theorem dJ7_fill_53178_6 : decode cJ7_fill_53178 6 = .ok (.iload_n 3, 1) := by decide +kernel
theorem dJ7_fill_53178_7 : decode cJ7_fill_53178 7 = .ok (.if_icmp .ge 13, 3) := by decide +kernel
theorem dJ7_fill_53178_10 : decode cJ7_fill_53178 10 = .ok (.aload_n 0, 1) := by decide +kernel
theorem dJ7_fill_53178_11 : decode cJ7_fill_53178 11 = .ok (.iload_n 2, 1) := by decide +kernel
theorem dJ7_fill_53178_12 : decode cJ7_fill_53178 12 = .ok (.iload_n 1, 1) := by decide +kernel
theorem dJ7_fill_53178_13 : decode cJ7_fill_53178 13 = .ok (.iastore, 1) := by decide +kernel
theorem dJ7_fill_53178_14 : decode cJ7_fill_53178 14 = .ok (.iinc 2 1, 3) := by decide +kernel
theorem dJ7_fill_53178_17 : decode cJ7_fill_53178 17 = .ok (.goto (-12), 3) := by decide +kernel
theorem dJ7_fill_53178_20 : decode cJ7_fill_53178 20 = .ok (.return_, 1) := by decide +kernel
end
section
set_option maxHeartbeats 4000000 in
set_option maxRecDepth 100000 in
/-- Line.hasPlace -/
theorem k_X1_hasPlace (l : Launch) (D : va_G) (ac : Nat → ClassId) (H : Heap) (a v n : Nat) (f : Nat → Int32) (h1 : Cel D H a (.inr (1, [.ref v, .int (nI n)]))) (h2 : Cel D H v (.inl (ac 0, 60, .inl f))) (hn : n ≤ 60) (x : Int32) : ROi l yX1_hasPlace wsX1_hasPlace ({ frames := 0, cells := 0, slots := 0, locals := 0 }) [.ref a, .int x] D ac H (fun r => r = if (ix x n).isSome then 1 else 0) := by
  refine Met.ofW (cc := cX1_hasPlace) (maxL := 2) (ret := (some .boolean)) (by decide) rfl ?_
  intro p e s m args below meth c s₁ B hml hv
  obtain ⟨hargs, hsz, hK⟩ := hv
  have hx := B.exec
  have hb := B.bytes
  have hr := B.returns
  have hts := atoms_spec (ws := wsX1_hasPlace) B.pre
  have hown : s.vm.findClass RX1 = some m.cls := findClass_of_methodNamed B.named
  have hlocks := B.notSynchronized
  subst hsz
  have inX1_ : ∀ w ∈ wsX10, w ∈ wsX1_hasPlace := by decide +kernel
  have hS : va_S (fun _ => False) s.heap s.heap [] := va_S.rf
  have hl := lv_entry ([.ref a, .int x]) (n := 2) (Nat.le_of_ble_eq_true rfl)
  have hen := lg_entry_eq m [.ref a, .int x] 2
  rw [← hargs] at hen
  rw [hen]
  generalize (lg_sl ([.ref a, .int x]) ++ List.replicate (2 - (lg_sl ([.ref a, .int x])).length) Slot.unset).toArray = ls at hl ⊢
  have hl : lv_has ls 2 [(0, .ref a), (1, .int x)] := hl
  refine lv_iload_n hx hb dX1_hasPlace_0 rfl (lv_at hl 1 rfl) ?_
  refine lv_if_lt (tgt := 25) hx hb dX1_hasPlace_1 (by decide) (fun c1 => ?_) (fun c1 => ?_)
  · refine lv_iconst (v := 0) hx hb dX1_hasPlace_25 (by decide) ?_
    exact e_z hx hb hlocks hr dX1_hasPlace_26 (by decide) hS (by simp [ix, *])
  · refine lv_iload_n hx hb dX1_hasPlace_4 rfl (lv_at hl 1 rfl) ?_
    refine lv_aload_n hx hb dX1_hasPlace_5 rfl (lv_at hl 0 rfl) ?_
    refine m_get (ci := 1) (C := RX1) (T := TX1) (n := 2) (v := .int (nI n)) hx hb hts inX1_ hown hK rfl h1 1 (by decide) (hts _ (by decide +kernel)) rfl dX1_hasPlace_6 ?_
    refine lv_icmp_ge (tgt := 25) hx hb dX1_hasPlace_9 (by decide) (fun c9 => ?_) (fun c9 => ?_)
    · refine lv_iconst (v := 0) hx hb dX1_hasPlace_25 (by decide) ?_
      exact e_z hx hb hlocks hr dX1_hasPlace_26 (by decide) hS (by simp [ix, *])
    · refine lv_iload_n hx hb dX1_hasPlace_12 rfl (lv_at hl 1 rfl) ?_
      refine lv_aload_n hx hb dX1_hasPlace_13 rfl (lv_at hl 0 rfl) ?_
      refine m_get (ci := 1) (C := RX1) (T := TX1) (n := 2) (v := .ref v) hx hb hts inX1_ hown hK rfl h1 0 (by decide) (hts _ (by decide +kernel)) rfl dX1_hasPlace_14 ?_
      refine m_alen (v := 60) (ty := _) hx hb hK 0 h2 rfl (by first | rfl | decide) dX1_hasPlace_17 ?_
      refine lv_icmp_ge (tgt := 25) hx hb dX1_hasPlace_18 (by decide) (fun c18 => ?_) (fun c18 => ?_)
      · exact (nle_dead c9 c18 hn (by decide)).elim
      · refine lv_iconst (v := 1) hx hb dX1_hasPlace_21 (by decide) ?_
        refine lv_goto (tgt := 26) hx hb dX1_hasPlace_22 (by decide) ?_
        exact e_z hx hb hlocks hr dX1_hasPlace_26 (by decide) hS (by simp [ix, *])
set_option maxHeartbeats 4000000 in
set_option maxRecDepth 100000 in
/-- Line.at -/
theorem k_X1_at (l : Launch) (D : va_G) (ac : Nat → ClassId) (H : Heap) (a v n : Nat) (f : Nat → Int32) (h1 : Cel D H a (.inr (1, [.ref v, .int (nI n)]))) (h2 : Cel D H v (.inl (ac 0, 60, .inl f))) (hn : n ≤ 60) (x : Int32) : ROi l yX1_at wsX1_at ({ frames := 1, cells := 0, slots := 0, locals := 21 }) [.ref a, .int x] D ac H (fun r => r = (ix x n).elim (-1) f) := by
  refine Met.ofW (cc := cX1_at) (maxL := 2) (ret := (some .int)) (by decide) rfl ?_
  intro p e s m args below meth c s₁ B hml hv
  obtain ⟨hargs, hsz, hK⟩ := hv
  have hx := B.exec
  have hb := B.bytes
  have hr := B.returns
  have hts := atoms_spec (ws := wsX1_at) B.pre
  have hown : s.vm.findClass RX1 = some m.cls := findClass_of_methodNamed B.named
  have hlocks := B.notSynchronized
  subst hsz
  have inX1_ : ∀ w ∈ wsX10, w ∈ wsX1_at := by decide +kernel
  have hS : va_S (fun _ => False) s.heap s.heap [] := va_S.rf
  have hl := lv_entry ([.ref a, .int x]) (n := 2) (Nat.le_of_ble_eq_true rfl)
  have hen := lg_entry_eq m [.ref a, .int x] 2
  rw [← hargs] at hen
  rw [hen]
  generalize (lg_sl ([.ref a, .int x]) ++ List.replicate (2 - (lg_sl ([.ref a, .int x])).length) Slot.unset).toArray = ls at hl ⊢
  have hl : lv_has ls 2 [(0, .ref a), (1, .int x)] := hl
  refine lv_aload_n hx hb dX1_at_0 rfl (lv_at hl 0 rfl) ?_
  refine lv_iload_n hx hb dX1_at_1 rfl (lv_at hl 1 rfl) ?_
  refine r_calli (va_runV (As := [.int x]) (rest := []) ⟨hx, hb, hml, hown, hts⟩ (k_X1_hasPlace l D ac _ a v n f h1 h2 (by omega) x) (cwV 1 hts gX1_at_X1_hasPlace rfl rfl rfl (by decide +kernel) ⟨Nat.le_of_ble_eq_true rfl, Nat.le_of_ble_eq_true rfl⟩) (pV hK (ci := 1) rfl h1) rfl rfl hl.1 rfl (lv_room (Nat.le_of_ble_eq_true rfl)) dX1_at_2 ⟨Nat.le_of_ble_eq_true rfl, Nat.le_of_ble_eq_true rfl⟩) hS (fun rv_1 locs hrv_1 hS => ?_)
  subst hrv_1
  rcases hi : ix x n with _ | jhi
  · refine m_top (show _ = (0 : Int32) from rfl) ?_
    refine lv_if_eq (tgt := 17) hx hb dX1_at_5 (by decide) (fun c5 => ?_) (fun c5 => ?_)
    · refine lv_iconst (v := (-1)) hx hb dX1_at_17 (by decide) ?_
      exact e_i hx hb hlocks hr dX1_at_18 hS (by first | rfl | (rw [he_, nI_clamp (by omega)]; rfl))
    · exact absurd c5 (by decide)
  · obtain ⟨hl_, he_⟩ := ix_of hi (by omega)
    refine m_top (show _ = (1 : Int32) from rfl) ?_
    refine lv_if_eq (tgt := 17) hx hb dX1_at_5 (by decide) (fun c5 => ?_) (fun c5 => ?_)
    · exact absurd c5 (by decide)
    · refine lv_aload_n hx hb dX1_at_8 rfl (lv_at hl 0 rfl) ?_
      refine m_get (ci := 1) (C := RX1) (T := TX1) (n := 2) (v := .ref v) hx hb hts inX1_ hown hK rfl h1 0 (by decide) (hts _ (by decide +kernel)) rfl dX1_at_9 ?_
      refine lv_iload_n hx hb dX1_at_12 rfl (lv_at hl 1 rfl) ?_
      refine m_iald hx hb hK h2 (by rw [he_]; exact vp_in_nI (by omega) (by decide)) dX1_at_13 ?_
      refine m_top (show (f x.toNatClampNeg) = f jhi from by rw [he_, nI_clamp (by omega)]) ?_
      refine lv_goto (tgt := 18) hx hb dX1_at_14 (by decide) ?_
      exact e_i hx hb hlocks hr dX1_at_18 hS (by first | rfl | (rw [he_, nI_clamp (by omega)]; rfl))
def HoP (n : Nat) (f : Nat → Int32) (x r : Int32) : Prop := (r = 1 ∧ ∃ j, j < n ∧ f j = x) ∨ (r = 0 ∧ ∀ j, j < n → f j ≠ x)
set_option maxHeartbeats 4000000 in
set_option maxRecDepth 100000 in
/-- Line.holds -/
theorem k_X1_holds (l : Launch) (D : va_G) (ac : Nat → ClassId) (H : Heap) (a v n : Nat) (f : Nat → Int32) (h1 : Cel D H a (.inr (1, [.ref v, .int (nI n)]))) (h2 : Cel D H v (.inl (ac 0, 60, .inl f))) (hn : n ≤ 60) (x : Int32) : ROi l yX1_holds wsX1_holds ({ frames := 2, cells := 0, slots := 0, locals := 42 }) [.ref a, .int x] D ac H (HoP n f x) := by
  refine Met.ofW (cc := cX1_holds) (maxL := 3) (ret := (some .boolean)) (by decide) rfl ?_
  intro p e s m args below meth c s₁ B hml hv
  obtain ⟨hargs, hsz, hK⟩ := hv
  have hx := B.exec
  have hb := B.bytes
  have hr := B.returns
  have hts := atoms_spec (ws := wsX1_holds) B.pre
  have hown : s.vm.findClass RX1 = some m.cls := findClass_of_methodNamed B.named
  have hlocks := B.notSynchronized
  subst hsz
  have inX1_ : ∀ w ∈ wsX10, w ∈ wsX1_holds := by decide +kernel
  have hS : va_S (fun _ => False) s.heap s.heap [] := va_S.rf
  have hl := lv_entry ([.ref a, .int x]) (n := 3) (Nat.le_of_ble_eq_true rfl)
  have hen := lg_entry_eq m [.ref a, .int x] 3
  rw [← hargs] at hen
  rw [hen]
  generalize (lg_sl ([.ref a, .int x]) ++ List.replicate (3 - (lg_sl ([.ref a, .int x])).length) Slot.unset).toArray = ls at hl ⊢
  have hl : lv_has ls 3 [(0, .ref a), (1, .int x)] := hl
  obtain ⟨Q0, hQ0⟩ : ∃ z, z = MQ below (va_Qi (fun r (_ : Unit) => (HoP n f x) r) (fun _ t => t.heap = s.heap) (fun _ => False)) args s 0 0 (fun _ => False) := ⟨_, rfl⟩
  rw [← hQ0]
  refine lv_iconst (v := 0) hx hb dX1_holds_0 (by decide) ?_
  refine lv_istore_n (lv' := [(2, .int 0), (0, .ref a), (1, .int x)]) hx hb dX1_holds_1 rfl hl (by decide) rfl (fun ls hl => ?_)
  have L2 : ∀ (k9 : Nat) (i : Nat) (hk : n - i < k9) (hi : i ≤ n) (hall : ∀ j, j < i → f j ≠ x) (locs : List Loc) (hS : va_S (fun _ => False) s.heap s.heap locs) (ls : Array Slot) (hl : lv_has ls 3 [(0, .ref a), (1, .int x), (2, .int (nI i))]), W p l e (headSpec wsX1_holds ({ frames := 2, cells := 0, slots := 0, locals := 42 })).room s m args below meth c s.heap locs 0 0 Q0 (F0 m 2 ls []) := by
    intro k9
    induction k9 with
    | zero => intro i hk hi hall locs hS ls hl; exact absurd hk (Nat.not_lt_zero _)
    | succ k9 ih2 =>
      intro i hk hi hall locs hS ls hl
      refine lv_iload_n hx hb dX1_holds_2 rfl (lv_at hl 2 rfl) ?_
      refine lv_aload_n hx hb dX1_holds_3 rfl (lv_at hl 0 rfl) ?_
      refine m_get (ci := 1) (C := RX1) (T := TX1) (n := 2) (v := .int (nI n)) hx hb hts inX1_ hown hK rfl h1 1 (by decide) (hts _ (by decide +kernel)) rfl dX1_holds_4 ?_
      refine lv_icmp_ge (tgt := 27) hx hb dX1_holds_7 (by decide) (fun c7 => ?_) (fun c7 => ?_)
      · refine lv_iconst (v := 0) hx hb dX1_holds_27 (by decide) ?_
        rw [hQ0]
        exact e_z hx hb hlocks hr dX1_holds_28 (by decide) hS (Or.inr ⟨rfl, fun j hj => hall j (by have := le_le c7 (by omega) (by omega); omega)⟩)
      · have hin : i < n := nle_lt c7 (by omega) (by omega)
        refine lv_aload_n hx hb dX1_holds_10 rfl (lv_at hl 0 rfl) ?_
        refine lv_iload_n hx hb dX1_holds_11 rfl (lv_at hl 2 rfl) ?_
        refine r_calli (va_runV (As := [.int (nI i)]) (rest := []) ⟨hx, hb, hml, hown, hts⟩ (k_X1_at l D ac _ a v n f h1 h2 (by omega) (nI i)) (cwV 1 hts gX1_holds_X1_at rfl rfl rfl (by decide +kernel) ⟨Nat.le_of_ble_eq_true rfl, Nat.le_of_ble_eq_true rfl⟩) (pV hK (ci := 1) rfl h1) rfl rfl hl.1 rfl (lv_room (Nat.le_of_ble_eq_true rfl)) dX1_holds_12 ⟨Nat.le_of_ble_eq_true rfl, Nat.le_of_ble_eq_true rfl⟩) hS (fun rv_1 locs hrv_1 hS => ?_)
        subst hrv_1
        refine m_top (show ((ix (nI i) n).elim (-1) f) = f i from by rw [ix_nI hin (by omega)]; rfl) ?_
        refine lv_iload_n hx hb dX1_holds_15 rfl (lv_at hl 1 rfl) ?_
        refine lv_icmp_ne (tgt := 21) hx hb dX1_holds_16 (by decide) (fun c16 => ?_) (fun c16 => ?_)
        · refine lv_iinc (v := nI (i + 1)) (lv' := [(2, .int (nI (i + 1))), (0, .ref a), (1, .int x)]) hx hb dX1_holds_21 hl (k := 2) rfl (nI_1 _) (by decide) rfl (fun ls hl => ?_)
          refine lv_goto (tgt := 2) hx hb dX1_holds_24 (by decide) ?_
          exact ih2 (i + 1) (by omega) (by omega) (fun j hj => by rcases Nat.lt_succ_iff_lt_or_eq.mp hj with q | q; exact hall j q; rw [q]; exact c16) _ hS ls (lv_sub hl [1, 2, 0] rfl)
        · refine lv_iconst (v := 1) hx hb dX1_holds_19 (by decide) ?_
          rw [hQ0]
          exact e_z hx hb hlocks hr dX1_holds_20 (by decide) hS (Or.inl ⟨rfl, i, hin, by simpa using c16⟩)
  exact L2 _ 0 (Nat.lt_succ_self _) (Nat.zero_le _) (fun j h => absurd h (Nat.not_lt_zero j)) _ hS ls (lv_sub hl [1, 2, 0] rfl)
set_option maxHeartbeats 4000000 in
set_option maxRecDepth 100000 in
/-- Line.addLast -/
theorem k_X1_addLast (l : Launch) (D : va_G) (ac : Nat → ClassId) (H : Heap) (A : Nat → Prop) (N : Nat) (adr : Nat → Nat) (w : Nat → va_E) (hM : MW D A N adr w H) (a v n : Nat) (f : Nat → Int32) (ha : a < N) (hv1 : v < N) (hav : a ≠ v) (h1 : w a = .inr (1, [.ref (adr v), .int (nI n)])) (h2 : w v = .inl (ac 0, 60, .inl f)) (hn : n < 60) (x : Int32) : WRv l yX1_addLast wsX1_addLast ({ frames := 0, cells := 0, slots := 0, locals := 0 }) [.ref (adr a), .int x] D ac H A N adr (fun w1 => w1 = va_up (va_up w v (.inl (ac 0, 60, .inl (upd f n x)))) a (.inr (1, [.ref (adr v), .int (nI (n + 1))]))) := by
  refine Met.ofW (cc := cX1_addLast) (maxL := 3) (ret := none) (by decide) rfl ?_
  intro p e s m args below meth c s₁ B hml hv
  obtain ⟨hargs, hsz, hK⟩ := hv
  have hx := B.exec
  have hb := B.bytes
  have hr := B.returns
  have hts := atoms_spec (ws := wsX1_addLast) B.pre
  have hown : s.vm.findClass RX1 = some m.cls := findClass_of_methodNamed B.named
  have hlocks := B.notSynchronized
  subst hsz
  have inX1_ : ∀ w ∈ wsX10, w ∈ wsX1_addLast := by decide +kernel
  have hS : va_S A s.heap s.heap [] := va_S.rf
  have hl := lv_entry ([.ref (adr a), .int x]) (n := 3) (Nat.le_of_ble_eq_true rfl)
  have hen := lg_entry_eq m [.ref (adr a), .int x] 3
  rw [← hargs] at hen
  rw [hen]
  generalize (lg_sl ([.ref (adr a), .int x]) ++ List.replicate (3 - (lg_sl ([.ref (adr a), .int x])).length) Slot.unset).toArray = ls at hl ⊢
  have hl : lv_has ls 3 [(0, .ref (adr a)), (1, .int x)] := hl
  refine lv_aload_n hx hb dX1_addLast_0 rfl (lv_at hl 0 rfl) ?_
  refine m_get (ci := 1) (C := RX1) (T := TX1) (n := 2) (v := .int (nI n)) hx hb hts inX1_ hown hK rfl (hM.cel ha h1) 1 (by decide) (hts _ (by decide +kernel)) rfl dX1_addLast_1 ?_
  refine lv_istore_n (lv' := [(2, .int (nI n)), (0, .ref (adr a)), (1, .int x)]) hx hb dX1_addLast_4 rfl hl (by decide) rfl (fun ls hl => ?_)
  refine lv_iload_n hx hb dX1_addLast_5 rfl (lv_at hl 0 rfl) ?_
  refine lv_if_lt (tgt := 32) hx hb dX1_addLast_6 (by decide) (fun c6 => ?_) (fun c6 => ?_)
  · exact absurd c6 (nI_pos (by omega))
  · refine lv_iload_n hx hb dX1_addLast_9 rfl (lv_at hl 0 rfl) ?_
    refine lv_aload_n hx hb dX1_addLast_10 rfl (lv_at hl 1 rfl) ?_
    refine m_get (ci := 1) (C := RX1) (T := TX1) (n := 2) (v := .ref (adr v)) hx hb hts inX1_ hown hK rfl (hM.cel ha h1) 0 (by decide) (hts _ (by decide +kernel)) rfl dX1_addLast_11 ?_
    refine m_alen (v := 60) (ty := _) hx hb hK 0 (hM.cel hv1 h2) rfl (by first | rfl | decide) dX1_addLast_14 ?_
    refine lv_icmp_ge (tgt := 32) hx hb dX1_addLast_15 (by decide) (fun c15 => ?_) (fun c15 => ?_)
    · exact absurd (le_le (a := 60) (b := n) c15 (by omega) (by omega)) (by omega)
    · refine lv_aload_n hx hb dX1_addLast_18 rfl (lv_at hl 1 rfl) ?_
      refine m_get (ci := 1) (C := RX1) (T := TX1) (n := 2) (v := .ref (adr v)) hx hb hts inX1_ hown hK rfl (hM.cel ha h1) 0 (by decide) (hts _ (by decide +kernel)) rfl dX1_addLast_19 ?_
      refine lv_iload_n hx hb dX1_addLast_22 rfl (lv_at hl 0 rfl) ?_
      refine lv_iload_n hx hb dX1_addLast_23 rfl (lv_at hl 2 rfl) ?_
      refine m_iast hx hb hK hM hS v hv1 h2 (vp_in_nI (by omega) (by decide)) dX1_addLast_24 (fun H locs hM hS => ?_)
      have ef_ : (upd f (nI n).toNatClampNeg x) = upd f n x := by rw [nI_clamp (by omega)]
      rw [ef_] at hM
      clear ef_
      obtain ⟨w_2, ew_2⟩ : ∃ z, z = va_up w v (.inl (ac 0, 60, .inl (upd f n x))) := ⟨_, rfl⟩
      rw [← ew_2] at hM
      have h_3 : w_2 a = .inr (1, [.ref (adr v), .int (nI n)]) := by rw [ew_2, va_up_ne _ _ hav]; exact h1
      have h_4 : w_2 v = .inl (ac 0, 60, .inl (upd f n x)) := by rw [ew_2]; exact va_up_self _ _ _
      refine lv_aload_n hx hb dX1_addLast_25 rfl (lv_at hl 1 rfl) ?_
      refine lv_iload_n hx hb dX1_addLast_26 rfl (lv_at hl 0 rfl) ?_
      refine lv_iconst (v := 1) hx hb dX1_addLast_27 (by decide) ?_
      refine lv_iadd hx hb dX1_addLast_28 ?_
      refine m_top (show ((nI n) + 1) = nI (n + 1) from nI_1 n) ?_
      refine m_put (ci := 1) (C := RX1) (T := TX1) (n := 2) (v := .int (nI (n + 1))) (ty := tyX1 1) hx hb hts inX1_ tyX1 tyX1_ok nmX1 hown hK hM hS rfl a ha h_3 1 (by decide) (hts _ (by decide +kernel)) rfl (by decide +kernel) rfl rfl (Nat.le_of_ble_eq_true rfl) dX1_addLast_29 (fun H locs hM hS => ?_)
      have hM : MW D A N adr (va_up w_2 a (.inr (1, [.ref (adr v), .int (nI (n + 1))]))) H := hM
      obtain ⟨w_5, ew_5⟩ : ∃ z, z = va_up w_2 a (.inr (1, [.ref (adr v), .int (nI (n + 1))])) := ⟨_, rfl⟩
      rw [← ew_5] at hM
      have h_6 : w_5 a = .inr (1, [.ref (adr v), .int (nI (n + 1))]) := by rw [ew_5]; exact va_up_self _ _ _
      have h_7 : w_5 v = .inl (ac 0, 60, .inl (upd f n x)) := by rw [ew_5, va_up_ne _ _ (Ne.symm hav)]; exact h_4
      exact e_wv hx hb hlocks hr dX1_addLast_32 hM hS (by subst_vars; rfl)
theorem afp {w w1 w2 : Nat → va_E} {a v n i : Nat} {x : Int32} {f : Nat → Int32} {e1 : va_E} {F : (Nat → Int32) → va_E} (h : w2 = va_up (va_up w1 v (F (upd (mixF i (shF x f) f) n (shF x f i)))) a e1) (g3 : ∀ q, q ≠ a → q ≠ v → w1 q = w q) (hin : i = n) : ∃ f1, w2 = va_up (va_up w v (F f1)) a e1 ∧ ∀ j, j ≤ n → f1 j = shF x f j := by
  refine ⟨upd (mixF i (shF x f) f) n (shF x f i), ?_, fun j hj => ?_⟩
  · rw [h]
    funext q
    by_cases q1 : q = a
    · subst q1; simp [va_up]
    · by_cases q2 : q = v
      · subst q2; simp [va_up, q1]
      · simp [va_up, q1, q2, g3 q q1 q2]
  · subst hin
    by_cases h8 : j = i
    · subst h8; simp [upd]
    · simp only [upd, if_neg h8, mixF]
      rw [if_pos (by omega)]
set_option maxHeartbeats 4000000 in
set_option maxRecDepth 100000 in
/-- Line.addFirst -/
theorem k_X1_addFirst (l : Launch) (D : va_G) (ac : Nat → ClassId) (H : Heap) (A : Nat → Prop) (N : Nat) (adr : Nat → Nat) (w : Nat → va_E) (hM : MW D A N adr w H) (a v n : Nat) (f : Nat → Int32) (ha : a < N) (hv1 : v < N) (hav : a ≠ v) (h1 : w a = .inr (1, [.ref (adr v), .int (nI n)])) (h2 : w v = .inl (ac 0, 60, .inl f)) (hn : n < 60) (x : Int32) : WRv l yX1_addFirst wsX1_addFirst ({ frames := 1, cells := 0, slots := 0, locals := 22 }) [.ref (adr a), .int x] D ac H A N adr (fun w1 => ∃ f1 : Nat → Int32, w1 = va_up (va_up w v (.inl (ac 0, 60, .inl f1))) a (.inr (1, [.ref (adr v), .int (nI (n + 1))])) ∧ ∀ j, j ≤ n → f1 j = shF x f j) := by
  refine Met.ofW (cc := cX1_addFirst) (maxL := 5) (ret := none) (by decide) rfl ?_
  intro p e s m args below meth c s₁ B hml hv
  obtain ⟨hargs, hsz, hK⟩ := hv
  have hx := B.exec
  have hb := B.bytes
  have hr := B.returns
  have hts := atoms_spec (ws := wsX1_addFirst) B.pre
  have hown : s.vm.findClass RX1 = some m.cls := findClass_of_methodNamed B.named
  have hlocks := B.notSynchronized
  subst hsz
  have inX1_ : ∀ w ∈ wsX10, w ∈ wsX1_addFirst := by decide +kernel
  have hS : va_S A s.heap s.heap [] := va_S.rf
  have hl := lv_entry ([.ref (adr a), .int x]) (n := 5) (Nat.le_of_ble_eq_true rfl)
  have hen := lg_entry_eq m [.ref (adr a), .int x] 5
  rw [← hargs] at hen
  rw [hen]
  generalize (lg_sl ([.ref (adr a), .int x]) ++ List.replicate (5 - (lg_sl ([.ref (adr a), .int x])).length) Slot.unset).toArray = ls at hl ⊢
  have hl : lv_has ls 5 [(0, .ref (adr a)), (1, .int x)] := hl
  obtain ⟨Q0, hQ0⟩ : ∃ z, z = MQ below (va_Qv (fun w1 => ∃ f1 : Nat → Int32, w1 = va_up (va_up w v (.inl (ac 0, 60, .inl f1))) a (.inr (1, [.ref (adr v), .int (nI (n + 1))])) ∧ ∀ j, j ≤ n → f1 j = shF x f j) (fun c t => MW D A N adr c t.heap) A) args s 0 0 A := ⟨_, rfl⟩
  rw [← hQ0]
  refine lv_iload_n hx hb dX1_addFirst_0 rfl (lv_at hl 1 rfl) ?_
  refine lv_istore_n (lv' := [(2, .int x), (0, .ref (adr a)), (1, .int x)]) hx hb dX1_addFirst_1 rfl hl (by decide) rfl (fun ls hl => ?_)
  refine lv_iconst (v := 0) hx hb dX1_addFirst_2 (by decide) ?_
  refine lv_istore_n (lv' := [(3, .int 0), (2, .int x), (0, .ref (adr a)), (1, .int x)]) hx hb dX1_addFirst_3 rfl hl (by decide) rfl (fun ls hl => ?_)
  have L4 : ∀ (k9 : Nat) (i : Nat) (hk : n - i < k9) (hi : i ≤ n) (w1 : Nat → va_E) (g1 : w1 a = .inr (1, [.ref (adr v), .int (nI n)])) (g2 : w1 v = .inl (ac 0, 60, .inl (mixF i (shF x f) f))) (g3 : ∀ q, q ≠ a → q ≠ v → w1 q = w q) (H : Heap) (locs : List Loc) (hM : MW D A N adr w1 H) (hS : va_S A s.heap H locs) (ls : Array Slot) (hl : lv_has ls 5 [(0, .ref (adr a)), (1, .int x), (2, .int (shF x f i)), (3, .int (nI i))]), W p l e (headSpec wsX1_addFirst ({ frames := 1, cells := 0, slots := 0, locals := 22 })).room s m args below meth c H locs 0 0 Q0 (F0 m 4 ls []) := by
    intro k9
    induction k9 with
    | zero => intro i hk hi w1 g1 g2 g3 H locs hM hS ls hl; exact absurd hk (Nat.not_lt_zero _)
    | succ k9 ih4 =>
      intro i hk hi w1 g1 g2 g3 H locs hM hS ls hl
      refine lv_iload_n hx hb dX1_addFirst_4 rfl (lv_at hl 3 rfl) ?_
      refine lv_aload_n hx hb dX1_addFirst_5 rfl (lv_at hl 0 rfl) ?_
      refine m_get (ci := 1) (C := RX1) (T := TX1) (n := 2) (v := .int (nI n)) hx hb hts inX1_ hown hK rfl (hM.cel ha g1) 1 (by decide) (hts _ (by decide +kernel)) rfl dX1_addFirst_6 ?_
      refine lv_icmp_ge (tgt := 45) hx hb dX1_addFirst_9 (by decide) (fun c9 => ?_) (fun c9 => ?_)
      · have hin : i = n := by have := le_le (b := i) c9 (by omega) (by omega); omega
        refine lv_aload_n hx hb dX1_addFirst_45 rfl (lv_at hl 0 rfl) ?_
        refine lv_iload_n hx hb dX1_addFirst_46 rfl (lv_at hl 2 rfl) ?_
        refine w_callv (va_runV (As := [.int (shF x f i)]) (rest := []) ⟨hx, hb, hml, hown, hts⟩ (k_X1_addLast l D ac _ A N adr w1 hM a v n (mixF i (shF x f) f) ha hv1 hav g1 g2 (by omega) (shF x f i)) (cwV 1 hts gX1_addFirst_X1_addLast rfl rfl rfl (by decide +kernel) ⟨Nat.le_of_ble_eq_true rfl, Nat.le_of_ble_eq_true rfl⟩) (pV hK (ci := 1) rfl (hM.cel ha g1)) rfl rfl hl.1 rfl (lv_room (Nat.le_of_ble_eq_true rfl)) dX1_addFirst_47 ⟨Nat.le_of_ble_eq_true rfl, Nat.le_of_ble_eq_true rfl⟩) hS (fun w_2 H locs hw_2 hM hS => ?_)
        have h_3 : w_2 a = .inr (1, [.ref (adr v), .int (nI (n + 1))]) := by rw [hw_2]; exact va_up_self _ _ _
        have h_4 : w_2 v = .inl (ac 0, 60, .inl (upd (mixF i (shF x f) f) n (shF x f i))) := by rw [hw_2, va_up_ne _ _ (Ne.symm hav)]; exact va_up_self _ _ _
        rw [hQ0]
        exact e_wv hx hb hlocks hr dX1_addFirst_50 hM hS (afp hw_2 g3 hin)
      · have hin : i < n := nle_lt c9 (by omega) (by omega)
        refine lv_iload_n hx hb dX1_addFirst_12 rfl (lv_at hl 3 rfl) ?_
        refine lv_aload_n hx hb dX1_addFirst_13 rfl (lv_at hl 0 rfl) ?_
        refine m_get (ci := 1) (C := RX1) (T := TX1) (n := 2) (v := .ref (adr v)) hx hb hts inX1_ hown hK rfl (hM.cel ha g1) 0 (by decide) (hts _ (by decide +kernel)) rfl dX1_addFirst_14 ?_
        refine m_alen (v := 60) (ty := _) hx hb hK 0 (hM.cel hv1 g2) rfl (by first | rfl | decide) dX1_addFirst_17 ?_
        refine lv_icmp_ge (tgt := 45) hx hb dX1_addFirst_18 (by decide) (fun c18 => ?_) (fun c18 => ?_)
        · exact absurd (le_le (a := 60) (b := i) c18 (by omega) (by omega)) (by omega)
        · refine lv_aload_n hx hb dX1_addFirst_21 rfl (lv_at hl 0 rfl) ?_
          refine m_get (ci := 1) (C := RX1) (T := TX1) (n := 2) (v := .ref (adr v)) hx hb hts inX1_ hown hK rfl (hM.cel ha g1) 0 (by decide) (hts _ (by decide +kernel)) rfl dX1_addFirst_22 ?_
          refine lv_iload_n hx hb dX1_addFirst_25 rfl (lv_at hl 3 rfl) ?_
          refine m_iald hx hb hK (hM.cel hv1 g2) (vp_in_nI (by omega) (by decide)) dX1_addFirst_26 ?_
          refine m_top (show ((mixF i (shF x f) f) (nI i).toNatClampNeg) = shF x f (i + 1) from by rw [nI_clamp (by omega)]; simp [mixF, shF]) ?_
          refine lv_istore (lv' := [(4, .int (shF x f (i + 1))), (0, .ref (adr a)), (1, .int x), (2, .int (shF x f i)), (3, .int (nI i))]) hx hb dX1_addFirst_27 hl (by decide) rfl (fun ls hl => ?_)
          refine lv_aload_n hx hb dX1_addFirst_29 rfl (lv_at hl 1 rfl) ?_
          refine m_get (ci := 1) (C := RX1) (T := TX1) (n := 2) (v := .ref (adr v)) hx hb hts inX1_ hown hK rfl (hM.cel ha g1) 0 (by decide) (hts _ (by decide +kernel)) rfl dX1_addFirst_30 ?_
          refine lv_iload_n hx hb dX1_addFirst_33 rfl (lv_at hl 4 rfl) ?_
          refine lv_iload_n hx hb dX1_addFirst_34 rfl (lv_at hl 3 rfl) ?_
          refine m_iast hx hb hK hM hS v hv1 g2 (vp_in_nI (by omega) (by decide)) dX1_addFirst_35 (fun H locs hM hS => ?_)
          have ef_ : (upd (mixF i (shF x f) f) (nI i).toNatClampNeg (shF x f i)) = mixF (i + 1) (shF x f) f := by rw [nI_clamp (by omega)]; exact mixF_s
          rw [ef_] at hM
          clear ef_
          obtain ⟨w_6, ew_6⟩ : ∃ z, z = va_up w1 v (.inl (ac 0, 60, .inl (mixF (i + 1) (shF x f) f))) := ⟨_, rfl⟩
          rw [← ew_6] at hM
          have h_7 : w_6 a = .inr (1, [.ref (adr v), .int (nI n)]) := by rw [ew_6, va_up_ne _ _ hav]; exact g1
          have h_8 : w_6 v = .inl (ac 0, 60, .inl (mixF (i + 1) (shF x f) f)) := by rw [ew_6]; exact va_up_self _ _ _
          refine lv_iload hx hb dX1_addFirst_36 (lv_at hl 0 rfl) ?_
          refine lv_istore_n (lv' := [(2, .int (shF x f (i + 1))), (4, .int (shF x f (i + 1))), (0, .ref (adr a)), (1, .int x), (3, .int (nI i))]) hx hb dX1_addFirst_38 rfl hl (by decide) rfl (fun ls hl => ?_)
          refine lv_iinc (v := nI (i + 1)) (lv' := [(3, .int (nI (i + 1))), (2, .int (shF x f (i + 1))), (4, .int (shF x f (i + 1))), (0, .ref (adr a)), (1, .int x)]) hx hb dX1_addFirst_39 hl (k := 4) rfl (nI_1 _) (by decide) rfl (fun ls hl => ?_)
          refine lv_goto (tgt := 4) hx hb dX1_addFirst_42 (by decide) ?_
          exact ih4 (i + 1) (by omega) (by omega) w_6 h_7 h_8 (fun q q1 q2 => by rw [ew_6, va_up_ne _ _ q2]; exact g3 q q1 q2) _ _ hM hS ls (lv_sub hl [3, 4, 1, 0] rfl)
  exact L4 _ 0 (Nat.lt_succ_self _) (Nat.zero_le _) w h1 (by rw [mixF_0]; exact h2) (fun q _ _ => rfl) _ _ hM hS ls (lv_sub hl [2, 3, 1, 0] rfl)
theorem rap {w w1 w2 : Nat → va_E} {a v n i k : Nat} {f : Nat → Int32} {e1 : va_E} {F : (Nat → Int32) → va_E} (h : w2 = va_up w1 a e1) (g2 : w1 v = F (cutT k i f)) (g3 : ∀ q, q ≠ a → q ≠ v → w1 q = w q) (hin : i + 1 = n) : ∃ f1, w2 = va_up (va_up w v (F f1)) a e1 ∧ ∀ j, j + 1 < n → f1 j = cutF k f j := by
  refine ⟨cutT k i f, ?_, fun j hj => ?_⟩
  · rw [h]
    funext q
    by_cases q1 : q = a
    · subst q1; simp [va_up]
    · by_cases q2 : q = v
      · subst q2; simp [va_up, q1, g2]
      · simp [va_up, q1, q2, g3 q q1 q2]
  · unfold cutT
    rw [if_pos (by omega)]
set_option maxHeartbeats 4000000 in
set_option maxRecDepth 100000 in
/-- Line.removeAt -/
theorem k_X1_removeAt (l : Launch) (D : va_G) (ac : Nat → ClassId) (H : Heap) (A : Nat → Prop) (N : Nat) (adr : Nat → Nat) (w : Nat → va_E) (hM : MW D A N adr w H) (a v n : Nat) (f : Nat → Int32) (ha : a < N) (hv1 : v < N) (hav : a ≠ v) (h1 : w a = .inr (1, [.ref (adr v), .int (nI n)])) (h2 : w v = .inl (ac 0, 60, .inl f)) (hn : n ≤ 60) (k : Nat) (hgn : k < n) : WRv l yX1_removeAt wsX1_removeAt ({ frames := 1, cells := 0, slots := 0, locals := 21 }) [.ref (adr a), .int (nI k)] D ac H A N adr (fun w1 => ∃ f1 : Nat → Int32, w1 = va_up (va_up w v (.inl (ac 0, 60, .inl f1))) a (.inr (1, [.ref (adr v), .int (nI (n - 1))])) ∧ ∀ j, j + 1 < n → f1 j = cutF k f j) := by
  refine Met.ofW (cc := cX1_removeAt) (maxL := 3) (ret := none) (by decide) rfl ?_
  intro p e s m args below meth c s₁ B hml hv
  obtain ⟨hargs, hsz, hK⟩ := hv
  have hx := B.exec
  have hb := B.bytes
  have hr := B.returns
  have hts := atoms_spec (ws := wsX1_removeAt) B.pre
  have hown : s.vm.findClass RX1 = some m.cls := findClass_of_methodNamed B.named
  have hlocks := B.notSynchronized
  subst hsz
  have inX1_ : ∀ w ∈ wsX10, w ∈ wsX1_removeAt := by decide +kernel
  have hS : va_S A s.heap s.heap [] := va_S.rf
  have hl := lv_entry ([.ref (adr a), .int (nI k)]) (n := 3) (Nat.le_of_ble_eq_true rfl)
  have hen := lg_entry_eq m [.ref (adr a), .int (nI k)] 3
  rw [← hargs] at hen
  rw [hen]
  generalize (lg_sl ([.ref (adr a), .int (nI k)]) ++ List.replicate (3 - (lg_sl ([.ref (adr a), .int (nI k)])).length) Slot.unset).toArray = ls at hl ⊢
  have hl : lv_has ls 3 [(0, .ref (adr a)), (1, .int (nI k))] := hl
  obtain ⟨Q0, hQ0⟩ : ∃ z, z = MQ below (va_Qv (fun w1 => ∃ f1 : Nat → Int32, w1 = va_up (va_up w v (.inl (ac 0, 60, .inl f1))) a (.inr (1, [.ref (adr v), .int (nI (n - 1))])) ∧ ∀ j, j + 1 < n → f1 j = cutF k f j) (fun c t => MW D A N adr c t.heap) A) args s 0 0 A := ⟨_, rfl⟩
  rw [← hQ0]
  refine lv_aload_n hx hb dX1_removeAt_0 rfl (lv_at hl 0 rfl) ?_
  refine lv_iload_n hx hb dX1_removeAt_1 rfl (lv_at hl 1 rfl) ?_
  refine r_calli (va_runV (As := [.int (nI k)]) (rest := []) ⟨hx, hb, hml, hown, hts⟩ (k_X1_hasPlace l D ac _ (adr a) (adr v) n f (hM.cel ha h1) (hM.cel hv1 h2) (by omega) (nI k)) (cwV 1 hts gX1_removeAt_X1_hasPlace rfl rfl rfl (by decide +kernel) ⟨Nat.le_of_ble_eq_true rfl, Nat.le_of_ble_eq_true rfl⟩) (pV hK (ci := 1) rfl (hM.cel ha h1)) rfl rfl hl.1 rfl (lv_room (Nat.le_of_ble_eq_true rfl)) dX1_removeAt_2 ⟨Nat.le_of_ble_eq_true rfl, Nat.le_of_ble_eq_true rfl⟩) hS (fun rv_1 locs hrv_1 hS => ?_)
  subst hrv_1
  rcases hi : ix (nI k) n with _ | jhi
  · exact absurd (ix_nI hgn (by omega)) (by rw [hi]; exact fun h => nomatch h)
  · refine m_top (show _ = (1 : Int32) from rfl) ?_
    refine lv_if_ne (tgt := 9) hx hb dX1_removeAt_5 (by decide) (fun c5 => ?_) (fun c5 => ?_)
    · refine lv_iload_n hx hb dX1_removeAt_9 rfl (lv_at hl 1 rfl) ?_
      refine lv_iconst (v := 1) hx hb dX1_removeAt_10 (by decide) ?_
      refine lv_iadd hx hb dX1_removeAt_11 ?_
      refine m_top (show ((nI k) + 1) = nI (k + 1) from nI_1 k) ?_
      refine lv_istore_n (lv' := [(2, .int (nI (k + 1))), (0, .ref (adr a)), (1, .int (nI k))]) hx hb dX1_removeAt_12 rfl hl (by decide) rfl (fun ls hl => ?_)
      have L13 : ∀ (k9 : Nat) (i : Nat) (hk : n - i < k9) (hi8 : i + 1 ≤ n) (hki : k ≤ i) (w1 : Nat → va_E) (g1 : w1 a = .inr (1, [.ref (adr v), .int (nI n)])) (g2 : w1 v = .inl (ac 0, 60, .inl (cutT k i f))) (g3 : ∀ q, q ≠ a → q ≠ v → w1 q = w q) (H : Heap) (locs : List Loc) (hM : MW D A N adr w1 H) (hS : va_S A s.heap H locs) (ls : Array Slot) (hl : lv_has ls 3 [(0, .ref (adr a)), (1, .int (nI k)), (2, .int (nI (i + 1)))]), W p l e (headSpec wsX1_removeAt ({ frames := 1, cells := 0, slots := 0, locals := 21 })).room s m args below meth c H locs 0 0 Q0 (F0 m 13 ls []) := by
        intro k9
        induction k9 with
        | zero => intro i hk hi8 hki w1 g1 g2 g3 H locs hM hS ls hl; exact absurd hk (Nat.not_lt_zero _)
        | succ k9 ih13 =>
          intro i hk hi8 hki w1 g1 g2 g3 H locs hM hS ls hl
          refine lv_iload_n hx hb dX1_removeAt_13 rfl (lv_at hl 2 rfl) ?_
          refine lv_aload_n hx hb dX1_removeAt_14 rfl (lv_at hl 0 rfl) ?_
          refine m_get (ci := 1) (C := RX1) (T := TX1) (n := 2) (v := .int (nI n)) hx hb hts inX1_ hown hK rfl (hM.cel ha g1) 1 (by decide) (hts _ (by decide +kernel)) rfl dX1_removeAt_15 ?_
          refine lv_icmp_ge (tgt := 50) hx hb dX1_removeAt_18 (by decide) (fun c18 => ?_) (fun c18 => ?_)
          · have hin : i + 1 = n := by have := le_le (b := i + 1) c18 (by omega) (by omega); omega
            refine lv_aload_n hx hb dX1_removeAt_50 rfl (lv_at hl 0 rfl) ?_
            refine lv_dup hx hb dX1_removeAt_51 rfl ?_
            refine m_get (ci := 1) (C := RX1) (T := TX1) (n := 2) (v := .int (nI n)) hx hb hts inX1_ hown hK rfl (hM.cel ha g1) 1 (by decide) (hts _ (by decide +kernel)) rfl dX1_removeAt_52 ?_
            refine lv_iconst (v := 1) hx hb dX1_removeAt_55 (by decide) ?_
            refine lv_isub hx hb dX1_removeAt_56 ?_
            refine m_top (show ((nI n) - 1) = nI (n - 1) from pk_sub (a := n) (b := 1) (by omega)) ?_
            refine m_put (ci := 1) (C := RX1) (T := TX1) (n := 2) (v := .int (nI (n - 1))) (ty := tyX1 1) hx hb hts inX1_ tyX1 tyX1_ok nmX1 hown hK hM hS rfl a ha g1 1 (by decide) (hts _ (by decide +kernel)) rfl (by decide +kernel) rfl rfl (Nat.le_of_ble_eq_true rfl) dX1_removeAt_57 (fun H locs hM hS => ?_)
            have hM : MW D A N adr (va_up w1 a (.inr (1, [.ref (adr v), .int (nI (n - 1))]))) H := hM
            obtain ⟨w_2, ew_2⟩ : ∃ z, z = va_up w1 a (.inr (1, [.ref (adr v), .int (nI (n - 1))])) := ⟨_, rfl⟩
            rw [← ew_2] at hM
            have h_3 : w_2 a = .inr (1, [.ref (adr v), .int (nI (n - 1))]) := by rw [ew_2]; exact va_up_self _ _ _
            have h_4 : w_2 v = .inl (ac 0, 60, .inl (cutT k i f)) := by rw [ew_2, va_up_ne _ _ (Ne.symm hav)]; exact g2
            rw [hQ0]
            exact e_wv hx hb hlocks hr dX1_removeAt_60 hM hS (rap (F := fun z => .inl (ac 0, 60, .inl z)) ew_2 g2 g3 hin)
          · have hin : i + 1 < n := nle_lt c18 (by omega) (by omega)
            refine lv_iload_n hx hb dX1_removeAt_21 rfl (lv_at hl 2 rfl) ?_
            refine lv_aload_n hx hb dX1_removeAt_22 rfl (lv_at hl 0 rfl) ?_
            refine m_get (ci := 1) (C := RX1) (T := TX1) (n := 2) (v := .ref (adr v)) hx hb hts inX1_ hown hK rfl (hM.cel ha g1) 0 (by decide) (hts _ (by decide +kernel)) rfl dX1_removeAt_23 ?_
            refine m_alen (v := 60) (ty := _) hx hb hK 0 (hM.cel hv1 g2) rfl (by first | rfl | decide) dX1_removeAt_26 ?_
            refine lv_icmp_ge (tgt := 50) hx hb dX1_removeAt_27 (by decide) (fun c27 => ?_) (fun c27 => ?_)
            · exact absurd (le_le (a := 60) (b := i + 1) c27 (by omega) (by omega)) (by omega)
            · refine lv_aload_n hx hb dX1_removeAt_30 rfl (lv_at hl 0 rfl) ?_
              refine m_get (ci := 1) (C := RX1) (T := TX1) (n := 2) (v := .ref (adr v)) hx hb hts inX1_ hown hK rfl (hM.cel ha g1) 0 (by decide) (hts _ (by decide +kernel)) rfl dX1_removeAt_31 ?_
              refine lv_iload_n hx hb dX1_removeAt_34 rfl (lv_at hl 2 rfl) ?_
              refine lv_iconst (v := 1) hx hb dX1_removeAt_35 (by decide) ?_
              refine lv_isub hx hb dX1_removeAt_36 ?_
              refine m_top (show ((nI (i + 1)) - 1) = nI i from by rw [← nI_1]; exact Int32.add_sub_cancel _ _) ?_
              refine lv_aload_n hx hb dX1_removeAt_37 rfl (lv_at hl 0 rfl) ?_
              refine m_get (ci := 1) (C := RX1) (T := TX1) (n := 2) (v := .ref (adr v)) hx hb hts inX1_ hown hK rfl (hM.cel ha g1) 0 (by decide) (hts _ (by decide +kernel)) rfl dX1_removeAt_38 ?_
              refine lv_iload_n hx hb dX1_removeAt_41 rfl (lv_at hl 2 rfl) ?_
              refine m_iald hx hb hK (hM.cel hv1 g2) (vp_in_nI (by omega) (by decide)) dX1_removeAt_42 ?_
              refine m_top (show ((cutT k i f) (nI (i + 1)).toNatClampNeg) = f (i + 1) from by rw [nI_clamp (by omega)]; unfold cutT; rw [if_neg (by omega)]) ?_
              refine m_iast hx hb hK hM hS v hv1 g2 (vp_in_nI (by omega) (by decide)) dX1_removeAt_43 (fun H locs hM hS => ?_)
              have ef_ : (upd (cutT k i f) (nI i).toNatClampNeg (f (i + 1))) = cutT k (i + 1) f := by rw [nI_clamp (by omega)]; exact cutT_s hki
              rw [ef_] at hM
              clear ef_
              obtain ⟨w_6, ew_6⟩ : ∃ z, z = va_up w1 v (.inl (ac 0, 60, .inl (cutT k (i + 1) f))) := ⟨_, rfl⟩
              rw [← ew_6] at hM
              have h_7 : w_6 a = .inr (1, [.ref (adr v), .int (nI n)]) := by rw [ew_6, va_up_ne _ _ hav]; exact g1
              have h_8 : w_6 v = .inl (ac 0, 60, .inl (cutT k (i + 1) f)) := by rw [ew_6]; exact va_up_self _ _ _
              refine lv_iinc (v := nI ((i + 1) + 1)) (lv' := [(2, .int (nI ((i + 1) + 1))), (0, .ref (adr a)), (1, .int (nI k))]) hx hb dX1_removeAt_44 hl (k := 2) rfl (nI_1 _) (by decide) rfl (fun ls hl => ?_)
              refine lv_goto (tgt := 13) hx hb dX1_removeAt_47 (by decide) ?_
              exact ih13 (i + 1) (by omega) (by omega) (by omega) w_6 h_7 h_8 (fun q q1 q2 => by rw [ew_6, va_up_ne _ _ q2]; exact g3 q q1 q2) _ _ hM hS ls (lv_sub hl [1, 2, 0] rfl)
      exact L13 _ k (Nat.lt_succ_self _) (by omega) (Nat.le_refl _) w h1 (by rw [cutT_0]; exact h2) (fun q _ _ => rfl) _ _ hM hS ls (lv_sub hl [1, 2, 0] rfl)
    · exact absurd c5 (by decide)
end
section
set_option maxHeartbeats 4000000 in
set_option maxRecDepth 100000 in
/-- Row.has -/
theorem k_X4_has (l : Launch) (D : va_G) (ac : Nat → ClassId) (H : Heap) (a v n : Nat) (f : Nat → Int32) (h1 : Cel D H a (.inr (4, [.ref v, .int (nI n)]))) (h2 : Cel D H v (.inl (ac 0, 8, .inl f))) (hn : n ≤ 8) (x : Int32) : ROi l yX4_has wsX4_has ({ frames := 0, cells := 0, slots := 0, locals := 0 }) [.ref a, .int x] D ac H (fun r => r = if (ix x n).isSome then 1 else 0) := by
  refine Met.ofW (cc := cX4_has) (maxL := 2) (ret := (some .boolean)) (by decide) rfl ?_
  intro p e s m args below meth c s₁ B hml hv
  obtain ⟨hargs, hsz, hK⟩ := hv
  have hx := B.exec
  have hb := B.bytes
  have hr := B.returns
  have hts := atoms_spec (ws := wsX4_has) B.pre
  have hown : s.vm.findClass RX4 = some m.cls := findClass_of_methodNamed B.named
  have hlocks := B.notSynchronized
  subst hsz
  have inX4_ : ∀ w ∈ wsX40, w ∈ wsX4_has := by decide +kernel
  have hS : va_S (fun _ => False) s.heap s.heap [] := va_S.rf
  have hl := lv_entry ([.ref a, .int x]) (n := 2) (Nat.le_of_ble_eq_true rfl)
  have hen := lg_entry_eq m [.ref a, .int x] 2
  rw [← hargs] at hen
  rw [hen]
  generalize (lg_sl ([.ref a, .int x]) ++ List.replicate (2 - (lg_sl ([.ref a, .int x])).length) Slot.unset).toArray = ls at hl ⊢
  have hl : lv_has ls 2 [(0, .ref a), (1, .int x)] := hl
  refine lv_iload_n hx hb dX4_has_0 rfl (lv_at hl 1 rfl) ?_
  refine lv_if_lt (tgt := 25) hx hb dX4_has_1 (by decide) (fun c1 => ?_) (fun c1 => ?_)
  · refine lv_iconst (v := 0) hx hb dX4_has_25 (by decide) ?_
    exact e_z hx hb hlocks hr dX4_has_26 (by decide) hS (by simp [ix, *])
  · refine lv_iload_n hx hb dX4_has_4 rfl (lv_at hl 1 rfl) ?_
    refine lv_aload_n hx hb dX4_has_5 rfl (lv_at hl 0 rfl) ?_
    refine m_get (ci := 4) (C := RX4) (T := TX4) (n := 2) (v := .int (nI n)) hx hb hts inX4_ hown hK rfl h1 1 (by decide) (hts _ (by decide +kernel)) rfl dX4_has_6 ?_
    refine lv_icmp_ge (tgt := 25) hx hb dX4_has_9 (by decide) (fun c9 => ?_) (fun c9 => ?_)
    · refine lv_iconst (v := 0) hx hb dX4_has_25 (by decide) ?_
      exact e_z hx hb hlocks hr dX4_has_26 (by decide) hS (by simp [ix, *])
    · refine lv_iload_n hx hb dX4_has_12 rfl (lv_at hl 1 rfl) ?_
      refine lv_aload_n hx hb dX4_has_13 rfl (lv_at hl 0 rfl) ?_
      refine m_get (ci := 4) (C := RX4) (T := TX4) (n := 2) (v := .ref v) hx hb hts inX4_ hown hK rfl h1 0 (by decide) (hts _ (by decide +kernel)) rfl dX4_has_14 ?_
      refine m_alen (v := 8) (ty := _) hx hb hK 0 h2 rfl (by first | rfl | decide) dX4_has_17 ?_
      refine lv_icmp_ge (tgt := 25) hx hb dX4_has_18 (by decide) (fun c18 => ?_) (fun c18 => ?_)
      · exact (nle_dead c9 c18 hn (by decide)).elim
      · refine lv_iconst (v := 1) hx hb dX4_has_21 (by decide) ?_
        refine lv_goto (tgt := 26) hx hb dX4_has_22 (by decide) ?_
        exact e_z hx hb hlocks hr dX4_has_26 (by decide) hS (by simp [ix, *])
set_option maxHeartbeats 4000000 in
set_option maxRecDepth 100000 in
/-- Row.at -/
theorem k_X4_at (l : Launch) (D : va_G) (ac : Nat → ClassId) (H : Heap) (a v n : Nat) (f : Nat → Int32) (h1 : Cel D H a (.inr (4, [.ref v, .int (nI n)]))) (h2 : Cel D H v (.inl (ac 0, 8, .inl f))) (hn : n ≤ 8) (x : Int32) : ROi l yX4_at wsX4_at ({ frames := 0, cells := 0, slots := 0, locals := 0 }) [.ref a, .int x] D ac H (fun r => r = (ix x n).elim (-1) f) := by
  refine Met.ofW (cc := cX4_at) (maxL := 2) (ret := (some .int)) (by decide) rfl ?_
  intro p e s m args below meth c s₁ B hml hv
  obtain ⟨hargs, hsz, hK⟩ := hv
  have hx := B.exec
  have hb := B.bytes
  have hr := B.returns
  have hts := atoms_spec (ws := wsX4_at) B.pre
  have hown : s.vm.findClass RX4 = some m.cls := findClass_of_methodNamed B.named
  have hlocks := B.notSynchronized
  subst hsz
  have inX4_ : ∀ w ∈ wsX40, w ∈ wsX4_at := by decide +kernel
  have hS : va_S (fun _ => False) s.heap s.heap [] := va_S.rf
  have hl := lv_entry ([.ref a, .int x]) (n := 2) (Nat.le_of_ble_eq_true rfl)
  have hen := lg_entry_eq m [.ref a, .int x] 2
  rw [← hargs] at hen
  rw [hen]
  generalize (lg_sl ([.ref a, .int x]) ++ List.replicate (2 - (lg_sl ([.ref a, .int x])).length) Slot.unset).toArray = ls at hl ⊢
  have hl : lv_has ls 2 [(0, .ref a), (1, .int x)] := hl
  refine lv_iload_n hx hb dX4_at_0 rfl (lv_at hl 1 rfl) ?_
  refine lv_if_lt (tgt := 30) hx hb dX4_at_1 (by decide) (fun c1 => ?_) (fun c1 => ?_)
  · refine lv_iconst (v := (-1)) hx hb dX4_at_30 (by decide) ?_
    exact e_i hx hb hlocks hr dX4_at_31 hS (by simp [ix, *])
  · refine lv_iload_n hx hb dX4_at_4 rfl (lv_at hl 1 rfl) ?_
    refine lv_aload_n hx hb dX4_at_5 rfl (lv_at hl 0 rfl) ?_
    refine m_get (ci := 4) (C := RX4) (T := TX4) (n := 2) (v := .int (nI n)) hx hb hts inX4_ hown hK rfl h1 1 (by decide) (hts _ (by decide +kernel)) rfl dX4_at_6 ?_
    refine lv_icmp_ge (tgt := 30) hx hb dX4_at_9 (by decide) (fun c9 => ?_) (fun c9 => ?_)
    · refine lv_iconst (v := (-1)) hx hb dX4_at_30 (by decide) ?_
      exact e_i hx hb hlocks hr dX4_at_31 hS (by simp [ix, *])
    · refine lv_iload_n hx hb dX4_at_12 rfl (lv_at hl 1 rfl) ?_
      refine lv_aload_n hx hb dX4_at_13 rfl (lv_at hl 0 rfl) ?_
      refine m_get (ci := 4) (C := RX4) (T := TX4) (n := 2) (v := .ref v) hx hb hts inX4_ hown hK rfl h1 0 (by decide) (hts _ (by decide +kernel)) rfl dX4_at_14 ?_
      refine m_alen (v := 8) (ty := _) hx hb hK 0 h2 rfl (by first | rfl | decide) dX4_at_17 ?_
      refine lv_icmp_ge (tgt := 30) hx hb dX4_at_18 (by decide) (fun c18 => ?_) (fun c18 => ?_)
      · exact (nle_dead c9 c18 hn (by decide)).elim
      · refine lv_aload_n hx hb dX4_at_21 rfl (lv_at hl 0 rfl) ?_
        refine m_get (ci := 4) (C := RX4) (T := TX4) (n := 2) (v := .ref v) hx hb hts inX4_ hown hK rfl h1 0 (by decide) (hts _ (by decide +kernel)) rfl dX4_at_22 ?_
        refine lv_iload_n hx hb dX4_at_25 rfl (lv_at hl 1 rfl) ?_
        refine m_iald hx hb hK h2 (by first | exact vin_a (by assumption) (by assumption) (by decide) | exact vin_b (by assumption) (by assumption) (by decide)) dX4_at_26 ?_
        refine lv_goto (tgt := 31) hx hb dX4_at_27 (by decide) ?_
        exact e_i hx hb hlocks hr dX4_at_31 hS (by simp [ix, *])
set_option maxHeartbeats 4000000 in
set_option maxRecDepth 100000 in
/-- Row.put, at a place that is there -/
theorem k_X4_put (l : Launch) (D : va_G) (ac : Nat → ClassId) (H : Heap) (A : Nat → Prop) (N : Nat) (adr : Nat → Nat) (w : Nat → va_E) (hM : MW D A N adr w H) (a v n : Nat) (f : Nat → Int32) (ha : a < N) (hv1 : v < N) (hav : a ≠ v) (h1 : w a = .inr (4, [.ref (adr v), .int (nI n)])) (h2 : w v = .inl (ac 0, 8, .inl f)) (hn : n ≤ 8) (k : Nat) (hk : k < n) (y : Int32) : WRv l yX4_put wsX4_put ({ frames := 1, cells := 0, slots := 0, locals := 21 }) [.ref (adr a), .int (nI k), .int y] D ac H A N adr (fun w1 => w1 = va_up w v (.inl (ac 0, 8, .inl (upd f k y)))) := by
  refine Met.ofW (cc := cX4_put) (maxL := 3) (ret := none) (by decide) rfl ?_
  intro p e s m args below meth c s₁ B hml hv
  obtain ⟨hargs, hsz, hK⟩ := hv
  have hx := B.exec
  have hb := B.bytes
  have hr := B.returns
  have hts := atoms_spec (ws := wsX4_put) B.pre
  have hown : s.vm.findClass RX4 = some m.cls := findClass_of_methodNamed B.named
  have hlocks := B.notSynchronized
  subst hsz
  have inX4_ : ∀ w ∈ wsX40, w ∈ wsX4_put := by decide +kernel
  have hS : va_S A s.heap s.heap [] := va_S.rf
  have hl := lv_entry ([.ref (adr a), .int (nI k), .int y]) (n := 3) (Nat.le_of_ble_eq_true rfl)
  have hen := lg_entry_eq m [.ref (adr a), .int (nI k), .int y] 3
  rw [← hargs] at hen
  rw [hen]
  generalize (lg_sl ([.ref (adr a), .int (nI k), .int y]) ++ List.replicate (3 - (lg_sl ([.ref (adr a), .int (nI k), .int y])).length) Slot.unset).toArray = ls at hl ⊢
  have hl : lv_has ls 3 [(0, .ref (adr a)), (1, .int (nI k)), (2, .int y)] := hl
  refine lv_aload_n hx hb dX4_put_0 rfl (lv_at hl 0 rfl) ?_
  refine lv_iload_n hx hb dX4_put_1 rfl (lv_at hl 1 rfl) ?_
  refine r_calli (va_runV (As := [.int (nI k)]) (rest := []) ⟨hx, hb, hml, hown, hts⟩ (k_X4_has l D ac _ (adr a) (adr v) n f (hM.cel ha h1) (hM.cel hv1 h2) (by omega) (nI k)) (cwV 1 hts gX4_put_X4_has rfl rfl rfl (by decide +kernel) ⟨Nat.le_of_ble_eq_true rfl, Nat.le_of_ble_eq_true rfl⟩) (pV hK (ci := 4) rfl (hM.cel ha h1)) rfl rfl hl.1 rfl (lv_room (Nat.le_of_ble_eq_true rfl)) dX4_put_2 ⟨Nat.le_of_ble_eq_true rfl, Nat.le_of_ble_eq_true rfl⟩) hS (fun rv_1 locs hrv_1 hS => ?_)
  subst hrv_1
  rcases hi : ix (nI k) n with _ | jhi
  · exact absurd (ix_nI hk (by omega)) (by rw [hi]; exact fun h => nomatch h)
  · refine m_top (show _ = (1 : Int32) from rfl) ?_
    refine lv_if_eq (tgt := 15) hx hb dX4_put_5 (by decide) (fun c5 => ?_) (fun c5 => ?_)
    · exact absurd c5 (by decide)
    · refine lv_aload_n hx hb dX4_put_8 rfl (lv_at hl 0 rfl) ?_
      refine m_get (ci := 4) (C := RX4) (T := TX4) (n := 2) (v := .ref (adr v)) hx hb hts inX4_ hown hK rfl (hM.cel ha h1) 0 (by decide) (hts _ (by decide +kernel)) rfl dX4_put_9 ?_
      refine lv_iload_n hx hb dX4_put_12 rfl (lv_at hl 1 rfl) ?_
      refine lv_iload_n hx hb dX4_put_13 rfl (lv_at hl 2 rfl) ?_
      refine m_iast hx hb hK hM hS v hv1 h2 (vp_in_nI (by omega) (by decide)) dX4_put_14 (fun H locs hM hS => ?_)
      have ef_ : (upd f (nI k).toNatClampNeg y) = upd f k y := by rw [nI_clamp (by omega)]
      rw [ef_] at hM
      clear ef_
      obtain ⟨w_3, ew_3⟩ : ∃ z, z = va_up w v (.inl (ac 0, 8, .inl (upd f k y))) := ⟨_, rfl⟩
      rw [← ew_3] at hM
      have h_4 : w_3 a = .inr (4, [.ref (adr v), .int (nI n)]) := by rw [ew_3, va_up_ne _ _ hav]; exact h1
      have h_5 : w_3 v = .inl (ac 0, 8, .inl (upd f k y)) := by rw [ew_3]; exact va_up_self _ _ _
      exact e_wv hx hb hlocks hr dX4_put_15 hM hS (by subst_vars; rfl)
set_option maxHeartbeats 4000000 in
set_option maxRecDepth 100000 in
/-- Row.append -/
theorem k_X4_append (l : Launch) (D : va_G) (ac : Nat → ClassId) (H : Heap) (A : Nat → Prop) (N : Nat) (adr : Nat → Nat) (w : Nat → va_E) (hM : MW D A N adr w H) (a v n : Nat) (f : Nat → Int32) (ha : a < N) (hv1 : v < N) (hav : a ≠ v) (h1 : w a = .inr (4, [.ref (adr v), .int (nI n)])) (h2 : w v = .inl (ac 0, 8, .inl f)) (hn : n < 8) (x : Int32) : WRv l yX4_append wsX4_append ({ frames := 0, cells := 0, slots := 0, locals := 0 }) [.ref (adr a), .int x] D ac H A N adr (fun w1 => w1 = va_up (va_up w v (.inl (ac 0, 8, .inl (upd f n x)))) a (.inr (4, [.ref (adr v), .int (nI (n + 1))]))) := by
  refine Met.ofW (cc := cX4_append) (maxL := 3) (ret := none) (by decide) rfl ?_
  intro p e s m args below meth c s₁ B hml hv
  obtain ⟨hargs, hsz, hK⟩ := hv
  have hx := B.exec
  have hb := B.bytes
  have hr := B.returns
  have hts := atoms_spec (ws := wsX4_append) B.pre
  have hown : s.vm.findClass RX4 = some m.cls := findClass_of_methodNamed B.named
  have hlocks := B.notSynchronized
  subst hsz
  have inX4_ : ∀ w ∈ wsX40, w ∈ wsX4_append := by decide +kernel
  have hS : va_S A s.heap s.heap [] := va_S.rf
  have hl := lv_entry ([.ref (adr a), .int x]) (n := 3) (Nat.le_of_ble_eq_true rfl)
  have hen := lg_entry_eq m [.ref (adr a), .int x] 3
  rw [← hargs] at hen
  rw [hen]
  generalize (lg_sl ([.ref (adr a), .int x]) ++ List.replicate (3 - (lg_sl ([.ref (adr a), .int x])).length) Slot.unset).toArray = ls at hl ⊢
  have hl : lv_has ls 3 [(0, .ref (adr a)), (1, .int x)] := hl
  refine lv_aload_n hx hb dX4_append_0 rfl (lv_at hl 0 rfl) ?_
  refine m_get (ci := 4) (C := RX4) (T := TX4) (n := 2) (v := .int (nI n)) hx hb hts inX4_ hown hK rfl (hM.cel ha h1) 1 (by decide) (hts _ (by decide +kernel)) rfl dX4_append_1 ?_
  refine lv_istore_n (lv' := [(2, .int (nI n)), (0, .ref (adr a)), (1, .int x)]) hx hb dX4_append_4 rfl hl (by decide) rfl (fun ls hl => ?_)
  refine lv_iload_n hx hb dX4_append_5 rfl (lv_at hl 0 rfl) ?_
  refine lv_if_lt (tgt := 32) hx hb dX4_append_6 (by decide) (fun c6 => ?_) (fun c6 => ?_)
  · exact absurd c6 (nI_pos (by omega))
  · refine lv_iload_n hx hb dX4_append_9 rfl (lv_at hl 0 rfl) ?_
    refine lv_aload_n hx hb dX4_append_10 rfl (lv_at hl 1 rfl) ?_
    refine m_get (ci := 4) (C := RX4) (T := TX4) (n := 2) (v := .ref (adr v)) hx hb hts inX4_ hown hK rfl (hM.cel ha h1) 0 (by decide) (hts _ (by decide +kernel)) rfl dX4_append_11 ?_
    refine m_alen (v := 8) (ty := _) hx hb hK 0 (hM.cel hv1 h2) rfl (by first | rfl | decide) dX4_append_14 ?_
    refine lv_icmp_ge (tgt := 32) hx hb dX4_append_15 (by decide) (fun c15 => ?_) (fun c15 => ?_)
    · exact absurd (le_le (a := 8) (b := n) c15 (by omega) (by omega)) (by omega)
    · refine lv_aload_n hx hb dX4_append_18 rfl (lv_at hl 1 rfl) ?_
      refine m_get (ci := 4) (C := RX4) (T := TX4) (n := 2) (v := .ref (adr v)) hx hb hts inX4_ hown hK rfl (hM.cel ha h1) 0 (by decide) (hts _ (by decide +kernel)) rfl dX4_append_19 ?_
      refine lv_iload_n hx hb dX4_append_22 rfl (lv_at hl 0 rfl) ?_
      refine lv_iload_n hx hb dX4_append_23 rfl (lv_at hl 2 rfl) ?_
      refine m_iast hx hb hK hM hS v hv1 h2 (vp_in_nI (by omega) (by decide)) dX4_append_24 (fun H locs hM hS => ?_)
      have ef_ : (upd f (nI n).toNatClampNeg x) = upd f n x := by rw [nI_clamp (by omega)]
      rw [ef_] at hM
      clear ef_
      obtain ⟨w_2, ew_2⟩ : ∃ z, z = va_up w v (.inl (ac 0, 8, .inl (upd f n x))) := ⟨_, rfl⟩
      rw [← ew_2] at hM
      have h_3 : w_2 a = .inr (4, [.ref (adr v), .int (nI n)]) := by rw [ew_2, va_up_ne _ _ hav]; exact h1
      have h_4 : w_2 v = .inl (ac 0, 8, .inl (upd f n x)) := by rw [ew_2]; exact va_up_self _ _ _
      refine lv_aload_n hx hb dX4_append_25 rfl (lv_at hl 1 rfl) ?_
      refine lv_iload_n hx hb dX4_append_26 rfl (lv_at hl 0 rfl) ?_
      refine lv_iconst (v := 1) hx hb dX4_append_27 (by decide) ?_
      refine lv_iadd hx hb dX4_append_28 ?_
      refine m_top (show ((nI n) + 1) = nI (n + 1) from nI_1 n) ?_
      refine m_put (ci := 4) (C := RX4) (T := TX4) (n := 2) (v := .int (nI (n + 1))) (ty := tyX4 1) hx hb hts inX4_ tyX4 tyX4_ok nmX4 hown hK hM hS rfl a ha h_3 1 (by decide) (hts _ (by decide +kernel)) rfl (by decide +kernel) rfl rfl (Nat.le_of_ble_eq_true rfl) dX4_append_29 (fun H locs hM hS => ?_)
      have hM : MW D A N adr (va_up w_2 a (.inr (4, [.ref (adr v), .int (nI (n + 1))]))) H := hM
      obtain ⟨w_5, ew_5⟩ : ∃ z, z = va_up w_2 a (.inr (4, [.ref (adr v), .int (nI (n + 1))])) := ⟨_, rfl⟩
      rw [← ew_5] at hM
      have h_6 : w_5 a = .inr (4, [.ref (adr v), .int (nI (n + 1))]) := by rw [ew_5]; exact va_up_self _ _ _
      have h_7 : w_5 v = .inl (ac 0, 8, .inl (upd f n x)) := by rw [ew_5, va_up_ne _ _ (Ne.symm hav)]; exact h_4
      exact e_wv hx hb hlocks hr dX4_append_32 hM hS (by subst_vars; rfl)
end
section
def RulC (D : va_G) (ac : Nat → ClassId) (H : Heap) (u u1 u2 u3 : Nat) (fs fr ft : Nat → Int32) : Prop := Cel D H u (.inr (5, [.ref u1, .ref u2, .ref u3])) ∧ Cel D H u1 (.inl (ac 0, 600, .inl fs)) ∧ Cel D H u2 (.inl (ac 0, 200, .inl fr)) ∧ Cel D H u3 (.inl (ac 0, 200, .inl ft))
def SenC (D : va_G) (ac : Nat → ClassId) (H : Heap) (a r1 v1 r2 v2 cl n : Nat) (wf bf : Nat → Int32) (wd : Nat → Nat) : Prop := Cel D H a (.inr (6, [.int (nI cl), .ref r1, .ref r2])) ∧ Cel D H r1 (.inr (4, [.ref v1, .int (nI n)])) ∧ Cel D H v1 (.inl (ac 0, 8, .inl wf)) ∧ Cel D H r2 (.inr (4, [.ref v2, .int (nI n)])) ∧ Cel D H v2 (.inl (ac 0, 8, .inl bf)) ∧ n ≤ 8 ∧ cl < 4 ∧ ∀ j, j < n → wf j = nI (wd j) ∧ wd j < 50
set_option maxHeartbeats 4000000 in
set_option maxRecDepth 100000 in
/-- Rulings.slotOf -/
theorem k_X5_slotOf (l : Launch) (D : va_G) (ac : Nat → ClassId) (H : Heap) (k j : Nat) (hk : k < 4) (hj : j < 50) : ROi l yX5_slotOf wsX5_slotOf ({ frames := 0, cells := 0, slots := 0, locals := 0 }) [.int (nI k), .int (nI j)] D ac H (fun r => r = nI (k * 50 + j)) := by
  refine Met.ofW (cc := cX5_slotOf) (maxL := 3) (ret := (some .int)) (by decide) rfl ?_
  intro p e s m args below meth c s₁ B hml hv
  obtain ⟨hargs, hsz, hK⟩ := hv
  have hx := B.exec
  have hb := B.bytes
  have hr := B.returns
  have hts := atoms_spec (ws := wsX5_slotOf) B.pre
  have hown : s.vm.findClass RX5 = some m.cls := findClass_of_methodNamed B.named
  have hlocks := B.notSynchronized
  subst hsz
  have hS : va_S (fun _ => False) s.heap s.heap [] := va_S.rf
  have hl := lv_entry ([.int (nI k), .int (nI j)]) (n := 3) (Nat.le_of_ble_eq_true rfl)
  have hen := lg_entry_eq m [.int (nI k), .int (nI j)] 3
  rw [← hargs] at hen
  rw [hen]
  generalize (lg_sl ([.int (nI k), .int (nI j)]) ++ List.replicate (3 - (lg_sl ([.int (nI k), .int (nI j)])).length) Slot.unset).toArray = ls at hl ⊢
  have hl : lv_has ls 3 [(0, .int (nI k)), (1, .int (nI j))] := hl
  refine lv_iload_n hx hb dX5_slotOf_0 rfl (lv_at hl 0 rfl) ?_
  refine lv_if_lt (tgt := 23) hx hb dX5_slotOf_1 (by decide) (fun c1 => ?_) (fun c1 => ?_)
  · exact absurd c1 (nI_pos (by omega))
  · refine lv_iload_n hx hb dX5_slotOf_4 rfl (lv_at hl 0 rfl) ?_
    refine lv_iconst (v := 4) hx hb dX5_slotOf_5 (by decide) ?_
    refine lv_icmp_ge (tgt := 23) hx hb dX5_slotOf_6 (by decide) (fun c6 => ?_) (fun c6 => ?_)
    · exact absurd (le_le (a := 4) c6 (by omega) (by omega)) (by omega)
    · refine lv_iload_n hx hb dX5_slotOf_9 rfl (lv_at hl 1 rfl) ?_
      refine lv_if_lt (tgt := 23) hx hb dX5_slotOf_10 (by decide) (fun c10 => ?_) (fun c10 => ?_)
      · exact absurd c10 (nI_pos (by omega))
      · refine lv_iload_n hx hb dX5_slotOf_13 rfl (lv_at hl 1 rfl) ?_
        refine lv_bipush (v := 50) hx hb dX5_slotOf_14 (by decide) ?_
        refine lv_icmp_ge (tgt := 23) hx hb dX5_slotOf_16 (by decide) (fun c16 => ?_) (fun c16 => ?_)
        · exact absurd (le_le (a := 50) c16 (by omega) (by omega)) (by omega)
        · refine lv_iconst (v := 1) hx hb dX5_slotOf_19 (by decide) ?_
          refine lv_goto (tgt := 24) hx hb dX5_slotOf_20 (by decide) ?_
          refine lv_istore_n (lv' := [(2, .int 1), (0, .int (nI k)), (1, .int (nI j))]) hx hb dX5_slotOf_24 rfl hl (by decide) rfl (fun ls hl => ?_)
          refine lv_iload_n hx hb dX5_slotOf_25 rfl (lv_at hl 0 rfl) ?_
          refine lv_if_eq (tgt := 38) hx hb dX5_slotOf_26 (by decide) (fun c26 => ?_) (fun c26 => ?_)
          · exact absurd c26 (by decide)
          · refine lv_iload_n hx hb dX5_slotOf_29 rfl (lv_at hl 1 rfl) ?_
            refine lv_bipush (v := 50) hx hb dX5_slotOf_30 (by decide) ?_
            refine lv_imul hx hb dX5_slotOf_32 ?_
            refine lv_iload_n hx hb dX5_slotOf_33 rfl (lv_at hl 2 rfl) ?_
            refine lv_iadd hx hb dX5_slotOf_34 ?_
            refine m_top (show (((nI k) * 50) + (nI j)) = nI (k * 50 + j) from by rw [show (50 : Int32) = nI 50 from rfl, pk_mul, nI_add]) ?_
            refine lv_goto (tgt := 39) hx hb dX5_slotOf_35 (by decide) ?_
            exact e_i hx hb hlocks hr dX5_slotOf_39 hS (rfl)
set_option maxHeartbeats 4000000 in
set_option maxRecDepth 100000 in
/-- Rulings.rulingOf -/
theorem k_X5_rulingOf (l : Launch) (D : va_G) (ac : Nat → ClassId) (H : Heap) (u u1 u2 u3 : Nat) (fs fr ft : Nat → Int32) (h5 : RulC D ac H u u1 u2 u3 fs fr ft) (k j : Nat) (hk : k < 4) (hj : j < 50) : ROi l yX5_rulingOf wsX5_rulingOf ({ frames := 1, cells := 0, slots := 0, locals := 22 }) [.ref u, .int (nI k), .int (nI j)] D ac H (fun r => r = fr (k * 50 + j)) := by
  refine Met.ofW (cc := cX5_rulingOf) (maxL := 4) (ret := (some .int)) (by decide) rfl ?_
  intro p e s m args below meth c s₁ B hml hv
  obtain ⟨hargs, hsz, hK⟩ := hv
  have hx := B.exec
  have hb := B.bytes
  have hr := B.returns
  have hts := atoms_spec (ws := wsX5_rulingOf) B.pre
  have hown : s.vm.findClass RX5 = some m.cls := findClass_of_methodNamed B.named
  have hlocks := B.notSynchronized
  subst hsz
  have inX5_ : ∀ w ∈ wsX50, w ∈ wsX5_rulingOf := by decide +kernel
  have hS : va_S (fun _ => False) s.heap s.heap [] := va_S.rf
  have hl := lv_entry ([.ref u, .int (nI k), .int (nI j)]) (n := 4) (Nat.le_of_ble_eq_true rfl)
  have hen := lg_entry_eq m [.ref u, .int (nI k), .int (nI j)] 4
  rw [← hargs] at hen
  rw [hen]
  generalize (lg_sl ([.ref u, .int (nI k), .int (nI j)]) ++ List.replicate (4 - (lg_sl ([.ref u, .int (nI k), .int (nI j)])).length) Slot.unset).toArray = ls at hl ⊢
  have hl : lv_has ls 4 [(0, .ref u), (1, .int (nI k)), (2, .int (nI j))] := hl
  refine lv_iload_n hx hb dX5_rulingOf_0 rfl (lv_at hl 1 rfl) ?_
  refine lv_iload_n hx hb dX5_rulingOf_1 rfl (lv_at hl 2 rfl) ?_
  refine r_calli (va_runS (As := [.int (nI k), .int (nI j)]) (rest := []) ⟨hx, hb, hml, hown, hts⟩ (k_X5_slotOf l D ac _ k j (by omega) (by omega)) (va_cwS 2 hts gX5_rulingOf_X5_slotOf rfl rfl rfl (by decide +kernel) ⟨Nat.le_of_ble_eq_true rfl, Nat.le_of_ble_eq_true rfl⟩) (pS hK) rfl rfl hl.1 rfl (lv_room (Nat.le_of_ble_eq_true rfl)) dX5_rulingOf_2 ⟨Nat.le_of_ble_eq_true rfl, Nat.le_of_ble_eq_true rfl⟩) hS (fun rv_1 locs hrv_1 hS => ?_)
  subst hrv_1
  refine lv_istore_n (lv' := [(3, .int (nI (k * 50 + j))), (0, .ref u), (1, .int (nI k)), (2, .int (nI j))]) hx hb dX5_rulingOf_5 rfl hl (by decide) rfl (fun ls hl => ?_)
  refine lv_iload_n hx hb dX5_rulingOf_6 rfl (lv_at hl 0 rfl) ?_
  refine lv_if_lt (tgt := 28) hx hb dX5_rulingOf_7 (by decide) (fun c7 => ?_) (fun c7 => ?_)
  · exact absurd c7 (nI_pos (by omega))
  · refine lv_iload_n hx hb dX5_rulingOf_10 rfl (lv_at hl 0 rfl) ?_
    refine lv_aload_n hx hb dX5_rulingOf_11 rfl (lv_at hl 1 rfl) ?_
    refine m_get (ci := 5) (C := RX5) (T := TX5) (n := 3) (v := .ref u2) hx hb hts inX5_ hown hK rfl h5.1 1 (by decide) (hts _ (by decide +kernel)) rfl dX5_rulingOf_12 ?_
    refine m_alen (v := 200) (ty := _) hx hb hK 0 h5.2.2.1 rfl (by first | rfl | decide) dX5_rulingOf_15 ?_
    refine lv_icmp_ge (tgt := 28) hx hb dX5_rulingOf_16 (by decide) (fun c16 => ?_) (fun c16 => ?_)
    · exact absurd (le_le (a := 200) c16 (by omega) (by omega)) (by omega)
    · refine lv_aload_n hx hb dX5_rulingOf_19 rfl (lv_at hl 1 rfl) ?_
      refine m_get (ci := 5) (C := RX5) (T := TX5) (n := 3) (v := .ref u2) hx hb hts inX5_ hown hK rfl h5.1 1 (by decide) (hts _ (by decide +kernel)) rfl dX5_rulingOf_20 ?_
      refine lv_iload_n hx hb dX5_rulingOf_23 rfl (lv_at hl 0 rfl) ?_
      refine m_iald hx hb hK h5.2.2.1 (vp_in_nI (by omega) (by decide)) dX5_rulingOf_24 ?_
      refine m_top (show (fr (nI (k * 50 + j)).toNatClampNeg) = fr (k * 50 + j) from by rw [nI_clamp (by omega)]) ?_
      refine lv_goto (tgt := 29) hx hb dX5_rulingOf_25 (by decide) ?_
      exact e_i hx hb hlocks hr dX5_rulingOf_29 hS (rfl)
set_option maxHeartbeats 4000000 in
set_option maxRecDepth 100000 in
/-- Rulings.soldAtChange -/
theorem k_X5_soldAtChange (l : Launch) (D : va_G) (ac : Nat → ClassId) (H : Heap) (u u1 u2 u3 : Nat) (fs fr ft : Nat → Int32) (h5 : RulC D ac H u u1 u2 u3 fs fr ft) (k j : Nat) (hk : k < 4) (hj : j < 50) : ROi l yX5_soldAtChange wsX5_soldAtChange ({ frames := 1, cells := 0, slots := 0, locals := 22 }) [.ref u, .int (nI k), .int (nI j)] D ac H (fun r => r = ft (k * 50 + j)) := by
  refine Met.ofW (cc := cX5_soldAtChange) (maxL := 4) (ret := (some .int)) (by decide) rfl ?_
  intro p e s m args below meth c s₁ B hml hv
  obtain ⟨hargs, hsz, hK⟩ := hv
  have hx := B.exec
  have hb := B.bytes
  have hr := B.returns
  have hts := atoms_spec (ws := wsX5_soldAtChange) B.pre
  have hown : s.vm.findClass RX5 = some m.cls := findClass_of_methodNamed B.named
  have hlocks := B.notSynchronized
  subst hsz
  have inX5_ : ∀ w ∈ wsX50, w ∈ wsX5_soldAtChange := by decide +kernel
  have hS : va_S (fun _ => False) s.heap s.heap [] := va_S.rf
  have hl := lv_entry ([.ref u, .int (nI k), .int (nI j)]) (n := 4) (Nat.le_of_ble_eq_true rfl)
  have hen := lg_entry_eq m [.ref u, .int (nI k), .int (nI j)] 4
  rw [← hargs] at hen
  rw [hen]
  generalize (lg_sl ([.ref u, .int (nI k), .int (nI j)]) ++ List.replicate (4 - (lg_sl ([.ref u, .int (nI k), .int (nI j)])).length) Slot.unset).toArray = ls at hl ⊢
  have hl : lv_has ls 4 [(0, .ref u), (1, .int (nI k)), (2, .int (nI j))] := hl
  refine lv_iload_n hx hb dX5_soldAtChange_0 rfl (lv_at hl 1 rfl) ?_
  refine lv_iload_n hx hb dX5_soldAtChange_1 rfl (lv_at hl 2 rfl) ?_
  refine r_calli (va_runS (As := [.int (nI k), .int (nI j)]) (rest := []) ⟨hx, hb, hml, hown, hts⟩ (k_X5_slotOf l D ac _ k j (by omega) (by omega)) (va_cwS 2 hts gX5_soldAtChange_X5_slotOf rfl rfl rfl (by decide +kernel) ⟨Nat.le_of_ble_eq_true rfl, Nat.le_of_ble_eq_true rfl⟩) (pS hK) rfl rfl hl.1 rfl (lv_room (Nat.le_of_ble_eq_true rfl)) dX5_soldAtChange_2 ⟨Nat.le_of_ble_eq_true rfl, Nat.le_of_ble_eq_true rfl⟩) hS (fun rv_1 locs hrv_1 hS => ?_)
  subst hrv_1
  refine lv_istore_n (lv' := [(3, .int (nI (k * 50 + j))), (0, .ref u), (1, .int (nI k)), (2, .int (nI j))]) hx hb dX5_soldAtChange_5 rfl hl (by decide) rfl (fun ls hl => ?_)
  refine lv_iload_n hx hb dX5_soldAtChange_6 rfl (lv_at hl 0 rfl) ?_
  refine lv_if_lt (tgt := 28) hx hb dX5_soldAtChange_7 (by decide) (fun c7 => ?_) (fun c7 => ?_)
  · exact absurd c7 (nI_pos (by omega))
  · refine lv_iload_n hx hb dX5_soldAtChange_10 rfl (lv_at hl 0 rfl) ?_
    refine lv_aload_n hx hb dX5_soldAtChange_11 rfl (lv_at hl 1 rfl) ?_
    refine m_get (ci := 5) (C := RX5) (T := TX5) (n := 3) (v := .ref u3) hx hb hts inX5_ hown hK rfl h5.1 2 (by decide) (hts _ (by decide +kernel)) rfl dX5_soldAtChange_12 ?_
    refine m_alen (v := 200) (ty := _) hx hb hK 0 h5.2.2.2 rfl (by first | rfl | decide) dX5_soldAtChange_15 ?_
    refine lv_icmp_ge (tgt := 28) hx hb dX5_soldAtChange_16 (by decide) (fun c16 => ?_) (fun c16 => ?_)
    · exact absurd (le_le (a := 200) c16 (by omega) (by omega)) (by omega)
    · refine lv_aload_n hx hb dX5_soldAtChange_19 rfl (lv_at hl 1 rfl) ?_
      refine m_get (ci := 5) (C := RX5) (T := TX5) (n := 3) (v := .ref u3) hx hb hts inX5_ hown hK rfl h5.1 2 (by decide) (hts _ (by decide +kernel)) rfl dX5_soldAtChange_20 ?_
      refine lv_iload_n hx hb dX5_soldAtChange_23 rfl (lv_at hl 0 rfl) ?_
      refine m_iald hx hb hK h5.2.2.2 (vp_in_nI (by omega) (by decide)) dX5_soldAtChange_24 ?_
      refine m_top (show (ft (nI (k * 50 + j)).toNatClampNeg) = ft (k * 50 + j) from by rw [nI_clamp (by omega)]) ?_
      refine lv_goto (tgt := 29) hx hb dX5_soldAtChange_25 (by decide) ?_
      exact e_i hx hb hlocks hr dX5_soldAtChange_29 hS (rfl)
set_option maxHeartbeats 4000000 in
set_option maxRecDepth 100000 in
/-- Rulings.saidBy -/
theorem k_X5_saidBy (l : Launch) (D : va_G) (ac : Nat → ClassId) (H : Heap) (u u1 u2 u3 : Nat) (fs fr ft : Nat → Int32) (h5 : RulC D ac H u u1 u2 u3 fs fr ft) (k j : Nat) (hk : k < 3) (hj : j < 200) : ROi l yX5_saidBy wsX5_saidBy ({ frames := 0, cells := 0, slots := 0, locals := 0 }) [.ref u, .int (nI k), .int (nI j)] D ac H (fun r => r = fs (k * 200 + j)) := by
  refine Met.ofW (cc := cX5_saidBy) (maxL := 4) (ret := (some .int)) (by decide) rfl ?_
  intro p e s m args below meth c s₁ B hml hv
  obtain ⟨hargs, hsz, hK⟩ := hv
  have hx := B.exec
  have hb := B.bytes
  have hr := B.returns
  have hts := atoms_spec (ws := wsX5_saidBy) B.pre
  have hown : s.vm.findClass RX5 = some m.cls := findClass_of_methodNamed B.named
  have hlocks := B.notSynchronized
  subst hsz
  have inX5_ : ∀ w ∈ wsX50, w ∈ wsX5_saidBy := by decide +kernel
  have hS : va_S (fun _ => False) s.heap s.heap [] := va_S.rf
  have hl := lv_entry ([.ref u, .int (nI k), .int (nI j)]) (n := 4) (Nat.le_of_ble_eq_true rfl)
  have hen := lg_entry_eq m [.ref u, .int (nI k), .int (nI j)] 4
  rw [← hargs] at hen
  rw [hen]
  generalize (lg_sl ([.ref u, .int (nI k), .int (nI j)]) ++ List.replicate (4 - (lg_sl ([.ref u, .int (nI k), .int (nI j)])).length) Slot.unset).toArray = ls at hl ⊢
  have hl : lv_has ls 4 [(0, .ref u), (1, .int (nI k)), (2, .int (nI j))] := hl
  refine lv_iload_n hx hb dX5_saidBy_0 rfl (lv_at hl 1 rfl) ?_
  refine lv_iconst (v := 4) hx hb dX5_saidBy_1 (by decide) ?_
  refine lv_imul hx hb dX5_saidBy_2 ?_
  refine lv_bipush (v := 50) hx hb dX5_saidBy_3 (by decide) ?_
  refine lv_imul hx hb dX5_saidBy_5 ?_
  refine lv_iload_n hx hb dX5_saidBy_6 rfl (lv_at hl 2 rfl) ?_
  refine lv_iadd hx hb dX5_saidBy_7 ?_
  refine m_top (show ((((nI k) * 4) * 50) + (nI j)) = nI (k * 200 + j) from by rw [show (50 : Int32) = nI 50 from rfl, show (4 : Int32) = nI 4 from rfl, pk_mul, pk_mul, nI_add]; congr 1; omega) ?_
  refine lv_istore_n (lv' := [(3, .int (nI (k * 200 + j))), (0, .ref u), (1, .int (nI k)), (2, .int (nI j))]) hx hb dX5_saidBy_8 rfl hl (by decide) rfl (fun ls hl => ?_)
  refine lv_iload_n hx hb dX5_saidBy_9 rfl (lv_at hl 0 rfl) ?_
  refine lv_if_lt (tgt := 31) hx hb dX5_saidBy_10 (by decide) (fun c10 => ?_) (fun c10 => ?_)
  · exact absurd c10 (nI_pos (by omega))
  · refine lv_iload_n hx hb dX5_saidBy_13 rfl (lv_at hl 0 rfl) ?_
    refine lv_aload_n hx hb dX5_saidBy_14 rfl (lv_at hl 1 rfl) ?_
    refine m_get (ci := 5) (C := RX5) (T := TX5) (n := 3) (v := .ref u1) hx hb hts inX5_ hown hK rfl h5.1 0 (by decide) (hts _ (by decide +kernel)) rfl dX5_saidBy_15 ?_
    refine m_alen (v := 600) (ty := _) hx hb hK 0 h5.2.1 rfl (by first | rfl | decide) dX5_saidBy_18 ?_
    refine lv_icmp_ge (tgt := 31) hx hb dX5_saidBy_19 (by decide) (fun c19 => ?_) (fun c19 => ?_)
    · exact absurd (le_le (a := 600) c19 (by omega) (by omega)) (by omega)
    · refine lv_aload_n hx hb dX5_saidBy_22 rfl (lv_at hl 1 rfl) ?_
      refine m_get (ci := 5) (C := RX5) (T := TX5) (n := 3) (v := .ref u1) hx hb hts inX5_ hown hK rfl h5.1 0 (by decide) (hts _ (by decide +kernel)) rfl dX5_saidBy_23 ?_
      refine lv_iload_n hx hb dX5_saidBy_26 rfl (lv_at hl 0 rfl) ?_
      refine m_iald hx hb hK h5.2.1 (vp_in_nI (by omega) (by decide)) dX5_saidBy_27 ?_
      refine m_top (show (fs (nI (k * 200 + j)).toNatClampNeg) = fs (k * 200 + j) from by rw [nI_clamp (by omega)]) ?_
      refine lv_goto (tgt := 32) hx hb dX5_saidBy_28 (by decide) ?_
      exact e_i hx hb hlocks hr dX5_saidBy_32 hS (rfl)
def agr (a b c : Int32) : Int32 := if a = b ∨ a = c then a else if b = c then b else -1
set_option maxHeartbeats 4000000 in
set_option maxRecDepth 100000 in
/-- Rulings.agreedOn -/
theorem k_X5_agreedOn (l : Launch) (D : va_G) (ac : Nat → ClassId) (H : Heap) (u u1 u2 u3 : Nat) (fs fr ft : Nat → Int32) (h5 : RulC D ac H u u1 u2 u3 fs fr ft) (j : Nat) (hj : j < 200) : ROi l yX5_agreedOn wsX5_agreedOn ({ frames := 1, cells := 0, slots := 0, locals := 23 }) [.ref u, .int (nI j)] D ac H (fun r => r = agr (fs (0 * 200 + j)) (fs (1 * 200 + j)) (fs (2 * 200 + j))) := by
  refine Met.ofW (cc := cX5_agreedOn) (maxL := 5) (ret := (some .int)) (by decide) rfl ?_
  intro p e s m args below meth c s₁ B hml hv
  obtain ⟨hargs, hsz, hK⟩ := hv
  have hx := B.exec
  have hb := B.bytes
  have hr := B.returns
  have hts := atoms_spec (ws := wsX5_agreedOn) B.pre
  have hown : s.vm.findClass RX5 = some m.cls := findClass_of_methodNamed B.named
  have hlocks := B.notSynchronized
  subst hsz
  have hS : va_S (fun _ => False) s.heap s.heap [] := va_S.rf
  have hl := lv_entry ([.ref u, .int (nI j)]) (n := 5) (Nat.le_of_ble_eq_true rfl)
  have hen := lg_entry_eq m [.ref u, .int (nI j)] 5
  rw [← hargs] at hen
  rw [hen]
  generalize (lg_sl ([.ref u, .int (nI j)]) ++ List.replicate (5 - (lg_sl ([.ref u, .int (nI j)])).length) Slot.unset).toArray = ls at hl ⊢
  have hl : lv_has ls 5 [(0, .ref u), (1, .int (nI j))] := hl
  refine lv_aload_n hx hb dX5_agreedOn_0 rfl (lv_at hl 0 rfl) ?_
  refine lv_iconst (v := 0) hx hb dX5_agreedOn_1 (by decide) ?_
  refine lv_iload_n hx hb dX5_agreedOn_2 rfl (lv_at hl 1 rfl) ?_
  refine r_calli (va_runV (As := [.int 0, .int (nI j)]) (rest := []) ⟨hx, hb, hml, hown, hts⟩ (k_X5_saidBy l D ac _ u u1 u2 u3 fs fr ft ⟨h5.1, h5.2.1, h5.2.2.1, h5.2.2.2⟩ 0 j (by omega) (by omega)) (cwV 2 hts gX5_agreedOn_X5_saidBy rfl rfl rfl (by decide +kernel) ⟨Nat.le_of_ble_eq_true rfl, Nat.le_of_ble_eq_true rfl⟩) (pV hK (ci := 5) rfl h5.1) rfl rfl hl.1 rfl (lv_room (Nat.le_of_ble_eq_true rfl)) dX5_agreedOn_3 ⟨Nat.le_of_ble_eq_true rfl, Nat.le_of_ble_eq_true rfl⟩) hS (fun rv_1 locs hrv_1 hS => ?_)
  subst hrv_1
  refine lv_istore_n (lv' := [(2, .int (fs (0 * 200 + j))), (0, .ref u), (1, .int (nI j))]) hx hb dX5_agreedOn_6 rfl hl (by decide) rfl (fun ls hl => ?_)
  refine lv_aload_n hx hb dX5_agreedOn_7 rfl (lv_at hl 1 rfl) ?_
  refine lv_iconst (v := 1) hx hb dX5_agreedOn_8 (by decide) ?_
  refine lv_iload_n hx hb dX5_agreedOn_9 rfl (lv_at hl 2 rfl) ?_
  refine r_calli (va_runV (As := [.int 1, .int (nI j)]) (rest := []) ⟨hx, hb, hml, hown, hts⟩ (k_X5_saidBy l D ac _ u u1 u2 u3 fs fr ft ⟨h5.1, h5.2.1, h5.2.2.1, h5.2.2.2⟩ 1 j (by omega) (by omega)) (cwV 2 hts gX5_agreedOn_X5_saidBy rfl rfl rfl (by decide +kernel) ⟨Nat.le_of_ble_eq_true rfl, Nat.le_of_ble_eq_true rfl⟩) (pV hK (ci := 5) rfl h5.1) rfl rfl hl.1 rfl (lv_room (Nat.le_of_ble_eq_true rfl)) dX5_agreedOn_10 ⟨Nat.le_of_ble_eq_true rfl, Nat.le_of_ble_eq_true rfl⟩) hS (fun rv_2 locs hrv_2 hS => ?_)
  subst hrv_2
  refine lv_istore_n (lv' := [(3, .int (fs (1 * 200 + j))), (2, .int (fs (0 * 200 + j))), (0, .ref u), (1, .int (nI j))]) hx hb dX5_agreedOn_13 rfl hl (by decide) rfl (fun ls hl => ?_)
  refine lv_aload_n hx hb dX5_agreedOn_14 rfl (lv_at hl 2 rfl) ?_
  refine lv_iconst (v := 2) hx hb dX5_agreedOn_15 (by decide) ?_
  refine lv_iload_n hx hb dX5_agreedOn_16 rfl (lv_at hl 3 rfl) ?_
  refine r_calli (va_runV (As := [.int 2, .int (nI j)]) (rest := []) ⟨hx, hb, hml, hown, hts⟩ (k_X5_saidBy l D ac _ u u1 u2 u3 fs fr ft ⟨h5.1, h5.2.1, h5.2.2.1, h5.2.2.2⟩ 2 j (by omega) (by omega)) (cwV 2 hts gX5_agreedOn_X5_saidBy rfl rfl rfl (by decide +kernel) ⟨Nat.le_of_ble_eq_true rfl, Nat.le_of_ble_eq_true rfl⟩) (pV hK (ci := 5) rfl h5.1) rfl rfl hl.1 rfl (lv_room (Nat.le_of_ble_eq_true rfl)) dX5_agreedOn_17 ⟨Nat.le_of_ble_eq_true rfl, Nat.le_of_ble_eq_true rfl⟩) hS (fun rv_3 locs hrv_3 hS => ?_)
  subst hrv_3
  refine lv_istore (lv' := [(4, .int (fs (2 * 200 + j))), (3, .int (fs (1 * 200 + j))), (2, .int (fs (0 * 200 + j))), (0, .ref u), (1, .int (nI j))]) hx hb dX5_agreedOn_20 hl (by decide) rfl (fun ls hl => ?_)
  refine lv_iload_n hx hb dX5_agreedOn_22 rfl (lv_at hl 2 rfl) ?_
  refine lv_iload_n hx hb dX5_agreedOn_23 rfl (lv_at hl 1 rfl) ?_
  refine lv_icmp_eq (tgt := 33) hx hb dX5_agreedOn_24 (by decide) (fun c24 => ?_) (fun c24 => ?_)
  · refine lv_iload_n hx hb dX5_agreedOn_33 rfl (lv_at hl 2 rfl) ?_
    exact e_i hx hb hlocks hr dX5_agreedOn_34 hS (by unfold agr; first | rw [if_pos (Or.inl c24)] | rw [if_pos (Or.inr c30)])
  · refine lv_iload_n hx hb dX5_agreedOn_27 rfl (lv_at hl 2 rfl) ?_
    refine lv_iload hx hb dX5_agreedOn_28 (lv_at hl 0 rfl) ?_
    refine lv_icmp_ne (tgt := 35) hx hb dX5_agreedOn_30 (by decide) (fun c30 => ?_) (fun c30 => ?_)
    · refine lv_iload_n hx hb dX5_agreedOn_35 rfl (lv_at hl 1 rfl) ?_
      refine lv_iload hx hb dX5_agreedOn_36 (lv_at hl 0 rfl) ?_
      refine lv_icmp_ne (tgt := 45) hx hb dX5_agreedOn_38 (by decide) (fun c38 => ?_) (fun c38 => ?_)
      · refine lv_iconst (v := (-1)) hx hb dX5_agreedOn_45 (by decide) ?_
        exact e_i hx hb hlocks hr dX5_agreedOn_46 hS (by unfold agr; rw [if_neg (fun h => h.elim c24 c30)]; first | rw [if_pos c38] | rw [if_neg c38])
      · refine lv_iload_n hx hb dX5_agreedOn_41 rfl (lv_at hl 1 rfl) ?_
        refine lv_goto (tgt := 46) hx hb dX5_agreedOn_42 (by decide) ?_
        exact e_i hx hb hlocks hr dX5_agreedOn_46 hS (by unfold agr; rw [if_neg (fun h => h.elim c24 c30)]; first | rw [if_pos c38] | rw [if_neg c38])
    · refine lv_iload_n hx hb dX5_agreedOn_33 rfl (lv_at hl 2 rfl) ?_
      exact e_i hx hb hlocks hr dX5_agreedOn_34 hS (by unfold agr; first | rw [if_pos (Or.inl c24)] | rw [if_pos (Or.inr c30)])
set_option maxHeartbeats 4000000 in
set_option maxRecDepth 100000 in
/-- Rulings.hear -/
theorem k_X5_hear (l : Launch) (D : va_G) (ac : Nat → ClassId) (H : Heap) (A : Nat → Prop) (N : Nat) (adr : Nat → Nat) (w : Nat → va_E) (hM : MW D A N adr w H) (u u1 u2 u3 : Nat) (fs fr ft : Nat → Int32) (hu : u < N) (hu1 : u1 < N) (hu2 : u2 < N) (hu3 : u3 < N) (hd : u ≠ u1 ∧ u ≠ u2 ∧ u ≠ u3 ∧ u1 ≠ u2 ∧ u1 ≠ u3 ∧ u2 ≠ u3) (g0 : w u = .inr (5, [.ref (adr u1), .ref (adr u2), .ref (adr u3)])) (g1 : w u1 = .inl (ac 0, 600, .inl fs)) (g2 : w u2 = .inl (ac 0, 200, .inl fr)) (g3 : w u3 = .inl (ac 0, 200, .inl ft)) (k j : Nat) (hk : k < 3) (hj : j < 200) (x y : Int32) : WRv l yX5_hear wsX5_hear ({ frames := 2, cells := 0, slots := 0, locals := 47 }) [.ref (adr u), .int (nI k), .int (nI j), .int x, .int y] D ac H A N adr (fun w1 => (agr ((upd fs (k * 200 + j) x) (0 * 200 + j)) ((upd fs (k * 200 + j) x) (1 * 200 + j)) ((upd fs (k * 200 + j) x) (2 * 200 + j)) = fr j ∧ w1 = va_up w u1 (.inl (ac 0, 600, .inl (upd fs (k * 200 + j) x)))) ∨ (¬ agr ((upd fs (k * 200 + j) x) (0 * 200 + j)) ((upd fs (k * 200 + j) x) (1 * 200 + j)) ((upd fs (k * 200 + j) x) (2 * 200 + j)) = fr j ∧ w1 = va_up (va_up (va_up w u1 (.inl (ac 0, 600, .inl (upd fs (k * 200 + j) x)))) u2 (.inl (ac 0, 200, .inl (upd fr j (agr ((upd fs (k * 200 + j) x) (0 * 200 + j)) ((upd fs (k * 200 + j) x) (1 * 200 + j)) ((upd fs (k * 200 + j) x) (2 * 200 + j))))))) u3 (.inl (ac 0, 200, .inl (upd ft j y))))) := by
  refine Met.ofW (cc := cX5_hear) (maxL := 7) (ret := none) (by decide) rfl ?_
  intro p e s m args below meth c s₁ B hml hv
  obtain ⟨hargs, hsz, hK⟩ := hv
  have hx := B.exec
  have hb := B.bytes
  have hr := B.returns
  have hts := atoms_spec (ws := wsX5_hear) B.pre
  have hown : s.vm.findClass RX5 = some m.cls := findClass_of_methodNamed B.named
  have hlocks := B.notSynchronized
  subst hsz
  have inX5_ : ∀ w ∈ wsX50, w ∈ wsX5_hear := by decide +kernel
  have hS : va_S A s.heap s.heap [] := va_S.rf
  have hl := lv_entry ([.ref (adr u), .int (nI k), .int (nI j), .int x, .int y]) (n := 7) (Nat.le_of_ble_eq_true rfl)
  have hen := lg_entry_eq m [.ref (adr u), .int (nI k), .int (nI j), .int x, .int y] 7
  rw [← hargs] at hen
  rw [hen]
  generalize (lg_sl ([.ref (adr u), .int (nI k), .int (nI j), .int x, .int y]) ++ List.replicate (7 - (lg_sl ([.ref (adr u), .int (nI k), .int (nI j), .int x, .int y])).length) Slot.unset).toArray = ls at hl ⊢
  have hl : lv_has ls 7 [(0, .ref (adr u)), (1, .int (nI k)), (2, .int (nI j)), (3, .int x), (4, .int y)] := hl
  refine lv_iload_n hx hb dX5_hear_0 rfl (lv_at hl 1 rfl) ?_
  refine lv_iconst (v := 4) hx hb dX5_hear_1 (by decide) ?_
  refine lv_imul hx hb dX5_hear_2 ?_
  refine lv_bipush (v := 50) hx hb dX5_hear_3 (by decide) ?_
  refine lv_imul hx hb dX5_hear_5 ?_
  refine lv_iload_n hx hb dX5_hear_6 rfl (lv_at hl 2 rfl) ?_
  refine lv_iadd hx hb dX5_hear_7 ?_
  refine m_top (show ((((nI k) * 4) * 50) + (nI j)) = nI (k * 200 + j) from by rw [show (50 : Int32) = nI 50 from rfl, show (4 : Int32) = nI 4 from rfl, pk_mul, pk_mul, nI_add]; congr 1; omega) ?_
  refine lv_istore (lv' := [(5, .int (nI (k * 200 + j))), (0, .ref (adr u)), (1, .int (nI k)), (2, .int (nI j)), (3, .int x), (4, .int y)]) hx hb dX5_hear_8 hl (by decide) rfl (fun ls hl => ?_)
  refine lv_iload_n hx hb dX5_hear_10 rfl (lv_at hl 3 rfl) ?_
  refine lv_if_lt (tgt := 47) hx hb dX5_hear_11 (by decide) (fun c11 => ?_) (fun c11 => ?_)
  · exact absurd c11 (nI_pos (by omega))
  · refine lv_iload_n hx hb dX5_hear_14 rfl (lv_at hl 3 rfl) ?_
    refine lv_aload_n hx hb dX5_hear_15 rfl (lv_at hl 1 rfl) ?_
    refine m_get (ci := 5) (C := RX5) (T := TX5) (n := 3) (v := .ref (adr u2)) hx hb hts inX5_ hown hK rfl (hM.cel hu g0) 1 (by decide) (hts _ (by decide +kernel)) rfl dX5_hear_16 ?_
    refine m_alen (v := 200) (ty := _) hx hb hK 0 (hM.cel hu2 g2) rfl (by first | rfl | decide) dX5_hear_19 ?_
    refine lv_icmp_ge (tgt := 47) hx hb dX5_hear_20 (by decide) (fun c20 => ?_) (fun c20 => ?_)
    · exact absurd (le_le (a := 200) c20 (by omega) (by omega)) (by omega)
    · refine lv_iload_n hx hb dX5_hear_23 rfl (lv_at hl 3 rfl) ?_
      refine lv_aload_n hx hb dX5_hear_24 rfl (lv_at hl 1 rfl) ?_
      refine m_get (ci := 5) (C := RX5) (T := TX5) (n := 3) (v := .ref (adr u3)) hx hb hts inX5_ hown hK rfl (hM.cel hu g0) 2 (by decide) (hts _ (by decide +kernel)) rfl dX5_hear_25 ?_
      refine m_alen (v := 200) (ty := _) hx hb hK 0 (hM.cel hu3 g3) rfl (by first | rfl | decide) dX5_hear_28 ?_
      refine lv_icmp_ge (tgt := 47) hx hb dX5_hear_29 (by decide) (fun c29 => ?_) (fun c29 => ?_)
      · exact absurd (le_le (a := 200) c29 (by omega) (by omega)) (by omega)
      · refine lv_iload hx hb dX5_hear_32 (lv_at hl 0 rfl) ?_
        refine lv_if_lt (tgt := 47) hx hb dX5_hear_34 (by decide) (fun c34 => ?_) (fun c34 => ?_)
        · exact absurd c34 (nI_pos (by omega))
        · refine lv_iload hx hb dX5_hear_37 (lv_at hl 0 rfl) ?_
          refine lv_aload_n hx hb dX5_hear_39 rfl (lv_at hl 1 rfl) ?_
          refine m_get (ci := 5) (C := RX5) (T := TX5) (n := 3) (v := .ref (adr u1)) hx hb hts inX5_ hown hK rfl (hM.cel hu g0) 0 (by decide) (hts _ (by decide +kernel)) rfl dX5_hear_40 ?_
          refine m_alen (v := 600) (ty := _) hx hb hK 0 (hM.cel hu1 g1) rfl (by first | rfl | decide) dX5_hear_43 ?_
          refine lv_icmp_lt (tgt := 48) hx hb dX5_hear_44 (by decide) (fun c44 => ?_) (fun c44 => ?_)
          · refine lv_aload_n hx hb dX5_hear_48 rfl (lv_at hl 1 rfl) ?_
            refine m_get (ci := 5) (C := RX5) (T := TX5) (n := 3) (v := .ref (adr u1)) hx hb hts inX5_ hown hK rfl (hM.cel hu g0) 0 (by decide) (hts _ (by decide +kernel)) rfl dX5_hear_49 ?_
            refine lv_iload hx hb dX5_hear_52 (lv_at hl 0 rfl) ?_
            refine lv_iload_n hx hb dX5_hear_54 rfl (lv_at hl 4 rfl) ?_
            refine m_iast hx hb hK hM hS u1 hu1 g1 (vp_in_nI (by omega) (by decide)) dX5_hear_55 (fun H locs hM hS => ?_)
            have ef_ : (upd fs (nI (k * 200 + j)).toNatClampNeg x) = (upd fs (k * 200 + j) x) := by rw [nI_clamp (by omega)]
            rw [ef_] at hM
            clear ef_
            obtain ⟨w_2, ew_2⟩ : ∃ z, z = va_up w u1 (.inl (ac 0, 600, .inl ((upd fs (k * 200 + j) x)))) := ⟨_, rfl⟩
            rw [← ew_2] at hM
            have h_3 : w_2 u = .inr (5, [.ref (adr u1), .ref (adr u2), .ref (adr u3)]) := by rw [ew_2, va_up_ne _ _ (by omega)]; exact g0
            have h_4 : w_2 u1 = .inl (ac 0, 600, .inl ((upd fs (k * 200 + j) x))) := by rw [ew_2]; exact va_up_self _ _ _
            have h_5 : w_2 u2 = .inl (ac 0, 200, .inl fr) := by rw [ew_2, va_up_ne _ _ (by omega)]; exact g2
            have h_6 : w_2 u3 = .inl (ac 0, 200, .inl ft) := by rw [ew_2, va_up_ne _ _ (by omega)]; exact g3
            refine lv_aload_n hx hb dX5_hear_56 rfl (lv_at hl 1 rfl) ?_
            refine lv_iload_n hx hb dX5_hear_57 rfl (lv_at hl 3 rfl) ?_
            refine r_calli (va_runV (As := [.int (nI j)]) (rest := []) ⟨hx, hb, hml, hown, hts⟩ (k_X5_agreedOn l D ac _ (adr u) (adr u1) (adr u2) (adr u3) ((upd fs (k * 200 + j) x)) fr ft ⟨(hM.cel hu h_3), (hM.cel hu1 h_4), (hM.cel hu2 h_5), (hM.cel hu3 h_6)⟩ j (by omega)) (cwV 1 hts gX5_hear_X5_agreedOn rfl rfl rfl (by decide +kernel) ⟨Nat.le_of_ble_eq_true rfl, Nat.le_of_ble_eq_true rfl⟩) (pV hK (ci := 5) rfl (hM.cel hu h_3)) rfl rfl hl.1 rfl (lv_room (Nat.le_of_ble_eq_true rfl)) dX5_hear_58 ⟨Nat.le_of_ble_eq_true rfl, Nat.le_of_ble_eq_true rfl⟩) hS (fun rv_7 locs hrv_7 hS => ?_)
            subst hrv_7
            refine lv_istore (lv' := [(6, .int (agr (((upd fs (k * 200 + j) x)) (0 * 200 + j)) (((upd fs (k * 200 + j) x)) (1 * 200 + j)) (((upd fs (k * 200 + j) x)) (2 * 200 + j)))), (5, .int (nI (k * 200 + j))), (0, .ref (adr u)), (1, .int (nI k)), (2, .int (nI j)), (3, .int x), (4, .int y)]) hx hb dX5_hear_61 hl (by decide) rfl (fun ls hl => ?_)
            refine lv_iload hx hb dX5_hear_63 (lv_at hl 0 rfl) ?_
            refine lv_aload_n hx hb dX5_hear_65 rfl (lv_at hl 2 rfl) ?_
            refine m_get (ci := 5) (C := RX5) (T := TX5) (n := 3) (v := .ref (adr u2)) hx hb hts inX5_ hown hK rfl (hM.cel hu h_3) 1 (by decide) (hts _ (by decide +kernel)) rfl dX5_hear_66 ?_
            refine lv_iload_n hx hb dX5_hear_69 rfl (lv_at hl 4 rfl) ?_
            refine m_iald hx hb hK (hM.cel hu2 h_5) (vp_in_nI (by omega) (by decide)) dX5_hear_70 ?_
            refine m_top (show (fr (nI j).toNatClampNeg) = fr j from by rw [nI_clamp (by omega)]) ?_
            refine lv_icmp_eq (tgt := 90) hx hb dX5_hear_71 (by decide) (fun c71 => ?_) (fun c71 => ?_)
            · exact e_wv hx hb hlocks hr dX5_hear_90 hM hS (by subst_vars; first | exact Or.inl ⟨c71, rfl⟩ | exact Or.inr ⟨c71, rfl⟩)
            · refine lv_aload_n hx hb dX5_hear_74 rfl (lv_at hl 2 rfl) ?_
              refine m_get (ci := 5) (C := RX5) (T := TX5) (n := 3) (v := .ref (adr u2)) hx hb hts inX5_ hown hK rfl (hM.cel hu h_3) 1 (by decide) (hts _ (by decide +kernel)) rfl dX5_hear_75 ?_
              refine lv_iload_n hx hb dX5_hear_78 rfl (lv_at hl 4 rfl) ?_
              refine lv_iload hx hb dX5_hear_79 (lv_at hl 0 rfl) ?_
              refine m_iast hx hb hK hM hS u2 hu2 h_5 (vp_in_nI (by omega) (by decide)) dX5_hear_81 (fun H locs hM hS => ?_)
              have ef_ : (upd fr (nI j).toNatClampNeg (agr (((upd fs (k * 200 + j) x)) (0 * 200 + j)) (((upd fs (k * 200 + j) x)) (1 * 200 + j)) (((upd fs (k * 200 + j) x)) (2 * 200 + j)))) = upd fr j (agr ((upd fs (k * 200 + j) x) (0 * 200 + j)) ((upd fs (k * 200 + j) x) (1 * 200 + j)) ((upd fs (k * 200 + j) x) (2 * 200 + j))) := by rw [nI_clamp (by omega)]
              rw [ef_] at hM
              clear ef_
              obtain ⟨w_9, ew_9⟩ : ∃ z, z = va_up w_2 u2 (.inl (ac 0, 200, .inl (upd fr j (agr ((upd fs (k * 200 + j) x) (0 * 200 + j)) ((upd fs (k * 200 + j) x) (1 * 200 + j)) ((upd fs (k * 200 + j) x) (2 * 200 + j)))))) := ⟨_, rfl⟩
              rw [← ew_9] at hM
              have h_10 : w_9 u = .inr (5, [.ref (adr u1), .ref (adr u2), .ref (adr u3)]) := by rw [ew_9, va_up_ne _ _ (by omega)]; exact h_3
              have h_11 : w_9 u1 = .inl (ac 0, 600, .inl ((upd fs (k * 200 + j) x))) := by rw [ew_9, va_up_ne _ _ (by omega)]; exact h_4
              have h_12 : w_9 u2 = .inl (ac 0, 200, .inl (upd fr j (agr ((upd fs (k * 200 + j) x) (0 * 200 + j)) ((upd fs (k * 200 + j) x) (1 * 200 + j)) ((upd fs (k * 200 + j) x) (2 * 200 + j))))) := by rw [ew_9]; exact va_up_self _ _ _
              have h_13 : w_9 u3 = .inl (ac 0, 200, .inl ft) := by rw [ew_9, va_up_ne _ _ (by omega)]; exact h_6
              refine lv_aload_n hx hb dX5_hear_82 rfl (lv_at hl 2 rfl) ?_
              refine m_get (ci := 5) (C := RX5) (T := TX5) (n := 3) (v := .ref (adr u3)) hx hb hts inX5_ hown hK rfl (hM.cel hu h_10) 2 (by decide) (hts _ (by decide +kernel)) rfl dX5_hear_83 ?_
              refine lv_iload_n hx hb dX5_hear_86 rfl (lv_at hl 4 rfl) ?_
              refine lv_iload hx hb dX5_hear_87 (lv_at hl 6 rfl) ?_
              refine m_iast hx hb hK hM hS u3 hu3 h_13 (vp_in_nI (by omega) (by decide)) dX5_hear_89 (fun H locs hM hS => ?_)
              have ef_ : (upd ft (nI j).toNatClampNeg y) = upd ft j y := by rw [nI_clamp (by omega)]
              rw [ef_] at hM
              clear ef_
              obtain ⟨w_15, ew_15⟩ : ∃ z, z = va_up w_9 u3 (.inl (ac 0, 200, .inl (upd ft j y))) := ⟨_, rfl⟩
              rw [← ew_15] at hM
              have h_16 : w_15 u = .inr (5, [.ref (adr u1), .ref (adr u2), .ref (adr u3)]) := by rw [ew_15, va_up_ne _ _ (by omega)]; exact h_10
              have h_17 : w_15 u1 = .inl (ac 0, 600, .inl ((upd fs (k * 200 + j) x))) := by rw [ew_15, va_up_ne _ _ (by omega)]; exact h_11
              have h_18 : w_15 u2 = .inl (ac 0, 200, .inl (upd fr j (agr ((upd fs (k * 200 + j) x) (0 * 200 + j)) ((upd fs (k * 200 + j) x) (1 * 200 + j)) ((upd fs (k * 200 + j) x) (2 * 200 + j))))) := by rw [ew_15, va_up_ne _ _ (by omega)]; exact h_12
              have h_19 : w_15 u3 = .inl (ac 0, 200, .inl (upd ft j y)) := by rw [ew_15]; exact va_up_self _ _ _
              exact e_wv hx hb hlocks hr dX5_hear_90 hM hS (by subst_vars; first | exact Or.inl ⟨c71, rfl⟩ | exact Or.inr ⟨c71, rfl⟩)
          · exact absurd (nlt_le (b := 600) c44 (by omega) (by omega)) (by omega)
end
section
/-- how many of the first n are open -/
def opn (f : Nat → Int32) : Nat → Nat
  | 0 => 0
  | n + 1 => opn f n + (if f n = -1 then 1 else 0)
theorem opn_y {f : Nat → Int32} {n : Nat} (h : f n = -1) : opn f (n + 1) = opn f n + 1 := by simp only [opn]; rw [if_pos h]
theorem opn_n {f : Nat → Int32} {n : Nat} (h : ¬ f n = -1) : opn f (n + 1) = opn f n := by simp only [opn]; rw [if_neg h]; rfl
set_option maxHeartbeats 4000000 in
set_option maxRecDepth 100000 in
/-- Sentence.countOpen -/
theorem k_X6_countOpen (l : Launch) (D : va_G) (ac : Nat → ClassId) (H : Heap) (a r1 v1 r2 v2 cl n : Nat) (wf bf : Nat → Int32) (wd : Nat → Nat) (hs : SenC D ac H a r1 v1 r2 v2 cl n wf bf wd) : ROi l yX6_countOpen wsX6_countOpen ({ frames := 1, cells := 0, slots := 0, locals := 21 }) [.ref a] D ac H (fun r => r = nI (opn bf n)) := by
  refine Met.ofW (cc := cX6_countOpen) (maxL := 3) (ret := (some .int)) (by decide) rfl ?_
  intro p e s m args below meth c s₁ B hml hv
  obtain ⟨hargs, hsz, hK⟩ := hv
  have hx := B.exec
  have hb := B.bytes
  have hr := B.returns
  have hts := atoms_spec (ws := wsX6_countOpen) B.pre
  have hown : s.vm.findClass RX6 = some m.cls := findClass_of_methodNamed B.named
  have hlocks := B.notSynchronized
  subst hsz
  have inX4_ : ∀ w ∈ wsX40, w ∈ wsX6_countOpen := by decide +kernel
  have inX6_ : ∀ w ∈ wsX60, w ∈ wsX6_countOpen := by decide +kernel
  have hS : va_S (fun _ => False) s.heap s.heap [] := va_S.rf
  have hl := lv_entry ([.ref a]) (n := 3) (Nat.le_of_ble_eq_true rfl)
  have hen := lg_entry_eq m [.ref a] 3
  rw [← hargs] at hen
  rw [hen]
  generalize (lg_sl ([.ref a]) ++ List.replicate (3 - (lg_sl ([.ref a])).length) Slot.unset).toArray = ls at hl ⊢
  have hl : lv_has ls 3 [(0, .ref a)] := hl
  obtain ⟨Q0, hQ0⟩ : ∃ z, z = MQ below (va_Qi (fun r (_ : Unit) => (fun r => r = nI (opn bf n)) r) (fun _ t => t.heap = s.heap) (fun _ => False)) args s 0 0 (fun _ => False) := ⟨_, rfl⟩
  rw [← hQ0]
  obtain ⟨hn, hcl, hwd⟩ := hs.2.2.2.2.2
  refine lv_iconst (v := 0) hx hb dX6_countOpen_0 (by decide) ?_
  refine lv_istore_n (lv' := [(1, .int 0), (0, .ref a)]) hx hb dX6_countOpen_1 rfl hl (by decide) rfl (fun ls hl => ?_)
  refine lv_iconst (v := 0) hx hb dX6_countOpen_2 (by decide) ?_
  refine lv_istore_n (lv' := [(2, .int 0), (1, .int 0), (0, .ref a)]) hx hb dX6_countOpen_3 rfl hl (by decide) rfl (fun ls hl => ?_)
  have L4 : ∀ (k9 : Nat) (i : Nat) (hk : n - i < k9) (hi : i ≤ n) (locs : List Loc) (hS : va_S (fun _ => False) s.heap s.heap locs) (ls : Array Slot) (hl : lv_has ls 3 [(0, .ref a), (1, .int (nI (opn bf i))), (2, .int (nI i))]), W p l e (headSpec wsX6_countOpen ({ frames := 1, cells := 0, slots := 0, locals := 21 })).room s m args below meth c s.heap locs 0 0 Q0 (F0 m 4 ls []) := by
    intro k9
    induction k9 with
    | zero => intro i hk hi locs hS ls hl; exact absurd hk (Nat.not_lt_zero _)
    | succ k9 ih4 =>
      intro i hk hi locs hS ls hl
      refine lv_iload_n hx hb dX6_countOpen_4 rfl (lv_at hl 2 rfl) ?_
      refine lv_aload_n hx hb dX6_countOpen_5 rfl (lv_at hl 0 rfl) ?_
      refine m_get (ci := 6) (C := RX6) (T := TX6) (n := 3) (v := .ref r2) hx hb hts inX6_ hown hK rfl hs.1 2 (by decide) (hts _ (by decide +kernel)) rfl dX6_countOpen_6 ?_
      refine m_getN (host := RX7) (ci := 4) (C := RX4) (T := TX4) (n := 2) (v := .int (nI n)) hx hb hts inX4_ hown hK rfl hs.2.2.2.1 1 (by decide) 1 rfl rfl dX6_countOpen_9 ?_
      refine lv_icmp_ge (tgt := 36) hx hb dX6_countOpen_12 (by decide) (fun c12 => ?_) (fun c12 => ?_)
      · have hin : i = n := by have := le_le (b := i) c12 (by omega) (by omega); omega
        refine lv_iload_n hx hb dX6_countOpen_36 rfl (lv_at hl 1 rfl) ?_
        rw [hQ0]
        exact e_i hx hb hlocks hr dX6_countOpen_37 hS (by rw [hin])
      · have hin : i < n := nle_lt c12 (by omega) (by omega)
        refine lv_aload_n hx hb dX6_countOpen_15 rfl (lv_at hl 0 rfl) ?_
        refine m_get (ci := 6) (C := RX6) (T := TX6) (n := 3) (v := .ref r2) hx hb hts inX6_ hown hK rfl hs.1 2 (by decide) (hts _ (by decide +kernel)) rfl dX6_countOpen_16 ?_
        refine lv_iload_n hx hb dX6_countOpen_19 rfl (lv_at hl 2 rfl) ?_
        refine r_calli (va_runV (As := [.int (nI i)]) (rest := []) ⟨hx, hb, hml, hown, hts⟩ (k_X4_at l D ac _ r2 v2 n bf hs.2.2.2.1 hs.2.2.2.2.1 (by omega) (nI i)) (cwV 1 hts gX6_countOpen_X4_at rfl rfl rfl (by decide +kernel) ⟨Nat.le_of_ble_eq_true rfl, Nat.le_of_ble_eq_true rfl⟩) (pV hK (ci := 4) rfl hs.2.2.2.1) rfl rfl hl.1 rfl (lv_room (Nat.le_of_ble_eq_true rfl)) dX6_countOpen_20 ⟨Nat.le_of_ble_eq_true rfl, Nat.le_of_ble_eq_true rfl⟩) hS (fun rv_1 locs hrv_1 hS => ?_)
        subst hrv_1
        refine m_top (show ((ix (nI i) n).elim (-1) bf) = bf i from by rw [ix_nI hin (by omega)]; rfl) ?_
        refine lv_iconst (v := (-1)) hx hb dX6_countOpen_23 (by decide) ?_
        refine lv_icmp_ne (tgt := 30) hx hb dX6_countOpen_24 (by decide) (fun c24 => ?_) (fun c24 => ?_)
        · rw [← opn_n c24] at hl
          refine lv_iinc (v := nI (i + 1)) (lv' := [(2, .int (nI (i + 1))), (0, .ref a), (1, .int (nI (opn bf (i + 1))))]) hx hb dX6_countOpen_30 hl (k := 2) rfl (nI_1 _) (by decide) rfl (fun ls hl => ?_)
          refine lv_goto (tgt := 4) hx hb dX6_countOpen_33 (by decide) ?_
          exact ih4 (i + 1) (by omega) (by omega) _ hS ls (lv_sub hl [1, 2, 0] rfl)
        · refine lv_iinc (v := nI (opn bf (i + 1))) (lv' := [(1, .int (nI (opn bf (i + 1)))), (0, .ref a), (2, .int (nI i))]) hx hb dX6_countOpen_27 hl (k := 1) rfl (by rw [show opn bf (i + 1) = opn bf i + 1 from opn_y c24]; exact nI_1 _) (by decide) rfl (fun ls hl => ?_)
          refine lv_iinc (v := nI (i + 1)) (lv' := [(2, .int (nI (i + 1))), (1, .int (nI (opn bf (i + 1)))), (0, .ref a)]) hx hb dX6_countOpen_30 hl (k := 2) rfl (nI_1 _) (by decide) rfl (fun ls hl => ?_)
          refine lv_goto (tgt := 4) hx hb dX6_countOpen_33 (by decide) ?_
          exact ih4 (i + 1) (by omega) (by omega) _ hS ls (lv_sub hl [2, 1, 0] rfl)
  exact L4 _ 0 (Nat.lt_succ_self _) (Nat.zero_le _) _ hS ls (lv_sub hl [2, 1, 0] rfl)
def FoP (n : Nat) (bf : Nat → Int32) (r : Int32) : Prop := (∃ i, i < n ∧ r = nI i ∧ bf i = -1 ∧ ∀ j, j < i → ¬ bf j = -1) ∨ (r = -1 ∧ ∀ j, j < n → ¬ bf j = -1)
set_option maxHeartbeats 4000000 in
set_option maxRecDepth 100000 in
/-- Sentence.firstOpen -/
theorem k_X6_firstOpen (l : Launch) (D : va_G) (ac : Nat → ClassId) (H : Heap) (a r1 v1 r2 v2 cl n : Nat) (wf bf : Nat → Int32) (wd : Nat → Nat) (hs : SenC D ac H a r1 v1 r2 v2 cl n wf bf wd) : ROi l yX6_firstOpen wsX6_firstOpen ({ frames := 1, cells := 0, slots := 0, locals := 21 }) [.ref a] D ac H (FoP n bf) := by
  refine Met.ofW (cc := cX6_firstOpen) (maxL := 2) (ret := (some .int)) (by decide) rfl ?_
  intro p e s m args below meth c s₁ B hml hv
  obtain ⟨hargs, hsz, hK⟩ := hv
  have hx := B.exec
  have hb := B.bytes
  have hr := B.returns
  have hts := atoms_spec (ws := wsX6_firstOpen) B.pre
  have hown : s.vm.findClass RX6 = some m.cls := findClass_of_methodNamed B.named
  have hlocks := B.notSynchronized
  subst hsz
  have inX4_ : ∀ w ∈ wsX40, w ∈ wsX6_firstOpen := by decide +kernel
  have inX6_ : ∀ w ∈ wsX60, w ∈ wsX6_firstOpen := by decide +kernel
  have hS : va_S (fun _ => False) s.heap s.heap [] := va_S.rf
  have hl := lv_entry ([.ref a]) (n := 2) (Nat.le_of_ble_eq_true rfl)
  have hen := lg_entry_eq m [.ref a] 2
  rw [← hargs] at hen
  rw [hen]
  generalize (lg_sl ([.ref a]) ++ List.replicate (2 - (lg_sl ([.ref a])).length) Slot.unset).toArray = ls at hl ⊢
  have hl : lv_has ls 2 [(0, .ref a)] := hl
  obtain ⟨Q0, hQ0⟩ : ∃ z, z = MQ below (va_Qi (fun r (_ : Unit) => (FoP n bf) r) (fun _ t => t.heap = s.heap) (fun _ => False)) args s 0 0 (fun _ => False) := ⟨_, rfl⟩
  rw [← hQ0]
  obtain ⟨hn, hcl, hwd⟩ := hs.2.2.2.2.2
  refine lv_iconst (v := 0) hx hb dX6_firstOpen_0 (by decide) ?_
  refine lv_istore_n (lv' := [(1, .int 0), (0, .ref a)]) hx hb dX6_firstOpen_1 rfl hl (by decide) rfl (fun ls hl => ?_)
  have L2 : ∀ (k9 : Nat) (i : Nat) (hk : n - i < k9) (hi : i ≤ n) (hall : ∀ j, j < i → ¬ bf j = -1) (locs : List Loc) (hS : va_S (fun _ => False) s.heap s.heap locs) (ls : Array Slot) (hl : lv_has ls 2 [(0, .ref a), (1, .int (nI i))]), W p l e (headSpec wsX6_firstOpen ({ frames := 1, cells := 0, slots := 0, locals := 21 })).room s m args below meth c s.heap locs 0 0 Q0 (F0 m 2 ls []) := by
    intro k9
    induction k9 with
    | zero => intro i hk hi hall locs hS ls hl; exact absurd hk (Nat.not_lt_zero _)
    | succ k9 ih2 =>
      intro i hk hi hall locs hS ls hl
      refine lv_iload_n hx hb dX6_firstOpen_2 rfl (lv_at hl 1 rfl) ?_
      refine lv_aload_n hx hb dX6_firstOpen_3 rfl (lv_at hl 0 rfl) ?_
      refine m_get (ci := 6) (C := RX6) (T := TX6) (n := 3) (v := .ref r2) hx hb hts inX6_ hown hK rfl hs.1 2 (by decide) (hts _ (by decide +kernel)) rfl dX6_firstOpen_4 ?_
      refine m_getN (host := RX7) (ci := 4) (C := RX4) (T := TX4) (n := 2) (v := .int (nI n)) hx hb hts inX4_ hown hK rfl hs.2.2.2.1 1 (by decide) 1 rfl rfl dX6_firstOpen_7 ?_
      refine lv_icmp_ge (tgt := 33) hx hb dX6_firstOpen_10 (by decide) (fun c10 => ?_) (fun c10 => ?_)
      · have hin : i = n := by have := le_le (b := i) c10 (by omega) (by omega); omega
        refine lv_iconst (v := (-1)) hx hb dX6_firstOpen_33 (by decide) ?_
        rw [hQ0]
        exact e_i hx hb hlocks hr dX6_firstOpen_34 hS (Or.inr ⟨rfl, by rw [← hin]; exact hall⟩)
      · have hin : i < n := nle_lt c10 (by omega) (by omega)
        refine lv_aload_n hx hb dX6_firstOpen_13 rfl (lv_at hl 0 rfl) ?_
        refine m_get (ci := 6) (C := RX6) (T := TX6) (n := 3) (v := .ref r2) hx hb hts inX6_ hown hK rfl hs.1 2 (by decide) (hts _ (by decide +kernel)) rfl dX6_firstOpen_14 ?_
        refine lv_iload_n hx hb dX6_firstOpen_17 rfl (lv_at hl 1 rfl) ?_
        refine r_calli (va_runV (As := [.int (nI i)]) (rest := []) ⟨hx, hb, hml, hown, hts⟩ (k_X4_at l D ac _ r2 v2 n bf hs.2.2.2.1 hs.2.2.2.2.1 (by omega) (nI i)) (cwV 1 hts gX6_firstOpen_X4_at rfl rfl rfl (by decide +kernel) ⟨Nat.le_of_ble_eq_true rfl, Nat.le_of_ble_eq_true rfl⟩) (pV hK (ci := 4) rfl hs.2.2.2.1) rfl rfl hl.1 rfl (lv_room (Nat.le_of_ble_eq_true rfl)) dX6_firstOpen_18 ⟨Nat.le_of_ble_eq_true rfl, Nat.le_of_ble_eq_true rfl⟩) hS (fun rv_1 locs hrv_1 hS => ?_)
        subst hrv_1
        refine m_top (show ((ix (nI i) n).elim (-1) bf) = bf i from by rw [ix_nI hin (by omega)]; rfl) ?_
        refine lv_iconst (v := (-1)) hx hb dX6_firstOpen_21 (by decide) ?_
        refine lv_icmp_ne (tgt := 27) hx hb dX6_firstOpen_22 (by decide) (fun c22 => ?_) (fun c22 => ?_)
        · refine lv_iinc (v := nI (i + 1)) (lv' := [(1, .int (nI (i + 1))), (0, .ref a)]) hx hb dX6_firstOpen_27 hl (k := 1) rfl (nI_1 _) (by decide) rfl (fun ls hl => ?_)
          refine lv_goto (tgt := 2) hx hb dX6_firstOpen_30 (by decide) ?_
          exact ih2 (i + 1) (by omega) (by omega) (fun j hj => by rcases Nat.lt_succ_iff_lt_or_eq.mp hj with q | q; exact hall j q; rw [q]; exact c22) _ hS ls (lv_sub hl [1, 0] rfl)
        · refine lv_iload_n hx hb dX6_firstOpen_25 rfl (lv_at hl 1 rfl) ?_
          rw [hQ0]
          exact e_i hx hb hlocks hr dX6_firstOpen_26 hS (Or.inl ⟨i, hin, rfl, c22, hall⟩)
  exact L2 _ 0 (Nat.lt_succ_self _) (Nat.zero_le _) (fun j h => absurd h (Nat.not_lt_zero j)) _ hS ls (lv_sub hl [1, 0] rfl)
/-- the word at place j is ruled, and became something else -/
abbrev ast (fr : Nat → Int32) (cl : Nat) (wd : Nat → Nat) (bf : Nat → Int32) (j : Nat) : Prop := ¬ fr (cl * 50 + wd j) = -1 ∧ ¬ fr (cl * 50 + wd j) = bf j
set_option maxHeartbeats 4000000 in
set_option maxRecDepth 100000 in
/-- Sentence.isAstrayAt -/
theorem k_X6_isAstrayAt (l : Launch) (D : va_G) (ac : Nat → ClassId) (H : Heap) (a r1 v1 r2 v2 cl n : Nat) (wf bf : Nat → Int32) (wd : Nat → Nat) (hs : SenC D ac H a r1 v1 r2 v2 cl n wf bf wd) (u u1 u2 u3 : Nat) (fs fr ft : Nat → Int32) (h5 : RulC D ac H u u1 u2 u3 fs fr ft) (j : Nat) (hj : j < n) : ROi l yX6_isAstrayAt wsX6_isAstrayAt ({ frames := 2, cells := 0, slots := 0, locals := 45 }) [.ref a, .int (nI j), .ref u] D ac H (fun r => r = if ast fr cl wd bf j then 1 else 0) := by
  refine Met.ofW (cc := cX6_isAstrayAt) (maxL := 4) (ret := (some .boolean)) (by decide) rfl ?_
  intro p e s m args below meth c s₁ B hml hv
  obtain ⟨hargs, hsz, hK⟩ := hv
  have hx := B.exec
  have hb := B.bytes
  have hr := B.returns
  have hts := atoms_spec (ws := wsX6_isAstrayAt) B.pre
  have hown : s.vm.findClass RX6 = some m.cls := findClass_of_methodNamed B.named
  have hlocks := B.notSynchronized
  subst hsz
  have inX6_ : ∀ w ∈ wsX60, w ∈ wsX6_isAstrayAt := by decide +kernel
  have hS : va_S (fun _ => False) s.heap s.heap [] := va_S.rf
  have hl := lv_entry ([.ref a, .int (nI j), .ref u]) (n := 4) (Nat.le_of_ble_eq_true rfl)
  have hen := lg_entry_eq m [.ref a, .int (nI j), .ref u] 4
  rw [← hargs] at hen
  rw [hen]
  generalize (lg_sl ([.ref a, .int (nI j), .ref u]) ++ List.replicate (4 - (lg_sl ([.ref a, .int (nI j), .ref u])).length) Slot.unset).toArray = ls at hl ⊢
  have hl : lv_has ls 4 [(0, .ref a), (1, .int (nI j)), (2, .ref u)] := hl
  obtain ⟨hn, hcl, hwd⟩ := hs.2.2.2.2.2
  have hj2 := hwd j hj
  refine lv_aload_n hx hb dX6_isAstrayAt_0 rfl (lv_at hl 2 rfl) ?_
  refine lv_aload_n hx hb dX6_isAstrayAt_1 rfl (lv_at hl 0 rfl) ?_
  refine m_get (ci := 6) (C := RX6) (T := TX6) (n := 3) (v := .int (nI cl)) hx hb hts inX6_ hown hK rfl hs.1 0 (by decide) (hts _ (by decide +kernel)) rfl dX6_isAstrayAt_2 ?_
  refine lv_aload_n hx hb dX6_isAstrayAt_5 rfl (lv_at hl 0 rfl) ?_
  refine m_get (ci := 6) (C := RX6) (T := TX6) (n := 3) (v := .ref r1) hx hb hts inX6_ hown hK rfl hs.1 1 (by decide) (hts _ (by decide +kernel)) rfl dX6_isAstrayAt_6 ?_
  refine lv_iload_n hx hb dX6_isAstrayAt_9 rfl (lv_at hl 1 rfl) ?_
  refine r_calli (va_runV (As := [.int (nI j)]) (rest := [.int (nI cl), .ref u]) ⟨hx, hb, hml, hown, hts⟩ (k_X4_at l D ac _ r1 v1 n wf hs.2.1 hs.2.2.1 (by omega) (nI j)) (cwV 1 hts gX6_isAstrayAt_X4_at rfl rfl rfl (by decide +kernel) ⟨Nat.le_of_ble_eq_true rfl, Nat.le_of_ble_eq_true rfl⟩) (pV hK (ci := 4) rfl hs.2.1) rfl rfl hl.1 rfl (lv_room (Nat.le_of_ble_eq_true rfl)) dX6_isAstrayAt_10 ⟨Nat.le_of_ble_eq_true rfl, Nat.le_of_ble_eq_true rfl⟩) hS (fun rv_1 locs hrv_1 hS => ?_)
  subst hrv_1
  refine m_top (show ((ix (nI j) n).elim (-1) wf) = nI (wd j) from by rw [ix_nI hj (by omega)]; exact hj2.1) ?_
  refine r_calli (va_runV (As := [.int (nI cl), .int (nI (wd j))]) (rest := []) ⟨hx, hb, hml, hown, hts⟩ (k_X5_rulingOf l D ac _ u u1 u2 u3 fs fr ft ⟨h5.1, h5.2.1, h5.2.2.1, h5.2.2.2⟩ cl (wd j) (by omega) (hj2.2)) (cwV 2 hts gX6_isAstrayAt_X5_rulingOf rfl rfl rfl (by decide +kernel) ⟨Nat.le_of_ble_eq_true rfl, Nat.le_of_ble_eq_true rfl⟩) (pV hK (ci := 5) rfl h5.1) rfl rfl hl.1 rfl (lv_room (Nat.le_of_ble_eq_true rfl)) dX6_isAstrayAt_13 ⟨Nat.le_of_ble_eq_true rfl, Nat.le_of_ble_eq_true rfl⟩) hS (fun rv_2 locs hrv_2 hS => ?_)
  subst hrv_2
  refine lv_istore_n (lv' := [(3, .int (fr (cl * 50 + (wd j)))), (0, .ref a), (1, .int (nI j)), (2, .ref u)]) hx hb dX6_isAstrayAt_16 rfl hl (by decide) rfl (fun ls hl => ?_)
  refine lv_iload_n hx hb dX6_isAstrayAt_17 rfl (lv_at hl 0 rfl) ?_
  refine lv_iconst (v := (-1)) hx hb dX6_isAstrayAt_18 (by decide) ?_
  refine lv_icmp_eq (tgt := 38) hx hb dX6_isAstrayAt_19 (by decide) (fun c19 => ?_) (fun c19 => ?_)
  · refine lv_iconst (v := 0) hx hb dX6_isAstrayAt_38 (by decide) ?_
    exact e_z hx hb hlocks hr dX6_isAstrayAt_39 (by decide) hS (by simp [ast, *])
  · refine lv_iload_n hx hb dX6_isAstrayAt_22 rfl (lv_at hl 0 rfl) ?_
    refine lv_aload_n hx hb dX6_isAstrayAt_23 rfl (lv_at hl 1 rfl) ?_
    refine m_get (ci := 6) (C := RX6) (T := TX6) (n := 3) (v := .ref r2) hx hb hts inX6_ hown hK rfl hs.1 2 (by decide) (hts _ (by decide +kernel)) rfl dX6_isAstrayAt_24 ?_
    refine lv_iload_n hx hb dX6_isAstrayAt_27 rfl (lv_at hl 2 rfl) ?_
    refine r_calli (va_runV (As := [.int (nI j)]) (rest := [.int (fr (cl * 50 + (wd j)))]) ⟨hx, hb, hml, hown, hts⟩ (k_X4_at l D ac _ r2 v2 n bf hs.2.2.2.1 hs.2.2.2.2.1 (by omega) (nI j)) (cwV 1 hts gX6_isAstrayAt_X4_at rfl rfl rfl (by decide +kernel) ⟨Nat.le_of_ble_eq_true rfl, Nat.le_of_ble_eq_true rfl⟩) (pV hK (ci := 4) rfl hs.2.2.2.1) rfl rfl hl.1 rfl (lv_room (Nat.le_of_ble_eq_true rfl)) dX6_isAstrayAt_28 ⟨Nat.le_of_ble_eq_true rfl, Nat.le_of_ble_eq_true rfl⟩) hS (fun rv_3 locs hrv_3 hS => ?_)
    subst hrv_3
    refine m_top (show ((ix (nI j) n).elim (-1) bf) = bf j from by rw [ix_nI hj (by omega)]; rfl) ?_
    refine lv_icmp_eq (tgt := 38) hx hb dX6_isAstrayAt_31 (by decide) (fun c31 => ?_) (fun c31 => ?_)
    · refine lv_iconst (v := 0) hx hb dX6_isAstrayAt_38 (by decide) ?_
      exact e_z hx hb hlocks hr dX6_isAstrayAt_39 (by decide) hS (by simp [ast, *])
    · refine lv_iconst (v := 1) hx hb dX6_isAstrayAt_34 (by decide) ?_
      refine lv_goto (tgt := 39) hx hb dX6_isAstrayAt_35 (by decide) ?_
      exact e_z hx hb hlocks hr dX6_isAstrayAt_39 (by decide) hS (by simp [ast, *])
def FaP (n : Nat) (fr : Nat → Int32) (cl : Nat) (wd : Nat → Nat) (bf : Nat → Int32) (r : Int32) : Prop := (∃ i, i < n ∧ r = nI i ∧ ast fr cl wd bf i ∧ ∀ j, j < i → ¬ ast fr cl wd bf j) ∨ (r = -1 ∧ ∀ j, j < n → ¬ ast fr cl wd bf j)
set_option maxHeartbeats 4000000 in
set_option maxRecDepth 100000 in
/-- Sentence.firstAstray -/
theorem k_X6_firstAstray (l : Launch) (D : va_G) (ac : Nat → ClassId) (H : Heap) (a r1 v1 r2 v2 cl n : Nat) (wf bf : Nat → Int32) (wd : Nat → Nat) (hs : SenC D ac H a r1 v1 r2 v2 cl n wf bf wd) (u u1 u2 u3 : Nat) (fs fr ft : Nat → Int32) (h5 : RulC D ac H u u1 u2 u3 fs fr ft) : ROi l yX6_firstAstray wsX6_firstAstray ({ frames := 3, cells := 0, slots := 0, locals := 68 }) [.ref a, .ref u] D ac H (FaP n fr cl wd bf) := by
  refine Met.ofW (cc := cX6_firstAstray) (maxL := 3) (ret := (some .int)) (by decide) rfl ?_
  intro p e s m args below meth c s₁ B hml hv
  obtain ⟨hargs, hsz, hK⟩ := hv
  have hx := B.exec
  have hb := B.bytes
  have hr := B.returns
  have hts := atoms_spec (ws := wsX6_firstAstray) B.pre
  have hown : s.vm.findClass RX6 = some m.cls := findClass_of_methodNamed B.named
  have hlocks := B.notSynchronized
  subst hsz
  have inX4_ : ∀ w ∈ wsX40, w ∈ wsX6_firstAstray := by decide +kernel
  have inX6_ : ∀ w ∈ wsX60, w ∈ wsX6_firstAstray := by decide +kernel
  have hS : va_S (fun _ => False) s.heap s.heap [] := va_S.rf
  have hl := lv_entry ([.ref a, .ref u]) (n := 3) (Nat.le_of_ble_eq_true rfl)
  have hen := lg_entry_eq m [.ref a, .ref u] 3
  rw [← hargs] at hen
  rw [hen]
  generalize (lg_sl ([.ref a, .ref u]) ++ List.replicate (3 - (lg_sl ([.ref a, .ref u])).length) Slot.unset).toArray = ls at hl ⊢
  have hl : lv_has ls 3 [(0, .ref a), (1, .ref u)] := hl
  obtain ⟨Q0, hQ0⟩ : ∃ z, z = MQ below (va_Qi (fun r (_ : Unit) => (FaP n fr cl wd bf) r) (fun _ t => t.heap = s.heap) (fun _ => False)) args s 0 0 (fun _ => False) := ⟨_, rfl⟩
  rw [← hQ0]
  obtain ⟨hn, hcl, hwd⟩ := hs.2.2.2.2.2
  refine lv_iconst (v := 0) hx hb dX6_firstAstray_0 (by decide) ?_
  refine lv_istore_n (lv' := [(2, .int 0), (0, .ref a), (1, .ref u)]) hx hb dX6_firstAstray_1 rfl hl (by decide) rfl (fun ls hl => ?_)
  have L2 : ∀ (k9 : Nat) (i : Nat) (hk : n - i < k9) (hi : i ≤ n) (hall : ∀ j, j < i → ¬ ast fr cl wd bf j) (locs : List Loc) (hS : va_S (fun _ => False) s.heap s.heap locs) (ls : Array Slot) (hl : lv_has ls 3 [(0, .ref a), (1, .ref u), (2, .int (nI i))]), W p l e (headSpec wsX6_firstAstray ({ frames := 3, cells := 0, slots := 0, locals := 68 })).room s m args below meth c s.heap locs 0 0 Q0 (F0 m 2 ls []) := by
    intro k9
    induction k9 with
    | zero => intro i hk hi hall locs hS ls hl; exact absurd hk (Nat.not_lt_zero _)
    | succ k9 ih2 =>
      intro i hk hi hall locs hS ls hl
      refine lv_iload_n hx hb dX6_firstAstray_2 rfl (lv_at hl 2 rfl) ?_
      refine lv_aload_n hx hb dX6_firstAstray_3 rfl (lv_at hl 0 rfl) ?_
      refine m_get (ci := 6) (C := RX6) (T := TX6) (n := 3) (v := .ref r1) hx hb hts inX6_ hown hK rfl hs.1 1 (by decide) (hts _ (by decide +kernel)) rfl dX6_firstAstray_4 ?_
      refine m_getN (host := RX7) (ci := 4) (C := RX4) (T := TX4) (n := 2) (v := .int (nI n)) hx hb hts inX4_ hown hK rfl hs.2.1 1 (by decide) 1 rfl rfl dX6_firstAstray_7 ?_
      refine lv_icmp_ge (tgt := 30) hx hb dX6_firstAstray_10 (by decide) (fun c10 => ?_) (fun c10 => ?_)
      · have hin : i = n := by have := le_le (b := i) c10 (by omega) (by omega); omega
        refine lv_iconst (v := (-1)) hx hb dX6_firstAstray_30 (by decide) ?_
        rw [hQ0]
        exact e_i hx hb hlocks hr dX6_firstAstray_31 hS (Or.inr ⟨rfl, by rw [← hin]; exact hall⟩)
      · have hin : i < n := nle_lt c10 (by omega) (by omega)
        refine lv_aload_n hx hb dX6_firstAstray_13 rfl (lv_at hl 0 rfl) ?_
        refine lv_iload_n hx hb dX6_firstAstray_14 rfl (lv_at hl 2 rfl) ?_
        refine lv_aload_n hx hb dX6_firstAstray_15 rfl (lv_at hl 1 rfl) ?_
        refine r_calli (va_runV (As := [.int (nI i), .ref u]) (rest := []) ⟨hx, hb, hml, hown, hts⟩ (k_X6_isAstrayAt l D ac _ a r1 v1 r2 v2 cl n wf bf wd hs u u1 u2 u3 fs fr ft ⟨h5.1, h5.2.1, h5.2.2.1, h5.2.2.2⟩ i (by omega)) (cwV 2 hts gX6_firstAstray_X6_isAstrayAt rfl rfl rfl (by decide +kernel) ⟨Nat.le_of_ble_eq_true rfl, Nat.le_of_ble_eq_true rfl⟩) (pV hK (ci := 6) rfl hs.1) rfl rfl hl.1 rfl (lv_room (Nat.le_of_ble_eq_true rfl)) dX6_firstAstray_16 ⟨Nat.le_of_ble_eq_true rfl, Nat.le_of_ble_eq_true rfl⟩) hS (fun rv_1 locs hrv_1 hS => ?_)
        subst hrv_1
        refine lv_if_eq (tgt := 24) hx hb dX6_firstAstray_19 (by decide) (fun c19 => ?_) (fun c19 => ?_)
        · refine lv_iinc (v := nI (i + 1)) (lv' := [(2, .int (nI (i + 1))), (0, .ref a), (1, .ref u)]) hx hb dX6_firstAstray_24 hl (k := 2) rfl (nI_1 _) (by decide) rfl (fun ls hl => ?_)
          refine lv_goto (tgt := 2) hx hb dX6_firstAstray_27 (by decide) ?_
          exact ih2 (i + 1) (by omega) (by omega) (fun j hj => by rcases Nat.lt_succ_iff_lt_or_eq.mp hj with q | q; exact hall j q; rw [q]; intro h9; rw [if_pos h9] at c19; exact absurd c19 (by decide)) _ hS ls (lv_sub hl [1, 2, 0] rfl)
        · refine lv_iload_n hx hb dX6_firstAstray_22 rfl (lv_at hl 2 rfl) ?_
          rw [hQ0]
          exact e_i hx hb hlocks hr dX6_firstAstray_23 hS (Or.inl ⟨i, hin, rfl, Classical.byContradiction (fun h9 => c19 (if_neg h9)), hall⟩)
  exact L2 _ 0 (Nat.lt_succ_self _) (Nat.zero_le _) (fun j h => absurd h (Nat.not_lt_zero j)) _ hS ls (lv_sub hl [1, 2, 0] rfl)
theorem va_upeq {w w1 : Nat → va_E} {v : Nat} {e : va_E} (h : w1 v = e) (h2 : ∀ q, q ≠ v → w1 q = w q) : w1 = va_up w v e := by
  funext q
  by_cases q1 : q = v
  · rw [q1, h, va_up_self]
  · rw [va_up_ne _ _ q1, h2 q q1]
set_option maxHeartbeats 4000000 in
set_option maxRecDepth 100000 in
/-- Sentence.forgetAll -/
theorem k_X6_forgetAll (l : Launch) (D : va_G) (ac : Nat → ClassId) (H : Heap) (A : Nat → Prop) (N : Nat) (adr : Nat → Nat) (w : Nat → va_E) (hM : MW D A N adr w H) (a r1 r2 v2 cl n : Nat) (bf : Nat → Int32) (ha : a < N) (hr2 : r2 < N) (hv2 : v2 < N) (hd : a ≠ r2 ∧ a ≠ v2 ∧ r2 ≠ v2) (hn : n ≤ 8) (g0 : w a = .inr (6, [.int (nI cl), .ref r1, .ref (adr r2)])) (g1 : w r2 = .inr (4, [.ref (adr v2), .int (nI n)])) (g2 : w v2 = .inl (ac 0, 8, .inl bf)) : WRv l yX6_forgetAll wsX6_forgetAll ({ frames := 2, cells := 0, slots := 0, locals := 43 }) [.ref (adr a)] D ac H A N adr (fun w1 => w1 = va_up w v2 (.inl (ac 0, 8, .inl (mixF n (fun _ => -1) bf)))) := by
  refine Met.ofW (cc := cX6_forgetAll) (maxL := 2) (ret := none) (by decide) rfl ?_
  intro p e s m args below meth c s₁ B hml hv
  obtain ⟨hargs, hsz, hK⟩ := hv
  have hx := B.exec
  have hb := B.bytes
  have hr := B.returns
  have hts := atoms_spec (ws := wsX6_forgetAll) B.pre
  have hown : s.vm.findClass RX6 = some m.cls := findClass_of_methodNamed B.named
  have hlocks := B.notSynchronized
  subst hsz
  have inX4_ : ∀ w ∈ wsX40, w ∈ wsX6_forgetAll := by decide +kernel
  have inX6_ : ∀ w ∈ wsX60, w ∈ wsX6_forgetAll := by decide +kernel
  have hS : va_S A s.heap s.heap [] := va_S.rf
  have hl := lv_entry ([.ref (adr a)]) (n := 2) (Nat.le_of_ble_eq_true rfl)
  have hen := lg_entry_eq m [.ref (adr a)] 2
  rw [← hargs] at hen
  rw [hen]
  generalize (lg_sl ([.ref (adr a)]) ++ List.replicate (2 - (lg_sl ([.ref (adr a)])).length) Slot.unset).toArray = ls at hl ⊢
  have hl : lv_has ls 2 [(0, .ref (adr a))] := hl
  obtain ⟨Q0, hQ0⟩ : ∃ z, z = MQ below (va_Qv (fun w1 => w1 = va_up w v2 (.inl (ac 0, 8, .inl (mixF n (fun _ => -1) bf)))) (fun c t => MW D A N adr c t.heap) A) args s 0 0 A := ⟨_, rfl⟩
  rw [← hQ0]
  refine lv_iconst (v := 0) hx hb dX6_forgetAll_0 (by decide) ?_
  refine lv_istore_n (lv' := [(1, .int 0), (0, .ref (adr a))]) hx hb dX6_forgetAll_1 rfl hl (by decide) rfl (fun ls hl => ?_)
  have L2 : ∀ (k9 : Nat) (i : Nat) (hk : n - i < k9) (hi : i ≤ n) (w1 : Nat → va_E) (f0 : w1 a = .inr (6, [.int (nI cl), .ref r1, .ref (adr r2)])) (f1 : w1 r2 = .inr (4, [.ref (adr v2), .int (nI n)])) (f2 : w1 v2 = .inl (ac 0, 8, .inl (mixF i (fun _ => -1) bf))) (f3 : ∀ q, q ≠ v2 → w1 q = w q) (H : Heap) (locs : List Loc) (hM : MW D A N adr w1 H) (hS : va_S A s.heap H locs) (ls : Array Slot) (hl : lv_has ls 2 [(0, .ref (adr a)), (1, .int (nI i))]), W p l e (headSpec wsX6_forgetAll ({ frames := 2, cells := 0, slots := 0, locals := 43 })).room s m args below meth c H locs 0 0 Q0 (F0 m 2 ls []) := by
    intro k9
    induction k9 with
    | zero => intro i hk hi w1 f0 f1 f2 f3 H locs hM hS ls hl; exact absurd hk (Nat.not_lt_zero _)
    | succ k9 ih2 =>
      intro i hk hi w1 f0 f1 f2 f3 H locs hM hS ls hl
      refine lv_iload_n hx hb dX6_forgetAll_2 rfl (lv_at hl 1 rfl) ?_
      refine lv_aload_n hx hb dX6_forgetAll_3 rfl (lv_at hl 0 rfl) ?_
      refine m_get (ci := 6) (C := RX6) (T := TX6) (n := 3) (v := .ref (adr r2)) hx hb hts inX6_ hown hK rfl (hM.cel ha f0) 2 (by decide) (hts _ (by decide +kernel)) rfl dX6_forgetAll_4 ?_
      refine m_getN (host := RX7) (ci := 4) (C := RX4) (T := TX4) (n := 2) (v := .int (nI n)) hx hb hts inX4_ hown hK rfl (hM.cel hr2 f1) 1 (by decide) 1 rfl rfl dX6_forgetAll_7 ?_
      refine lv_icmp_ge (tgt := 28) hx hb dX6_forgetAll_10 (by decide) (fun c10 => ?_) (fun c10 => ?_)
      · have hin : i = n := by have := le_le (b := i) c10 (by omega) (by omega); omega
        rw [hQ0]
        exact e_wv hx hb hlocks hr dX6_forgetAll_28 hM hS (by rw [← hin]; exact va_upeq f2 f3)
      · have hin : i < n := nle_lt c10 (by omega) (by omega)
        refine lv_aload_n hx hb dX6_forgetAll_13 rfl (lv_at hl 0 rfl) ?_
        refine m_get (ci := 6) (C := RX6) (T := TX6) (n := 3) (v := .ref (adr r2)) hx hb hts inX6_ hown hK rfl (hM.cel ha f0) 2 (by decide) (hts _ (by decide +kernel)) rfl dX6_forgetAll_14 ?_
        refine lv_iload_n hx hb dX6_forgetAll_17 rfl (lv_at hl 1 rfl) ?_
        refine lv_iconst (v := (-1)) hx hb dX6_forgetAll_18 (by decide) ?_
        refine w_callv (va_runV (As := [.int (nI i), .int (-1)]) (rest := []) ⟨hx, hb, hml, hown, hts⟩ (k_X4_put l D ac _ A N adr w1 hM r2 v2 n (mixF i (fun _ => -1) bf) hr2 hv2 (by omega) f1 f2 (by omega) i (by omega) (-1)) (cwV 2 hts gX6_forgetAll_X4_put rfl rfl rfl (by decide +kernel) ⟨Nat.le_of_ble_eq_true rfl, Nat.le_of_ble_eq_true rfl⟩) (pV hK (ci := 4) rfl (hM.cel hr2 f1)) rfl rfl hl.1 rfl (lv_room (Nat.le_of_ble_eq_true rfl)) dX6_forgetAll_19 ⟨Nat.le_of_ble_eq_true rfl, Nat.le_of_ble_eq_true rfl⟩) hS (fun w_2 H locs hw_2 hM hS => ?_)
        have ef_ : upd (mixF i (fun _ => -1) bf) i (-1) = mixF (i + 1) (fun _ => -1) bf := mixF_s
        rw [ef_] at hw_2
        clear ef_
        have h_3 : w_2 a = .inr (6, [.int (nI cl), .ref r1, .ref (adr r2)]) := by rw [hw_2, va_up_ne _ _ (by omega)]; exact f0
        have h_4 : w_2 r2 = .inr (4, [.ref (adr v2), .int (nI n)]) := by rw [hw_2, va_up_ne _ _ (by omega)]; exact f1
        have h_5 : w_2 v2 = .inl (ac 0, 8, .inl (mixF (i + 1) (fun _ => -1) bf)) := by rw [hw_2]; exact va_up_self _ _ _
        refine lv_iinc (v := nI (i + 1)) (lv' := [(1, .int (nI (i + 1))), (0, .ref (adr a))]) hx hb dX6_forgetAll_22 hl (k := 1) rfl (nI_1 _) (by decide) rfl (fun ls hl => ?_)
        refine lv_goto (tgt := 2) hx hb dX6_forgetAll_25 (by decide) ?_
        exact ih2 (i + 1) (by omega) (by omega) w_2 h_3 h_4 h_5 (fun q q1 => by rw [hw_2, va_up_ne _ _ q1]; exact f3 q q1) _ _ hM hS ls (lv_sub hl [1, 0] rfl)
  exact L2 _ 0 (Nat.lt_succ_self _) (Nat.zero_le _) w g0 g1 (by rw [mixF_0]; exact g2) (fun q _ => rfl) _ _ hM hS ls (lv_sub hl [1, 0] rfl)
end
section
/-- a row of the table of edits, out of the row before -/
def edS (f : Nat → Int32) (x : Int32) (b : Nat → Nat) (i : Nat) : Nat → Nat
  | 0 => i
  | j + 1 => min (b j + (if x = f j then 0 else 1)) (min (b (j + 1) + 1) (edS f x b i j + 1))
/-- the edits from the first i words of f to the first j of g -/
def ed (f g : Nat → Int32) : Nat → Nat → Nat
  | 0 => fun j => j
  | i + 1 => edS g (f i) (ed f g i) (i + 1)
theorem ed_0 {f g : Nat → Int32} {j : Nat} : ed f g 0 j = j := rfl
theorem ed_s0 {f g : Nat → Int32} {i : Nat} : ed f g i 0 = i := by cases i <;> rfl
theorem ed_ss {f g : Nat → Int32} {i j : Nat} : ed f g (i + 1) (j + 1) = min (ed f g i j + (if f i = g j then 0 else 1)) (min (ed f g i (j + 1) + 1) (ed f g (i + 1) j + 1)) := rfl
theorem ed_le {f g : Nat → Int32} : ∀ i j : Nat, ed f g i j ≤ i + j := by
  intro i
  induction i with
  | zero => intro j; rw [ed_0]; omega
  | succ i ih =>
    intro j
    induction j with
    | zero => rw [ed_s0]; omega
    | succ j jh => rw [ed_ss]; omega
theorem nmin {a b : Nat} (ha : a < 2 ^ 31) (hb : b < 2 ^ 31) : (if nI b < nI a then nI b else nI a) = nI (min a b) := by
  by_cases h : b < a
  · rw [if_pos (nI_lt h ha), Nat.min_eq_right (by omega)]
  · rw [if_neg (nI_nlt (by omega) hb), Nat.min_eq_left (by omega)]
theorem nmax {a b : Nat} (ha : a < 2 ^ 31) (hb : b < 2 ^ 31) : (if nI a < nI b then nI b else nI a) = nI (max a b) := by
  by_cases h : a < b
  · rw [if_pos (nI_lt h hb), Nat.max_eq_right (by omega)]
  · rw [if_neg (nI_nlt (by omega) ha), Nat.max_eq_left (by omega)]
/-- the likeness of two rows, the longer one of L words, with d edits between them -/
def lik (L d : Nat) : Int32 := 100 - (100 * nI d + nI L - 1) / nI L
set_option maxHeartbeats 4000000 in
set_option maxRecDepth 100000 in
/-- Edits.between -/
theorem k_X0_between (l : Launch) (D : va_G) (ac : Nat → ClassId) (H : Heap) (u t : Nat) (T : Nat → Int32) (h1 : Cel D H u (.inr (0, [.ref t]))) (h2 : Cel D H t (.inl (ac 0, 81, .inl T))) (i j : Nat) (hi : i ≤ 8) (hj : j ≤ 8) : ROi l yX0_between wsX0_between ({ frames := 0, cells := 0, slots := 0, locals := 0 }) [.ref u, .int (nI i), .int (nI j)] D ac H (fun r => r = T (i * 9 + j)) := by
  refine Met.ofW (cc := cX0_between) (maxL := 4) (ret := (some .int)) (by decide) rfl ?_
  intro p e s m args below meth c s₁ B hml hv
  obtain ⟨hargs, hsz, hK⟩ := hv
  have hx := B.exec
  have hb := B.bytes
  have hr := B.returns
  have hts := atoms_spec (ws := wsX0_between) B.pre
  have hown : s.vm.findClass RX0 = some m.cls := findClass_of_methodNamed B.named
  have hlocks := B.notSynchronized
  subst hsz
  have inX0_ : ∀ w ∈ wsX00, w ∈ wsX0_between := by decide +kernel
  have hS : va_S (fun _ => False) s.heap s.heap [] := va_S.rf
  have hl := lv_entry ([.ref u, .int (nI i), .int (nI j)]) (n := 4) (Nat.le_of_ble_eq_true rfl)
  have hen := lg_entry_eq m [.ref u, .int (nI i), .int (nI j)] 4
  rw [← hargs] at hen
  rw [hen]
  generalize (lg_sl ([.ref u, .int (nI i), .int (nI j)]) ++ List.replicate (4 - (lg_sl ([.ref u, .int (nI i), .int (nI j)])).length) Slot.unset).toArray = ls at hl ⊢
  have hl : lv_has ls 4 [(0, .ref u), (1, .int (nI i)), (2, .int (nI j))] := hl
  refine lv_iload_n hx hb dX0_between_0 rfl (lv_at hl 1 rfl) ?_
  refine lv_bipush (v := 9) hx hb dX0_between_1 (by decide) ?_
  refine lv_imul hx hb dX0_between_3 ?_
  refine lv_iload_n hx hb dX0_between_4 rfl (lv_at hl 2 rfl) ?_
  refine lv_iadd hx hb dX0_between_5 ?_
  refine m_top (show (((nI i) * 9) + (nI j)) = nI (i * 9 + j) from by rw [show (9 : Int32) = nI 9 from rfl, pk_mul, nI_add]) ?_
  refine lv_istore_n (lv' := [(3, .int (nI (i * 9 + j))), (0, .ref u), (1, .int (nI i)), (2, .int (nI j))]) hx hb dX0_between_6 rfl hl (by decide) rfl (fun ls hl => ?_)
  refine lv_iload_n hx hb dX0_between_7 rfl (lv_at hl 0 rfl) ?_
  refine lv_if_lt (tgt := 29) hx hb dX0_between_8 (by decide) (fun c8 => ?_) (fun c8 => ?_)
  · exact absurd c8 (nI_pos (by omega))
  · refine lv_iload_n hx hb dX0_between_11 rfl (lv_at hl 0 rfl) ?_
    refine lv_aload_n hx hb dX0_between_12 rfl (lv_at hl 1 rfl) ?_
    refine m_get (ci := 0) (C := RX0) (T := TX0) (n := 1) (v := .ref t) hx hb hts inX0_ hown hK rfl h1 0 (by decide) (hts _ (by decide +kernel)) rfl dX0_between_13 ?_
    refine m_alen (v := 81) (ty := _) hx hb hK 0 h2 rfl (by first | rfl | decide) dX0_between_16 ?_
    refine lv_icmp_ge (tgt := 29) hx hb dX0_between_17 (by decide) (fun c17 => ?_) (fun c17 => ?_)
    · exact absurd (le_le (a := 81) c17 (by omega) (by omega)) (by omega)
    · refine lv_aload_n hx hb dX0_between_20 rfl (lv_at hl 1 rfl) ?_
      refine m_get (ci := 0) (C := RX0) (T := TX0) (n := 1) (v := .ref t) hx hb hts inX0_ hown hK rfl h1 0 (by decide) (hts _ (by decide +kernel)) rfl dX0_between_21 ?_
      refine lv_iload_n hx hb dX0_between_24 rfl (lv_at hl 0 rfl) ?_
      refine m_iald hx hb hK h2 (vp_in_nI (by omega) (by decide)) dX0_between_25 ?_
      refine m_top (show (T (nI (i * 9 + j)).toNatClampNeg) = T (i * 9 + j) from by rw [nI_clamp (by omega)]) ?_
      refine lv_goto (tgt := 30) hx hb dX0_between_26 (by decide) ?_
      exact e_i hx hb hlocks hr dX0_between_30 hS (rfl)
set_option maxHeartbeats 4000000 in
set_option maxRecDepth 100000 in
/-- Edits.least -/
theorem k_X0_least (l : Launch) (D : va_G) (ac : Nat → ClassId) (H : Heap) (u t : Nat) (T : Nat → Int32) (h1 : Cel D H u (.inr (0, [.ref t]))) (h2 : Cel D H t (.inl (ac 0, 81, .inl T))) (i j x1 x2 x3 : Nat) (b : Int32) (hi : i ≤ 8) (hj : j ≤ 8) (hb1 : x1 < 1000) (hb2 : x2 < 1000) (hb3 : x3 < 1000) (hd : 0 < i → 0 < j → T ((i - 1) * 9 + (j - 1)) = nI x1 ∧ T ((i - 1) * 9 + j) = nI x2 ∧ T (i * 9 + (j - 1)) = nI x3) : ROi l yX0_least wsX0_least ({ frames := 1, cells := 0, slots := 0, locals := 23 }) [.ref u, .int (nI i), .int (nI j), .int b] D ac H (fun r => r = nI (if i = 0 ∨ j = 0 then i + j else min (x1 + (if b = 0 then 1 else 0)) (min (x2 + 1) (x3 + 1)))) := by
  refine Met.ofW (cc := cX0_least) (maxL := 7) (ret := (some .int)) (by decide) rfl ?_
  intro p e s m args below meth c s₁ B hml hv
  obtain ⟨hargs, hsz, hK⟩ := hv
  have hx := B.exec
  have hb := B.bytes
  have hr := B.returns
  have hts := atoms_spec (ws := wsX0_least) B.pre
  have hown : s.vm.findClass RX0 = some m.cls := findClass_of_methodNamed B.named
  have hlocks := B.notSynchronized
  subst hsz
  have hS : va_S (fun _ => False) s.heap s.heap [] := va_S.rf
  have hl := lv_entry ([.ref u, .int (nI i), .int (nI j), .int b]) (n := 7) (Nat.le_of_ble_eq_true rfl)
  have hen := lg_entry_eq m [.ref u, .int (nI i), .int (nI j), .int b] 7
  rw [← hargs] at hen
  rw [hen]
  generalize (lg_sl ([.ref u, .int (nI i), .int (nI j), .int b]) ++ List.replicate (7 - (lg_sl ([.ref u, .int (nI i), .int (nI j), .int b])).length) Slot.unset).toArray = ls at hl ⊢
  have hl : lv_has ls 7 [(0, .ref u), (1, .int (nI i)), (2, .int (nI j)), (3, .int b)] := hl
  refine lv_iload_n hx hb dX0_least_0 rfl (lv_at hl 1 rfl) ?_
  refine lv_if_eq (tgt := 8) hx hb dX0_least_1 (by decide) (fun c1 => ?_) (fun c1 => ?_)
  · have h1_ : i = 0 := by have := (nI_eq (b := 0) (by omega) (by omega)).mp c1; omega
    refine lv_iload_n hx hb dX0_least_8 rfl (lv_at hl 1 rfl) ?_
    refine lv_iload_n hx hb dX0_least_9 rfl (lv_at hl 2 rfl) ?_
    refine lv_iadd hx hb dX0_least_10 ?_
    refine m_top (show ((nI i) + (nI j)) = nI (i + j) from nI_add _ _) ?_
    exact e_i hx hb hlocks hr dX0_least_11 hS (by first | rw [if_pos (Or.inl h1_)] | rw [if_pos (Or.inr h2_)])
  · have h1_ : 0 < i := Nat.pos_of_ne_zero (fun h => c1 (by rw [h]; rfl))
    refine lv_iload_n hx hb dX0_least_4 rfl (lv_at hl 2 rfl) ?_
    refine lv_if_ne (tgt := 12) hx hb dX0_least_5 (by decide) (fun c5 => ?_) (fun c5 => ?_)
    · have h2_ : 0 < j := Nat.pos_of_ne_zero (fun h => c5 (by rw [h]; rfl))
      refine lv_aload_n hx hb dX0_least_12 rfl (lv_at hl 0 rfl) ?_
      refine lv_iload_n hx hb dX0_least_13 rfl (lv_at hl 1 rfl) ?_
      refine lv_iconst (v := 1) hx hb dX0_least_14 (by decide) ?_
      refine lv_isub hx hb dX0_least_15 ?_
      refine m_top (show ((nI i) - 1) = nI (i - 1) from pk_sub (a := i) (b := 1) (by omega)) ?_
      refine lv_iload_n hx hb dX0_least_16 rfl (lv_at hl 2 rfl) ?_
      refine lv_iconst (v := 1) hx hb dX0_least_17 (by decide) ?_
      refine lv_isub hx hb dX0_least_18 ?_
      refine m_top (show ((nI j) - 1) = nI (j - 1) from pk_sub (a := j) (b := 1) (by omega)) ?_
      refine r_calli (va_runV (As := [.int (nI (i - 1)), .int (nI (j - 1))]) (rest := []) ⟨hx, hb, hml, hown, hts⟩ (k_X0_between l D ac _ u t T h1 h2 (i - 1) (j - 1) (by omega) (by omega)) (cwV 2 hts gX0_least_X0_between rfl rfl rfl (by decide +kernel) ⟨Nat.le_of_ble_eq_true rfl, Nat.le_of_ble_eq_true rfl⟩) (pV hK (ci := 0) rfl h1) rfl rfl hl.1 rfl (lv_room (Nat.le_of_ble_eq_true rfl)) dX0_least_19 ⟨Nat.le_of_ble_eq_true rfl, Nat.le_of_ble_eq_true rfl⟩) hS (fun rv_1 locs hrv_1 hS => ?_)
      subst hrv_1
      refine m_top (show (T ((i - 1) * 9 + (j - 1))) = nI x1 from (hd h1_ h2_).1) ?_
      refine lv_iload_n hx hb dX0_least_22 rfl (lv_at hl 3 rfl) ?_
      refine lv_if_eq (tgt := 30) hx hb dX0_least_23 (by decide) (fun c23 => ?_) (fun c23 => ?_)
      · refine lv_iconst (v := 1) hx hb dX0_least_30 (by decide) ?_
        refine lv_iadd hx hb dX0_least_31 ?_
        refine m_top (show ((nI x1) + 1) = nI (x1 + (if b = 0 then 1 else 0)) from by first | (rw [if_pos c23]; exact nI_1 _) | (rw [if_neg c23]; exact Int32.add_zero _)) ?_
        refine lv_istore (lv' := [(4, .int (nI (x1 + (if b = 0 then 1 else 0)))), (0, .ref u), (1, .int (nI i)), (2, .int (nI j)), (3, .int b)]) hx hb dX0_least_32 hl (by decide) rfl (fun ls hl => ?_)
        refine lv_aload_n hx hb dX0_least_34 rfl (lv_at hl 1 rfl) ?_
        refine lv_iload_n hx hb dX0_least_35 rfl (lv_at hl 2 rfl) ?_
        refine lv_iconst (v := 1) hx hb dX0_least_36 (by decide) ?_
        refine lv_isub hx hb dX0_least_37 ?_
        refine m_top (show ((nI i) - 1) = nI (i - 1) from pk_sub (a := i) (b := 1) (by omega)) ?_
        refine lv_iload_n hx hb dX0_least_38 rfl (lv_at hl 3 rfl) ?_
        refine r_calli (va_runV (As := [.int (nI (i - 1)), .int (nI j)]) (rest := []) ⟨hx, hb, hml, hown, hts⟩ (k_X0_between l D ac _ u t T h1 h2 (i - 1) j (by omega) (by omega)) (cwV 2 hts gX0_least_X0_between rfl rfl rfl (by decide +kernel) ⟨Nat.le_of_ble_eq_true rfl, Nat.le_of_ble_eq_true rfl⟩) (pV hK (ci := 0) rfl h1) rfl rfl hl.1 rfl (lv_room (Nat.le_of_ble_eq_true rfl)) dX0_least_39 ⟨Nat.le_of_ble_eq_true rfl, Nat.le_of_ble_eq_true rfl⟩) hS (fun rv_2 locs hrv_2 hS => ?_)
        subst hrv_2
        refine m_top (show (T ((i - 1) * 9 + j)) = nI x2 from (hd h1_ h2_).2.1) ?_
        refine lv_iconst (v := 1) hx hb dX0_least_42 (by decide) ?_
        refine lv_iadd hx hb dX0_least_43 ?_
        refine m_top (show ((nI x2) + 1) = nI (x2 + 1) from nI_1 _) ?_
        refine lv_istore (lv' := [(5, .int (nI (x2 + 1))), (4, .int (nI (x1 + (if b = 0 then 1 else 0)))), (0, .ref u), (1, .int (nI i)), (2, .int (nI j)), (3, .int b)]) hx hb dX0_least_44 hl (by decide) rfl (fun ls hl => ?_)
        refine lv_aload_n hx hb dX0_least_46 rfl (lv_at hl 2 rfl) ?_
        refine lv_iload_n hx hb dX0_least_47 rfl (lv_at hl 3 rfl) ?_
        refine lv_iload_n hx hb dX0_least_48 rfl (lv_at hl 4 rfl) ?_
        refine lv_iconst (v := 1) hx hb dX0_least_49 (by decide) ?_
        refine lv_isub hx hb dX0_least_50 ?_
        refine m_top (show ((nI j) - 1) = nI (j - 1) from pk_sub (a := j) (b := 1) (by omega)) ?_
        refine r_calli (va_runV (As := [.int (nI i), .int (nI (j - 1))]) (rest := []) ⟨hx, hb, hml, hown, hts⟩ (k_X0_between l D ac _ u t T h1 h2 i (j - 1) (by omega) (by omega)) (cwV 2 hts gX0_least_X0_between rfl rfl rfl (by decide +kernel) ⟨Nat.le_of_ble_eq_true rfl, Nat.le_of_ble_eq_true rfl⟩) (pV hK (ci := 0) rfl h1) rfl rfl hl.1 rfl (lv_room (Nat.le_of_ble_eq_true rfl)) dX0_least_51 ⟨Nat.le_of_ble_eq_true rfl, Nat.le_of_ble_eq_true rfl⟩) hS (fun rv_3 locs hrv_3 hS => ?_)
        subst hrv_3
        refine m_top (show (T (i * 9 + (j - 1))) = nI x3 from (hd h1_ h2_).2.2) ?_
        refine lv_iconst (v := 1) hx hb dX0_least_54 (by decide) ?_
        refine lv_iadd hx hb dX0_least_55 ?_
        refine m_top (show ((nI x3) + 1) = nI (x3 + 1) from nI_1 _) ?_
        refine lv_istore (lv' := [(6, .int (nI (x3 + 1))), (5, .int (nI (x2 + 1))), (4, .int (nI (x1 + (if b = 0 then 1 else 0)))), (0, .ref u), (1, .int (nI i)), (2, .int (nI j)), (3, .int b)]) hx hb dX0_least_56 hl (by decide) rfl (fun ls hl => ?_)
        refine lv_iload hx hb dX0_least_58 (lv_at hl 2 rfl) ?_
        refine lv_iload hx hb dX0_least_60 (lv_at hl 1 rfl) ?_
        refine lv_iload hx hb dX0_least_62 (lv_at hl 0 rfl) ?_
        refine va_mmin hx hb (hml.trans hl.1.symm) hown (hts _ (by decide +kernel)) (hts _ (by decide +kernel)) (hts _ (by decide +kernel)) (hts _ (by decide +kernel)) (Nat.le_of_ble_eq_true rfl) (Nat.le_of_ble_eq_true rfl) (Nat.zero_le _) (Nat.zero_le _) dX0_least_64 ?_
        refine m_top (show (if (nI (x3 + 1)) < (nI (x2 + 1)) then nI (x3 + 1) else nI (x2 + 1)) = nI (min (x2 + 1) (x3 + 1)) from nmin (by omega) (by omega)) ?_
        refine va_mmin hx hb (hml.trans hl.1.symm) hown (hts _ (by decide +kernel)) (hts _ (by decide +kernel)) (hts _ (by decide +kernel)) (hts _ (by decide +kernel)) (Nat.le_of_ble_eq_true rfl) (Nat.le_of_ble_eq_true rfl) (Nat.zero_le _) (Nat.zero_le _) dX0_least_67 ?_
        refine m_top (show (if (nI (min (x2 + 1) (x3 + 1))) < (nI (x1 + (if b = 0 then 1 else 0))) then nI (min (x2 + 1) (x3 + 1)) else nI (x1 + (if b = 0 then 1 else 0))) = nI (min (x1 + (if b = 0 then 1 else 0)) (min (x2 + 1) (x3 + 1))) from nmin (by split <;> omega) (by omega)) ?_
        exact e_i hx hb hlocks hr dX0_least_70 hS (by rw [if_neg (show ¬ (i = 0 ∨ j = 0) from by omega)])
      · refine lv_iconst (v := 0) hx hb dX0_least_26 (by decide) ?_
        refine lv_goto (tgt := 31) hx hb dX0_least_27 (by decide) ?_
        refine lv_iadd hx hb dX0_least_31 ?_
        refine m_top (show ((nI x1) + 0) = nI (x1 + (if b = 0 then 1 else 0)) from by first | (rw [if_pos c23]; exact nI_1 _) | (rw [if_neg c23]; exact Int32.add_zero _)) ?_
        refine lv_istore (lv' := [(4, .int (nI (x1 + (if b = 0 then 1 else 0)))), (0, .ref u), (1, .int (nI i)), (2, .int (nI j)), (3, .int b)]) hx hb dX0_least_32 hl (by decide) rfl (fun ls hl => ?_)
        refine lv_aload_n hx hb dX0_least_34 rfl (lv_at hl 1 rfl) ?_
        refine lv_iload_n hx hb dX0_least_35 rfl (lv_at hl 2 rfl) ?_
        refine lv_iconst (v := 1) hx hb dX0_least_36 (by decide) ?_
        refine lv_isub hx hb dX0_least_37 ?_
        refine m_top (show ((nI i) - 1) = nI (i - 1) from pk_sub (a := i) (b := 1) (by omega)) ?_
        refine lv_iload_n hx hb dX0_least_38 rfl (lv_at hl 3 rfl) ?_
        refine r_calli (va_runV (As := [.int (nI (i - 1)), .int (nI j)]) (rest := []) ⟨hx, hb, hml, hown, hts⟩ (k_X0_between l D ac _ u t T h1 h2 (i - 1) j (by omega) (by omega)) (cwV 2 hts gX0_least_X0_between rfl rfl rfl (by decide +kernel) ⟨Nat.le_of_ble_eq_true rfl, Nat.le_of_ble_eq_true rfl⟩) (pV hK (ci := 0) rfl h1) rfl rfl hl.1 rfl (lv_room (Nat.le_of_ble_eq_true rfl)) dX0_least_39 ⟨Nat.le_of_ble_eq_true rfl, Nat.le_of_ble_eq_true rfl⟩) hS (fun rv_4 locs hrv_4 hS => ?_)
        subst hrv_4
        refine m_top (show (T ((i - 1) * 9 + j)) = nI x2 from (hd h1_ h2_).2.1) ?_
        refine lv_iconst (v := 1) hx hb dX0_least_42 (by decide) ?_
        refine lv_iadd hx hb dX0_least_43 ?_
        refine m_top (show ((nI x2) + 1) = nI (x2 + 1) from nI_1 _) ?_
        refine lv_istore (lv' := [(5, .int (nI (x2 + 1))), (4, .int (nI (x1 + (if b = 0 then 1 else 0)))), (0, .ref u), (1, .int (nI i)), (2, .int (nI j)), (3, .int b)]) hx hb dX0_least_44 hl (by decide) rfl (fun ls hl => ?_)
        refine lv_aload_n hx hb dX0_least_46 rfl (lv_at hl 2 rfl) ?_
        refine lv_iload_n hx hb dX0_least_47 rfl (lv_at hl 3 rfl) ?_
        refine lv_iload_n hx hb dX0_least_48 rfl (lv_at hl 4 rfl) ?_
        refine lv_iconst (v := 1) hx hb dX0_least_49 (by decide) ?_
        refine lv_isub hx hb dX0_least_50 ?_
        refine m_top (show ((nI j) - 1) = nI (j - 1) from pk_sub (a := j) (b := 1) (by omega)) ?_
        refine r_calli (va_runV (As := [.int (nI i), .int (nI (j - 1))]) (rest := []) ⟨hx, hb, hml, hown, hts⟩ (k_X0_between l D ac _ u t T h1 h2 i (j - 1) (by omega) (by omega)) (cwV 2 hts gX0_least_X0_between rfl rfl rfl (by decide +kernel) ⟨Nat.le_of_ble_eq_true rfl, Nat.le_of_ble_eq_true rfl⟩) (pV hK (ci := 0) rfl h1) rfl rfl hl.1 rfl (lv_room (Nat.le_of_ble_eq_true rfl)) dX0_least_51 ⟨Nat.le_of_ble_eq_true rfl, Nat.le_of_ble_eq_true rfl⟩) hS (fun rv_5 locs hrv_5 hS => ?_)
        subst hrv_5
        refine m_top (show (T (i * 9 + (j - 1))) = nI x3 from (hd h1_ h2_).2.2) ?_
        refine lv_iconst (v := 1) hx hb dX0_least_54 (by decide) ?_
        refine lv_iadd hx hb dX0_least_55 ?_
        refine m_top (show ((nI x3) + 1) = nI (x3 + 1) from nI_1 _) ?_
        refine lv_istore (lv' := [(6, .int (nI (x3 + 1))), (5, .int (nI (x2 + 1))), (4, .int (nI (x1 + (if b = 0 then 1 else 0)))), (0, .ref u), (1, .int (nI i)), (2, .int (nI j)), (3, .int b)]) hx hb dX0_least_56 hl (by decide) rfl (fun ls hl => ?_)
        refine lv_iload hx hb dX0_least_58 (lv_at hl 2 rfl) ?_
        refine lv_iload hx hb dX0_least_60 (lv_at hl 1 rfl) ?_
        refine lv_iload hx hb dX0_least_62 (lv_at hl 0 rfl) ?_
        refine va_mmin hx hb (hml.trans hl.1.symm) hown (hts _ (by decide +kernel)) (hts _ (by decide +kernel)) (hts _ (by decide +kernel)) (hts _ (by decide +kernel)) (Nat.le_of_ble_eq_true rfl) (Nat.le_of_ble_eq_true rfl) (Nat.zero_le _) (Nat.zero_le _) dX0_least_64 ?_
        refine m_top (show (if (nI (x3 + 1)) < (nI (x2 + 1)) then nI (x3 + 1) else nI (x2 + 1)) = nI (min (x2 + 1) (x3 + 1)) from nmin (by omega) (by omega)) ?_
        refine va_mmin hx hb (hml.trans hl.1.symm) hown (hts _ (by decide +kernel)) (hts _ (by decide +kernel)) (hts _ (by decide +kernel)) (hts _ (by decide +kernel)) (Nat.le_of_ble_eq_true rfl) (Nat.le_of_ble_eq_true rfl) (Nat.zero_le _) (Nat.zero_le _) dX0_least_67 ?_
        refine m_top (show (if (nI (min (x2 + 1) (x3 + 1))) < (nI (x1 + (if b = 0 then 1 else 0))) then nI (min (x2 + 1) (x3 + 1)) else nI (x1 + (if b = 0 then 1 else 0))) = nI (min (x1 + (if b = 0 then 1 else 0)) (min (x2 + 1) (x3 + 1))) from nmin (by split <;> omega) (by omega)) ?_
        exact e_i hx hb hlocks hr dX0_least_70 hS (by rw [if_neg (show ¬ (i = 0 ∨ j = 0) from by omega)])
    · have h2_ : j = 0 := by have := (nI_eq (b := 0) (by omega) (by omega)).mp c5; omega
      refine lv_iload_n hx hb dX0_least_8 rfl (lv_at hl 1 rfl) ?_
      refine lv_iload_n hx hb dX0_least_9 rfl (lv_at hl 2 rfl) ?_
      refine lv_iadd hx hb dX0_least_10 ?_
      refine m_top (show ((nI i) + (nI j)) = nI (i + j) from nI_add _ _) ?_
      exact e_i hx hb hlocks hr dX0_least_11 hS (by first | rw [if_pos (Or.inl h1_)] | rw [if_pos (Or.inr h2_)])
/-- which last word is to go, where they differ -/
def skp (x1 x2 x3 : Nat) : Int32 := if x1 ≤ x2 ∧ x1 ≤ x3 then 0 else if x2 ≤ x3 then 1 else 2
theorem skp0 {x1 x2 x3 : Nat} (h1 : x1 ≤ x2) (h2 : x1 ≤ x3) : skp x1 x2 x3 = 0 := if_pos ⟨h1, h2⟩
theorem skp1 {x1 x2 x3 : Nat} (h : ¬ (x1 ≤ x2 ∧ x1 ≤ x3)) (h2 : x2 ≤ x3) : skp x1 x2 x3 = 1 := by unfold skp; rw [if_neg h, if_pos h2]
theorem skp2 {x1 x2 x3 : Nat} (h : ¬ (x1 ≤ x2 ∧ x1 ≤ x3)) (h2 : ¬ x2 ≤ x3) : skp x1 x2 x3 = 2 := by unfold skp; rw [if_neg h, if_neg h2]
set_option maxHeartbeats 4000000 in
set_option maxRecDepth 100000 in
/-- Edits.skipBehind -/
theorem k_X0_skipBehind (l : Launch) (D : va_G) (ac : Nat → ClassId) (H : Heap) (u t : Nat) (T : Nat → Int32) (h1 : Cel D H u (.inr (0, [.ref t]))) (h2 : Cel D H t (.inl (ac 0, 81, .inl T))) (i j x1 x2 x3 : Nat) (hi : i ≤ 8) (hj : j ≤ 8) (h1_ : 0 < i) (h2_ : 0 < j) (hb1 : x1 < 1000) (hb2 : x2 < 1000) (hb3 : x3 < 1000) (hd : T ((i - 1) * 9 + j) = nI x1 ∧ T (i * 9 + (j - 1)) = nI x2 ∧ T ((i - 1) * 9 + (j - 1)) = nI x3) : ROi l yX0_skipBehind wsX0_skipBehind ({ frames := 1, cells := 0, slots := 0, locals := 23 }) [.ref u, .int (nI i), .int (nI j)] D ac H (fun r => r = skp x1 x2 x3) := by
  refine Met.ofW (cc := cX0_skipBehind) (maxL := 6) (ret := (some .int)) (by decide) rfl ?_
  intro p e s m args below meth c s₁ B hml hv
  obtain ⟨hargs, hsz, hK⟩ := hv
  have hx := B.exec
  have hb := B.bytes
  have hr := B.returns
  have hts := atoms_spec (ws := wsX0_skipBehind) B.pre
  have hown : s.vm.findClass RX0 = some m.cls := findClass_of_methodNamed B.named
  have hlocks := B.notSynchronized
  subst hsz
  have hS : va_S (fun _ => False) s.heap s.heap [] := va_S.rf
  have hl := lv_entry ([.ref u, .int (nI i), .int (nI j)]) (n := 6) (Nat.le_of_ble_eq_true rfl)
  have hen := lg_entry_eq m [.ref u, .int (nI i), .int (nI j)] 6
  rw [← hargs] at hen
  rw [hen]
  generalize (lg_sl ([.ref u, .int (nI i), .int (nI j)]) ++ List.replicate (6 - (lg_sl ([.ref u, .int (nI i), .int (nI j)])).length) Slot.unset).toArray = ls at hl ⊢
  have hl : lv_has ls 6 [(0, .ref u), (1, .int (nI i)), (2, .int (nI j))] := hl
  refine lv_aload_n hx hb dX0_skipBehind_0 rfl (lv_at hl 0 rfl) ?_
  refine lv_iload_n hx hb dX0_skipBehind_1 rfl (lv_at hl 1 rfl) ?_
  refine lv_iconst (v := 1) hx hb dX0_skipBehind_2 (by decide) ?_
  refine lv_isub hx hb dX0_skipBehind_3 ?_
  refine m_top (show ((nI i) - 1) = nI (i - 1) from pk_sub (a := i) (b := 1) (by omega)) ?_
  refine lv_iload_n hx hb dX0_skipBehind_4 rfl (lv_at hl 2 rfl) ?_
  refine r_calli (va_runV (As := [.int (nI (i - 1)), .int (nI j)]) (rest := []) ⟨hx, hb, hml, hown, hts⟩ (k_X0_between l D ac _ u t T h1 h2 (i - 1) j (by omega) (by omega)) (cwV 2 hts gX0_skipBehind_X0_between rfl rfl rfl (by decide +kernel) ⟨Nat.le_of_ble_eq_true rfl, Nat.le_of_ble_eq_true rfl⟩) (pV hK (ci := 0) rfl h1) rfl rfl hl.1 rfl (lv_room (Nat.le_of_ble_eq_true rfl)) dX0_skipBehind_5 ⟨Nat.le_of_ble_eq_true rfl, Nat.le_of_ble_eq_true rfl⟩) hS (fun rv_1 locs hrv_1 hS => ?_)
  subst hrv_1
  refine m_top (show (T ((i - 1) * 9 + j)) = nI x1 from hd.1) ?_
  refine lv_istore_n (lv' := [(3, .int (nI x1)), (0, .ref u), (1, .int (nI i)), (2, .int (nI j))]) hx hb dX0_skipBehind_8 rfl hl (by decide) rfl (fun ls hl => ?_)
  refine lv_aload_n hx hb dX0_skipBehind_9 rfl (lv_at hl 1 rfl) ?_
  refine lv_iload_n hx hb dX0_skipBehind_10 rfl (lv_at hl 2 rfl) ?_
  refine lv_iload_n hx hb dX0_skipBehind_11 rfl (lv_at hl 3 rfl) ?_
  refine lv_iconst (v := 1) hx hb dX0_skipBehind_12 (by decide) ?_
  refine lv_isub hx hb dX0_skipBehind_13 ?_
  refine m_top (show ((nI j) - 1) = nI (j - 1) from pk_sub (a := j) (b := 1) (by omega)) ?_
  refine r_calli (va_runV (As := [.int (nI i), .int (nI (j - 1))]) (rest := []) ⟨hx, hb, hml, hown, hts⟩ (k_X0_between l D ac _ u t T h1 h2 i (j - 1) (by omega) (by omega)) (cwV 2 hts gX0_skipBehind_X0_between rfl rfl rfl (by decide +kernel) ⟨Nat.le_of_ble_eq_true rfl, Nat.le_of_ble_eq_true rfl⟩) (pV hK (ci := 0) rfl h1) rfl rfl hl.1 rfl (lv_room (Nat.le_of_ble_eq_true rfl)) dX0_skipBehind_14 ⟨Nat.le_of_ble_eq_true rfl, Nat.le_of_ble_eq_true rfl⟩) hS (fun rv_2 locs hrv_2 hS => ?_)
  subst hrv_2
  refine m_top (show (T (i * 9 + (j - 1))) = nI x2 from hd.2.1) ?_
  refine lv_istore (lv' := [(4, .int (nI x2)), (3, .int (nI x1)), (0, .ref u), (1, .int (nI i)), (2, .int (nI j))]) hx hb dX0_skipBehind_17 hl (by decide) rfl (fun ls hl => ?_)
  refine lv_aload_n hx hb dX0_skipBehind_19 rfl (lv_at hl 2 rfl) ?_
  refine lv_iload_n hx hb dX0_skipBehind_20 rfl (lv_at hl 3 rfl) ?_
  refine lv_iconst (v := 1) hx hb dX0_skipBehind_21 (by decide) ?_
  refine lv_isub hx hb dX0_skipBehind_22 ?_
  refine m_top (show ((nI i) - 1) = nI (i - 1) from pk_sub (a := i) (b := 1) (by omega)) ?_
  refine lv_iload_n hx hb dX0_skipBehind_23 rfl (lv_at hl 4 rfl) ?_
  refine lv_iconst (v := 1) hx hb dX0_skipBehind_24 (by decide) ?_
  refine lv_isub hx hb dX0_skipBehind_25 ?_
  refine m_top (show ((nI j) - 1) = nI (j - 1) from pk_sub (a := j) (b := 1) (by omega)) ?_
  refine r_calli (va_runV (As := [.int (nI (i - 1)), .int (nI (j - 1))]) (rest := []) ⟨hx, hb, hml, hown, hts⟩ (k_X0_between l D ac _ u t T h1 h2 (i - 1) (j - 1) (by omega) (by omega)) (cwV 2 hts gX0_skipBehind_X0_between rfl rfl rfl (by decide +kernel) ⟨Nat.le_of_ble_eq_true rfl, Nat.le_of_ble_eq_true rfl⟩) (pV hK (ci := 0) rfl h1) rfl rfl hl.1 rfl (lv_room (Nat.le_of_ble_eq_true rfl)) dX0_skipBehind_26 ⟨Nat.le_of_ble_eq_true rfl, Nat.le_of_ble_eq_true rfl⟩) hS (fun rv_3 locs hrv_3 hS => ?_)
  subst hrv_3
  refine m_top (show (T ((i - 1) * 9 + (j - 1))) = nI x3 from hd.2.2) ?_
  refine lv_istore (lv' := [(5, .int (nI x3)), (4, .int (nI x2)), (3, .int (nI x1)), (0, .ref u), (1, .int (nI i)), (2, .int (nI j))]) hx hb dX0_skipBehind_29 hl (by decide) rfl (fun ls hl => ?_)
  refine lv_iload_n hx hb dX0_skipBehind_31 rfl (lv_at hl 2 rfl) ?_
  refine lv_iload hx hb dX0_skipBehind_32 (lv_at hl 1 rfl) ?_
  refine lv_icmp_gt (tgt := 45) hx hb dX0_skipBehind_34 (by decide) (fun c34 => ?_) (fun c34 => ?_)
  · have q34 := lt_lt c34 (by omega) (by omega)
    refine lv_iload hx hb dX0_skipBehind_45 (lv_at hl 1 rfl) ?_
    refine lv_iload hx hb dX0_skipBehind_47 (lv_at hl 0 rfl) ?_
    refine lv_icmp_gt (tgt := 56) hx hb dX0_skipBehind_49 (by decide) (fun c49 => ?_) (fun c49 => ?_)
    · have q49 := lt_lt c49 (by omega) (by omega)
      refine lv_iconst (v := 2) hx hb dX0_skipBehind_56 (by decide) ?_
      exact e_i hx hb hlocks hr dX0_skipBehind_57 hS (by first | exact (skp1 (by omega) (nlt_le c49 (by omega) (by omega))).symm | exact (skp2 (by omega) (by omega)).symm)
    · refine lv_iconst (v := 1) hx hb dX0_skipBehind_52 (by decide) ?_
      refine lv_goto (tgt := 57) hx hb dX0_skipBehind_53 (by decide) ?_
      exact e_i hx hb hlocks hr dX0_skipBehind_57 hS (by first | exact (skp1 (by omega) (nlt_le c49 (by omega) (by omega))).symm | exact (skp2 (by omega) (by omega)).symm)
  · refine lv_iload_n hx hb dX0_skipBehind_37 rfl (lv_at hl 2 rfl) ?_
    refine lv_iload hx hb dX0_skipBehind_38 (lv_at hl 0 rfl) ?_
    refine lv_icmp_gt (tgt := 45) hx hb dX0_skipBehind_40 (by decide) (fun c40 => ?_) (fun c40 => ?_)
    · have q40 := lt_lt c40 (by omega) (by omega)
      refine lv_iload hx hb dX0_skipBehind_45 (lv_at hl 1 rfl) ?_
      refine lv_iload hx hb dX0_skipBehind_47 (lv_at hl 0 rfl) ?_
      refine lv_icmp_gt (tgt := 56) hx hb dX0_skipBehind_49 (by decide) (fun c49 => ?_) (fun c49 => ?_)
      · have q49 := lt_lt c49 (by omega) (by omega)
        refine lv_iconst (v := 2) hx hb dX0_skipBehind_56 (by decide) ?_
        exact e_i hx hb hlocks hr dX0_skipBehind_57 hS (by first | exact (skp1 (by omega) (nlt_le c49 (by omega) (by omega))).symm | exact (skp2 (by omega) (by omega)).symm)
      · refine lv_iconst (v := 1) hx hb dX0_skipBehind_52 (by decide) ?_
        refine lv_goto (tgt := 57) hx hb dX0_skipBehind_53 (by decide) ?_
        exact e_i hx hb hlocks hr dX0_skipBehind_57 hS (by first | exact (skp1 (by omega) (nlt_le c49 (by omega) (by omega))).symm | exact (skp2 (by omega) (by omega)).symm)
    · refine lv_iconst (v := 0) hx hb dX0_skipBehind_43 (by decide) ?_
      exact e_i hx hb hlocks hr dX0_skipBehind_44 hS ((skp0 (nlt_le c34 (by omega) (by omega)) (nlt_le c40 (by omega) (by omega))).symm)
set_option maxHeartbeats 4000000 in
set_option maxRecDepth 100000 in
/-- Edits.put -/
theorem k_X0_put (l : Launch) (D : va_G) (ac : Nat → ClassId) (H : Heap) (A : Nat → Prop) (N : Nat) (adr : Nat → Nat) (w : Nat → va_E) (hM : MW D A N adr w H) (u t : Nat) (T : Nat → Int32) (hu : u < N) (ht : t < N) (hut : u ≠ t) (h1 : w u = .inr (0, [.ref (adr t)])) (h2 : w t = .inl (ac 0, 81, .inl T)) (i j : Nat) (hi : i ≤ 8) (hj : j ≤ 8) (y : Int32) : WRv l yX0_put wsX0_put ({ frames := 0, cells := 0, slots := 0, locals := 0 }) [.ref (adr u), .int (nI i), .int (nI j), .int y] D ac H A N adr (fun w1 => w1 = va_up w t (.inl (ac 0, 81, .inl (upd T (i * 9 + j) y)))) := by
  refine Met.ofW (cc := cX0_put) (maxL := 5) (ret := none) (by decide) rfl ?_
  intro p e s m args below meth c s₁ B hml hv
  obtain ⟨hargs, hsz, hK⟩ := hv
  have hx := B.exec
  have hb := B.bytes
  have hr := B.returns
  have hts := atoms_spec (ws := wsX0_put) B.pre
  have hown : s.vm.findClass RX0 = some m.cls := findClass_of_methodNamed B.named
  have hlocks := B.notSynchronized
  subst hsz
  have inX0_ : ∀ w ∈ wsX00, w ∈ wsX0_put := by decide +kernel
  have hS : va_S A s.heap s.heap [] := va_S.rf
  have hl := lv_entry ([.ref (adr u), .int (nI i), .int (nI j), .int y]) (n := 5) (Nat.le_of_ble_eq_true rfl)
  have hen := lg_entry_eq m [.ref (adr u), .int (nI i), .int (nI j), .int y] 5
  rw [← hargs] at hen
  rw [hen]
  generalize (lg_sl ([.ref (adr u), .int (nI i), .int (nI j), .int y]) ++ List.replicate (5 - (lg_sl ([.ref (adr u), .int (nI i), .int (nI j), .int y])).length) Slot.unset).toArray = ls at hl ⊢
  have hl : lv_has ls 5 [(0, .ref (adr u)), (1, .int (nI i)), (2, .int (nI j)), (3, .int y)] := hl
  refine lv_iload_n hx hb dX0_put_0 rfl (lv_at hl 1 rfl) ?_
  refine lv_bipush (v := 9) hx hb dX0_put_1 (by decide) ?_
  refine lv_imul hx hb dX0_put_3 ?_
  refine lv_iload_n hx hb dX0_put_4 rfl (lv_at hl 2 rfl) ?_
  refine lv_iadd hx hb dX0_put_5 ?_
  refine m_top (show (((nI i) * 9) + (nI j)) = nI (i * 9 + j) from by rw [show (9 : Int32) = nI 9 from rfl, pk_mul, nI_add]) ?_
  refine lv_istore (lv' := [(4, .int (nI (i * 9 + j))), (0, .ref (adr u)), (1, .int (nI i)), (2, .int (nI j)), (3, .int y)]) hx hb dX0_put_6 hl (by decide) rfl (fun ls hl => ?_)
  refine lv_iload hx hb dX0_put_8 (lv_at hl 0 rfl) ?_
  refine lv_if_lt (tgt := 31) hx hb dX0_put_10 (by decide) (fun c10 => ?_) (fun c10 => ?_)
  · exact absurd c10 (nI_pos (by omega))
  · refine lv_iload hx hb dX0_put_13 (lv_at hl 0 rfl) ?_
    refine lv_aload_n hx hb dX0_put_15 rfl (lv_at hl 1 rfl) ?_
    refine m_get (ci := 0) (C := RX0) (T := TX0) (n := 1) (v := .ref (adr t)) hx hb hts inX0_ hown hK rfl (hM.cel hu h1) 0 (by decide) (hts _ (by decide +kernel)) rfl dX0_put_16 ?_
    refine m_alen (v := 81) (ty := _) hx hb hK 0 (hM.cel ht h2) rfl (by first | rfl | decide) dX0_put_19 ?_
    refine lv_icmp_ge (tgt := 31) hx hb dX0_put_20 (by decide) (fun c20 => ?_) (fun c20 => ?_)
    · exact absurd (le_le (a := 81) c20 (by omega) (by omega)) (by omega)
    · refine lv_aload_n hx hb dX0_put_23 rfl (lv_at hl 1 rfl) ?_
      refine m_get (ci := 0) (C := RX0) (T := TX0) (n := 1) (v := .ref (adr t)) hx hb hts inX0_ hown hK rfl (hM.cel hu h1) 0 (by decide) (hts _ (by decide +kernel)) rfl dX0_put_24 ?_
      refine lv_iload hx hb dX0_put_27 (lv_at hl 0 rfl) ?_
      refine lv_iload_n hx hb dX0_put_29 rfl (lv_at hl 4 rfl) ?_
      refine m_iast hx hb hK hM hS t ht h2 (vp_in_nI (by omega) (by decide)) dX0_put_30 (fun H locs hM hS => ?_)
      have ef_ : (upd T (nI (i * 9 + j)).toNatClampNeg y) = upd T (i * 9 + j) y := by rw [nI_clamp (by omega)]
      rw [ef_] at hM
      clear ef_
      obtain ⟨w_2, ew_2⟩ : ∃ z, z = va_up w t (.inl (ac 0, 81, .inl (upd T (i * 9 + j) y))) := ⟨_, rfl⟩
      rw [← ew_2] at hM
      have h_3 : w_2 u = .inr (0, [.ref (adr t)]) := by rw [ew_2, va_up_ne _ _ (by omega)]; exact h1
      have h_4 : w_2 t = .inl (ac 0, 81, .inl (upd T (i * 9 + j) y)) := by rw [ew_2]; exact va_up_self _ _ _
      exact e_wv hx hb hlocks hr dX0_put_31 hM hS (by subst_vars; rfl)
/-- the table holds the edits of the beginnings of f and g, up to the place (i, j) in the order of rows -/
def edT (f g : Nat → Int32) (k i j : Nat) (T : Nat → Int32) : Prop := ∀ a b, (a < i ∧ b ≤ k) ∨ (a = i ∧ b < j) → T (a * 9 + b) = nI (ed f g a b)
theorem edT_0 {f g T : Nat → Int32} {k : Nat} : edT f g k 0 0 T := fun a b h => by omega
theorem edT_row {f g T : Nat → Int32} {k i j : Nat} (h : edT f g k i j T) (hj : k < j) : edT f g k (i + 1) 0 T := fun a b q => h a b (by omega)
theorem edT_put {f g T T1 : Nat → Int32} {k i j : Nat} (h : edT f g k i j T) (hi : i ≤ 8) (hj : j ≤ k) (hk : k ≤ 8) (hT : T1 = upd T (i * 9 + j) (nI (ed f g i j))) : edT f g k i (j + 1) T1 := by
  intro a b q
  subst hT
  by_cases e : a = i ∧ b = j
  · obtain ⟨rfl, rfl⟩ := e
    exact pk_us
  · rw [pk_un (by omega)]
    exact h a b (by omega)
theorem ed_step {f g : Nat → Int32} {i j : Nat} {b : Int32} (hb : b = if (if i = 0 then -1 else f (i - 1)) = (if j = 0 then -1 else g (j - 1)) then 1 else 0) : (if i = 0 ∨ j = 0 then i + j else min (ed f g (i - 1) (j - 1) + (if b = 0 then 1 else 0)) (min (ed f g (i - 1) j + 1) (ed f g i (j - 1) + 1))) = ed f g i j := by
  cases i with
  | zero => rw [if_pos (Or.inl rfl), ed_0]; omega
  | succ i =>
    cases j with
    | zero => rw [if_pos (Or.inr rfl), ed_s0]
    | succ j =>
      rw [if_neg (show ¬ (i + 1 = 0 ∨ j + 1 = 0) from by omega), ed_ss]
      simp only [Nat.add_sub_cancel] at hb ⊢
      rw [if_neg (show ¬ (i + 1 = 0) from by omega), if_neg (show ¬ (j + 1 = 0) from by omega)] at hb
      by_cases e : f i = g j
      · rw [if_pos e] at hb ⊢
        rw [if_neg (by rw [hb]; decide)]
      · rw [if_neg e] at hb ⊢
        rw [if_pos hb]
theorem atm1 {f : Nat → Int32} {i n : Nat} (h : i ≤ n) (hn : n ≤ 8) : (ix (nI i - 1) n).elim (-1) f = if i = 0 then -1 else f (i - 1) := by
  cases i with
  | zero => rw [if_pos rfl, ix_neg (by decide)]; rfl
  | succ i =>
    rw [if_neg (by omega), ← nI_1, Int32.add_sub_cancel, ix_nI (by omega) (by omega)]
    rfl
set_option maxHeartbeats 4000000 in
set_option maxRecDepth 100000 in
/-- Edits.compare -/
theorem k_X0_compare (l : Launch) (D : va_G) (ac : Nat → ClassId) (H : Heap) (A : Nat → Prop) (N : Nat) (adr : Nat → Nat) (w : Nat → va_E) (hM : MW D A N adr w H) (u t : Nat) (T : Nat → Int32) (hu : u < N) (ht : t < N) (hut : u ≠ t) (h1 : w u = .inr (0, [.ref (adr t)])) (h2 : w t = .inl (ac 0, 81, .inl T)) (ra va rb vb n k : Nat) (f g : Nat → Int32) (hra : ra < N) (hva : va < N) (hrb : rb < N) (hvb : vb < N) (hdd : ra ≠ t ∧ va ≠ t ∧ rb ≠ t ∧ vb ≠ t) (hn : n ≤ 8) (hk8 : k ≤ 8) (g1 : w ra = .inr (4, [.ref (adr va), .int (nI n)])) (g2 : w va = .inl (ac 0, 8, .inl f)) (g3 : w rb = .inr (4, [.ref (adr vb), .int (nI k)])) (g4 : w vb = .inl (ac 0, 8, .inl g)) : WRv l yX0_compare wsX0_compare ({ frames := 2, cells := 0, slots := 0, locals := 49 }) [.ref (adr u), .ref (adr ra), .ref (adr rb)] D ac H A N adr (fun w1 => ∃ T1 : Nat → Int32, w1 = va_up w t (.inl (ac 0, 81, .inl T1)) ∧ ∀ a b, a ≤ n → b ≤ k → T1 (a * 9 + b) = nI (ed f g a b)) := by
  refine Met.ofW (cc := cX0_compare) (maxL := 6) (ret := none) (by decide) rfl ?_
  intro p e s m args below meth c s₁ B hml hv
  obtain ⟨hargs, hsz, hK⟩ := hv
  have hx := B.exec
  have hb := B.bytes
  have hr := B.returns
  have hts := atoms_spec (ws := wsX0_compare) B.pre
  have hown : s.vm.findClass RX0 = some m.cls := findClass_of_methodNamed B.named
  have hlocks := B.notSynchronized
  subst hsz
  have inX4_ : ∀ w ∈ wsX40, w ∈ wsX0_compare := by decide +kernel
  have hS : va_S A s.heap s.heap [] := va_S.rf
  have hl := lv_entry ([.ref (adr u), .ref (adr ra), .ref (adr rb)]) (n := 6) (Nat.le_of_ble_eq_true rfl)
  have hen := lg_entry_eq m [.ref (adr u), .ref (adr ra), .ref (adr rb)] 6
  rw [← hargs] at hen
  rw [hen]
  generalize (lg_sl ([.ref (adr u), .ref (adr ra), .ref (adr rb)]) ++ List.replicate (6 - (lg_sl ([.ref (adr u), .ref (adr ra), .ref (adr rb)])).length) Slot.unset).toArray = ls at hl ⊢
  have hl : lv_has ls 6 [(0, .ref (adr u)), (1, .ref (adr ra)), (2, .ref (adr rb))] := hl
  obtain ⟨Q0, hQ0⟩ : ∃ z, z = MQ below (va_Qv (fun w1 => ∃ T1 : Nat → Int32, w1 = va_up w t (.inl (ac 0, 81, .inl T1)) ∧ ∀ a b, a ≤ n → b ≤ k → T1 (a * 9 + b) = nI (ed f g a b)) (fun c t => MW D A N adr c t.heap) A) args s 0 0 A := ⟨_, rfl⟩
  rw [← hQ0]
  refine lv_iconst (v := 0) hx hb dX0_compare_0 (by decide) ?_
  refine lv_istore_n (lv' := [(3, .int 0), (0, .ref (adr u)), (1, .ref (adr ra)), (2, .ref (adr rb))]) hx hb dX0_compare_1 rfl hl (by decide) rfl (fun ls hl => ?_)
  have L2 : ∀ (k9 : Nat) (i : Nat) (Tz : Nat → Int32) (hk : n + 1 - i < k9) (hi : i ≤ n + 1) (hT : edT f g k i 0 Tz) (wz : Nat → va_E) (fz1 : wz u = .inr (0, [.ref (adr t)])) (fz2 : wz t = .inl (ac 0, 81, .inl Tz)) (fz3 : wz ra = .inr (4, [.ref (adr va), .int (nI n)])) (fz4 : wz va = .inl (ac 0, 8, .inl f)) (fz5 : wz rb = .inr (4, [.ref (adr vb), .int (nI k)])) (fz6 : wz vb = .inl (ac 0, 8, .inl g)) (fz7 : ∀ q, q ≠ t → wz q = w q) (H : Heap) (locs : List Loc) (hM : MW D A N adr wz H) (hS : va_S A s.heap H locs) (ls : Array Slot) (hl : lv_has ls 6 [(0, .ref (adr u)), (1, .ref (adr ra)), (2, .ref (adr rb)), (3, .int (nI i))]), W p l e (headSpec wsX0_compare ({ frames := 2, cells := 0, slots := 0, locals := 49 })).room s m args below meth c H locs 0 0 Q0 (F0 m 2 ls []) := by
    intro k9
    induction k9 with
    | zero => intro i Tz hk hi hT wz fz1 fz2 fz3 fz4 fz5 fz6 fz7 H locs hM hS ls hl; exact absurd hk (Nat.not_lt_zero _)
    | succ k9 ih2 =>
      intro i Tz hk hi hT wz fz1 fz2 fz3 fz4 fz5 fz6 fz7 H locs hM hS ls hl
      refine lv_iload_n hx hb dX0_compare_2 rfl (lv_at hl 3 rfl) ?_
      refine lv_aload_n hx hb dX0_compare_3 rfl (lv_at hl 1 rfl) ?_
      refine m_getN (host := RX7) (ci := 4) (C := RX4) (T := TX4) (n := 2) (v := .int (nI n)) hx hb hts inX4_ hown hK rfl (hM.cel hra fz3) 1 (by decide) 2 rfl rfl dX0_compare_4 ?_
      refine lv_icmp_gt (tgt := 75) hx hb dX0_compare_7 (by decide) (fun c7 => ?_) (fun c7 => ?_)
      · have hin : i = n + 1 := by have := lt_lt c7 (by omega) (by omega); omega
        rw [hQ0]
        exact e_wv hx hb hlocks hr dX0_compare_75 hM hS (⟨Tz, va_upeq fz2 fz7, fun a b q1 q2 => hT a b (by omega)⟩)
      · have hin : i ≤ n := nlt_le c7 (by omega) (by omega)
        refine lv_iconst (v := 0) hx hb dX0_compare_10 (by decide) ?_
        refine lv_istore (lv' := [(4, .int 0), (0, .ref (adr u)), (1, .ref (adr ra)), (2, .ref (adr rb)), (3, .int (nI i))]) hx hb dX0_compare_11 hl (by decide) rfl (fun ls hl => ?_)
        have L13 : ∀ (k9 : Nat) (j : Nat) (Ty : Nat → Int32) (hkj : k + 1 - j < k9) (hj : j ≤ k + 1) (hU : edT f g k i j Ty) (wy : Nat → va_E) (fy1 : wy u = .inr (0, [.ref (adr t)])) (fy2 : wy t = .inl (ac 0, 81, .inl Ty)) (fy3 : wy ra = .inr (4, [.ref (adr va), .int (nI n)])) (fy4 : wy va = .inl (ac 0, 8, .inl f)) (fy5 : wy rb = .inr (4, [.ref (adr vb), .int (nI k)])) (fy6 : wy vb = .inl (ac 0, 8, .inl g)) (fy7 : ∀ q, q ≠ t → wy q = w q) (H : Heap) (locs : List Loc) (hM : MW D A N adr wy H) (hS : va_S A s.heap H locs) (ls : Array Slot) (hl : lv_has ls 6 [(0, .ref (adr u)), (1, .ref (adr ra)), (2, .ref (adr rb)), (3, .int (nI i)), (4, .int (nI j))]), W p l e (headSpec wsX0_compare ({ frames := 2, cells := 0, slots := 0, locals := 49 })).room s m args below meth c H locs 0 0 Q0 (F0 m 13 ls []) := by
          intro k9
          induction k9 with
          | zero => intro j Ty hkj hj hU wy fy1 fy2 fy3 fy4 fy5 fy6 fy7 H locs hM hS ls hl; exact absurd hkj (Nat.not_lt_zero _)
          | succ k9 ih13 =>
            intro j Ty hkj hj hU wy fy1 fy2 fy3 fy4 fy5 fy6 fy7 H locs hM hS ls hl
            refine lv_iload hx hb dX0_compare_13 (lv_at hl 4 rfl) ?_
            refine lv_aload_n hx hb dX0_compare_15 rfl (lv_at hl 2 rfl) ?_
            refine m_getN (host := RX7) (ci := 4) (C := RX4) (T := TX4) (n := 2) (v := .int (nI k)) hx hb hts inX4_ hown hK rfl (hM.cel hrb fy5) 1 (by decide) 2 rfl rfl dX0_compare_16 ?_
            refine lv_icmp_gt (tgt := 69) hx hb dX0_compare_19 (by decide) (fun c19 => ?_) (fun c19 => ?_)
            · have hj1 : k < j := lt_lt c19 (by omega) (by omega)
              refine lv_iinc (v := nI (i + 1)) (lv' := [(3, .int (nI (i + 1))), (0, .ref (adr u)), (1, .ref (adr ra)), (2, .ref (adr rb)), (4, .int (nI j))]) hx hb dX0_compare_69 hl (k := 3) rfl (nI_1 _) (by decide) rfl (fun ls hl => ?_)
              refine lv_goto (tgt := 2) hx hb dX0_compare_72 (by decide) ?_
              exact ih2 (i + 1) Ty (by omega) (by omega) (edT_row hU hj1) wy fy1 fy2 fy3 fy4 fy5 fy6 fy7 _ _ hM hS ls (lv_sub hl [1, 2, 3, 0] rfl)
            · have hjk : j ≤ k := nlt_le c19 (by omega) (by omega)
              refine lv_aload_n hx hb dX0_compare_22 rfl (lv_at hl 1 rfl) ?_
              refine lv_iload_n hx hb dX0_compare_23 rfl (lv_at hl 3 rfl) ?_
              refine lv_iconst (v := 1) hx hb dX0_compare_24 (by decide) ?_
              refine lv_isub hx hb dX0_compare_25 ?_
              refine r_calli (va_runV (As := [.int ((nI i) - 1)]) (rest := []) ⟨hx, hb, hml, hown, hts⟩ (k_X4_at l D ac _ (adr ra) (adr va) n f (hM.cel hra fy3) (hM.cel hva fy4) (by omega) ((nI i) - 1)) (cwV 1 hts gX0_compare_X4_at rfl rfl rfl (by decide +kernel) ⟨Nat.le_of_ble_eq_true rfl, Nat.le_of_ble_eq_true rfl⟩) (pV hK (ci := 4) rfl (hM.cel hra fy3)) rfl rfl hl.1 rfl (lv_room (Nat.le_of_ble_eq_true rfl)) dX0_compare_26 ⟨Nat.le_of_ble_eq_true rfl, Nat.le_of_ble_eq_true rfl⟩) hS (fun rv_1 locs hrv_1 hS => ?_)
              subst hrv_1
              refine m_top (show ((ix ((nI i) - 1) n).elim (-1) f) = if i = 0 then -1 else f (i - 1) from atm1 hin hn) ?_
              refine lv_aload_n hx hb dX0_compare_29 rfl (lv_at hl 2 rfl) ?_
              refine lv_iload hx hb dX0_compare_30 (lv_at hl 4 rfl) ?_
              refine lv_iconst (v := 1) hx hb dX0_compare_32 (by decide) ?_
              refine lv_isub hx hb dX0_compare_33 ?_
              refine r_calli (va_runV (As := [.int ((nI j) - 1)]) (rest := [.int (if i = 0 then -1 else f (i - 1))]) ⟨hx, hb, hml, hown, hts⟩ (k_X4_at l D ac _ (adr rb) (adr vb) k g (hM.cel hrb fy5) (hM.cel hvb fy6) (by omega) ((nI j) - 1)) (cwV 1 hts gX0_compare_X4_at rfl rfl rfl (by decide +kernel) ⟨Nat.le_of_ble_eq_true rfl, Nat.le_of_ble_eq_true rfl⟩) (pV hK (ci := 4) rfl (hM.cel hrb fy5)) rfl rfl hl.1 rfl (lv_room (Nat.le_of_ble_eq_true rfl)) dX0_compare_34 ⟨Nat.le_of_ble_eq_true rfl, Nat.le_of_ble_eq_true rfl⟩) hS (fun rv_2 locs hrv_2 hS => ?_)
              subst hrv_2
              refine m_top (show ((ix ((nI j) - 1) k).elim (-1) g) = if j = 0 then -1 else g (j - 1) from atm1 hjk hk8) ?_
              refine lv_icmp_ne (tgt := 44) hx hb dX0_compare_37 (by decide) (fun c37 => ?_) (fun c37 => ?_)
              · refine lv_iconst (v := 0) hx hb dX0_compare_44 (by decide) ?_
                refine lv_istore (lv' := [(5, .int 0), (0, .ref (adr u)), (1, .ref (adr ra)), (2, .ref (adr rb)), (3, .int (nI i)), (4, .int (nI j))]) hx hb dX0_compare_45 hl (by decide) rfl (fun ls hl => ?_)
                refine lv_aload_n hx hb dX0_compare_47 rfl (lv_at hl 1 rfl) ?_
                refine lv_iload_n hx hb dX0_compare_48 rfl (lv_at hl 4 rfl) ?_
                refine lv_iload hx hb dX0_compare_49 (lv_at hl 5 rfl) ?_
                refine lv_aload_n hx hb dX0_compare_51 rfl (lv_at hl 1 rfl) ?_
                refine lv_iload_n hx hb dX0_compare_52 rfl (lv_at hl 4 rfl) ?_
                refine lv_iload hx hb dX0_compare_53 (lv_at hl 5 rfl) ?_
                refine lv_iload hx hb dX0_compare_55 (lv_at hl 0 rfl) ?_
                refine r_calli (va_runV (As := [.int (nI i), .int (nI j), .int 0]) (rest := [.int (nI j), .int (nI i), .ref (adr u)]) ⟨hx, hb, hml, hown, hts⟩ (k_X0_least l D ac _ (adr u) (adr t) Ty (hM.cel hu fy1) (hM.cel ht fy2) i j (ed f g (i - 1) (j - 1)) (ed f g (i - 1) j) (ed f g i (j - 1)) 0 (by omega) (by omega) (by have := ed_le (f := f) (g := g) (i - 1) (j - 1); omega) (by have := ed_le (f := f) (g := g) (i - 1) j; omega) (by have := ed_le (f := f) (g := g) i (j - 1); omega) (fun q1 q2 => ⟨hU _ _ (by omega), hU _ _ (by omega), hU _ _ (by omega)⟩)) (cwV 3 hts gX0_compare_X0_least rfl rfl rfl (by decide +kernel) ⟨Nat.le_of_ble_eq_true rfl, Nat.le_of_ble_eq_true rfl⟩) (pV hK (ci := 0) rfl (hM.cel hu fy1)) rfl rfl hl.1 rfl (lv_room (Nat.le_of_ble_eq_true rfl)) dX0_compare_57 ⟨Nat.le_of_ble_eq_true rfl, Nat.le_of_ble_eq_true rfl⟩) hS (fun rv_3 locs hrv_3 hS => ?_)
                subst hrv_3
                refine m_top (show (nI (if i = 0 ∨ j = 0 then i + j else min (ed f g (i - 1) (j - 1) + (if 0 = 0 then 1 else 0)) (min (ed f g (i - 1) j + 1) (ed f g i (j - 1) + 1)))) = nI (ed f g i j) from congrArg nI (ed_step (by first | rw [if_pos c37] | rw [if_neg c37]))) ?_
                refine w_callv (va_runV (As := [.int (nI i), .int (nI j), .int (nI (ed f g i j))]) (rest := []) ⟨hx, hb, hml, hown, hts⟩ (k_X0_put l D ac _ A N adr wy hM u t Ty hu ht (by omega) fy1 fy2 i j (by omega) (by omega) (nI (ed f g i j))) (cwV 3 hts gX0_compare_X0_put rfl rfl rfl (by decide +kernel) ⟨Nat.le_of_ble_eq_true rfl, Nat.le_of_ble_eq_true rfl⟩) (pV hK (ci := 0) rfl (hM.cel hu fy1)) rfl rfl hl.1 rfl (lv_room (Nat.le_of_ble_eq_true rfl)) dX0_compare_60 ⟨Nat.le_of_ble_eq_true rfl, Nat.le_of_ble_eq_true rfl⟩) hS (fun w_5 H locs hw_5 hM hS => ?_)
                obtain ⟨T_, eT_⟩ : ∃ z, z = upd Ty (i * 9 + j) (nI (ed f g i j)) := ⟨_, rfl⟩
                rw [← eT_] at hw_5
                have h_6 : w_5 u = .inr (0, [.ref (adr t)]) := by rw [hw_5, va_up_ne _ _ (by omega)]; exact fy1
                have h_7 : w_5 t = .inl (ac 0, 81, .inl T_) := by rw [hw_5]; exact va_up_self _ _ _
                have h_8 : w_5 ra = .inr (4, [.ref (adr va), .int (nI n)]) := by rw [hw_5, va_up_ne _ _ (by omega)]; exact fy3
                have h_9 : w_5 va = .inl (ac 0, 8, .inl f) := by rw [hw_5, va_up_ne _ _ (by omega)]; exact fy4
                have h_10 : w_5 rb = .inr (4, [.ref (adr vb), .int (nI k)]) := by rw [hw_5, va_up_ne _ _ (by omega)]; exact fy5
                have h_11 : w_5 vb = .inl (ac 0, 8, .inl g) := by rw [hw_5, va_up_ne _ _ (by omega)]; exact fy6
                refine lv_iinc (v := nI (j + 1)) (lv' := [(4, .int (nI (j + 1))), (5, .int 0), (0, .ref (adr u)), (1, .ref (adr ra)), (2, .ref (adr rb)), (3, .int (nI i))]) hx hb dX0_compare_63 hl (k := 5) rfl (nI_1 _) (by decide) rfl (fun ls hl => ?_)
                refine lv_goto (tgt := 13) hx hb dX0_compare_66 (by decide) ?_
                exact ih13 (j + 1) T_ (by omega) (by omega) (edT_put hU (by omega) hjk (by omega) eT_) w_5 h_6 h_7 h_8 h_9 h_10 h_11 (fun q q1 => by rw [hw_5, va_up_ne _ _ q1]; exact fy7 q q1) _ _ hM hS ls (lv_sub hl [2, 3, 4, 5, 0] rfl)
              · refine lv_iconst (v := 1) hx hb dX0_compare_40 (by decide) ?_
                refine lv_goto (tgt := 45) hx hb dX0_compare_41 (by decide) ?_
                refine lv_istore (lv' := [(5, .int 1), (0, .ref (adr u)), (1, .ref (adr ra)), (2, .ref (adr rb)), (3, .int (nI i)), (4, .int (nI j))]) hx hb dX0_compare_45 hl (by decide) rfl (fun ls hl => ?_)
                refine lv_aload_n hx hb dX0_compare_47 rfl (lv_at hl 1 rfl) ?_
                refine lv_iload_n hx hb dX0_compare_48 rfl (lv_at hl 4 rfl) ?_
                refine lv_iload hx hb dX0_compare_49 (lv_at hl 5 rfl) ?_
                refine lv_aload_n hx hb dX0_compare_51 rfl (lv_at hl 1 rfl) ?_
                refine lv_iload_n hx hb dX0_compare_52 rfl (lv_at hl 4 rfl) ?_
                refine lv_iload hx hb dX0_compare_53 (lv_at hl 5 rfl) ?_
                refine lv_iload hx hb dX0_compare_55 (lv_at hl 0 rfl) ?_
                refine r_calli (va_runV (As := [.int (nI i), .int (nI j), .int 1]) (rest := [.int (nI j), .int (nI i), .ref (adr u)]) ⟨hx, hb, hml, hown, hts⟩ (k_X0_least l D ac _ (adr u) (adr t) Ty (hM.cel hu fy1) (hM.cel ht fy2) i j (ed f g (i - 1) (j - 1)) (ed f g (i - 1) j) (ed f g i (j - 1)) 1 (by omega) (by omega) (by have := ed_le (f := f) (g := g) (i - 1) (j - 1); omega) (by have := ed_le (f := f) (g := g) (i - 1) j; omega) (by have := ed_le (f := f) (g := g) i (j - 1); omega) (fun q1 q2 => ⟨hU _ _ (by omega), hU _ _ (by omega), hU _ _ (by omega)⟩)) (cwV 3 hts gX0_compare_X0_least rfl rfl rfl (by decide +kernel) ⟨Nat.le_of_ble_eq_true rfl, Nat.le_of_ble_eq_true rfl⟩) (pV hK (ci := 0) rfl (hM.cel hu fy1)) rfl rfl hl.1 rfl (lv_room (Nat.le_of_ble_eq_true rfl)) dX0_compare_57 ⟨Nat.le_of_ble_eq_true rfl, Nat.le_of_ble_eq_true rfl⟩) hS (fun rv_12 locs hrv_12 hS => ?_)
                subst hrv_12
                refine m_top (show (nI (if i = 0 ∨ j = 0 then i + j else min (ed f g (i - 1) (j - 1) + (if 1 = 0 then 1 else 0)) (min (ed f g (i - 1) j + 1) (ed f g i (j - 1) + 1)))) = nI (ed f g i j) from congrArg nI (ed_step (by first | rw [if_pos c37] | rw [if_neg c37]))) ?_
                refine w_callv (va_runV (As := [.int (nI i), .int (nI j), .int (nI (ed f g i j))]) (rest := []) ⟨hx, hb, hml, hown, hts⟩ (k_X0_put l D ac _ A N adr wy hM u t Ty hu ht (by omega) fy1 fy2 i j (by omega) (by omega) (nI (ed f g i j))) (cwV 3 hts gX0_compare_X0_put rfl rfl rfl (by decide +kernel) ⟨Nat.le_of_ble_eq_true rfl, Nat.le_of_ble_eq_true rfl⟩) (pV hK (ci := 0) rfl (hM.cel hu fy1)) rfl rfl hl.1 rfl (lv_room (Nat.le_of_ble_eq_true rfl)) dX0_compare_60 ⟨Nat.le_of_ble_eq_true rfl, Nat.le_of_ble_eq_true rfl⟩) hS (fun w_14 H locs hw_14 hM hS => ?_)
                obtain ⟨T_, eT_⟩ : ∃ z, z = upd Ty (i * 9 + j) (nI (ed f g i j)) := ⟨_, rfl⟩
                rw [← eT_] at hw_14
                have h_15 : w_14 u = .inr (0, [.ref (adr t)]) := by rw [hw_14, va_up_ne _ _ (by omega)]; exact fy1
                have h_16 : w_14 t = .inl (ac 0, 81, .inl T_) := by rw [hw_14]; exact va_up_self _ _ _
                have h_17 : w_14 ra = .inr (4, [.ref (adr va), .int (nI n)]) := by rw [hw_14, va_up_ne _ _ (by omega)]; exact fy3
                have h_18 : w_14 va = .inl (ac 0, 8, .inl f) := by rw [hw_14, va_up_ne _ _ (by omega)]; exact fy4
                have h_19 : w_14 rb = .inr (4, [.ref (adr vb), .int (nI k)]) := by rw [hw_14, va_up_ne _ _ (by omega)]; exact fy5
                have h_20 : w_14 vb = .inl (ac 0, 8, .inl g) := by rw [hw_14, va_up_ne _ _ (by omega)]; exact fy6
                refine lv_iinc (v := nI (j + 1)) (lv' := [(4, .int (nI (j + 1))), (5, .int 1), (0, .ref (adr u)), (1, .ref (adr ra)), (2, .ref (adr rb)), (3, .int (nI i))]) hx hb dX0_compare_63 hl (k := 5) rfl (nI_1 _) (by decide) rfl (fun ls hl => ?_)
                refine lv_goto (tgt := 13) hx hb dX0_compare_66 (by decide) ?_
                exact ih13 (j + 1) T_ (by omega) (by omega) (edT_put hU (by omega) hjk (by omega) eT_) w_14 h_15 h_16 h_17 h_18 h_19 h_20 (fun q q1 => by rw [hw_14, va_up_ne _ _ q1]; exact fy7 q q1) _ _ hM hS ls (lv_sub hl [2, 3, 4, 5, 0] rfl)
        exact L13 _ 0 Tz (Nat.lt_succ_self _) (Nat.zero_le _) hT wz fz1 fz2 fz3 fz4 fz5 fz6 fz7 _ _ hM hS ls (lv_sub hl [1, 2, 3, 4, 0] rfl)
  exact L2 _ 0 T (Nat.lt_succ_self _) (Nat.zero_le _) edT_0 w h1 h2 g1 g2 g3 g4 (fun q _ => rfl) _ _ hM hS ls (lv_sub hl [1, 2, 3, 0] rfl)
set_option maxHeartbeats 4000000 in
set_option maxRecDepth 100000 in
/-- Edits.likenessOf -/
theorem k_X0_likenessOf (l : Launch) (D : va_G) (ac : Nat → ClassId) (H : Heap) (A : Nat → Prop) (N : Nat) (adr : Nat → Nat) (w : Nat → va_E) (hM : MW D A N adr w H) (u t : Nat) (T : Nat → Int32) (hu : u < N) (ht : t < N) (hut : u ≠ t) (h1 : w u = .inr (0, [.ref (adr t)])) (h2 : w t = .inl (ac 0, 81, .inl T)) (ra va rb vb n k : Nat) (f g : Nat → Int32) (hra : ra < N) (hva : va < N) (hrb : rb < N) (hvb : vb < N) (hdd : ra ≠ t ∧ va ≠ t ∧ rb ≠ t ∧ vb ≠ t) (hn : n ≤ 8) (hk8 : k ≤ 8) (g1 : w ra = .inr (4, [.ref (adr va), .int (nI n)])) (g2 : w va = .inl (ac 0, 8, .inl f)) (g3 : w rb = .inr (4, [.ref (adr vb), .int (nI k)])) (g4 : w vb = .inl (ac 0, 8, .inl g)) (hL : 0 < max n k) : WRi l yX0_likenessOf wsX0_likenessOf ({ frames := 3, cells := 0, slots := 0, locals := 74 }) [.ref (adr u), .ref (adr ra), .ref (adr rb)] D ac H A N adr (fun r w1 => r = lik (max n k) (ed f g n k) ∧ ∃ T1 : Nat → Int32, w1 = va_up w t (.inl (ac 0, 81, .inl T1)) ∧ ∀ a b, a ≤ n → b ≤ k → T1 (a * 9 + b) = nI (ed f g a b)) := by
  refine Met.ofW (cc := cX0_likenessOf) (maxL := 5) (ret := (some .int)) (by decide) rfl ?_
  intro p e s m args below meth c s₁ B hml hv
  obtain ⟨hargs, hsz, hK⟩ := hv
  have hx := B.exec
  have hb := B.bytes
  have hr := B.returns
  have hts := atoms_spec (ws := wsX0_likenessOf) B.pre
  have hown : s.vm.findClass RX0 = some m.cls := findClass_of_methodNamed B.named
  have hlocks := B.notSynchronized
  subst hsz
  have inX4_ : ∀ w ∈ wsX40, w ∈ wsX0_likenessOf := by decide +kernel
  have hS : va_S A s.heap s.heap [] := va_S.rf
  have hl := lv_entry ([.ref (adr u), .ref (adr ra), .ref (adr rb)]) (n := 5) (Nat.le_of_ble_eq_true rfl)
  have hen := lg_entry_eq m [.ref (adr u), .ref (adr ra), .ref (adr rb)] 5
  rw [← hargs] at hen
  rw [hen]
  generalize (lg_sl ([.ref (adr u), .ref (adr ra), .ref (adr rb)]) ++ List.replicate (5 - (lg_sl ([.ref (adr u), .ref (adr ra), .ref (adr rb)])).length) Slot.unset).toArray = ls at hl ⊢
  have hl : lv_has ls 5 [(0, .ref (adr u)), (1, .ref (adr ra)), (2, .ref (adr rb))] := hl
  refine lv_aload_n hx hb dX0_likenessOf_0 rfl (lv_at hl 0 rfl) ?_
  refine lv_aload_n hx hb dX0_likenessOf_1 rfl (lv_at hl 1 rfl) ?_
  refine lv_aload_n hx hb dX0_likenessOf_2 rfl (lv_at hl 2 rfl) ?_
  refine w_callv (va_runV (As := [.ref (adr ra), .ref (adr rb)]) (rest := []) ⟨hx, hb, hml, hown, hts⟩ (k_X0_compare l D ac _ A N adr w hM u t T hu ht (by omega) h1 h2 ra va rb vb n k f g hra hva hrb hvb (by omega) (by omega) (by omega) g1 g2 g3 g4) (cwV 2 hts gX0_likenessOf_X0_compare rfl rfl rfl (by decide +kernel) ⟨Nat.le_of_ble_eq_true rfl, Nat.le_of_ble_eq_true rfl⟩) (pV hK (ci := 0) rfl (hM.cel hu h1)) rfl rfl hl.1 rfl (lv_room (Nat.le_of_ble_eq_true rfl)) dX0_likenessOf_3 ⟨Nat.le_of_ble_eq_true rfl, Nat.le_of_ble_eq_true rfl⟩) hS (fun w_2 H locs hw_2 hM hS => ?_)
  obtain ⟨T_3, hw_2, eT_3⟩ := hw_2
  have h_4 : w_2 u = .inr (0, [.ref (adr t)]) := by rw [hw_2, va_up_ne _ _ (by omega)]; exact h1
  have h_5 : w_2 t = .inl (ac 0, 81, .inl T_3) := by rw [hw_2]; exact va_up_self _ _ _
  have h_6 : w_2 ra = .inr (4, [.ref (adr va), .int (nI n)]) := by rw [hw_2, va_up_ne _ _ (by omega)]; exact g1
  have h_7 : w_2 va = .inl (ac 0, 8, .inl f) := by rw [hw_2, va_up_ne _ _ (by omega)]; exact g2
  have h_8 : w_2 rb = .inr (4, [.ref (adr vb), .int (nI k)]) := by rw [hw_2, va_up_ne _ _ (by omega)]; exact g3
  have h_9 : w_2 vb = .inl (ac 0, 8, .inl g) := by rw [hw_2, va_up_ne _ _ (by omega)]; exact g4
  refine lv_aload_n hx hb dX0_likenessOf_6 rfl (lv_at hl 1 rfl) ?_
  refine m_getN (host := RX7) (ci := 4) (C := RX4) (T := TX4) (n := 2) (v := .int (nI n)) hx hb hts inX4_ hown hK rfl (hM.cel hra h_6) 1 (by decide) 2 rfl rfl dX0_likenessOf_7 ?_
  refine lv_aload_n hx hb dX0_likenessOf_10 rfl (lv_at hl 2 rfl) ?_
  refine m_getN (host := RX7) (ci := 4) (C := RX4) (T := TX4) (n := 2) (v := .int (nI k)) hx hb hts inX4_ hown hK rfl (hM.cel hrb h_8) 1 (by decide) 2 rfl rfl dX0_likenessOf_11 ?_
  refine va_mmax hx hb (hml.trans hl.1.symm) hown (hts _ (by decide +kernel)) (hts _ (by decide +kernel)) (hts _ (by decide +kernel)) (hts _ (by decide +kernel)) (Nat.le_of_ble_eq_true rfl) (Nat.le_of_ble_eq_true rfl) (Nat.zero_le _) (Nat.zero_le _) dX0_likenessOf_14 ?_
  refine m_top (show (if (nI n) < (nI k) then nI k else nI n) = nI (max n k) from nmax (by omega) (by omega)) ?_
  refine lv_istore_n (lv' := [(3, .int (nI (max n k))), (0, .ref (adr u)), (1, .ref (adr ra)), (2, .ref (adr rb))]) hx hb dX0_likenessOf_17 rfl hl (by decide) rfl (fun ls hl => ?_)
  refine lv_iload_n hx hb dX0_likenessOf_18 rfl (lv_at hl 0 rfl) ?_
  refine lv_if_gt (tgt := 25) hx hb dX0_likenessOf_19 (by decide) (fun c19 => ?_) (fun c19 => ?_)
  · refine lv_bipush (v := 100) hx hb dX0_likenessOf_25 (by decide) ?_
    refine lv_aload_n hx hb dX0_likenessOf_27 rfl (lv_at hl 1 rfl) ?_
    refine lv_aload_n hx hb dX0_likenessOf_28 rfl (lv_at hl 2 rfl) ?_
    refine m_getN (host := RX7) (ci := 4) (C := RX4) (T := TX4) (n := 2) (v := .int (nI n)) hx hb hts inX4_ hown hK rfl (hM.cel hra h_6) 1 (by decide) 2 rfl rfl dX0_likenessOf_29 ?_
    refine lv_aload_n hx hb dX0_likenessOf_32 rfl (lv_at hl 3 rfl) ?_
    refine m_getN (host := RX7) (ci := 4) (C := RX4) (T := TX4) (n := 2) (v := .int (nI k)) hx hb hts inX4_ hown hK rfl (hM.cel hrb h_8) 1 (by decide) 2 rfl rfl dX0_likenessOf_33 ?_
    refine r_calli (va_runV (As := [.int (nI n), .int (nI k)]) (rest := [.int 100]) ⟨hx, hb, hml, hown, hts⟩ (k_X0_between l D ac _ (adr u) (adr t) T_3 (hM.cel hu h_4) (hM.cel ht h_5) n k (by omega) (by omega)) (cwV 2 hts gX0_likenessOf_X0_between rfl rfl rfl (by decide +kernel) ⟨Nat.le_of_ble_eq_true rfl, Nat.le_of_ble_eq_true rfl⟩) (pV hK (ci := 0) rfl (hM.cel hu h_4)) rfl rfl hl.1 rfl (lv_room (Nat.le_of_ble_eq_true rfl)) dX0_likenessOf_36 ⟨Nat.le_of_ble_eq_true rfl, Nat.le_of_ble_eq_true rfl⟩) hS (fun rv_10 locs hrv_10 hS => ?_)
    subst hrv_10
    refine m_top (show (T_3 (n * 9 + k)) = nI (ed f g n k) from eT_3 n k (Nat.le_refl _) (Nat.le_refl _)) ?_
    refine lv_imul hx hb dX0_likenessOf_39 ?_
    refine lv_istore (lv' := [(4, .int (100 * (nI (ed f g n k)))), (3, .int (nI (max n k))), (0, .ref (adr u)), (1, .ref (adr ra)), (2, .ref (adr rb))]) hx hb dX0_likenessOf_40 hl (by decide) rfl (fun ls hl => ?_)
    refine lv_bipush (v := 100) hx hb dX0_likenessOf_42 (by decide) ?_
    refine lv_iload hx hb dX0_likenessOf_44 (lv_at hl 0 rfl) ?_
    refine lv_iload_n hx hb dX0_likenessOf_46 rfl (lv_at hl 1 rfl) ?_
    refine lv_iadd hx hb dX0_likenessOf_47 ?_
    refine lv_iconst (v := 1) hx hb dX0_likenessOf_48 (by decide) ?_
    refine lv_isub hx hb dX0_likenessOf_49 ?_
    refine lv_iload_n hx hb dX0_likenessOf_50 rfl (lv_at hl 1 rfl) ?_
    refine lv_idiv hx hb dX0_likenessOf_51 (nI_ne0 (by omega) (by omega)) ?_
    refine lv_isub hx hb dX0_likenessOf_52 ?_
    exact e_wi hx hb hlocks hr dX0_likenessOf_53 hM hS (⟨rfl, T_3, hw_2, eT_3⟩)
  · exact absurd (show (0 : Int32) < nI (max n k) from by rw [← nI_0]; exact nI_lt (by omega) (by omega)) c19
end
section
def FbP (b : Int32) (n : Nat) (fr : Nat → Int32) (cl : Nat) (wd : Nat → Nat) (bf : Nat → Int32) (r : Int32) : Prop := (¬ b = 0 ∧ r = -1) ∨ (b = 0 ∧ ∃ i, i < n ∧ r = nI i ∧ ast fr cl wd bf i ∧ ∀ j, j < i → ¬ ast fr cl wd bf j) ∨ (b = 0 ∧ r = -1 ∧ ∀ j, j < n → ¬ ast fr cl wd bf j)
set_option maxHeartbeats 4000000 in
set_option maxRecDepth 100000 in
/-- Order.firstBroken -/
theorem k_X3_firstBroken (l : Launch) (D : va_G) (ac : Nat → ClassId) (H : Heap) (a r1 v1 r2 v2 cl n : Nat) (wf bf : Nat → Int32) (wd : Nat → Nat) (hs : SenC D ac H a r1 v1 r2 v2 cl n wf bf wd) (u u1 u2 u3 : Nat) (fs fr ft : Nat → Int32) (h5 : RulC D ac H u u1 u2 u3 fs fr ft) (o : Nat) (x1 b x3 x4 x5 x6 : Int32) (h9 : Cel D H o (.inr (3, [.int x1, .int b, .ref a, .int x3, .int x4, .int x5, .int x6]))) : ROi l yX3_firstBroken wsX3_firstBroken ({ frames := 4, cells := 0, slots := 0, locals := 90 }) [.ref o, .ref u] D ac H (FbP b n fr cl wd bf) := by
  refine Met.ofW (cc := cX3_firstBroken) (maxL := 2) (ret := (some .int)) (by decide) rfl ?_
  intro p e s m args below meth c s₁ B hml hv
  obtain ⟨hargs, hsz, hK⟩ := hv
  have hx := B.exec
  have hb := B.bytes
  have hr := B.returns
  have hts := atoms_spec (ws := wsX3_firstBroken) B.pre
  have hown : s.vm.findClass RX3 = some m.cls := findClass_of_methodNamed B.named
  have hlocks := B.notSynchronized
  subst hsz
  have inX3_ : ∀ w ∈ wsX30, w ∈ wsX3_firstBroken := by decide +kernel
  have hS : va_S (fun _ => False) s.heap s.heap [] := va_S.rf
  have hl := lv_entry ([.ref o, .ref u]) (n := 2) (Nat.le_of_ble_eq_true rfl)
  have hen := lg_entry_eq m [.ref o, .ref u] 2
  rw [← hargs] at hen
  rw [hen]
  generalize (lg_sl ([.ref o, .ref u]) ++ List.replicate (2 - (lg_sl ([.ref o, .ref u])).length) Slot.unset).toArray = ls at hl ⊢
  have hl : lv_has ls 2 [(0, .ref o), (1, .ref u)] := hl
  refine lv_aload_n hx hb dX3_firstBroken_0 rfl (lv_at hl 0 rfl) ?_
  refine m_get (ci := 3) (C := RX3) (T := TX3) (n := 7) (v := .int b) hx hb hts inX3_ hown hK rfl h9 1 (by decide) (hts _ (by decide +kernel)) rfl dX3_firstBroken_1 ?_
  refine lv_if_eq (tgt := 11) hx hb dX3_firstBroken_4 (by decide) (fun c4 => ?_) (fun c4 => ?_)
  · refine lv_aload_n hx hb dX3_firstBroken_11 rfl (lv_at hl 0 rfl) ?_
    refine m_get (ci := 3) (C := RX3) (T := TX3) (n := 7) (v := .ref a) hx hb hts inX3_ hown hK rfl h9 2 (by decide) (hts _ (by decide +kernel)) rfl dX3_firstBroken_12 ?_
    refine lv_aload_n hx hb dX3_firstBroken_15 rfl (lv_at hl 1 rfl) ?_
    refine r_calli (va_runV (As := [.ref u]) (rest := []) ⟨hx, hb, hml, hown, hts⟩ (k_X6_firstAstray l D ac _ a r1 v1 r2 v2 cl n wf bf wd hs u u1 u2 u3 fs fr ft ⟨h5.1, h5.2.1, h5.2.2.1, h5.2.2.2⟩) (cwV 1 hts gX3_firstBroken_X6_firstAstray rfl rfl rfl (by decide +kernel) ⟨Nat.le_of_ble_eq_true rfl, Nat.le_of_ble_eq_true rfl⟩) (pV hK (ci := 6) rfl hs.1) rfl rfl hl.1 rfl (lv_room (Nat.le_of_ble_eq_true rfl)) dX3_firstBroken_16 ⟨Nat.le_of_ble_eq_true rfl, Nat.le_of_ble_eq_true rfl⟩) hS (fun rv_1 locs hrv_1 hS => ?_)
    exact e_i hx hb hlocks hr dX3_firstBroken_19 hS (by first | exact Or.inl ⟨c4, rfl⟩ | (rcases hrv_1 with q | q; exact Or.inr (Or.inl ⟨c4, q⟩); exact Or.inr (Or.inr ⟨c4, q⟩)))
  · refine lv_iconst (v := (-1)) hx hb dX3_firstBroken_7 (by decide) ?_
    refine lv_goto (tgt := 19) hx hb dX3_firstBroken_8 (by decide) ?_
    exact e_i hx hb hlocks hr dX3_firstBroken_19 hS (by first | exact Or.inl ⟨c4, rfl⟩ | (rcases hrv_1 with q | q; exact Or.inr (Or.inl ⟨c4, q⟩); exact Or.inr (Or.inr ⟨c4, q⟩)))
def WhyP (b : Int32) (n : Nat) (fr : Nat → Int32) (cl : Nat) (wd : Nat → Nat) (bf : Nat → Int32) (r : Int32) : Prop := (r = 1 ∧ ∃ j, j < n ∧ bf j = -1) ∨ (r = 2 ∧ (∀ j, j < n → ¬ bf j = -1) ∧ b = 0 ∧ ∃ j, j < n ∧ ast fr cl wd bf j) ∨ (r = 0 ∧ (∀ j, j < n → ¬ bf j = -1) ∧ (¬ b = 0 ∨ ∀ j, j < n → ¬ ast fr cl wd bf j))
def WheP (b : Int32) (n : Nat) (fr : Nat → Int32) (cl : Nat) (wd : Nat → Nat) (bf : Nat → Int32) (r : Int32) : Prop := (∃ i, i < n ∧ r = nI i ∧ bf i = -1 ∧ ∀ j, j < i → ¬ bf j = -1) ∨ ((∀ j, j < n → ¬ bf j = -1) ∧ ((b = 0 ∧ ∃ i, i < n ∧ r = nI i ∧ ast fr cl wd bf i ∧ ∀ j, j < i → ¬ ast fr cl wd bf j) ∨ (r = -1 ∧ (¬ b = 0 ∨ ∀ j, j < n → ¬ ast fr cl wd bf j))))
theorem nI_nm1 {i n : Nat} (h : i < n) (hn : n ≤ 8) : ¬ nI i = -1 := by
  intro q
  have h1 : (nI i).toInt = (-1 : Int32).toInt := by rw [q]
  rw [nI_toInt (by omega), show (-1 : Int32).toInt = -1 from by decide] at h1
  omega
theorem why_1 {n : Nat} {r b : Int32} {fr bf : Nat → Int32} {cl : Nat} {wd : Nat → Nat} (h : (∃ i, i < n ∧ r = nI i ∧ bf i = -1 ∧ ∀ j, j < i → ¬ bf j = -1) ∨ (r = -1 ∧ ∀ j, j < n → ¬ bf j = -1)) (c : ¬ r = -1) : ((1 : Int32) = 1 ∧ ∃ j, j < n ∧ bf j = -1) ∨ ((1 : Int32) = 2 ∧ (∀ j, j < n → ¬ bf j = -1) ∧ b = 0 ∧ ∃ j, j < n ∧ ast fr cl wd bf j) ∨ ((1 : Int32) = 0 ∧ (∀ j, j < n → ¬ bf j = -1) ∧ (¬ b = 0 ∨ ∀ j, j < n → ¬ ast fr cl wd bf j)) := by
  rcases h with ⟨i, q1, q2, q3, q4⟩ | ⟨q1, q2⟩
  · exact Or.inl ⟨rfl, i, q1, q3⟩
  · exact absurd q1 c
theorem why_2 {n : Nat} {r r2 b : Int32} {fr bf : Nat → Int32} {cl : Nat} {wd : Nat → Nat} (hn : n ≤ 8) (h : (∃ i, i < n ∧ r = nI i ∧ bf i = -1 ∧ ∀ j, j < i → ¬ bf j = -1) ∨ (r = -1 ∧ ∀ j, j < n → ¬ bf j = -1)) (c : r = -1) : ∀ j, j < n → ¬ bf j = -1 := by
  rcases h with ⟨i, q1, q2, q3, q4⟩ | ⟨q1, q2⟩
  · exact absurd (q2.symm.trans c) (nI_nm1 q1 hn)
  · exact q2
theorem why_3 {n : Nat} {r b : Int32} {fr bf : Nat → Int32} {cl : Nat} {wd : Nat → Nat} (hn : n ≤ 8) (h : (¬ b = 0 ∧ r = -1) ∨ (b = 0 ∧ ∃ i, i < n ∧ r = nI i ∧ ast fr cl wd bf i ∧ ∀ j, j < i → ¬ ast fr cl wd bf j) ∨ (b = 0 ∧ r = -1 ∧ ∀ j, j < n → ¬ ast fr cl wd bf j)) : (b = 0 ∧ (∃ i, i < n ∧ r = nI i ∧ ast fr cl wd bf i ∧ ∀ j, j < i → ¬ ast fr cl wd bf j) ∧ ¬ r = -1) ∨ (r = -1 ∧ (¬ b = 0 ∨ ∀ j, j < n → ¬ ast fr cl wd bf j)) := by
  rcases h with ⟨q1, q2⟩ | ⟨q1, i, q2, q3, q4, q5⟩ | ⟨q1, q2, q3⟩
  · exact Or.inr ⟨q2, Or.inl q1⟩
  · exact Or.inl ⟨q1, ⟨i, q2, q3, q4, q5⟩, by rw [q3]; exact nI_nm1 q2 hn⟩
  · exact Or.inr ⟨q2, Or.inr q3⟩
theorem why_5 {n : Nat} {r r2 b : Int32} {fr bf : Nat → Int32} {cl : Nat} {wd : Nat → Nat} (hn : n ≤ 8) (h : (∃ i, i < n ∧ r = nI i ∧ bf i = -1 ∧ ∀ j, j < i → ¬ bf j = -1) ∨ (r = -1 ∧ ∀ j, j < n → ¬ bf j = -1)) (c : r = -1) (h2 : (¬ b = 0 ∧ r2 = -1) ∨ (b = 0 ∧ ∃ i, i < n ∧ r2 = nI i ∧ ast fr cl wd bf i ∧ ∀ j, j < i → ¬ ast fr cl wd bf j) ∨ (b = 0 ∧ r2 = -1 ∧ ∀ j, j < n → ¬ ast fr cl wd bf j)) {v : Int32} (hv : (¬ r2 = -1 ∧ v = 2) ∨ (r2 = -1 ∧ v = 0)) : (v = 1 ∧ ∃ j, j < n ∧ bf j = -1) ∨ (v = 2 ∧ (∀ j, j < n → ¬ bf j = -1) ∧ b = 0 ∧ ∃ j, j < n ∧ ast fr cl wd bf j) ∨ (v = 0 ∧ (∀ j, j < n → ¬ bf j = -1) ∧ (¬ b = 0 ∨ ∀ j, j < n → ¬ ast fr cl wd bf j)) := by
  have q0 := why_2 (r2 := r2) (b := b) (fr := fr) (cl := cl) (wd := wd) hn h c
  rcases why_3 hn h2 with ⟨q1, ⟨i, q2, q3, q4, q5⟩, q6⟩ | ⟨q1, q2⟩
  · rcases hv with ⟨_, hv⟩ | ⟨z, _⟩
    · exact Or.inr (Or.inl ⟨hv, q0, q1, i, q2, q4⟩)
    · exact absurd z q6
  · rcases hv with ⟨z, _⟩ | ⟨_, hv⟩
    · exact absurd q1 z
    · exact Or.inr (Or.inr ⟨hv, q0, q2⟩)
set_option maxHeartbeats 4000000 in
set_option maxRecDepth 100000 in
/-- Order.whyNot -/
theorem k_X3_whyNot (l : Launch) (D : va_G) (ac : Nat → ClassId) (H : Heap) (a r1 v1 r2 v2 cl n : Nat) (wf bf : Nat → Int32) (wd : Nat → Nat) (hs : SenC D ac H a r1 v1 r2 v2 cl n wf bf wd) (u u1 u2 u3 : Nat) (fs fr ft : Nat → Int32) (h5 : RulC D ac H u u1 u2 u3 fs fr ft) (o : Nat) (x1 b x3 x4 x5 x6 : Int32) (h9 : Cel D H o (.inr (3, [.int x1, .int b, .ref a, .int x3, .int x4, .int x5, .int x6]))) : ROi l yX3_whyNot wsX3_whyNot ({ frames := 5, cells := 0, slots := 0, locals := 111 }) [.ref o, .ref u] D ac H (WhyP b n fr cl wd bf) := by
  refine Met.ofW (cc := cX3_whyNot) (maxL := 2) (ret := (some .int)) (by decide) rfl ?_
  intro p e s m args below meth c s₁ B hml hv
  obtain ⟨hargs, hsz, hK⟩ := hv
  have hx := B.exec
  have hb := B.bytes
  have hr := B.returns
  have hts := atoms_spec (ws := wsX3_whyNot) B.pre
  have hown : s.vm.findClass RX3 = some m.cls := findClass_of_methodNamed B.named
  have hlocks := B.notSynchronized
  subst hsz
  have inX3_ : ∀ w ∈ wsX30, w ∈ wsX3_whyNot := by decide +kernel
  have hS : va_S (fun _ => False) s.heap s.heap [] := va_S.rf
  have hl := lv_entry ([.ref o, .ref u]) (n := 2) (Nat.le_of_ble_eq_true rfl)
  have hen := lg_entry_eq m [.ref o, .ref u] 2
  rw [← hargs] at hen
  rw [hen]
  generalize (lg_sl ([.ref o, .ref u]) ++ List.replicate (2 - (lg_sl ([.ref o, .ref u])).length) Slot.unset).toArray = ls at hl ⊢
  have hl : lv_has ls 2 [(0, .ref o), (1, .ref u)] := hl
  obtain ⟨hn, hcl, hwd⟩ := hs.2.2.2.2.2
  refine lv_aload_n hx hb dX3_whyNot_0 rfl (lv_at hl 0 rfl) ?_
  refine m_get (ci := 3) (C := RX3) (T := TX3) (n := 7) (v := .ref a) hx hb hts inX3_ hown hK rfl h9 2 (by decide) (hts _ (by decide +kernel)) rfl dX3_whyNot_1 ?_
  refine r_calli (va_runV (As := []) (rest := []) ⟨hx, hb, hml, hown, hts⟩ (k_X6_firstOpen l D ac _ a r1 v1 r2 v2 cl n wf bf wd hs) (cwV 0 hts gX3_whyNot_X6_firstOpen rfl rfl rfl (by decide +kernel) ⟨Nat.le_of_ble_eq_true rfl, Nat.le_of_ble_eq_true rfl⟩) (pV hK (ci := 6) rfl hs.1) rfl rfl hl.1 rfl (lv_room (Nat.le_of_ble_eq_true rfl)) dX3_whyNot_4 ⟨Nat.le_of_ble_eq_true rfl, Nat.le_of_ble_eq_true rfl⟩) hS (fun rv_1 locs hrv_1 hS => ?_)
  refine lv_iconst (v := (-1)) hx hb dX3_whyNot_7 (by decide) ?_
  refine lv_icmp_eq (tgt := 13) hx hb dX3_whyNot_8 (by decide) (fun c8 => ?_) (fun c8 => ?_)
  · refine lv_aload_n hx hb dX3_whyNot_13 rfl (lv_at hl 0 rfl) ?_
    refine lv_aload_n hx hb dX3_whyNot_14 rfl (lv_at hl 1 rfl) ?_
    refine r_calli (va_runV (As := [.ref u]) (rest := []) ⟨hx, hb, hml, hown, hts⟩ (k_X3_firstBroken l D ac _ a r1 v1 r2 v2 cl n wf bf wd hs u u1 u2 u3 fs fr ft ⟨h5.1, h5.2.1, h5.2.2.1, h5.2.2.2⟩ o x1 b x3 x4 x5 x6 h9) (cwV 1 hts gX3_whyNot_X3_firstBroken rfl rfl rfl (by decide +kernel) ⟨Nat.le_of_ble_eq_true rfl, Nat.le_of_ble_eq_true rfl⟩) (pV hK (ci := 3) rfl h9) rfl rfl hl.1 rfl (lv_room (Nat.le_of_ble_eq_true rfl)) dX3_whyNot_15 ⟨Nat.le_of_ble_eq_true rfl, Nat.le_of_ble_eq_true rfl⟩) hS (fun rv_2 locs hrv_2 hS => ?_)
    refine lv_iconst (v := (-1)) hx hb dX3_whyNot_18 (by decide) ?_
    refine lv_icmp_eq (tgt := 26) hx hb dX3_whyNot_19 (by decide) (fun c19 => ?_) (fun c19 => ?_)
    · refine lv_iconst (v := 0) hx hb dX3_whyNot_26 (by decide) ?_
      exact e_i hx hb hlocks hr dX3_whyNot_27 hS (by first | exact why_5 hn hrv_1 c8 hrv_2 (Or.inl ⟨c19, rfl⟩) | exact why_5 hn hrv_1 c8 hrv_2 (Or.inr ⟨c19, rfl⟩))
    · refine lv_iconst (v := 2) hx hb dX3_whyNot_22 (by decide) ?_
      refine lv_goto (tgt := 27) hx hb dX3_whyNot_23 (by decide) ?_
      exact e_i hx hb hlocks hr dX3_whyNot_27 hS (by first | exact why_5 hn hrv_1 c8 hrv_2 (Or.inl ⟨c19, rfl⟩) | exact why_5 hn hrv_1 c8 hrv_2 (Or.inr ⟨c19, rfl⟩))
  · refine lv_iconst (v := 1) hx hb dX3_whyNot_11 (by decide) ?_
    exact e_i hx hb hlocks hr dX3_whyNot_12 hS (why_1 hrv_1 c8)
theorem where_5 {n : Nat} {r r2 b : Int32} {fr bf : Nat → Int32} {cl : Nat} {wd : Nat → Nat} (hn : n ≤ 8) (h : (∃ i, i < n ∧ r = nI i ∧ bf i = -1 ∧ ∀ j, j < i → ¬ bf j = -1) ∨ (r = -1 ∧ ∀ j, j < n → ¬ bf j = -1)) (h2 : r = -1 → (¬ b = 0 ∧ r2 = -1) ∨ (b = 0 ∧ ∃ i, i < n ∧ r2 = nI i ∧ ast fr cl wd bf i ∧ ∀ j, j < i → ¬ ast fr cl wd bf j) ∨ (b = 0 ∧ r2 = -1 ∧ ∀ j, j < n → ¬ ast fr cl wd bf j)) {v : Int32} (hv : (¬ r = -1 ∧ v = r) ∨ (r = -1 ∧ v = r2)) : (∃ i, i < n ∧ v = nI i ∧ bf i = -1 ∧ ∀ j, j < i → ¬ bf j = -1) ∨ ((∀ j, j < n → ¬ bf j = -1) ∧ ((b = 0 ∧ ∃ i, i < n ∧ v = nI i ∧ ast fr cl wd bf i ∧ ∀ j, j < i → ¬ ast fr cl wd bf j) ∨ (v = -1 ∧ (¬ b = 0 ∨ ∀ j, j < n → ¬ ast fr cl wd bf j)))) := by
  rcases hv with ⟨c, rfl⟩ | ⟨c, rfl⟩
  · rcases h with h | ⟨q1, q2⟩
    · exact Or.inl h
    · exact absurd q1 c
  · have q0 := why_2 (r2 := v) (b := b) (fr := fr) (cl := cl) (wd := wd) hn h c
    refine Or.inr ⟨q0, ?_⟩
    rcases why_3 hn (h2 c) with ⟨q1, q2, q6⟩ | ⟨q1, q2⟩
    · exact Or.inl ⟨q1, q2⟩
    · exact Or.inr ⟨q1, q2⟩
set_option maxHeartbeats 4000000 in
set_option maxRecDepth 100000 in
/-- Order.whereNot -/
theorem k_X3_whereNot (l : Launch) (D : va_G) (ac : Nat → ClassId) (H : Heap) (a r1 v1 r2 v2 cl n : Nat) (wf bf : Nat → Int32) (wd : Nat → Nat) (hs : SenC D ac H a r1 v1 r2 v2 cl n wf bf wd) (u u1 u2 u3 : Nat) (fs fr ft : Nat → Int32) (h5 : RulC D ac H u u1 u2 u3 fs fr ft) (o : Nat) (x1 b x3 x4 x5 x6 : Int32) (h9 : Cel D H o (.inr (3, [.int x1, .int b, .ref a, .int x3, .int x4, .int x5, .int x6]))) : ROi l yX3_whereNot wsX3_whereNot ({ frames := 5, cells := 0, slots := 0, locals := 111 }) [.ref o, .ref u] D ac H (WheP b n fr cl wd bf) := by
  refine Met.ofW (cc := cX3_whereNot) (maxL := 3) (ret := (some .int)) (by decide) rfl ?_
  intro p e s m args below meth c s₁ B hml hv
  obtain ⟨hargs, hsz, hK⟩ := hv
  have hx := B.exec
  have hb := B.bytes
  have hr := B.returns
  have hts := atoms_spec (ws := wsX3_whereNot) B.pre
  have hown : s.vm.findClass RX3 = some m.cls := findClass_of_methodNamed B.named
  have hlocks := B.notSynchronized
  subst hsz
  have inX3_ : ∀ w ∈ wsX30, w ∈ wsX3_whereNot := by decide +kernel
  have hS : va_S (fun _ => False) s.heap s.heap [] := va_S.rf
  have hl := lv_entry ([.ref o, .ref u]) (n := 3) (Nat.le_of_ble_eq_true rfl)
  have hen := lg_entry_eq m [.ref o, .ref u] 3
  rw [← hargs] at hen
  rw [hen]
  generalize (lg_sl ([.ref o, .ref u]) ++ List.replicate (3 - (lg_sl ([.ref o, .ref u])).length) Slot.unset).toArray = ls at hl ⊢
  have hl : lv_has ls 3 [(0, .ref o), (1, .ref u)] := hl
  obtain ⟨hn, hcl, hwd⟩ := hs.2.2.2.2.2
  refine lv_aload_n hx hb dX3_whereNot_0 rfl (lv_at hl 0 rfl) ?_
  refine m_get (ci := 3) (C := RX3) (T := TX3) (n := 7) (v := .ref a) hx hb hts inX3_ hown hK rfl h9 2 (by decide) (hts _ (by decide +kernel)) rfl dX3_whereNot_1 ?_
  refine r_calli (va_runV (As := []) (rest := []) ⟨hx, hb, hml, hown, hts⟩ (k_X6_firstOpen l D ac _ a r1 v1 r2 v2 cl n wf bf wd hs) (cwV 0 hts gX3_whereNot_X6_firstOpen rfl rfl rfl (by decide +kernel) ⟨Nat.le_of_ble_eq_true rfl, Nat.le_of_ble_eq_true rfl⟩) (pV hK (ci := 6) rfl hs.1) rfl rfl hl.1 rfl (lv_room (Nat.le_of_ble_eq_true rfl)) dX3_whereNot_4 ⟨Nat.le_of_ble_eq_true rfl, Nat.le_of_ble_eq_true rfl⟩) hS (fun rv_1 locs hrv_1 hS => ?_)
  refine lv_istore_n (lv' := [(2, .int rv_1), (0, .ref o), (1, .ref u)]) hx hb dX3_whereNot_7 rfl hl (by decide) rfl (fun ls hl => ?_)
  refine lv_iload_n hx hb dX3_whereNot_8 rfl (lv_at hl 0 rfl) ?_
  refine lv_iconst (v := (-1)) hx hb dX3_whereNot_9 (by decide) ?_
  refine lv_icmp_eq (tgt := 17) hx hb dX3_whereNot_10 (by decide) (fun c10 => ?_) (fun c10 => ?_)
  · refine lv_aload_n hx hb dX3_whereNot_17 rfl (lv_at hl 1 rfl) ?_
    refine lv_aload_n hx hb dX3_whereNot_18 rfl (lv_at hl 2 rfl) ?_
    refine r_calli (va_runV (As := [.ref u]) (rest := []) ⟨hx, hb, hml, hown, hts⟩ (k_X3_firstBroken l D ac _ a r1 v1 r2 v2 cl n wf bf wd hs u u1 u2 u3 fs fr ft ⟨h5.1, h5.2.1, h5.2.2.1, h5.2.2.2⟩ o x1 b x3 x4 x5 x6 h9) (cwV 1 hts gX3_whereNot_X3_firstBroken rfl rfl rfl (by decide +kernel) ⟨Nat.le_of_ble_eq_true rfl, Nat.le_of_ble_eq_true rfl⟩) (pV hK (ci := 3) rfl h9) rfl rfl hl.1 rfl (lv_room (Nat.le_of_ble_eq_true rfl)) dX3_whereNot_19 ⟨Nat.le_of_ble_eq_true rfl, Nat.le_of_ble_eq_true rfl⟩) hS (fun rv_2 locs hrv_2 hS => ?_)
    exact e_i hx hb hlocks hr dX3_whereNot_22 hS (by first | exact where_5 hn hrv_1 (fun _ => hrv_2) (Or.inr ⟨c10, rfl⟩) | exact where_5 (r2 := -1) hn hrv_1 (fun z => absurd z c10) (Or.inl ⟨c10, rfl⟩))
  · refine lv_iload_n hx hb dX3_whereNot_13 rfl (lv_at hl 0 rfl) ?_
    refine lv_goto (tgt := 22) hx hb dX3_whereNot_14 (by decide) ?_
    exact e_i hx hb hlocks hr dX3_whereNot_22 hS (by first | exact where_5 hn hrv_1 (fun _ => hrv_2) (Or.inr ⟨c10, rfl⟩) | exact where_5 (r2 := -1) hn hrv_1 (fun z => absurd z c10) (Or.inl ⟨c10, rfl⟩))
end
section
/-- a sentence in the memory of the machine: its five cells, by names from q on -/
def SenW (ac : Nat → ClassId) (adr : Nat → Nat) (w : Nat → va_E) (q cl n : Nat) (wd : Nat → Nat) (bf : Nat → Int32) : Prop := w q = .inr (6, [.int (nI cl), .ref (adr (q + 1)), .ref (adr (q + 3))]) ∧ w (q + 1) = .inr (4, [.ref (adr (q + 2)), .int (nI n)]) ∧ w (q + 2) = .inl (ac 0, 8, .inl (fun j => nI (wd j))) ∧ w (q + 3) = .inr (4, [.ref (adr (q + 4)), .int (nI n)]) ∧ w (q + 4) = .inl (ac 0, 8, .inl bf) ∧ 0 < n ∧ n ≤ 8 ∧ cl < 4 ∧ ∀ j, j < n → wd j < 50
def SenF (ac : Nat → ClassId) (adr : Nat → Nat) (w : Nat → va_E) (no : Nat) (oc on_ : Nat → Nat) (owd : Nat → Nat → Nat) (obf : Nat → Nat → Int32) : Prop := ∀ o, o < no → SenW ac adr w (23 + 6 * o) (oc o) (on_ o) (owd o) (obf o)
theorem SenW.up {ac : Nat → ClassId} {adr : Nat → Nat} {w : Nat → va_E} {q cl n : Nat} {wd : Nat → Nat} {bf : Nat → Int32} (h : SenW ac adr w q cl n wd bf) {k : Nat} {e : va_E} (hk : k < q ∨ q + 4 < k) : SenW ac adr (va_up w k e) q cl n wd bf := by
  obtain ⟨h1, h2, h3, h4, h5, h6⟩ := h
  exact ⟨by rw [va_up_ne _ _ (by omega)]; exact h1, by rw [va_up_ne _ _ (by omega)]; exact h2, by rw [va_up_ne _ _ (by omega)]; exact h3, by rw [va_up_ne _ _ (by omega)]; exact h4, by rw [va_up_ne _ _ (by omega)]; exact h5, h6⟩
theorem SenF.up {ac : Nat → ClassId} {adr : Nat → Nat} {w : Nat → va_E} {no : Nat} {oc on_ : Nat → Nat} {owd : Nat → Nat → Nat} {obf : Nat → Nat → Int32} {k : Nat} {e : va_E} (hk : k < 22 ∨ k % 6 = 4) (h : SenF ac adr w no oc on_ owd obf) : SenF ac adr (va_up w k e) no oc on_ owd obf := fun o ho => (h o ho).up (by omega)
theorem SenF.bf {ac : Nat → ClassId} {adr : Nat → Nat} {w : Nat → va_E} {no : Nat} {oc on_ : Nat → Nat} {owd : Nat → Nat → Nat} {obf : Nat → Nat → Int32} {o : Nat} {bf : Nat → Int32} (h : SenF ac adr w no oc on_ owd obf) : SenF ac adr (va_up w (27 + 6 * o) (.inl (ac 0, 8, .inl bf))) no oc on_ owd (fun x => if x = o then bf else obf x) := by
  intro x hx
  by_cases e : x = o
  · subst e
    obtain ⟨h1, h2, h3, h4, h5, h6⟩ := h x hx
    refine ⟨by rw [va_up_ne _ _ (by omega)]; exact h1, by rw [va_up_ne _ _ (by omega)]; exact h2, by rw [va_up_ne _ _ (by omega)]; exact h3, by rw [va_up_ne _ _ (by omega)]; exact h4, ?_, h6⟩
    rw [show 23 + 6 * x + 4 = 27 + 6 * x from by omega, va_up_self]
    show _ = Sum.inl (ac 0, 8, Sum.inl (if x = x then bf else obf x))
    rw [if_pos rfl]
  · have := (h x hx).up (k := 27 + 6 * o) (e := .inl (ac 0, 8, .inl bf)) (by omega)
    rw [show (fun x => if x = o then bf else obf x) x = obf x from if_neg e]
    exact this
/-- where the sold sentences lie -/
def sref (adr : Nat → Nat) (ns : Nat) (so : Nat → Nat) : Nat → Option Nat := fun i => if i < ns then some (adr (23 + 6 * so i)) else none
def MemW (ac : Nat → ClassId) (adr : Nat → Nat) (w : Nat → va_E) (ns : Nat) (so : Nat → Nat) (hv : Nat → Int64) (nd : Nat) (du : Nat → Nat) (T : Nat → Int32) : Prop := w 7 = .inr (2, [.ref (adr 8), .ref (adr 9), .ref (adr 10), .ref (adr 12), .int (nI ns)]) ∧ w 8 = .inl (ac 4, 40, .inr (.inr (.inr (.inr (sref adr ns so))))) ∧ w 9 = .inl (ac 1, 50, .inr (.inl hv)) ∧ w 10 = .inr (1, [.ref (adr 11), .int (nI nd)]) ∧ w 11 = .inl (ac 0, 60, .inl (fun j => nI (du j))) ∧ w 12 = .inr (0, [.ref (adr 13)]) ∧ w 13 = .inl (ac 0, 81, .inl T) ∧ ns ≤ 40 ∧ nd ≤ 40
theorem MemW.tab {ac : Nat → ClassId} {adr : Nat → Nat} {w : Nat → va_E} {ns : Nat} {so : Nat → Nat} {hv : Nat → Int64} {nd : Nat} {du : Nat → Nat} {T T1 : Nat → Int32} (h : MemW ac adr w ns so hv nd du T) : MemW ac adr (va_up w 13 (.inl (ac 0, 81, .inl T1))) ns so hv nd du T1 := by
  obtain ⟨h1, h2, h3, h4, h5, h6, h7, h8⟩ := h
  exact ⟨by rw [va_up_ne _ _ (by decide)]; exact h1, by rw [va_up_ne _ _ (by decide)]; exact h2, by rw [va_up_ne _ _ (by decide)]; exact h3, by rw [va_up_ne _ _ (by decide)]; exact h4, by rw [va_up_ne _ _ (by decide)]; exact h5, by rw [va_up_ne _ _ (by decide)]; exact h6, va_up_self _ _ _, h8⟩
theorem MemW.up {ac : Nat → ClassId} {adr : Nat → Nat} {w : Nat → va_E} {ns : Nat} {so : Nat → Nat} {hv : Nat → Int64} {nd : Nat} {du : Nat → Nat} {T : Nat → Int32} {k : Nat} {e : va_E} (hk : k < 7 ∨ 13 < k) (h : MemW ac adr w ns so hv nd du T) : MemW ac adr (va_up w k e) ns so hv nd du T := by
  obtain ⟨h1, h2, h3, h4, h5, h6, h7, h8⟩ := h
  exact ⟨by rw [va_up_ne _ _ (by omega)]; exact h1, by rw [va_up_ne _ _ (by omega)]; exact h2, by rw [va_up_ne _ _ (by omega)]; exact h3, by rw [va_up_ne _ _ (by omega)]; exact h4, by rw [va_up_ne _ _ (by omega)]; exact h5, by rw [va_up_ne _ _ (by omega)]; exact h6, by rw [va_up_ne _ _ (by omega)]; exact h7, h8⟩
theorem sat_eq {adr : Nat → Nat} {ns : Nat} {so : Nat → Nat} {x : Int32} (h : ns ≤ 40) : (ix x 40).bind (sref adr ns so) = (ix x ns).map (fun i => adr (23 + 6 * so i)) := by
  rcases hi : ix x ns with _ | i
  · rcases hj : ix x 40 with _ | j
    · rfl
    · obtain ⟨q1, q2⟩ := ix_of hj (by decide)
      subst q2
      rcases ix_none hi with q | q
      · exact absurd q (nI_pos (by omega))
      · have := le_le q (by omega) (by omega)
        show sref adr ns so j = none
        unfold sref
        rw [if_neg (by omega)]
  · obtain ⟨q1, q2⟩ := ix_of hi (by omega)
    subst q2
    rw [ix_nI (by omega) (by decide)]
    show sref adr ns so i = _
    unfold sref
    rw [if_pos q1]
    rfl
theorem va_up_same {α : Type} {f : Nat → α} {k : Nat} {v : α} (h : f k = v) : va_up f k v = f := by
  funext q
  by_cases e : q = k
  · rw [e, va_up_self, h]
  · rw [va_up_ne _ _ e]
theorem va_up_up {α : Type} {f : Nat → α} {k : Nat} {v v1 : α} : va_up (va_up f k v) k v1 = va_up f k v1 := by
  funext q
  by_cases e : q = k
  · rw [e, va_up_self, va_up_self]
  · rw [va_up_ne _ _ e, va_up_ne _ _ e, va_up_ne _ _ e]
set_option maxHeartbeats 4000000 in
set_option maxRecDepth 100000 in
/-- Memory.sentenceAt -/
theorem k_X2_sentenceAt (l : Launch) (D : va_G) (ac : Nat → ClassId) (H : Heap) (a b8 : Nat) (f : Nat → Option Nat) (x1 x2 x3 x4 : Value) (h1 : Cel D H a (.inr (2, [.ref b8, x1, x2, x3, x4]))) (h2 : Cel D H b8 (.inl (ac 4, 40, .inr (.inr (.inr (.inr f)))))) (x : Int32) : ROq l yX2_sentenceAt wsX2_sentenceAt ({ frames := 0, cells := 0, slots := 0, locals := 0 }) [.ref a, .int x] D ac H (fun r => r = (ix x 40).bind f) := by
  refine Met.ofW (cc := cX2_sentenceAt) (maxL := 2) (ret := (some (.object "TermGate$Sentence"))) (by decide) rfl ?_
  intro p e s m args below meth c s₁ B hml hv
  obtain ⟨hargs, hsz, hK⟩ := hv
  have hx := B.exec
  have hb := B.bytes
  have hr := B.returns
  have hts := atoms_spec (ws := wsX2_sentenceAt) B.pre
  have hown : s.vm.findClass RX2 = some m.cls := findClass_of_methodNamed B.named
  have hlocks := B.notSynchronized
  subst hsz
  have inX2_ : ∀ w ∈ wsX20, w ∈ wsX2_sentenceAt := by decide +kernel
  have hS : va_S (fun _ => False) s.heap s.heap [] := va_S.rf
  have hl := lv_entry ([.ref a, .int x]) (n := 2) (Nat.le_of_ble_eq_true rfl)
  have hen := lg_entry_eq m [.ref a, .int x] 2
  rw [← hargs] at hen
  rw [hen]
  generalize (lg_sl ([.ref a, .int x]) ++ List.replicate (2 - (lg_sl ([.ref a, .int x])).length) Slot.unset).toArray = ls at hl ⊢
  have hl : lv_has ls 2 [(0, .ref a), (1, .int x)] := hl
  refine lv_iload_n hx hb dX2_sentenceAt_0 rfl (lv_at hl 1 rfl) ?_
  refine lv_if_lt (tgt := 22) hx hb dX2_sentenceAt_1 (by decide) (fun c1 => ?_) (fun c1 => ?_)
  · refine lv_null hx hb dX2_sentenceAt_22 ?_
    exact e_q (r := none) hx hb hlocks hr (Or.inl ⟨_, rfl⟩) dX2_sentenceAt_23 hS (by first | (rw [ix_neg c1]; rfl) | (rw [ix_big c10]; rfl) | (rw [ix_some c1 c10]; rfl))
  · refine lv_iload_n hx hb dX2_sentenceAt_4 rfl (lv_at hl 1 rfl) ?_
    refine lv_aload_n hx hb dX2_sentenceAt_5 rfl (lv_at hl 0 rfl) ?_
    refine m_get (ci := 2) (C := RX2) (T := TX2) (n := 5) (v := .ref b8) hx hb hts inX2_ hown hK rfl h1 0 (by decide) (hts _ (by decide +kernel)) rfl dX2_sentenceAt_6 ?_
    refine m_alen (v := 40) (ty := _) hx hb hK 4 h2 rfl (by first | rfl | decide) dX2_sentenceAt_9 ?_
    refine lv_icmp_ge (tgt := 22) hx hb dX2_sentenceAt_10 (by decide) (fun c10 => ?_) (fun c10 => ?_)
    · refine lv_null hx hb dX2_sentenceAt_22 ?_
      exact e_q (r := none) hx hb hlocks hr (Or.inl ⟨_, rfl⟩) dX2_sentenceAt_23 hS (by first | (rw [ix_neg c1]; rfl) | (rw [ix_big c10]; rfl) | (rw [ix_some c1 c10]; rfl))
    · refine lv_aload_n hx hb dX2_sentenceAt_13 rfl (lv_at hl 0 rfl) ?_
      refine m_get (ci := 2) (C := RX2) (T := TX2) (n := 5) (v := .ref b8) hx hb hts inX2_ hown hK rfl h1 0 (by decide) (hts _ (by decide +kernel)) rfl dX2_sentenceAt_14 ?_
      refine lv_iload_n hx hb dX2_sentenceAt_17 rfl (lv_at hl 1 rfl) ?_
      refine m_aldq hx hb hK 4 h2 rfl (vin_a c1 c10 (by decide)) dX2_sentenceAt_18 ?_
      refine lv_goto (tgt := 23) hx hb dX2_sentenceAt_19 (by decide) ?_
      exact e_q (r := f x.toNatClampNeg) hx hb hlocks hr (Or.inl ⟨_, rfl⟩) dX2_sentenceAt_23 hS (by first | (rw [ix_neg c1]; rfl) | (rw [ix_big c10]; rfl) | (rw [ix_some c1 c10]; rfl))
/-- the share by a likeness -/
def shI (L : Int32) : Int32 := if 100 ≤ L then 20 else if 85 ≤ L then 50 else if 70 ≤ L then 70 else 90
/-- the likeness of a row of n words f and the sentence o -/
def lkO (n : Nat) (f : Nat → Int32) (on_ : Nat → Nat) (owd : Nat → Nat → Nat) (o : Nat) : Int32 := lik (max n (on_ o)) (ed f (fun j => nI (owd o j)) n (on_ o))
/-- the share of a row of n words f by the match x -/
def shO (n : Nat) (f : Nat → Int32) (on_ : Nat → Nat) (owd : Nat → Nat → Nat) (ns : Nat) (so : Nat → Nat) (x : Int32) : Int32 := (ix x ns).elim 100 (fun i => shI (lkO n f on_ owd (so i)))
theorem nle_of_lt {a b : Int32} (h : a < b) : ¬ b ≤ a := by
  rw [Int32.lt_iff_toInt_lt] at h
  rw [Int32.le_iff_toInt_le]
  omega
theorem le_of_nlt {a b : Int32} (h : ¬ a < b) : b ≤ a := by
  rw [Int32.lt_iff_toInt_lt] at h
  rw [Int32.le_iff_toInt_le]
  omega
set_option maxHeartbeats 4000000 in
set_option maxRecDepth 100000 in
/-- Memory.shareOf -/
theorem k_X2_shareOf (l : Launch) (D : va_G) (ac : Nat → ClassId) (H : Heap) (A : Nat → Prop) (N : Nat) (adr : Nat → Nat) (w : Nat → va_E) (hM : MW D A N adr w H) (no : Nat) (oc on_ : Nat → Nat) (owd : Nat → Nat → Nat) (obf : Nat → Nat → Int32) (ns : Nat) (so : Nat → Nat) (hv : Nat → Int64) (nd : Nat) (du : Nat → Nat) (T : Nat → Int32) (hN : 22 + 6 * no ≤ N) (hS1 : SenF ac adr w no oc on_ owd obf) (hm : MemW ac adr w ns so hv nd du T) (hso : ∀ i, i < ns → so i < no) (ra va n : Nat) (f : Nat → Int32) (hra : ra < N) (hva : va < N) (hrn : (ra < 7 ∨ 13 < ra) ∧ (va < 7 ∨ 13 < va)) (hn0 : 0 < n) (hn : n ≤ 8) (g1 : w ra = .inr (4, [.ref (adr va), .int (nI n)])) (g2 : w va = .inl (ac 0, 8, .inl f)) (x : Int32) : WRi l yX2_shareOf wsX2_shareOf ({ frames := 4, cells := 0, slots := 0, locals := 98 }) [.ref (adr 7), .ref (adr ra), .int x] D ac H A N adr (fun r w1 => r = shO n f on_ owd ns so x ∧ ∃ T1 : Nat → Int32, w1 = va_up w 13 (.inl (ac 0, 81, .inl T1))) := by
  refine Met.ofW (cc := cX2_shareOf) (maxL := 5) (ret := (some .int)) (by decide) rfl ?_
  intro p e s m args below meth c s₁ B hml hv
  obtain ⟨hargs, hsz, hK⟩ := hv
  have hx := B.exec
  have hb := B.bytes
  have hr := B.returns
  have hts := atoms_spec (ws := wsX2_shareOf) B.pre
  have hown : s.vm.findClass RX2 = some m.cls := findClass_of_methodNamed B.named
  have hlocks := B.notSynchronized
  subst hsz
  have inX2_ : ∀ w ∈ wsX20, w ∈ wsX2_shareOf := by decide +kernel
  have inX6_ : ∀ w ∈ wsX60, w ∈ wsX2_shareOf := by decide +kernel
  have hS : va_S A s.heap s.heap [] := va_S.rf
  have hl := lv_entry ([.ref (adr 7), .ref (adr ra), .int x]) (n := 5) (Nat.le_of_ble_eq_true rfl)
  have hen := lg_entry_eq m [.ref (adr 7), .ref (adr ra), .int x] 5
  rw [← hargs] at hen
  rw [hen]
  generalize (lg_sl ([.ref (adr 7), .ref (adr ra), .int x]) ++ List.replicate (5 - (lg_sl ([.ref (adr 7), .ref (adr ra), .int x])).length) Slot.unset).toArray = ls at hl ⊢
  have hl : lv_has ls 5 [(0, .ref (adr 7)), (1, .ref (adr ra)), (2, .int x)] := hl
  obtain ⟨hns, hnd⟩ := hm.2.2.2.2.2.2.2
  refine lv_aload_n hx hb dX2_shareOf_0 rfl (lv_at hl 0 rfl) ?_
  refine lv_iload_n hx hb dX2_shareOf_1 rfl (lv_at hl 2 rfl) ?_
  refine r_callq (va_runV (As := [.int x]) (rest := []) ⟨hx, hb, hml, hown, hts⟩ (k_X2_sentenceAt l D ac _ (adr 7) (adr 8) (sref adr ns so) (.ref (adr 9)) (.ref (adr 10)) (.ref (adr 12)) (.int (nI ns)) (hM.cel (by omega) hm.1) (hM.cel (by omega) hm.2.1) x) (cwV 1 hts gX2_shareOf_X2_sentenceAt rfl rfl rfl (by decide +kernel) ⟨Nat.le_of_ble_eq_true rfl, Nat.le_of_ble_eq_true rfl⟩) (pV hK (ci := 2) rfl (hM.cel (by omega) hm.1)) rfl rfl hl.1 rfl (lv_room (Nat.le_of_ble_eq_true rfl)) dX2_shareOf_2 ⟨Nat.le_of_ble_eq_true rfl, Nat.le_of_ble_eq_true rfl⟩) hS (fun rv_1 locs hrv_1 hS => ?_)
  subst hrv_1
  refine m_topq (show (ix x 40).bind (sref adr ns so) = (ix x ns).map (fun i => adr (23 + 6 * so i)) from sat_eq (by omega)) ?_
  rcases hi : ix x ns with _ | jhi
  · refine m_topn ?_
    refine lv_astore_nN (lv' := [(3, .null), (0, .ref (adr 7)), (1, .ref (adr ra)), (2, .int x)]) hx hb dX2_shareOf_5 rfl hl (by decide) rfl (fun ls hl => ?_)
    refine lv_aload_nN hx hb dX2_shareOf_6 rfl (lv_at hl 0 rfl) ?_
    refine lv_ifnonnullN hx hb dX2_shareOf_7 ?_
    refine lv_bipush (v := 100) hx hb dX2_shareOf_10 (by decide) ?_
    exact e_wi hx hb hlocks hr dX2_shareOf_12 hM hS (⟨by unfold shO; rw [hi]; rfl, T, (va_up_same hm.2.2.2.2.2.2.1).symm⟩)
  · obtain ⟨hj_, he_⟩ := ix_of hi (by omega)
    have ho_ : so jhi < no := hso jhi hj_
    have hsn_ := hS1 (so jhi) ho_
    obtain ⟨hn0_, hn8_, hcl_, hwd_⟩ := hsn_.2.2.2.2.2
    refine m_topr ?_
    refine lv_astore_n (lv' := [(3, .ref (adr (23 + 6 * so jhi))), (0, .ref (adr 7)), (1, .ref (adr ra)), (2, .int x)]) hx hb dX2_shareOf_5 rfl hl (by decide) rfl (fun ls hl => ?_)
    refine lv_aload_n hx hb dX2_shareOf_6 rfl (lv_at hl 0 rfl) ?_
    refine lv_ifnonnull (tgt := 13) hx hb dX2_shareOf_7 (by decide) ?_
    refine lv_aload_n hx hb dX2_shareOf_13 rfl (lv_at hl 1 rfl) ?_
    refine m_get (ci := 2) (C := RX2) (T := TX2) (n := 5) (v := .ref (adr 12)) hx hb hts inX2_ hown hK rfl (hM.cel (by omega) hm.1) 3 (by decide) (hts _ (by decide +kernel)) rfl dX2_shareOf_14 ?_
    refine lv_aload_n hx hb dX2_shareOf_17 rfl (lv_at hl 2 rfl) ?_
    refine lv_aload_n hx hb dX2_shareOf_18 rfl (lv_at hl 0 rfl) ?_
    refine m_getN (host := RX7) (ci := 6) (C := RX6) (T := TX6) (n := 3) (v := .ref (adr (23 + 6 * so jhi + 1))) hx hb hts inX6_ hown hK rfl (hM.cel (by have := ho_; omega) hsn_.1) 1 (by decide) 17 rfl rfl dX2_shareOf_19 ?_
    refine w_calli (va_runV (As := [.ref (adr ra), .ref (adr (23 + 6 * so jhi + 1))]) (rest := []) ⟨hx, hb, hml, hown, hts⟩ (k_X0_likenessOf l D ac _ A N adr w hM 12 13 T (by omega) (by omega) (by omega) hm.2.2.2.2.2.1 hm.2.2.2.2.2.2.1 ra va (23 + 6 * so jhi + 1) (23 + 6 * so jhi + 2) n ((on_ (so jhi))) f (fun j => nI (owd (so jhi) j)) hra hva (by have := ho_; omega) (by have := ho_; omega) (by omega) (by omega) (by omega) g1 g2 hsn_.2.1 hsn_.2.2.1 (Nat.lt_of_lt_of_le hn0 (Nat.le_max_left _ _))) (cwV 2 hts gX2_shareOf_X0_likenessOf rfl rfl rfl (by decide +kernel) ⟨Nat.le_of_ble_eq_true rfl, Nat.le_of_ble_eq_true rfl⟩) (pV hK (ci := 0) rfl (hM.cel (by omega) hm.2.2.2.2.2.1)) rfl rfl hl.1 rfl (lv_room (Nat.le_of_ble_eq_true rfl)) dX2_shareOf_22 ⟨Nat.le_of_ble_eq_true rfl, Nat.le_of_ble_eq_true rfl⟩) hS (fun rv_2 w_3 H locs hw_3 hM hS => ?_)
    obtain ⟨hrv_2, T_4, hw_3, eT_4⟩ := hw_3
    have h_5 : w_3 7 = .inr (2, [.ref (adr 8), .ref (adr 9), .ref (adr 10), .ref (adr 12), .int (nI ns)]) := by rw [hw_3, va_up_ne _ _ (by omega)]; exact hm.1
    have h_6 : w_3 8 = .inl (ac 4, 40, .inr (.inr (.inr (.inr (sref adr ns so))))) := by rw [hw_3, va_up_ne _ _ (by omega)]; exact hm.2.1
    have h_7 : w_3 9 = .inl (ac 1, 50, .inr (.inl hv)) := by rw [hw_3, va_up_ne _ _ (by omega)]; exact hm.2.2.1
    have h_8 : w_3 10 = .inr (1, [.ref (adr 11), .int (nI nd)]) := by rw [hw_3, va_up_ne _ _ (by omega)]; exact hm.2.2.2.1
    have h_9 : w_3 11 = .inl (ac 0, 60, .inl (fun j => nI (du j))) := by rw [hw_3, va_up_ne _ _ (by omega)]; exact hm.2.2.2.2.1
    have h_10 : w_3 12 = .inr (0, [.ref (adr 13)]) := by rw [hw_3, va_up_ne _ _ (by omega)]; exact hm.2.2.2.2.2.1
    have h_11 : w_3 13 = .inl (ac 0, 81, .inl T_4) := by rw [hw_3]; exact va_up_self _ _ _
    have h_12 : w_3 ra = .inr (4, [.ref (adr va), .int (nI n)]) := by rw [hw_3, va_up_ne _ _ (by omega)]; exact g1
    have h_13 : w_3 va = .inl (ac 0, 8, .inl f) := by rw [hw_3, va_up_ne _ _ (by omega)]; exact g2
    have h_14 : w_3 (23 + 6 * so jhi) = .inr (6, [.int (nI (oc (so jhi))), .ref (adr (23 + 6 * so jhi + 1)), .ref (adr (23 + 6 * so jhi + 3))]) := by rw [hw_3, va_up_ne _ _ (by omega)]; exact hsn_.1
    have h_15 : w_3 (23 + 6 * so jhi + 1) = .inr (4, [.ref (adr (23 + 6 * so jhi + 2)), .int (nI (on_ (so jhi)))]) := by rw [hw_3, va_up_ne _ _ (by omega)]; exact hsn_.2.1
    have h_16 : w_3 (23 + 6 * so jhi + 2) = .inl (ac 0, 8, .inl (fun j => nI (owd (so jhi) j))) := by rw [hw_3, va_up_ne _ _ (by omega)]; exact hsn_.2.2.1
    have h_17 : w_3 (23 + 6 * so jhi + 3) = .inr (4, [.ref (adr (23 + 6 * so jhi + 4)), .int (nI (on_ (so jhi)))]) := by rw [hw_3, va_up_ne _ _ (by omega)]; exact hsn_.2.2.2.1
    have h_18 : w_3 (23 + 6 * so jhi + 4) = .inl (ac 0, 8, .inl (obf (so jhi))) := by rw [hw_3, va_up_ne _ _ (by omega)]; exact hsn_.2.2.2.2.1
    have h_19 : SenF ac adr w_3 no oc on_ owd obf := by rw [hw_3]; exact (SenF.up (by omega) hS1)
    subst hrv_2
    refine lv_istore (lv' := [(4, .int (lik (max n ((on_ (so jhi)))) (ed f (fun j => nI (owd (so jhi) j)) n ((on_ (so jhi)))))), (3, .ref (adr (23 + 6 * so jhi))), (0, .ref (adr 7)), (1, .ref (adr ra)), (2, .int x)]) hx hb dX2_shareOf_25 hl (by decide) rfl (fun ls hl => ?_)
    refine lv_iload hx hb dX2_shareOf_27 (lv_at hl 0 rfl) ?_
    refine lv_bipush (v := 100) hx hb dX2_shareOf_29 (by decide) ?_
    refine lv_icmp_lt (tgt := 37) hx hb dX2_shareOf_31 (by decide) (fun c31 => ?_) (fun c31 => ?_)
    · refine lv_iload hx hb dX2_shareOf_37 (lv_at hl 0 rfl) ?_
      refine lv_bipush (v := 85) hx hb dX2_shareOf_39 (by decide) ?_
      refine lv_icmp_lt (tgt := 47) hx hb dX2_shareOf_41 (by decide) (fun c41 => ?_) (fun c41 => ?_)
      · refine lv_iload hx hb dX2_shareOf_47 (lv_at hl 0 rfl) ?_
        refine lv_bipush (v := 70) hx hb dX2_shareOf_49 (by decide) ?_
        refine lv_icmp_lt (tgt := 59) hx hb dX2_shareOf_51 (by decide) (fun c51 => ?_) (fun c51 => ?_)
        · refine lv_bipush (v := 90) hx hb dX2_shareOf_59 (by decide) ?_
          exact e_wi hx hb hlocks hr dX2_shareOf_61 hM hS (⟨by unfold shO; rw [hi]; show _ = shI (lkO n f on_ owd (so jhi)); unfold shI lkO; rw [if_neg (nle_of_lt c31), if_neg (nle_of_lt c41)]; first | rw [if_pos (le_of_nlt c51)] | rw [if_neg (nle_of_lt c51)], T_4, hw_3⟩)
        · refine lv_bipush (v := 70) hx hb dX2_shareOf_54 (by decide) ?_
          refine lv_goto (tgt := 61) hx hb dX2_shareOf_56 (by decide) ?_
          exact e_wi hx hb hlocks hr dX2_shareOf_61 hM hS (⟨by unfold shO; rw [hi]; show _ = shI (lkO n f on_ owd (so jhi)); unfold shI lkO; rw [if_neg (nle_of_lt c31), if_neg (nle_of_lt c41)]; first | rw [if_pos (le_of_nlt c51)] | rw [if_neg (nle_of_lt c51)], T_4, hw_3⟩)
      · refine lv_bipush (v := 50) hx hb dX2_shareOf_44 (by decide) ?_
        exact e_wi hx hb hlocks hr dX2_shareOf_46 hM hS (⟨by unfold shO; rw [hi]; show _ = shI (lkO n f on_ owd (so jhi)); unfold shI lkO; rw [if_neg (nle_of_lt c31), if_pos (le_of_nlt c41)], T_4, hw_3⟩)
    · refine lv_bipush (v := 20) hx hb dX2_shareOf_34 (by decide) ?_
      exact e_wi hx hb hlocks hr dX2_shareOf_36 hM hS (⟨by unfold shO; rw [hi]; show _ = shI (lkO n f on_ owd (so jhi)); unfold shI lkO; rw [if_pos (le_of_nlt c31)], T_4, hw_3⟩)
/-- the sentences that share one of the first words of a row -/
def shw (hv : Nat → Int64) (wd : Nat → Nat) : Nat → Int64
  | 0 => 0
  | j + 1 => shw hv wd j ||| hv (wd j)
set_option maxHeartbeats 4000000 in
set_option maxRecDepth 100000 in
/-- Memory.sharingWith -/
theorem k_X2_sharingWith (l : Launch) (D : va_G) (ac : Nat → ClassId) (H : Heap) (a b9 : Nat) (hv : Nat → Int64) (x1 x2 x3 x4 : Value) (h1 : Cel D H a (.inr (2, [x1, .ref b9, x2, x3, x4]))) (h2 : Cel D H b9 (.inl (ac 1, 50, .inr (.inl hv)))) (ra va n : Nat) (wd : Nat → Nat) (h3 : Cel D H ra (.inr (4, [.ref va, .int (nI n)]))) (h4 : Cel D H va (.inl (ac 0, 8, .inl (fun j => nI (wd j))))) (hn : n ≤ 8) (hwd : ∀ j, j < n → wd j < 50) : ROl l yX2_sharingWith wsX2_sharingWith ({ frames := 1, cells := 0, slots := 0, locals := 21 }) [.ref a, .ref ra] D ac H (fun r => r = shw hv wd n) := by
  refine Met.ofW (cc := cX2_sharingWith) (maxL := 6) (ret := (some .long)) (by decide) rfl ?_
  intro p e s m args below meth c s₁ B hml hv
  obtain ⟨hargs, hsz, hK⟩ := hv
  have hx := B.exec
  have hb := B.bytes
  have hr := B.returns
  have hts := atoms_spec (ws := wsX2_sharingWith) B.pre
  have hown : s.vm.findClass RX2 = some m.cls := findClass_of_methodNamed B.named
  have hlocks := B.notSynchronized
  subst hsz
  have inX2_ : ∀ w ∈ wsX20, w ∈ wsX2_sharingWith := by decide +kernel
  have inX4_ : ∀ w ∈ wsX40, w ∈ wsX2_sharingWith := by decide +kernel
  have hS : va_S (fun _ => False) s.heap s.heap [] := va_S.rf
  have hl := lv_entry ([.ref a, .ref ra]) (n := 6) (Nat.le_of_ble_eq_true rfl)
  have hen := lg_entry_eq m [.ref a, .ref ra] 6
  rw [← hargs] at hen
  rw [hen]
  generalize (lg_sl ([.ref a, .ref ra]) ++ List.replicate (6 - (lg_sl ([.ref a, .ref ra])).length) Slot.unset).toArray = ls at hl ⊢
  have hl : lv_has ls 6 [(0, .ref a), (1, .ref ra)] := hl
  obtain ⟨Q0, hQ0⟩ : ∃ z, z = MQ below (va_Ql (fun r (_ : Unit) => (fun r => r = shw hv wd n) r) (fun _ t => t.heap = s.heap) (fun _ => False)) args s 0 0 (fun _ => False) := ⟨_, rfl⟩
  rw [← hQ0]
  refine lv_lconst (v := 0) hx hb dX2_sharingWith_0 (by decide) ?_
  refine lv_lstore_n (lv' := [(2, .long 0), (0, .ref a), (1, .ref ra)]) hx hb dX2_sharingWith_1 rfl hl (by decide) rfl (fun ls hl => ?_)
  refine lv_iconst (v := 0) hx hb dX2_sharingWith_2 (by decide) ?_
  refine lv_istore (lv' := [(4, .int 0), (2, .long 0), (0, .ref a), (1, .ref ra)]) hx hb dX2_sharingWith_3 hl (by decide) rfl (fun ls hl => ?_)
  have L5 : ∀ (k9 : Nat) (i : Nat) (hk : n - i < k9) (hi : i ≤ n) (locs : List Loc) (hS : va_S (fun _ => False) s.heap s.heap locs) (ls : Array Slot) (hl : lv_has ls 6 [(0, .ref a), (1, .ref ra), (2, .long (shw hv wd i)), (4, .int (nI i))]), W p l e (headSpec wsX2_sharingWith ({ frames := 1, cells := 0, slots := 0, locals := 21 })).room s m args below meth c s.heap locs 0 0 Q0 (F0 m 5 ls []) := by
    intro k9
    induction k9 with
    | zero => intro i hk hi locs hS ls hl; exact absurd hk (Nat.not_lt_zero _)
    | succ k9 ih5 =>
      intro i hk hi locs hS ls hl
      refine lv_iload hx hb dX2_sharingWith_5 (lv_at hl 3 rfl) ?_
      refine lv_aload_n hx hb dX2_sharingWith_7 rfl (lv_at hl 1 rfl) ?_
      refine m_getN (host := RX7) (ci := 4) (C := RX4) (T := TX4) (n := 2) (v := .int (nI n)) hx hb hts inX4_ hown hK rfl h3 1 (by decide) 4 rfl rfl dX2_sharingWith_8 ?_
      refine lv_icmp_ge (tgt := 53) hx hb dX2_sharingWith_11 (by decide) (fun c11 => ?_) (fun c11 => ?_)
      · have hin : i = n := by have := le_le (b := i) c11 (by omega) (by omega); omega
        refine lv_lload_n hx hb dX2_sharingWith_53 rfl (lv_at hl 2 rfl) ?_
        rw [hQ0]
        exact e_l hx hb hlocks hr dX2_sharingWith_54 hS (by rw [hin])
      · have hin : i < n := nle_lt c11 (by omega) (by omega)
        have hw_ := hwd i hin
        refine lv_aload_n hx hb dX2_sharingWith_14 rfl (lv_at hl 1 rfl) ?_
        refine lv_iload hx hb dX2_sharingWith_15 (lv_at hl 3 rfl) ?_
        refine r_calli (va_runV (As := [.int (nI i)]) (rest := []) ⟨hx, hb, hml, hown, hts⟩ (k_X4_at l D ac _ ra va n (fun j => nI (wd j)) h3 h4 (by omega) (nI i)) (cwV 1 hts gX2_sharingWith_X4_at rfl rfl rfl (by decide +kernel) ⟨Nat.le_of_ble_eq_true rfl, Nat.le_of_ble_eq_true rfl⟩) (pV hK (ci := 4) rfl h3) rfl rfl hl.1 rfl (lv_room (Nat.le_of_ble_eq_true rfl)) dX2_sharingWith_17 ⟨Nat.le_of_ble_eq_true rfl, Nat.le_of_ble_eq_true rfl⟩) hS (fun rv_1 locs hrv_1 hS => ?_)
        subst hrv_1
        refine m_top (show ((ix (nI i) n).elim (-1) (fun j => nI (wd j))) = nI (wd i) from by rw [ix_nI hin (by omega)]; rfl) ?_
        refine lv_istore (lv' := [(5, .int (nI (wd i))), (0, .ref a), (1, .ref ra), (2, .long (shw hv wd i)), (4, .int (nI i))]) hx hb dX2_sharingWith_20 hl (by decide) rfl (fun ls hl => ?_)
        refine lv_iload hx hb dX2_sharingWith_22 (lv_at hl 0 rfl) ?_
        refine lv_if_lt (tgt := 47) hx hb dX2_sharingWith_24 (by decide) (fun c24 => ?_) (fun c24 => ?_)
        · exact absurd c24 (nI_pos (by omega))
        · refine lv_iload hx hb dX2_sharingWith_27 (lv_at hl 0 rfl) ?_
          refine lv_aload_n hx hb dX2_sharingWith_29 rfl (lv_at hl 1 rfl) ?_
          refine m_get (ci := 2) (C := RX2) (T := TX2) (n := 5) (v := .ref b9) hx hb hts inX2_ hown hK rfl h1 1 (by decide) (hts _ (by decide +kernel)) rfl dX2_sharingWith_30 ?_
          refine m_alen (v := 50) (ty := _) hx hb hK 1 h2 rfl (by first | rfl | decide) dX2_sharingWith_33 ?_
          refine lv_icmp_ge (tgt := 47) hx hb dX2_sharingWith_34 (by decide) (fun c34 => ?_) (fun c34 => ?_)
          · exact absurd (le_le (a := 50) c34 (by omega) (by omega)) (by omega)
          · refine lv_lload_n hx hb dX2_sharingWith_37 rfl (lv_at hl 3 rfl) ?_
            refine lv_aload_n hx hb dX2_sharingWith_38 rfl (lv_at hl 1 rfl) ?_
            refine m_get (ci := 2) (C := RX2) (T := TX2) (n := 5) (v := .ref b9) hx hb hts inX2_ hown hK rfl h1 1 (by decide) (hts _ (by decide +kernel)) rfl dX2_sharingWith_39 ?_
            refine lv_iload hx hb dX2_sharingWith_42 (lv_at hl 0 rfl) ?_
            refine m_lald hx hb hK h2 (vp_in_nI (by omega) (by decide)) dX2_sharingWith_44 ?_
            refine m_topl (show hv (nI (wd i)).toNatClampNeg = hv (wd i) from by rw [nI_clamp (by omega)]) ?_
            refine lv_lor hx hb dX2_sharingWith_45 ?_
            refine m_topl (show (shw hv wd i ||| (hv (wd i))) = shw hv wd (i + 1) from rfl) ?_
            refine lv_lstore_n (lv' := [(2, .long (shw hv wd (i + 1))), (5, .int (nI (wd i))), (0, .ref a), (1, .ref ra), (4, .int (nI i))]) hx hb dX2_sharingWith_46 rfl hl (by decide) rfl (fun ls hl => ?_)
            refine lv_iinc (v := nI (i + 1)) (lv' := [(4, .int (nI (i + 1))), (2, .long (shw hv wd (i + 1))), (5, .int (nI (wd i))), (0, .ref a), (1, .ref ra)]) hx hb dX2_sharingWith_47 hl (k := 4) rfl (nI_1 _) (by decide) rfl (fun ls hl => ?_)
            refine lv_goto (tgt := 5) hx hb dX2_sharingWith_50 (by decide) ?_
            exact ih5 (i + 1) (by omega) (by omega) _ hS ls (lv_sub hl [3, 4, 1, 0] rfl)
  exact L5 _ 0 (Nat.lt_succ_self _) (Nat.zero_le _) _ hS ls (lv_sub hl [2, 3, 1, 0] rfl)
theorem tie_0 {L b o q : Int32} (h : ¬ L = b) : (if L = b ∧ (¬ o = 0 ∨ q = 0) then (1 : Int32) else 0) = 0 := if_neg (fun z => h z.1)
theorem tie_1 {L b o q : Int32} (h : L = b) (h2 : ¬ o = 0) : (if L = b ∧ (¬ o = 0 ∨ q = 0) then (1 : Int32) else 0) = 1 := if_pos ⟨h, Or.inl h2⟩
theorem tie_2 {L b o q : Int32} (h : o = 0) (h2 : ¬ q = 0) : (if L = b ∧ (¬ o = 0 ∨ q = 0) then (1 : Int32) else 0) = 0 := if_neg (fun z => z.2.elim (fun y => y h) h2)
theorem tie_3 {L b o q : Int32} (h : L = b) (h2 : q = 0) : (if L = b ∧ (¬ o = 0 ∨ q = 0) then (1 : Int32) else 0) = 1 := if_pos ⟨h, Or.inr h2⟩
def inD (nd : Nat) (du : Nat → Nat) (i : Nat) : Bool := (List.range nd).any (fun j => nI (du j) == nI i)
/-- the sentences that are passed over -/
def skD (am : Int64) (nd : Nat) (du : Nat → Nat) (i : Nat) : Bool := (lg_cmp ((am >>> ((nI i).toInt64 &&& 63)) &&& 1) 0 == 0) || inD nd du i
/-- the best one of the first i: its number, its likeness, whether it is the client's own -/
def bst (sk : Nat → Bool) (L ow : Nat → Int32) (le : Int32) : Nat → Int32 × Int32 × Int32
  | 0 => (-1, 0, 0)
  | i + 1 => if sk i = true then bst sk L ow le i else if ¬ L i < le ∧ ((bst sk L ow le i).2.1 < L i ∨ (L i = (bst sk L ow le i).2.1 ∧ (¬ ow i = 0 ∨ (bst sk L ow le i).2.2 = 0))) then (nI i, L i, ow i) else bst sk L ow le i
theorem bst_s {sk : Nat → Bool} {L ow : Nat → Int32} {le : Int32} {i : Nat} (h : sk i = true) : bst sk L ow le (i + 1) = bst sk L ow le i := if_pos h
theorem bst_t {sk : Nat → Bool} {L ow : Nat → Int32} {le : Int32} {i : Nat} (h : sk i = false) (h1 : ¬ L i < le) (h2 : (bst sk L ow le i).2.1 < L i ∨ ¬ (if L i = (bst sk L ow le i).2.1 ∧ (¬ ow i = 0 ∨ (bst sk L ow le i).2.2 = 0) then (1 : Int32) else 0) = 0) : bst sk L ow le (i + 1) = (nI i, L i, ow i) := by
  show (if _ then _ else _) = _
  rw [if_neg (by rw [h]; decide), if_pos]
  refine ⟨h1, h2.imp id (fun q => ?_)⟩
  by_cases e : L i = (bst sk L ow le i).2.1 ∧ (¬ ow i = 0 ∨ (bst sk L ow le i).2.2 = 0)
  · exact e
  · rw [if_neg e] at q; exact absurd rfl q
theorem bst_n {sk : Nat → Bool} {L ow : Nat → Int32} {le : Int32} {i : Nat} (h : sk i = false) (h2 : L i < le ∨ (¬ (bst sk L ow le i).2.1 < L i ∧ (if L i = (bst sk L ow le i).2.1 ∧ (¬ ow i = 0 ∨ (bst sk L ow le i).2.2 = 0) then (1 : Int32) else 0) = 0)) : bst sk L ow le (i + 1) = bst sk L ow le i := by
  show (if _ then _ else _) = _
  rw [if_neg (by rw [h]; decide), if_neg]
  rintro ⟨q1, q2⟩
  rcases h2 with h2 | ⟨h2, h3⟩
  · exact q1 h2
  · rcases q2 with q2 | q2
    · exact h2 q2
    · rw [if_pos q2] at h3; exact absurd h3 (by decide)
theorem skD_1 {am : Int64} {nd : Nat} {du : Nat → Nat} {i : Nat} (h : lg_cmp ((am >>> ((nI i).toInt64 &&& 63)) &&& 1) 0 = 0) : skD am nd du i = true := by simp [skD, h]
theorem skD_2 {am : Int64} {nd : Nat} {du : Nat → Nat} {i : Nat} {r : Int32} (h : (r = 1 ∧ ∃ j, j < nd ∧ (fun j => nI (du j)) j = nI i) ∨ (r = 0 ∧ ∀ j, j < nd → (fun j => nI (du j)) j ≠ nI i)) (hr : ¬ r = 0) : skD am nd du i = true := by
  rcases h with ⟨_, j, h1, h2⟩ | ⟨h1, _⟩
  · have : inD nd du i = true := List.any_eq_true.mpr ⟨j, List.mem_range.mpr h1, by simpa using h2⟩
    simp [skD, this]
  · exact absurd h1 hr
theorem skD_0 {am : Int64} {nd : Nat} {du : Nat → Nat} {i : Nat} {r : Int32} (h0 : ¬ lg_cmp ((am >>> ((nI i).toInt64 &&& 63)) &&& 1) 0 = 0) (h : (r = 1 ∧ ∃ j, j < nd ∧ (fun j => nI (du j)) j = nI i) ∨ (r = 0 ∧ ∀ j, j < nd → (fun j => nI (du j)) j ≠ nI i)) (hr : r = 0) : skD am nd du i = false := by
  rcases h with ⟨h1, _⟩ | ⟨_, h1⟩
  · rw [h1] at hr; exact absurd hr (by decide)
  · have : inD nd du i = false := by
      rw [inD, List.any_eq_false]
      intro j hj
      simpa using h1 j (List.mem_range.mp hj)
    simp [skD, this, h0]
set_option maxHeartbeats 4000000 in
set_option maxRecDepth 100000 in
/-- Memory.bestAmong -/
theorem k_X2_bestAmong (l : Launch) (D : va_G) (ac : Nat → ClassId) (H : Heap) (A : Nat → Prop) (N : Nat) (adr : Nat → Nat) (w : Nat → va_E) (hM : MW D A N adr w H) (no : Nat) (oc on_ : Nat → Nat) (owd : Nat → Nat → Nat) (obf : Nat → Nat → Int32) (ns : Nat) (so : Nat → Nat) (hv : Nat → Int64) (nd : Nat) (du : Nat → Nat) (T : Nat → Int32) (hN : 22 + 6 * no ≤ N) (hS1 : SenF ac adr w no oc on_ owd obf) (hm : MemW ac adr w ns so hv nd du T) (hso : ∀ i, i < ns → so i < no) (ra va n : Nat) (f : Nat → Int32) (hra : ra < N) (hva : va < N) (hrn : (ra < 7 ∨ 13 < ra) ∧ (va < 7 ∨ 13 < va)) (hn0 : 0 < n) (hn : n ≤ 8) (g1 : w ra = .inr (4, [.ref (adr va), .int (nI n)])) (g2 : w va = .inl (ac 0, 8, .inl f)) (am : Int64) (cl le : Int32) : WRi l yX2_bestAmong wsX2_bestAmong ({ frames := 4, cells := 0, slots := 0, locals := 98 }) [.ref (adr 7), .long am, .ref (adr ra), .int cl, .int le] D ac H A N adr (fun r w1 => r = (bst (skD am nd du) (fun i => lkO n f on_ owd (so i)) (fun i => if nI (oc (so i)) = cl then (1 : Int32) else 0) le ns).1 ∧ ∃ T1 : Nat → Int32, w1 = va_up w 13 (.inl (ac 0, 81, .inl T1))) := by
  refine Met.ofW (cc := cX2_bestAmong) (maxL := 14) (ret := (some .int)) (by decide) rfl ?_
  intro p e s m args below meth c s₁ B hml hv
  obtain ⟨hargs, hsz, hK⟩ := hv
  have hx := B.exec
  have hb := B.bytes
  have hr := B.returns
  have hts := atoms_spec (ws := wsX2_bestAmong) B.pre
  have hown : s.vm.findClass RX2 = some m.cls := findClass_of_methodNamed B.named
  have hlocks := B.notSynchronized
  subst hsz
  have inX2_ : ∀ w ∈ wsX20, w ∈ wsX2_bestAmong := by decide +kernel
  have inX6_ : ∀ w ∈ wsX60, w ∈ wsX2_bestAmong := by decide +kernel
  have hS : va_S A s.heap s.heap [] := va_S.rf
  have hl := lv_entry ([.ref (adr 7), .long am, .ref (adr ra), .int cl, .int le]) (n := 14) (Nat.le_of_ble_eq_true rfl)
  have hen := lg_entry_eq m [.ref (adr 7), .long am, .ref (adr ra), .int cl, .int le] 14
  rw [← hargs] at hen
  rw [hen]
  generalize (lg_sl ([.ref (adr 7), .long am, .ref (adr ra), .int cl, .int le]) ++ List.replicate (14 - (lg_sl ([.ref (adr 7), .long am, .ref (adr ra), .int cl, .int le])).length) Slot.unset).toArray = ls at hl ⊢
  have hl : lv_has ls 14 [(0, .ref (adr 7)), (1, .long am), (3, .ref (adr ra)), (4, .int cl), (5, .int le)] := hl
  obtain ⟨Q0, hQ0⟩ : ∃ z, z = MQ below (va_Qi (fun r w1 => r = (bst (skD am nd du) (fun i => lkO n f on_ owd (so i)) (fun i => if nI (oc (so i)) = cl then (1 : Int32) else 0) le ns).1 ∧ ∃ T1 : Nat → Int32, w1 = va_up w 13 (.inl (ac 0, 81, .inl T1))) (fun c t => MW D A N adr c t.heap) A) args s 0 0 A := ⟨_, rfl⟩
  rw [← hQ0]
  obtain ⟨hns, hnd⟩ := hm.2.2.2.2.2.2.2
  refine lv_iconst (v := (-1)) hx hb dX2_bestAmong_0 (by decide) ?_
  refine lv_istore (lv' := [(6, .int (-1)), (0, .ref (adr 7)), (1, .long am), (3, .ref (adr ra)), (4, .int cl), (5, .int le)]) hx hb dX2_bestAmong_1 hl (by decide) rfl (fun ls hl => ?_)
  refine lv_iconst (v := 0) hx hb dX2_bestAmong_3 (by decide) ?_
  refine lv_istore (lv' := [(7, .int 0), (6, .int (-1)), (0, .ref (adr 7)), (1, .long am), (3, .ref (adr ra)), (4, .int cl), (5, .int le)]) hx hb dX2_bestAmong_4 hl (by decide) rfl (fun ls hl => ?_)
  refine lv_iconst (v := 0) hx hb dX2_bestAmong_6 (by decide) ?_
  refine lv_istore (lv' := [(8, .int 0), (7, .int 0), (6, .int (-1)), (0, .ref (adr 7)), (1, .long am), (3, .ref (adr ra)), (4, .int cl), (5, .int le)]) hx hb dX2_bestAmong_7 hl (by decide) rfl (fun ls hl => ?_)
  refine lv_iconst (v := 0) hx hb dX2_bestAmong_9 (by decide) ?_
  refine lv_istore (lv' := [(9, .int 0), (8, .int 0), (7, .int 0), (6, .int (-1)), (0, .ref (adr 7)), (1, .long am), (3, .ref (adr ra)), (4, .int cl), (5, .int le)]) hx hb dX2_bestAmong_10 hl (by decide) rfl (fun ls hl => ?_)
  have L12 : ∀ (k9 : Nat) (i : Nat) (Tz : Nat → Int32) (hk : ns - i < k9) (hi9 : i ≤ ns) (wz : Nat → va_E) (z0wz : wz 7 = .inr (2, [.ref (adr 8), .ref (adr 9), .ref (adr 10), .ref (adr 12), .int (nI ns)])) (z1wz : wz 8 = .inl (ac 4, 40, .inr (.inr (.inr (.inr (sref adr ns so)))))) (z2wz : wz 10 = .inr (1, [.ref (adr 11), .int (nI nd)])) (z3wz : wz 11 = .inl (ac 0, 60, .inl (fun j => nI (du j)))) (z4wz : wz 12 = .inr (0, [.ref (adr 13)])) (z5wz : wz 13 = .inl (ac 0, 81, .inl Tz)) (z6wz : wz ra = .inr (4, [.ref (adr va), .int (nI n)])) (z7wz : wz va = .inl (ac 0, 8, .inl f)) (zSwz : SenF ac adr wz no oc on_ owd obf) (zrwz : ∀ q, q ≠ 13 → wz q = w q) (H : Heap) (locs : List Loc) (hM : MW D A N adr wz H) (hS : va_S A s.heap H locs) (ls : Array Slot) (hl : lv_has ls 14 [(0, .ref (adr 7)), (1, .long am), (3, .ref (adr ra)), (4, .int cl), (5, .int le), (6, .int ((bst (skD am nd du) (fun i => lkO n f on_ owd (so i)) (fun i => if nI (oc (so i)) = cl then (1 : Int32) else 0) le i).1)), (7, .int ((bst (skD am nd du) (fun i => lkO n f on_ owd (so i)) (fun i => if nI (oc (so i)) = cl then (1 : Int32) else 0) le i).2.1)), (8, .int ((bst (skD am nd du) (fun i => lkO n f on_ owd (so i)) (fun i => if nI (oc (so i)) = cl then (1 : Int32) else 0) le i).2.2)), (9, .int (nI i))]), W p l e (headSpec wsX2_bestAmong ({ frames := 4, cells := 0, slots := 0, locals := 98 })).room s m args below meth c H locs 0 0 Q0 (F0 m 12 ls []) := by
    intro k9
    induction k9 with
    | zero => intro i Tz hk hi9 wz z0wz z1wz z2wz z3wz z4wz z5wz z6wz z7wz zSwz zrwz H locs hM hS ls hl; exact absurd hk (Nat.not_lt_zero _)
    | succ k9 ih12 =>
      intro i Tz hk hi9 wz z0wz z1wz z2wz z3wz z4wz z5wz z6wz z7wz zSwz zrwz H locs hM hS ls hl
      refine lv_iload hx hb dX2_bestAmong_12 (lv_at hl 8 rfl) ?_
      refine lv_aload_n hx hb dX2_bestAmong_14 rfl (lv_at hl 0 rfl) ?_
      refine m_get (ci := 2) (C := RX2) (T := TX2) (n := 5) (v := .int (nI ns)) hx hb hts inX2_ hown hK rfl (hM.cel (by omega) z0wz) 4 (by decide) (hts _ (by decide +kernel)) rfl dX2_bestAmong_15 ?_
      refine lv_icmp_ge (tgt := 153) hx hb dX2_bestAmong_18 (by decide) (fun c18 => ?_) (fun c18 => ?_)
      · have hin : i = ns := by have := le_le (b := i) c18 (by omega) (by omega); omega
        refine lv_iload hx hb dX2_bestAmong_153 (lv_at hl 5 rfl) ?_
        rw [hQ0]
        exact e_wi hx hb hlocks hr dX2_bestAmong_155 hM hS (⟨by rw [hin], Tz, va_upeq z5wz zrwz⟩)
      · have hin : i < ns := nle_lt c18 (by omega) (by omega)
        refine lv_aload_n hx hb dX2_bestAmong_21 rfl (lv_at hl 0 rfl) ?_
        refine lv_iload hx hb dX2_bestAmong_22 (lv_at hl 8 rfl) ?_
        refine r_callq (va_runV (As := [.int (nI i)]) (rest := []) ⟨hx, hb, hml, hown, hts⟩ (k_X2_sentenceAt l D ac _ (adr 7) (adr 8) (sref adr ns so) (.ref (adr 9)) (.ref (adr 10)) (.ref (adr 12)) (.int (nI ns)) (hM.cel (by omega) z0wz) (hM.cel (by omega) z1wz) (nI i)) (cwV 1 hts gX2_bestAmong_X2_sentenceAt rfl rfl rfl (by decide +kernel) ⟨Nat.le_of_ble_eq_true rfl, Nat.le_of_ble_eq_true rfl⟩) (pV hK (ci := 2) rfl (hM.cel (by omega) z0wz)) rfl rfl hl.1 rfl (lv_room (Nat.le_of_ble_eq_true rfl)) dX2_bestAmong_24 ⟨Nat.le_of_ble_eq_true rfl, Nat.le_of_ble_eq_true rfl⟩) hS (fun rv_1 locs hrv_1 hS => ?_)
        subst hrv_1
        refine m_topq (show (ix (nI i) 40).bind (sref adr ns so) = (ix (nI i) ns).map (fun i => adr (23 + 6 * so i)) from sat_eq (by omega)) ?_
        rcases hi : ix (nI i) ns with _ | jhi
        · exact absurd (ix_nI hin (by omega)) (by rw [hi]; exact fun h => nomatch h)
        · obtain ⟨hj_, he_⟩ := ix_of hi (by omega)
          have hji : i = jhi := (nI_eq (by omega) (by omega)).mp he_
          subst hji
          have ho_ : so i < no := hso i hj_
          have hsn_ := zSwz (so i) ho_
          obtain ⟨hn0_, hn8_, hcl_, hwd_⟩ := hsn_.2.2.2.2.2
          refine m_topr ?_
          refine lv_astore (lv' := [(10, .ref (adr (23 + 6 * so i))), (0, .ref (adr 7)), (1, .long am), (3, .ref (adr ra)), (4, .int cl), (5, .int le), (6, .int ((bst (skD am nd du) (fun i => lkO n f on_ owd (so i)) (fun i => if nI (oc (so i)) = cl then (1 : Int32) else 0) le i).1)), (7, .int ((bst (skD am nd du) (fun i => lkO n f on_ owd (so i)) (fun i => if nI (oc (so i)) = cl then (1 : Int32) else 0) le i).2.1)), (8, .int ((bst (skD am nd du) (fun i => lkO n f on_ owd (so i)) (fun i => if nI (oc (so i)) = cl then (1 : Int32) else 0) le i).2.2)), (9, .int (nI i))]) hx hb dX2_bestAmong_27 hl (by decide) rfl (fun ls hl => ?_)
          refine lv_aload hx hb dX2_bestAmong_29 (lv_at hl 0 rfl) ?_
          refine lv_ifnull hx hb dX2_bestAmong_31 ?_
          refine lv_lload_n hx hb dX2_bestAmong_34 rfl (lv_at hl 2 rfl) ?_
          refine lv_iload hx hb dX2_bestAmong_35 (lv_at hl 9 rfl) ?_
          refine lv_lshr (v := am >>> ((nI i).toInt64 &&& 63)) hx hb dX2_bestAmong_37 rfl ?_
          refine lv_lconst (v := 1) hx hb dX2_bestAmong_38 (by decide) ?_
          refine lv_land hx hb dX2_bestAmong_39 ?_
          refine lv_lconst (v := 0) hx hb dX2_bestAmong_40 (by decide) ?_
          refine W.lcmp hx hb dX2_bestAmong_41 ?_
          refine lv_if_eq (tgt := 147) hx hb dX2_bestAmong_42 (by decide) (fun c42 => ?_) (fun c42 => ?_)
          · have eb_ : bst (skD am nd du) (fun i => lkO n f on_ owd (so i)) (fun i => if nI (oc (so i)) = cl then (1 : Int32) else 0) le (i + 1) = ((bst (skD am nd du) (fun i => lkO n f on_ owd (so i)) (fun i => if nI (oc (so i)) = cl then (1 : Int32) else 0) le i).1, (bst (skD am nd du) (fun i => lkO n f on_ owd (so i)) (fun i => if nI (oc (so i)) = cl then (1 : Int32) else 0) le i).2.1, (bst (skD am nd du) (fun i => lkO n f on_ owd (so i)) (fun i => if nI (oc (so i)) = cl then (1 : Int32) else 0) le i).2.2) := bst_s (skD_1 c42)
            have hl : lv_has ls 14 [(10, .ref (adr (23 + 6 * so i))), (0, .ref (adr 7)), (1, .long am), (3, .ref (adr ra)), (4, .int cl), (5, .int le), (6, .int ((bst (skD am nd du) (fun i => lkO n f on_ owd (so i)) (fun i => if nI (oc (so i)) = cl then (1 : Int32) else 0) le (i + 1)).1)), (7, .int ((bst (skD am nd du) (fun i => lkO n f on_ owd (so i)) (fun i => if nI (oc (so i)) = cl then (1 : Int32) else 0) le (i + 1)).2.1)), (8, .int ((bst (skD am nd du) (fun i => lkO n f on_ owd (so i)) (fun i => if nI (oc (so i)) = cl then (1 : Int32) else 0) le (i + 1)).2.2)), (9, .int (nI i))] := by rw [eb_]; exact hl
            refine lv_iinc (v := nI (i + 1)) (lv' := [(9, .int (nI (i + 1))), (10, .ref (adr (23 + 6 * so i))), (0, .ref (adr 7)), (1, .long am), (3, .ref (adr ra)), (4, .int cl), (5, .int le), (6, .int ((bst (skD am nd du) (fun i => lkO n f on_ owd (so i)) (fun i => if nI (oc (so i)) = cl then (1 : Int32) else 0) le (i + 1)).1)), (7, .int ((bst (skD am nd du) (fun i => lkO n f on_ owd (so i)) (fun i => if nI (oc (so i)) = cl then (1 : Int32) else 0) le (i + 1)).2.1)), (8, .int ((bst (skD am nd du) (fun i => lkO n f on_ owd (so i)) (fun i => if nI (oc (so i)) = cl then (1 : Int32) else 0) le (i + 1)).2.2))]) hx hb dX2_bestAmong_147 hl (k := 9) rfl (nI_1 _) (by decide) rfl (fun ls hl => ?_)
            refine lv_goto (tgt := 12) hx hb dX2_bestAmong_150 (by decide) ?_
            exact ih12 (i + 1) Tz (by omega) (by omega) wz z0wz z1wz z2wz z3wz z4wz z5wz z6wz z7wz zSwz zrwz _ _ hM hS ls (lv_sub hl [2, 3, 4, 5, 6, 7, 8, 9, 0] rfl)
          · refine lv_aload_n hx hb dX2_bestAmong_45 rfl (lv_at hl 1 rfl) ?_
            refine m_get (ci := 2) (C := RX2) (T := TX2) (n := 5) (v := .ref (adr 10)) hx hb hts inX2_ hown hK rfl (hM.cel (by omega) z0wz) 2 (by decide) (hts _ (by decide +kernel)) rfl dX2_bestAmong_46 ?_
            refine lv_iload hx hb dX2_bestAmong_49 (lv_at hl 9 rfl) ?_
            refine r_calli (va_runV (As := [.int (nI i)]) (rest := []) ⟨hx, hb, hml, hown, hts⟩ (k_X1_holds l D ac _ (adr 10) (adr 11) nd (fun j => nI (du j)) (hM.cel (by omega) z2wz) (hM.cel (by omega) z3wz) (by omega) (nI i)) (cwV 1 hts gX2_bestAmong_X1_holds rfl rfl rfl (by decide +kernel) ⟨Nat.le_of_ble_eq_true rfl, Nat.le_of_ble_eq_true rfl⟩) (pV hK (ci := 1) rfl (hM.cel (by omega) z2wz)) rfl rfl hl.1 rfl (lv_room (Nat.le_of_ble_eq_true rfl)) dX2_bestAmong_51 ⟨Nat.le_of_ble_eq_true rfl, Nat.le_of_ble_eq_true rfl⟩) hS (fun rv_2 locs hrv_2 hS => ?_)
            refine lv_if_eq (tgt := 60) hx hb dX2_bestAmong_54 (by decide) (fun c54 => ?_) (fun c54 => ?_)
            · refine lv_aload_n hx hb dX2_bestAmong_60 rfl (lv_at hl 1 rfl) ?_
              refine m_get (ci := 2) (C := RX2) (T := TX2) (n := 5) (v := .ref (adr 12)) hx hb hts inX2_ hown hK rfl (hM.cel (by omega) z0wz) 3 (by decide) (hts _ (by decide +kernel)) rfl dX2_bestAmong_61 ?_
              refine lv_aload_n hx hb dX2_bestAmong_64 rfl (lv_at hl 3 rfl) ?_
              refine lv_aload hx hb dX2_bestAmong_65 (lv_at hl 0 rfl) ?_
              refine m_getN (host := RX7) (ci := 6) (C := RX6) (T := TX6) (n := 3) (v := .ref (adr (23 + 6 * so i + 1))) hx hb hts inX6_ hown hK rfl (hM.cel (by have := ho_; omega) hsn_.1) 1 (by decide) 17 rfl rfl dX2_bestAmong_67 ?_
              refine w_calli (va_runV (As := [.ref (adr ra), .ref (adr (23 + 6 * so i + 1))]) (rest := []) ⟨hx, hb, hml, hown, hts⟩ (k_X0_likenessOf l D ac _ A N adr wz hM 12 13 Tz (by omega) (by omega) (by omega) z4wz z5wz ra va (23 + 6 * so i + 1) (23 + 6 * so i + 2) n ((on_ (so i))) f (fun j => nI (owd (so i) j)) hra hva (by have := ho_; omega) (by have := ho_; omega) (by omega) (by omega) (by omega) z6wz z7wz hsn_.2.1 hsn_.2.2.1 (Nat.lt_of_lt_of_le hn0 (Nat.le_max_left _ _))) (cwV 2 hts gX2_bestAmong_X0_likenessOf rfl rfl rfl (by decide +kernel) ⟨Nat.le_of_ble_eq_true rfl, Nat.le_of_ble_eq_true rfl⟩) (pV hK (ci := 0) rfl (hM.cel (by omega) z4wz)) rfl rfl hl.1 rfl (lv_room (Nat.le_of_ble_eq_true rfl)) dX2_bestAmong_70 ⟨Nat.le_of_ble_eq_true rfl, Nat.le_of_ble_eq_true rfl⟩) hS (fun rv_3 w_4 H locs hw_4 hM hS => ?_)
              obtain ⟨hrv_3, T_5, hw_4, eT_5⟩ := hw_4
              have h_6 : w_4 7 = .inr (2, [.ref (adr 8), .ref (adr 9), .ref (adr 10), .ref (adr 12), .int (nI ns)]) := by rw [hw_4, va_up_ne _ _ (by omega)]; exact z0wz
              have h_7 : w_4 8 = .inl (ac 4, 40, .inr (.inr (.inr (.inr (sref adr ns so))))) := by rw [hw_4, va_up_ne _ _ (by omega)]; exact z1wz
              have h_8 : w_4 10 = .inr (1, [.ref (adr 11), .int (nI nd)]) := by rw [hw_4, va_up_ne _ _ (by omega)]; exact z2wz
              have h_9 : w_4 11 = .inl (ac 0, 60, .inl (fun j => nI (du j))) := by rw [hw_4, va_up_ne _ _ (by omega)]; exact z3wz
              have h_10 : w_4 12 = .inr (0, [.ref (adr 13)]) := by rw [hw_4, va_up_ne _ _ (by omega)]; exact z4wz
              have h_11 : w_4 13 = .inl (ac 0, 81, .inl T_5) := by rw [hw_4]; exact va_up_self _ _ _
              have h_12 : w_4 ra = .inr (4, [.ref (adr va), .int (nI n)]) := by rw [hw_4, va_up_ne _ _ (by omega)]; exact z6wz
              have h_13 : w_4 va = .inl (ac 0, 8, .inl f) := by rw [hw_4, va_up_ne _ _ (by omega)]; exact z7wz
              have h_14 : w_4 (23 + 6 * so i) = .inr (6, [.int (nI (oc (so i))), .ref (adr (23 + 6 * so i + 1)), .ref (adr (23 + 6 * so i + 3))]) := by rw [hw_4, va_up_ne _ _ (by omega)]; exact hsn_.1
              have h_15 : w_4 (23 + 6 * so i + 1) = .inr (4, [.ref (adr (23 + 6 * so i + 2)), .int (nI (on_ (so i)))]) := by rw [hw_4, va_up_ne _ _ (by omega)]; exact hsn_.2.1
              have h_16 : w_4 (23 + 6 * so i + 2) = .inl (ac 0, 8, .inl (fun j => nI (owd (so i) j))) := by rw [hw_4, va_up_ne _ _ (by omega)]; exact hsn_.2.2.1
              have h_17 : w_4 (23 + 6 * so i + 3) = .inr (4, [.ref (adr (23 + 6 * so i + 4)), .int (nI (on_ (so i)))]) := by rw [hw_4, va_up_ne _ _ (by omega)]; exact hsn_.2.2.2.1
              have h_18 : w_4 (23 + 6 * so i + 4) = .inl (ac 0, 8, .inl (obf (so i))) := by rw [hw_4, va_up_ne _ _ (by omega)]; exact hsn_.2.2.2.2.1
              have h_19 : SenF ac adr w_4 no oc on_ owd obf := by rw [hw_4]; exact (SenF.up (by omega) zSwz)
              subst hrv_3
              refine lv_istore (lv' := [(11, .int (lik (max n ((on_ (so i)))) (ed f (fun j => nI (owd (so i) j)) n ((on_ (so i)))))), (10, .ref (adr (23 + 6 * so i))), (0, .ref (adr 7)), (1, .long am), (3, .ref (adr ra)), (4, .int cl), (5, .int le), (6, .int ((bst (skD am nd du) (fun i => lkO n f on_ owd (so i)) (fun i => if nI (oc (so i)) = cl then (1 : Int32) else 0) le i).1)), (7, .int ((bst (skD am nd du) (fun i => lkO n f on_ owd (so i)) (fun i => if nI (oc (so i)) = cl then (1 : Int32) else 0) le i).2.1)), (8, .int ((bst (skD am nd du) (fun i => lkO n f on_ owd (so i)) (fun i => if nI (oc (so i)) = cl then (1 : Int32) else 0) le i).2.2)), (9, .int (nI i))]) hx hb dX2_bestAmong_73 hl (by decide) rfl (fun ls hl => ?_)
              refine lv_aload hx hb dX2_bestAmong_75 (lv_at hl 1 rfl) ?_
              refine m_getN (host := RX7) (ci := 6) (C := RX6) (T := TX6) (n := 3) (v := .int (nI (oc (so i)))) hx hb hts inX6_ hown hK rfl (hM.cel (by have := ho_; omega) h_14) 0 (by decide) 15 rfl rfl dX2_bestAmong_77 ?_
              refine lv_iload hx hb dX2_bestAmong_80 (lv_at hl 5 rfl) ?_
              have J90 : ∀ (ls : Array Slot), lv_has ls 14 [(11, .int (lik (max n ((on_ (so i)))) (ed f (fun j => nI (owd (so i) j)) n ((on_ (so i)))))), (10, .ref (adr (23 + 6 * so i))), (0, .ref (adr 7)), (1, .long am), (3, .ref (adr ra)), (4, .int cl), (5, .int le), (6, .int ((bst (skD am nd du) (fun i => lkO n f on_ owd (so i)) (fun i => if nI (oc (so i)) = cl then (1 : Int32) else 0) le i).1)), (7, .int ((bst (skD am nd du) (fun i => lkO n f on_ owd (so i)) (fun i => if nI (oc (so i)) = cl then (1 : Int32) else 0) le i).2.1)), (8, .int ((bst (skD am nd du) (fun i => lkO n f on_ owd (so i)) (fun i => if nI (oc (so i)) = cl then (1 : Int32) else 0) le i).2.2)), (9, .int (nI i))] → W p l e (headSpec wsX2_bestAmong ({ frames := 4, cells := 0, slots := 0, locals := 98 })).room s m args below meth c H locs 0 0 Q0 (F0 m 90 ls [.int (if nI (oc (so i)) = cl then (1 : Int32) else 0)]) := by
                intro ls hl
                refine lv_istore (lv' := [(12, .int (if nI (oc (so i)) = cl then (1 : Int32) else 0)), (11, .int (lik (max n ((on_ (so i)))) (ed f (fun j => nI (owd (so i) j)) n ((on_ (so i)))))), (10, .ref (adr (23 + 6 * so i))), (0, .ref (adr 7)), (1, .long am), (3, .ref (adr ra)), (4, .int cl), (5, .int le), (6, .int ((bst (skD am nd du) (fun i => lkO n f on_ owd (so i)) (fun i => if nI (oc (so i)) = cl then (1 : Int32) else 0) le i).1)), (7, .int ((bst (skD am nd du) (fun i => lkO n f on_ owd (so i)) (fun i => if nI (oc (so i)) = cl then (1 : Int32) else 0) le i).2.1)), (8, .int ((bst (skD am nd du) (fun i => lkO n f on_ owd (so i)) (fun i => if nI (oc (so i)) = cl then (1 : Int32) else 0) le i).2.2)), (9, .int (nI i))]) hx hb dX2_bestAmong_90 hl (by decide) rfl (fun ls hl => ?_)
                refine lv_iload hx hb dX2_bestAmong_92 (lv_at hl 1 rfl) ?_
                refine lv_iload hx hb dX2_bestAmong_94 (lv_at hl 9 rfl) ?_
                have J114 : ∀ (ls : Array Slot), lv_has ls 14 [(12, .int (if nI (oc (so i)) = cl then (1 : Int32) else 0)), (11, .int (lik (max n ((on_ (so i)))) (ed f (fun j => nI (owd (so i) j)) n ((on_ (so i)))))), (10, .ref (adr (23 + 6 * so i))), (0, .ref (adr 7)), (1, .long am), (3, .ref (adr ra)), (4, .int cl), (5, .int le), (6, .int ((bst (skD am nd du) (fun i => lkO n f on_ owd (so i)) (fun i => if nI (oc (so i)) = cl then (1 : Int32) else 0) le i).1)), (7, .int ((bst (skD am nd du) (fun i => lkO n f on_ owd (so i)) (fun i => if nI (oc (so i)) = cl then (1 : Int32) else 0) le i).2.1)), (8, .int ((bst (skD am nd du) (fun i => lkO n f on_ owd (so i)) (fun i => if nI (oc (so i)) = cl then (1 : Int32) else 0) le i).2.2)), (9, .int (nI i))] → W p l e (headSpec wsX2_bestAmong ({ frames := 4, cells := 0, slots := 0, locals := 98 })).room s m args below meth c H locs 0 0 Q0 (F0 m 114 ls [.int (if lik (max n (on_ (so i))) (ed f (fun j => nI (owd (so i) j)) n (on_ (so i))) = (bst (skD am nd du) (fun i => lkO n f on_ owd (so i)) (fun i => if nI (oc (so i)) = cl then (1 : Int32) else 0) le i).2.1 ∧ (¬ (if nI (oc (so i)) = cl then (1 : Int32) else 0) = 0 ∨ (bst (skD am nd du) (fun i => lkO n f on_ owd (so i)) (fun i => if nI (oc (so i)) = cl then (1 : Int32) else 0) le i).2.2 = 0) then 1 else 0)]) := by
                  intro ls hl
                  refine lv_istore (lv' := [(13, .int (if lik (max n (on_ (so i))) (ed f (fun j => nI (owd (so i) j)) n (on_ (so i))) = (bst (skD am nd du) (fun i => lkO n f on_ owd (so i)) (fun i => if nI (oc (so i)) = cl then (1 : Int32) else 0) le i).2.1 ∧ (¬ (if nI (oc (so i)) = cl then (1 : Int32) else 0) = 0 ∨ (bst (skD am nd du) (fun i => lkO n f on_ owd (so i)) (fun i => if nI (oc (so i)) = cl then (1 : Int32) else 0) le i).2.2 = 0) then 1 else 0)), (12, .int (if nI (oc (so i)) = cl then (1 : Int32) else 0)), (11, .int (lik (max n ((on_ (so i)))) (ed f (fun j => nI (owd (so i) j)) n ((on_ (so i)))))), (10, .ref (adr (23 + 6 * so i))), (0, .ref (adr 7)), (1, .long am), (3, .ref (adr ra)), (4, .int cl), (5, .int le), (6, .int ((bst (skD am nd du) (fun i => lkO n f on_ owd (so i)) (fun i => if nI (oc (so i)) = cl then (1 : Int32) else 0) le i).1)), (7, .int ((bst (skD am nd du) (fun i => lkO n f on_ owd (so i)) (fun i => if nI (oc (so i)) = cl then (1 : Int32) else 0) le i).2.1)), (8, .int ((bst (skD am nd du) (fun i => lkO n f on_ owd (so i)) (fun i => if nI (oc (so i)) = cl then (1 : Int32) else 0) le i).2.2)), (9, .int (nI i))]) hx hb dX2_bestAmong_114 hl (by decide) rfl (fun ls hl => ?_)
                  refine lv_iload hx hb dX2_bestAmong_116 (lv_at hl 2 rfl) ?_
                  refine lv_iload hx hb dX2_bestAmong_118 (lv_at hl 8 rfl) ?_
                  refine lv_icmp_lt (tgt := 147) hx hb dX2_bestAmong_120 (by decide) (fun c120 => ?_) (fun c120 => ?_)
                  · have eb_ : bst (skD am nd du) (fun i => lkO n f on_ owd (so i)) (fun i => if nI (oc (so i)) = cl then (1 : Int32) else 0) le (i + 1) = ((bst (skD am nd du) (fun i => lkO n f on_ owd (so i)) (fun i => if nI (oc (so i)) = cl then (1 : Int32) else 0) le i).1, (bst (skD am nd du) (fun i => lkO n f on_ owd (so i)) (fun i => if nI (oc (so i)) = cl then (1 : Int32) else 0) le i).2.1, (bst (skD am nd du) (fun i => lkO n f on_ owd (so i)) (fun i => if nI (oc (so i)) = cl then (1 : Int32) else 0) le i).2.2) := bst_n (skD_0 c42 hrv_2 c54) (Or.inl c120)
                    have hl : lv_has ls 14 [(13, .int (if lik (max n (on_ (so i))) (ed f (fun j => nI (owd (so i) j)) n (on_ (so i))) = (bst (skD am nd du) (fun i => lkO n f on_ owd (so i)) (fun i => if nI (oc (so i)) = cl then (1 : Int32) else 0) le i).2.1 ∧ (¬ (if nI (oc (so i)) = cl then (1 : Int32) else 0) = 0 ∨ (bst (skD am nd du) (fun i => lkO n f on_ owd (so i)) (fun i => if nI (oc (so i)) = cl then (1 : Int32) else 0) le i).2.2 = 0) then 1 else 0)), (12, .int (if nI (oc (so i)) = cl then (1 : Int32) else 0)), (11, .int (lik (max n ((on_ (so i)))) (ed f (fun j => nI (owd (so i) j)) n ((on_ (so i)))))), (10, .ref (adr (23 + 6 * so i))), (0, .ref (adr 7)), (1, .long am), (3, .ref (adr ra)), (4, .int cl), (5, .int le), (6, .int ((bst (skD am nd du) (fun i => lkO n f on_ owd (so i)) (fun i => if nI (oc (so i)) = cl then (1 : Int32) else 0) le (i + 1)).1)), (7, .int ((bst (skD am nd du) (fun i => lkO n f on_ owd (so i)) (fun i => if nI (oc (so i)) = cl then (1 : Int32) else 0) le (i + 1)).2.1)), (8, .int ((bst (skD am nd du) (fun i => lkO n f on_ owd (so i)) (fun i => if nI (oc (so i)) = cl then (1 : Int32) else 0) le (i + 1)).2.2)), (9, .int (nI i))] := by rw [eb_]; exact hl
                    refine lv_iinc (v := nI (i + 1)) (lv' := [(9, .int (nI (i + 1))), (13, .int (if lik (max n (on_ (so i))) (ed f (fun j => nI (owd (so i) j)) n (on_ (so i))) = (bst (skD am nd du) (fun i => lkO n f on_ owd (so i)) (fun i => if nI (oc (so i)) = cl then (1 : Int32) else 0) le i).2.1 ∧ (¬ (if nI (oc (so i)) = cl then (1 : Int32) else 0) = 0 ∨ (bst (skD am nd du) (fun i => lkO n f on_ owd (so i)) (fun i => if nI (oc (so i)) = cl then (1 : Int32) else 0) le i).2.2 = 0) then 1 else 0)), (12, .int (if nI (oc (so i)) = cl then (1 : Int32) else 0)), (11, .int (lik (max n ((on_ (so i)))) (ed f (fun j => nI (owd (so i) j)) n ((on_ (so i)))))), (10, .ref (adr (23 + 6 * so i))), (0, .ref (adr 7)), (1, .long am), (3, .ref (adr ra)), (4, .int cl), (5, .int le), (6, .int ((bst (skD am nd du) (fun i => lkO n f on_ owd (so i)) (fun i => if nI (oc (so i)) = cl then (1 : Int32) else 0) le (i + 1)).1)), (7, .int ((bst (skD am nd du) (fun i => lkO n f on_ owd (so i)) (fun i => if nI (oc (so i)) = cl then (1 : Int32) else 0) le (i + 1)).2.1)), (8, .int ((bst (skD am nd du) (fun i => lkO n f on_ owd (so i)) (fun i => if nI (oc (so i)) = cl then (1 : Int32) else 0) le (i + 1)).2.2))]) hx hb dX2_bestAmong_147 hl (k := 12) rfl (nI_1 _) (by decide) rfl (fun ls hl => ?_)
                    refine lv_goto (tgt := 12) hx hb dX2_bestAmong_150 (by decide) ?_
                    exact ih12 (i + 1) T_5 (by omega) (by omega) w_4 h_6 h_7 h_8 h_9 h_10 h_11 h_12 h_13 h_19 (fun q q1 => by rw [hw_4, va_up_ne _ _ q1]; exact zrwz q q1) _ _ hM hS ls (lv_sub hl [5, 6, 7, 8, 9, 10, 11, 12, 0] rfl)
                  · refine lv_iload hx hb dX2_bestAmong_123 (lv_at hl 2 rfl) ?_
                    refine lv_iload hx hb dX2_bestAmong_125 (lv_at hl 10 rfl) ?_
                    refine lv_icmp_gt (tgt := 135) hx hb dX2_bestAmong_127 (by decide) (fun c127 => ?_) (fun c127 => ?_)
                    · refine lv_iload hx hb dX2_bestAmong_135 (lv_at hl 12 rfl) ?_
                      refine lv_istore (lv' := [(6, .int (nI i)), (13, .int (if lik (max n (on_ (so i))) (ed f (fun j => nI (owd (so i) j)) n (on_ (so i))) = (bst (skD am nd du) (fun i => lkO n f on_ owd (so i)) (fun i => if nI (oc (so i)) = cl then (1 : Int32) else 0) le i).2.1 ∧ (¬ (if nI (oc (so i)) = cl then (1 : Int32) else 0) = 0 ∨ (bst (skD am nd du) (fun i => lkO n f on_ owd (so i)) (fun i => if nI (oc (so i)) = cl then (1 : Int32) else 0) le i).2.2 = 0) then 1 else 0)), (12, .int (if nI (oc (so i)) = cl then (1 : Int32) else 0)), (11, .int (lik (max n ((on_ (so i)))) (ed f (fun j => nI (owd (so i) j)) n ((on_ (so i)))))), (10, .ref (adr (23 + 6 * so i))), (0, .ref (adr 7)), (1, .long am), (3, .ref (adr ra)), (4, .int cl), (5, .int le), (7, .int ((bst (skD am nd du) (fun i => lkO n f on_ owd (so i)) (fun i => if nI (oc (so i)) = cl then (1 : Int32) else 0) le i).2.1)), (8, .int ((bst (skD am nd du) (fun i => lkO n f on_ owd (so i)) (fun i => if nI (oc (so i)) = cl then (1 : Int32) else 0) le i).2.2)), (9, .int (nI i))]) hx hb dX2_bestAmong_137 hl (by decide) rfl (fun ls hl => ?_)
                      refine lv_iload hx hb dX2_bestAmong_139 (lv_at hl 3 rfl) ?_
                      refine lv_istore (lv' := [(7, .int (lik (max n ((on_ (so i)))) (ed f (fun j => nI (owd (so i) j)) n ((on_ (so i)))))), (6, .int (nI i)), (13, .int (if lik (max n (on_ (so i))) (ed f (fun j => nI (owd (so i) j)) n (on_ (so i))) = (bst (skD am nd du) (fun i => lkO n f on_ owd (so i)) (fun i => if nI (oc (so i)) = cl then (1 : Int32) else 0) le i).2.1 ∧ (¬ (if nI (oc (so i)) = cl then (1 : Int32) else 0) = 0 ∨ (bst (skD am nd du) (fun i => lkO n f on_ owd (so i)) (fun i => if nI (oc (so i)) = cl then (1 : Int32) else 0) le i).2.2 = 0) then 1 else 0)), (12, .int (if nI (oc (so i)) = cl then (1 : Int32) else 0)), (11, .int (lik (max n ((on_ (so i)))) (ed f (fun j => nI (owd (so i) j)) n ((on_ (so i)))))), (10, .ref (adr (23 + 6 * so i))), (0, .ref (adr 7)), (1, .long am), (3, .ref (adr ra)), (4, .int cl), (5, .int le), (8, .int ((bst (skD am nd du) (fun i => lkO n f on_ owd (so i)) (fun i => if nI (oc (so i)) = cl then (1 : Int32) else 0) le i).2.2)), (9, .int (nI i))]) hx hb dX2_bestAmong_141 hl (by decide) rfl (fun ls hl => ?_)
                      refine lv_iload hx hb dX2_bestAmong_143 (lv_at hl 3 rfl) ?_
                      refine lv_istore (lv' := [(8, .int (if nI (oc (so i)) = cl then (1 : Int32) else 0)), (7, .int (lik (max n ((on_ (so i)))) (ed f (fun j => nI (owd (so i) j)) n ((on_ (so i)))))), (6, .int (nI i)), (13, .int (if lik (max n (on_ (so i))) (ed f (fun j => nI (owd (so i) j)) n (on_ (so i))) = (bst (skD am nd du) (fun i => lkO n f on_ owd (so i)) (fun i => if nI (oc (so i)) = cl then (1 : Int32) else 0) le i).2.1 ∧ (¬ (if nI (oc (so i)) = cl then (1 : Int32) else 0) = 0 ∨ (bst (skD am nd du) (fun i => lkO n f on_ owd (so i)) (fun i => if nI (oc (so i)) = cl then (1 : Int32) else 0) le i).2.2 = 0) then 1 else 0)), (12, .int (if nI (oc (so i)) = cl then (1 : Int32) else 0)), (11, .int (lik (max n ((on_ (so i)))) (ed f (fun j => nI (owd (so i) j)) n ((on_ (so i)))))), (10, .ref (adr (23 + 6 * so i))), (0, .ref (adr 7)), (1, .long am), (3, .ref (adr ra)), (4, .int cl), (5, .int le), (9, .int (nI i))]) hx hb dX2_bestAmong_145 hl (by decide) rfl (fun ls hl => ?_)
                      have eb_ : bst (skD am nd du) (fun i => lkO n f on_ owd (so i)) (fun i => if nI (oc (so i)) = cl then (1 : Int32) else 0) le (i + 1) = (nI i, lik (max n ((on_ (so i)))) (ed f (fun j => nI (owd (so i) j)) n ((on_ (so i)))), if nI (oc (so i)) = cl then (1 : Int32) else 0) := by first | exact bst_t (skD_0 c42 hrv_2 c54) c120 (Or.inl c127) | exact bst_t (skD_0 c42 hrv_2 c54) c120 (Or.inr c132)
                      have hl : lv_has ls 14 [(8, .int ((bst (skD am nd du) (fun i => lkO n f on_ owd (so i)) (fun i => if nI (oc (so i)) = cl then (1 : Int32) else 0) le (i + 1)).2.2)), (7, .int ((bst (skD am nd du) (fun i => lkO n f on_ owd (so i)) (fun i => if nI (oc (so i)) = cl then (1 : Int32) else 0) le (i + 1)).2.1)), (6, .int ((bst (skD am nd du) (fun i => lkO n f on_ owd (so i)) (fun i => if nI (oc (so i)) = cl then (1 : Int32) else 0) le (i + 1)).1)), (13, .int (if lik (max n (on_ (so i))) (ed f (fun j => nI (owd (so i) j)) n (on_ (so i))) = (bst (skD am nd du) (fun i => lkO n f on_ owd (so i)) (fun i => if nI (oc (so i)) = cl then (1 : Int32) else 0) le i).2.1 ∧ (¬ (if nI (oc (so i)) = cl then (1 : Int32) else 0) = 0 ∨ (bst (skD am nd du) (fun i => lkO n f on_ owd (so i)) (fun i => if nI (oc (so i)) = cl then (1 : Int32) else 0) le i).2.2 = 0) then 1 else 0)), (12, .int (if nI (oc (so i)) = cl then (1 : Int32) else 0)), (11, .int (lik (max n ((on_ (so i)))) (ed f (fun j => nI (owd (so i) j)) n ((on_ (so i)))))), (10, .ref (adr (23 + 6 * so i))), (0, .ref (adr 7)), (1, .long am), (3, .ref (adr ra)), (4, .int cl), (5, .int le), (9, .int (nI i))] := by rw [eb_]; exact hl
                      refine lv_iinc (v := nI (i + 1)) (lv' := [(9, .int (nI (i + 1))), (8, .int ((bst (skD am nd du) (fun i => lkO n f on_ owd (so i)) (fun i => if nI (oc (so i)) = cl then (1 : Int32) else 0) le (i + 1)).2.2)), (7, .int ((bst (skD am nd du) (fun i => lkO n f on_ owd (so i)) (fun i => if nI (oc (so i)) = cl then (1 : Int32) else 0) le (i + 1)).2.1)), (6, .int ((bst (skD am nd du) (fun i => lkO n f on_ owd (so i)) (fun i => if nI (oc (so i)) = cl then (1 : Int32) else 0) le (i + 1)).1)), (13, .int (if lik (max n (on_ (so i))) (ed f (fun j => nI (owd (so i) j)) n (on_ (so i))) = (bst (skD am nd du) (fun i => lkO n f on_ owd (so i)) (fun i => if nI (oc (so i)) = cl then (1 : Int32) else 0) le i).2.1 ∧ (¬ (if nI (oc (so i)) = cl then (1 : Int32) else 0) = 0 ∨ (bst (skD am nd du) (fun i => lkO n f on_ owd (so i)) (fun i => if nI (oc (so i)) = cl then (1 : Int32) else 0) le i).2.2 = 0) then 1 else 0)), (12, .int (if nI (oc (so i)) = cl then (1 : Int32) else 0)), (11, .int (lik (max n ((on_ (so i)))) (ed f (fun j => nI (owd (so i) j)) n ((on_ (so i)))))), (10, .ref (adr (23 + 6 * so i))), (0, .ref (adr 7)), (1, .long am), (3, .ref (adr ra)), (4, .int cl), (5, .int le)]) hx hb dX2_bestAmong_147 hl (k := 12) rfl (nI_1 _) (by decide) rfl (fun ls hl => ?_)
                      refine lv_goto (tgt := 12) hx hb dX2_bestAmong_150 (by decide) ?_
                      exact ih12 (i + 1) T_5 (by omega) (by omega) w_4 h_6 h_7 h_8 h_9 h_10 h_11 h_12 h_13 h_19 (fun q q1 => by rw [hw_4, va_up_ne _ _ q1]; exact zrwz q q1) _ _ hM hS ls (lv_sub hl [8, 9, 10, 11, 12, 3, 2, 1, 0] rfl)
                    · refine lv_iload hx hb dX2_bestAmong_130 (lv_at hl 0 rfl) ?_
                      refine lv_if_eq (tgt := 147) hx hb dX2_bestAmong_132 (by decide) (fun c132 => ?_) (fun c132 => ?_)
                      · have eb_ : bst (skD am nd du) (fun i => lkO n f on_ owd (so i)) (fun i => if nI (oc (so i)) = cl then (1 : Int32) else 0) le (i + 1) = ((bst (skD am nd du) (fun i => lkO n f on_ owd (so i)) (fun i => if nI (oc (so i)) = cl then (1 : Int32) else 0) le i).1, (bst (skD am nd du) (fun i => lkO n f on_ owd (so i)) (fun i => if nI (oc (so i)) = cl then (1 : Int32) else 0) le i).2.1, (bst (skD am nd du) (fun i => lkO n f on_ owd (so i)) (fun i => if nI (oc (so i)) = cl then (1 : Int32) else 0) le i).2.2) := bst_n (skD_0 c42 hrv_2 c54) (Or.inr ⟨c127, c132⟩)
                        have hl : lv_has ls 14 [(13, .int (if lik (max n (on_ (so i))) (ed f (fun j => nI (owd (so i) j)) n (on_ (so i))) = (bst (skD am nd du) (fun i => lkO n f on_ owd (so i)) (fun i => if nI (oc (so i)) = cl then (1 : Int32) else 0) le i).2.1 ∧ (¬ (if nI (oc (so i)) = cl then (1 : Int32) else 0) = 0 ∨ (bst (skD am nd du) (fun i => lkO n f on_ owd (so i)) (fun i => if nI (oc (so i)) = cl then (1 : Int32) else 0) le i).2.2 = 0) then 1 else 0)), (12, .int (if nI (oc (so i)) = cl then (1 : Int32) else 0)), (11, .int (lik (max n ((on_ (so i)))) (ed f (fun j => nI (owd (so i) j)) n ((on_ (so i)))))), (10, .ref (adr (23 + 6 * so i))), (0, .ref (adr 7)), (1, .long am), (3, .ref (adr ra)), (4, .int cl), (5, .int le), (6, .int ((bst (skD am nd du) (fun i => lkO n f on_ owd (so i)) (fun i => if nI (oc (so i)) = cl then (1 : Int32) else 0) le (i + 1)).1)), (7, .int ((bst (skD am nd du) (fun i => lkO n f on_ owd (so i)) (fun i => if nI (oc (so i)) = cl then (1 : Int32) else 0) le (i + 1)).2.1)), (8, .int ((bst (skD am nd du) (fun i => lkO n f on_ owd (so i)) (fun i => if nI (oc (so i)) = cl then (1 : Int32) else 0) le (i + 1)).2.2)), (9, .int (nI i))] := by rw [eb_]; exact hl
                        refine lv_iinc (v := nI (i + 1)) (lv' := [(9, .int (nI (i + 1))), (13, .int (if lik (max n (on_ (so i))) (ed f (fun j => nI (owd (so i) j)) n (on_ (so i))) = (bst (skD am nd du) (fun i => lkO n f on_ owd (so i)) (fun i => if nI (oc (so i)) = cl then (1 : Int32) else 0) le i).2.1 ∧ (¬ (if nI (oc (so i)) = cl then (1 : Int32) else 0) = 0 ∨ (bst (skD am nd du) (fun i => lkO n f on_ owd (so i)) (fun i => if nI (oc (so i)) = cl then (1 : Int32) else 0) le i).2.2 = 0) then 1 else 0)), (12, .int (if nI (oc (so i)) = cl then (1 : Int32) else 0)), (11, .int (lik (max n ((on_ (so i)))) (ed f (fun j => nI (owd (so i) j)) n ((on_ (so i)))))), (10, .ref (adr (23 + 6 * so i))), (0, .ref (adr 7)), (1, .long am), (3, .ref (adr ra)), (4, .int cl), (5, .int le), (6, .int ((bst (skD am nd du) (fun i => lkO n f on_ owd (so i)) (fun i => if nI (oc (so i)) = cl then (1 : Int32) else 0) le (i + 1)).1)), (7, .int ((bst (skD am nd du) (fun i => lkO n f on_ owd (so i)) (fun i => if nI (oc (so i)) = cl then (1 : Int32) else 0) le (i + 1)).2.1)), (8, .int ((bst (skD am nd du) (fun i => lkO n f on_ owd (so i)) (fun i => if nI (oc (so i)) = cl then (1 : Int32) else 0) le (i + 1)).2.2))]) hx hb dX2_bestAmong_147 hl (k := 12) rfl (nI_1 _) (by decide) rfl (fun ls hl => ?_)
                        refine lv_goto (tgt := 12) hx hb dX2_bestAmong_150 (by decide) ?_
                        exact ih12 (i + 1) T_5 (by omega) (by omega) w_4 h_6 h_7 h_8 h_9 h_10 h_11 h_12 h_13 h_19 (fun q q1 => by rw [hw_4, va_up_ne _ _ q1]; exact zrwz q q1) _ _ hM hS ls (lv_sub hl [5, 6, 7, 8, 9, 10, 11, 12, 0] rfl)
                      · refine lv_iload hx hb dX2_bestAmong_135 (lv_at hl 12 rfl) ?_
                        refine lv_istore (lv' := [(6, .int (nI i)), (13, .int (if lik (max n (on_ (so i))) (ed f (fun j => nI (owd (so i) j)) n (on_ (so i))) = (bst (skD am nd du) (fun i => lkO n f on_ owd (so i)) (fun i => if nI (oc (so i)) = cl then (1 : Int32) else 0) le i).2.1 ∧ (¬ (if nI (oc (so i)) = cl then (1 : Int32) else 0) = 0 ∨ (bst (skD am nd du) (fun i => lkO n f on_ owd (so i)) (fun i => if nI (oc (so i)) = cl then (1 : Int32) else 0) le i).2.2 = 0) then 1 else 0)), (12, .int (if nI (oc (so i)) = cl then (1 : Int32) else 0)), (11, .int (lik (max n ((on_ (so i)))) (ed f (fun j => nI (owd (so i) j)) n ((on_ (so i)))))), (10, .ref (adr (23 + 6 * so i))), (0, .ref (adr 7)), (1, .long am), (3, .ref (adr ra)), (4, .int cl), (5, .int le), (7, .int ((bst (skD am nd du) (fun i => lkO n f on_ owd (so i)) (fun i => if nI (oc (so i)) = cl then (1 : Int32) else 0) le i).2.1)), (8, .int ((bst (skD am nd du) (fun i => lkO n f on_ owd (so i)) (fun i => if nI (oc (so i)) = cl then (1 : Int32) else 0) le i).2.2)), (9, .int (nI i))]) hx hb dX2_bestAmong_137 hl (by decide) rfl (fun ls hl => ?_)
                        refine lv_iload hx hb dX2_bestAmong_139 (lv_at hl 3 rfl) ?_
                        refine lv_istore (lv' := [(7, .int (lik (max n ((on_ (so i)))) (ed f (fun j => nI (owd (so i) j)) n ((on_ (so i)))))), (6, .int (nI i)), (13, .int (if lik (max n (on_ (so i))) (ed f (fun j => nI (owd (so i) j)) n (on_ (so i))) = (bst (skD am nd du) (fun i => lkO n f on_ owd (so i)) (fun i => if nI (oc (so i)) = cl then (1 : Int32) else 0) le i).2.1 ∧ (¬ (if nI (oc (so i)) = cl then (1 : Int32) else 0) = 0 ∨ (bst (skD am nd du) (fun i => lkO n f on_ owd (so i)) (fun i => if nI (oc (so i)) = cl then (1 : Int32) else 0) le i).2.2 = 0) then 1 else 0)), (12, .int (if nI (oc (so i)) = cl then (1 : Int32) else 0)), (11, .int (lik (max n ((on_ (so i)))) (ed f (fun j => nI (owd (so i) j)) n ((on_ (so i)))))), (10, .ref (adr (23 + 6 * so i))), (0, .ref (adr 7)), (1, .long am), (3, .ref (adr ra)), (4, .int cl), (5, .int le), (8, .int ((bst (skD am nd du) (fun i => lkO n f on_ owd (so i)) (fun i => if nI (oc (so i)) = cl then (1 : Int32) else 0) le i).2.2)), (9, .int (nI i))]) hx hb dX2_bestAmong_141 hl (by decide) rfl (fun ls hl => ?_)
                        refine lv_iload hx hb dX2_bestAmong_143 (lv_at hl 3 rfl) ?_
                        refine lv_istore (lv' := [(8, .int (if nI (oc (so i)) = cl then (1 : Int32) else 0)), (7, .int (lik (max n ((on_ (so i)))) (ed f (fun j => nI (owd (so i) j)) n ((on_ (so i)))))), (6, .int (nI i)), (13, .int (if lik (max n (on_ (so i))) (ed f (fun j => nI (owd (so i) j)) n (on_ (so i))) = (bst (skD am nd du) (fun i => lkO n f on_ owd (so i)) (fun i => if nI (oc (so i)) = cl then (1 : Int32) else 0) le i).2.1 ∧ (¬ (if nI (oc (so i)) = cl then (1 : Int32) else 0) = 0 ∨ (bst (skD am nd du) (fun i => lkO n f on_ owd (so i)) (fun i => if nI (oc (so i)) = cl then (1 : Int32) else 0) le i).2.2 = 0) then 1 else 0)), (12, .int (if nI (oc (so i)) = cl then (1 : Int32) else 0)), (11, .int (lik (max n ((on_ (so i)))) (ed f (fun j => nI (owd (so i) j)) n ((on_ (so i)))))), (10, .ref (adr (23 + 6 * so i))), (0, .ref (adr 7)), (1, .long am), (3, .ref (adr ra)), (4, .int cl), (5, .int le), (9, .int (nI i))]) hx hb dX2_bestAmong_145 hl (by decide) rfl (fun ls hl => ?_)
                        have eb_ : bst (skD am nd du) (fun i => lkO n f on_ owd (so i)) (fun i => if nI (oc (so i)) = cl then (1 : Int32) else 0) le (i + 1) = (nI i, lik (max n ((on_ (so i)))) (ed f (fun j => nI (owd (so i) j)) n ((on_ (so i)))), if nI (oc (so i)) = cl then (1 : Int32) else 0) := by first | exact bst_t (skD_0 c42 hrv_2 c54) c120 (Or.inl c127) | exact bst_t (skD_0 c42 hrv_2 c54) c120 (Or.inr c132)
                        have hl : lv_has ls 14 [(8, .int ((bst (skD am nd du) (fun i => lkO n f on_ owd (so i)) (fun i => if nI (oc (so i)) = cl then (1 : Int32) else 0) le (i + 1)).2.2)), (7, .int ((bst (skD am nd du) (fun i => lkO n f on_ owd (so i)) (fun i => if nI (oc (so i)) = cl then (1 : Int32) else 0) le (i + 1)).2.1)), (6, .int ((bst (skD am nd du) (fun i => lkO n f on_ owd (so i)) (fun i => if nI (oc (so i)) = cl then (1 : Int32) else 0) le (i + 1)).1)), (13, .int (if lik (max n (on_ (so i))) (ed f (fun j => nI (owd (so i) j)) n (on_ (so i))) = (bst (skD am nd du) (fun i => lkO n f on_ owd (so i)) (fun i => if nI (oc (so i)) = cl then (1 : Int32) else 0) le i).2.1 ∧ (¬ (if nI (oc (so i)) = cl then (1 : Int32) else 0) = 0 ∨ (bst (skD am nd du) (fun i => lkO n f on_ owd (so i)) (fun i => if nI (oc (so i)) = cl then (1 : Int32) else 0) le i).2.2 = 0) then 1 else 0)), (12, .int (if nI (oc (so i)) = cl then (1 : Int32) else 0)), (11, .int (lik (max n ((on_ (so i)))) (ed f (fun j => nI (owd (so i) j)) n ((on_ (so i)))))), (10, .ref (adr (23 + 6 * so i))), (0, .ref (adr 7)), (1, .long am), (3, .ref (adr ra)), (4, .int cl), (5, .int le), (9, .int (nI i))] := by rw [eb_]; exact hl
                        refine lv_iinc (v := nI (i + 1)) (lv' := [(9, .int (nI (i + 1))), (8, .int ((bst (skD am nd du) (fun i => lkO n f on_ owd (so i)) (fun i => if nI (oc (so i)) = cl then (1 : Int32) else 0) le (i + 1)).2.2)), (7, .int ((bst (skD am nd du) (fun i => lkO n f on_ owd (so i)) (fun i => if nI (oc (so i)) = cl then (1 : Int32) else 0) le (i + 1)).2.1)), (6, .int ((bst (skD am nd du) (fun i => lkO n f on_ owd (so i)) (fun i => if nI (oc (so i)) = cl then (1 : Int32) else 0) le (i + 1)).1)), (13, .int (if lik (max n (on_ (so i))) (ed f (fun j => nI (owd (so i) j)) n (on_ (so i))) = (bst (skD am nd du) (fun i => lkO n f on_ owd (so i)) (fun i => if nI (oc (so i)) = cl then (1 : Int32) else 0) le i).2.1 ∧ (¬ (if nI (oc (so i)) = cl then (1 : Int32) else 0) = 0 ∨ (bst (skD am nd du) (fun i => lkO n f on_ owd (so i)) (fun i => if nI (oc (so i)) = cl then (1 : Int32) else 0) le i).2.2 = 0) then 1 else 0)), (12, .int (if nI (oc (so i)) = cl then (1 : Int32) else 0)), (11, .int (lik (max n ((on_ (so i)))) (ed f (fun j => nI (owd (so i) j)) n ((on_ (so i)))))), (10, .ref (adr (23 + 6 * so i))), (0, .ref (adr 7)), (1, .long am), (3, .ref (adr ra)), (4, .int cl), (5, .int le)]) hx hb dX2_bestAmong_147 hl (k := 12) rfl (nI_1 _) (by decide) rfl (fun ls hl => ?_)
                        refine lv_goto (tgt := 12) hx hb dX2_bestAmong_150 (by decide) ?_
                        exact ih12 (i + 1) T_5 (by omega) (by omega) w_4 h_6 h_7 h_8 h_9 h_10 h_11 h_12 h_13 h_19 (fun q q1 => by rw [hw_4, va_up_ne _ _ q1]; exact zrwz q q1) _ _ hM hS ls (lv_sub hl [8, 9, 10, 11, 12, 3, 2, 1, 0] rfl)
                refine lv_icmp_ne (tgt := 113) hx hb dX2_bestAmong_96 (by decide) (fun c96 => ?_) (fun c96 => ?_)
                · refine lv_iconst (v := 0) hx hb dX2_bestAmong_113 (by decide) ?_
                  refine m_top (show (0 : Int32) = if lik (max n (on_ (so i))) (ed f (fun j => nI (owd (so i) j)) n (on_ (so i))) = (bst (skD am nd du) (fun i => lkO n f on_ owd (so i)) (fun i => if nI (oc (so i)) = cl then (1 : Int32) else 0) le i).2.1 ∧ (¬ (if nI (oc (so i)) = cl then (1 : Int32) else 0) = 0 ∨ (bst (skD am nd du) (fun i => lkO n f on_ owd (so i)) (fun i => if nI (oc (so i)) = cl then (1 : Int32) else 0) le i).2.2 = 0) then 1 else 0 from by first | exact (tie_0 c96).symm | exact (tie_1 c96 c101).symm | exact (tie_2 c101 c106).symm | exact (tie_3 c96 c106).symm) ?_
                  exact J114 ls hl
                · refine lv_iload hx hb dX2_bestAmong_99 (lv_at hl 0 rfl) ?_
                  refine lv_if_ne (tgt := 109) hx hb dX2_bestAmong_101 (by decide) (fun c101 => ?_) (fun c101 => ?_)
                  · refine lv_iconst (v := 1) hx hb dX2_bestAmong_109 (by decide) ?_
                    refine lv_goto (tgt := 114) hx hb dX2_bestAmong_110 (by decide) ?_
                    refine m_top (show (1 : Int32) = if lik (max n (on_ (so i))) (ed f (fun j => nI (owd (so i) j)) n (on_ (so i))) = (bst (skD am nd du) (fun i => lkO n f on_ owd (so i)) (fun i => if nI (oc (so i)) = cl then (1 : Int32) else 0) le i).2.1 ∧ (¬ (if nI (oc (so i)) = cl then (1 : Int32) else 0) = 0 ∨ (bst (skD am nd du) (fun i => lkO n f on_ owd (so i)) (fun i => if nI (oc (so i)) = cl then (1 : Int32) else 0) le i).2.2 = 0) then 1 else 0 from by first | exact (tie_0 c96).symm | exact (tie_1 c96 c101).symm | exact (tie_2 c101 c106).symm | exact (tie_3 c96 c106).symm) ?_
                    exact J114 ls hl
                  · refine lv_iload hx hb dX2_bestAmong_104 (lv_at hl 10 rfl) ?_
                    refine lv_if_ne (tgt := 113) hx hb dX2_bestAmong_106 (by decide) (fun c106 => ?_) (fun c106 => ?_)
                    · refine lv_iconst (v := 0) hx hb dX2_bestAmong_113 (by decide) ?_
                      refine m_top (show (0 : Int32) = if lik (max n (on_ (so i))) (ed f (fun j => nI (owd (so i) j)) n (on_ (so i))) = (bst (skD am nd du) (fun i => lkO n f on_ owd (so i)) (fun i => if nI (oc (so i)) = cl then (1 : Int32) else 0) le i).2.1 ∧ (¬ (if nI (oc (so i)) = cl then (1 : Int32) else 0) = 0 ∨ (bst (skD am nd du) (fun i => lkO n f on_ owd (so i)) (fun i => if nI (oc (so i)) = cl then (1 : Int32) else 0) le i).2.2 = 0) then 1 else 0 from by first | exact (tie_0 c96).symm | exact (tie_1 c96 c101).symm | exact (tie_2 c101 c106).symm | exact (tie_3 c96 c106).symm) ?_
                      exact J114 ls hl
                    · refine lv_iconst (v := 1) hx hb dX2_bestAmong_109 (by decide) ?_
                      refine lv_goto (tgt := 114) hx hb dX2_bestAmong_110 (by decide) ?_
                      refine m_top (show (1 : Int32) = if lik (max n (on_ (so i))) (ed f (fun j => nI (owd (so i) j)) n (on_ (so i))) = (bst (skD am nd du) (fun i => lkO n f on_ owd (so i)) (fun i => if nI (oc (so i)) = cl then (1 : Int32) else 0) le i).2.1 ∧ (¬ (if nI (oc (so i)) = cl then (1 : Int32) else 0) = 0 ∨ (bst (skD am nd du) (fun i => lkO n f on_ owd (so i)) (fun i => if nI (oc (so i)) = cl then (1 : Int32) else 0) le i).2.2 = 0) then 1 else 0 from by first | exact (tie_0 c96).symm | exact (tie_1 c96 c101).symm | exact (tie_2 c101 c106).symm | exact (tie_3 c96 c106).symm) ?_
                      exact J114 ls hl
              refine lv_icmp_ne (tgt := 89) hx hb dX2_bestAmong_82 (by decide) (fun c82 => ?_) (fun c82 => ?_)
              · refine lv_iconst (v := 0) hx hb dX2_bestAmong_89 (by decide) ?_
                refine m_top (show (0 : Int32) = if nI (oc (so i)) = cl then (1 : Int32) else 0 from by first | rw [if_pos c82] | rw [if_neg c82]) ?_
                exact J90 ls hl
              · refine lv_iconst (v := 1) hx hb dX2_bestAmong_85 (by decide) ?_
                refine lv_goto (tgt := 90) hx hb dX2_bestAmong_86 (by decide) ?_
                refine m_top (show (1 : Int32) = if nI (oc (so i)) = cl then (1 : Int32) else 0 from by first | rw [if_pos c82] | rw [if_neg c82]) ?_
                exact J90 ls hl
            · have eb_ : bst (skD am nd du) (fun i => lkO n f on_ owd (so i)) (fun i => if nI (oc (so i)) = cl then (1 : Int32) else 0) le (i + 1) = ((bst (skD am nd du) (fun i => lkO n f on_ owd (so i)) (fun i => if nI (oc (so i)) = cl then (1 : Int32) else 0) le i).1, (bst (skD am nd du) (fun i => lkO n f on_ owd (so i)) (fun i => if nI (oc (so i)) = cl then (1 : Int32) else 0) le i).2.1, (bst (skD am nd du) (fun i => lkO n f on_ owd (so i)) (fun i => if nI (oc (so i)) = cl then (1 : Int32) else 0) le i).2.2) := bst_s (skD_2 hrv_2 c54)
              have hl : lv_has ls 14 [(10, .ref (adr (23 + 6 * so i))), (0, .ref (adr 7)), (1, .long am), (3, .ref (adr ra)), (4, .int cl), (5, .int le), (6, .int ((bst (skD am nd du) (fun i => lkO n f on_ owd (so i)) (fun i => if nI (oc (so i)) = cl then (1 : Int32) else 0) le (i + 1)).1)), (7, .int ((bst (skD am nd du) (fun i => lkO n f on_ owd (so i)) (fun i => if nI (oc (so i)) = cl then (1 : Int32) else 0) le (i + 1)).2.1)), (8, .int ((bst (skD am nd du) (fun i => lkO n f on_ owd (so i)) (fun i => if nI (oc (so i)) = cl then (1 : Int32) else 0) le (i + 1)).2.2)), (9, .int (nI i))] := by rw [eb_]; exact hl
              refine lv_goto (tgt := 147) hx hb dX2_bestAmong_57 (by decide) ?_
              refine lv_iinc (v := nI (i + 1)) (lv' := [(9, .int (nI (i + 1))), (10, .ref (adr (23 + 6 * so i))), (0, .ref (adr 7)), (1, .long am), (3, .ref (adr ra)), (4, .int cl), (5, .int le), (6, .int ((bst (skD am nd du) (fun i => lkO n f on_ owd (so i)) (fun i => if nI (oc (so i)) = cl then (1 : Int32) else 0) le (i + 1)).1)), (7, .int ((bst (skD am nd du) (fun i => lkO n f on_ owd (so i)) (fun i => if nI (oc (so i)) = cl then (1 : Int32) else 0) le (i + 1)).2.1)), (8, .int ((bst (skD am nd du) (fun i => lkO n f on_ owd (so i)) (fun i => if nI (oc (so i)) = cl then (1 : Int32) else 0) le (i + 1)).2.2))]) hx hb dX2_bestAmong_147 hl (k := 9) rfl (nI_1 _) (by decide) rfl (fun ls hl => ?_)
              refine lv_goto (tgt := 12) hx hb dX2_bestAmong_150 (by decide) ?_
              exact ih12 (i + 1) Tz (by omega) (by omega) wz z0wz z1wz z2wz z3wz z4wz z5wz z6wz z7wz zSwz zrwz _ _ hM hS ls (lv_sub hl [2, 3, 4, 5, 6, 7, 8, 9, 0] rfl)
  exact L12 _ 0 T (Nat.lt_succ_self _) (Nat.zero_le _) w hm.1 hm.2.1 hm.2.2.2.1 hm.2.2.2.2.1 hm.2.2.2.2.2.1 hm.2.2.2.2.2.2.1 g1 g2 hS1 (fun q _ => rfl) _ _ hM hS ls (lv_sub hl [4, 5, 6, 7, 8, 3, 2, 1, 0] rfl)
end
section
/-- a list in the machine: its first n numbers -/
def lst (n : Nat) (f : Nat → Nat) : List Nat := (List.range n).map f
theorem lst_len {n : Nat} {f : Nat → Nat} : (lst n f).length = n := by simp [lst]
theorem lst_get {n i : Nat} {f : Nat → Nat} (h : i < n) : (lst n f)[i]? = some (f i) := by simp [lst, h]
theorem lst_push {n x : Nat} {f : Nat → Nat} : lst (n + 1) (va_up f n x) = lst n f ++ [x] := by
  simp only [lst, List.range_succ, List.map_append, List.map_cons, List.map_nil, va_up_self]
  congr 1
  apply List.map_congr_left
  intro a ha
  rw [va_up_ne _ _ (by have := List.mem_range.mp ha; omega)]
theorem upd_nI {f : Nat → Nat} {n x : Nat} : upd (fun j => nI (f j)) n (nI x) = fun j => nI (va_up f n x j) := by
  funext j
  by_cases h : j = n
  · subst h; simp [upd, va_up]
  · simp [upd, va_up, h]
theorem exI (x : Int32) : ∃ n : Nat, x = nI n := ⟨x.toBitVec.toNat, by
  apply Int32.toBitVec_inj.mp
  show x.toBitVec = BitVec.ofNat 32 x.toBitVec.toNat
  simp⟩
theorem cut_nat {n k : Nat} {f1 : Nat → Int32} {d : Nat → Nat} (hk : k < n) (h : ∀ j, j + 1 < n → f1 j = cutF k (fun j => nI (d j)) j) : ∃ d2 : Nat → Nat, f1 = (fun j => nI (d2 j)) ∧ lst (n - 1) d2 = (lst n d).eraseIdx k := by
  refine ⟨fun j => if j + 1 < n then (if j < k then d j else d (j + 1)) else (exI (f1 j)).choose, ?_, ?_⟩
  · funext j
    by_cases q : j + 1 < n
    · simp only [if_pos q]
      rw [h j q]
      unfold cutF
      by_cases q2 : j < k <;> simp [q2]
    · simp only [if_neg q]
      exact (exI (f1 j)).choose_spec
  · apply List.ext_getElem?
    intro j
    rw [List.getElem?_eraseIdx]
    by_cases q : j + 1 < n
    · rw [lst_get (show j < n - 1 by omega), if_pos q]
      by_cases q2 : j < k
      · rw [if_pos q2, if_pos q2, lst_get (by omega)]
      · rw [if_neg q2, if_neg q2, lst_get q]
    · rw [List.getElem?_eq_none (by rw [lst_len]; omega)]
      by_cases q2 : j < k
      · omega
      · rw [if_neg q2, List.getElem?_eq_none (by rw [lst_len]; omega)]
def LD1 (P : Nat → Bool) (D : List Nat) (k : Nat) : List Nat := D.take k ++ (D.drop k).filter P
theorem LD1_top {P : Nat → Bool} {D : List Nat} : LD1 P D D.length = D := by simp [LD1]
theorem LD1_0 {P : Nat → Bool} {D : List Nat} : LD1 P D 0 = D.filter P := by simp [LD1]
theorem LD1_keep {P : Nat → Bool} {D : List Nat} {k x : Nat} (h : D[k]? = some x) (hp : P x = true) : LD1 P D (k + 1) = LD1 P D k := by
  obtain ⟨hk, hx⟩ := List.getElem?_eq_some_iff.mp h
  unfold LD1
  rw [List.drop_eq_getElem_cons hk, hx, List.filter_cons_of_pos hp, List.take_succ, h]
  simp
theorem LD1_cut {P : Nat → Bool} {D : List Nat} {k x : Nat} (h : D[k]? = some x) (hp : P x = false) : (LD1 P D (k + 1)).eraseIdx k = LD1 P D k := by
  obtain ⟨hk, hx⟩ := List.getElem?_eq_some_iff.mp h
  unfold LD1
  rw [List.drop_eq_getElem_cons hk, hx, List.filter_cons_of_neg (by rw [hp]; decide), List.take_succ, h]
  have hl : (D.take k).length = k := by rw [List.length_take]; omega
  show (((D.take k) ++ [x]) ++ _).eraseIdx k = _
  rw [List.append_assoc, List.eraseIdx_append_of_length_le (by omega), hl, Nat.sub_self]
  rfl
theorem LD1_at {P : Nat → Bool} {D : List Nat} {k j : Nat} (h : j < k) : (LD1 P D k)[j]? = D[j]? := by
  unfold LD1
  by_cases q : j < D.length
  · rw [List.getElem?_append_left (by rw [List.length_take]; omega), List.getElem?_take_of_lt h]
  · rw [List.getElem?_eq_none (l := D) (by omega), List.getElem?_eq_none]
    rw [List.length_append, List.length_take, List.drop_eq_nil_of_le (by omega)]
    simp
    omega
def LD2 (P : Nat → Bool) (E : List Nat) (i : Nat) : List Nat := E ++ (List.range i).filter (fun x => P x && !E.contains x)
theorem LD2_0 {P : Nat → Bool} {E : List Nat} : LD2 P E 0 = E := by simp [LD2]
theorem LD2_mem {P : Nat → Bool} {E : List Nat} {i : Nat} : i ∈ LD2 P E i ↔ i ∈ E := by
  unfold LD2
  rw [List.mem_append]
  refine ⟨fun h => h.elim id (fun q => ?_), Or.inl⟩
  exact absurd (List.mem_range.mp (List.mem_filter.mp q).1) (Nat.lt_irrefl _)
theorem LD2_add {P : Nat → Bool} {E : List Nat} {i : Nat} (hp : P i = true) (hn : ¬ i ∈ LD2 P E i) : LD2 P E (i + 1) = LD2 P E i ++ [i] := by
  rw [LD2_mem] at hn
  unfold LD2
  rw [List.range_succ, List.filter_append, List.append_assoc]
  congr 2
  simp [hp, hn]
theorem LD2_skip {P : Nat → Bool} {E : List Nat} {i : Nat} (h : P i = false ∨ i ∈ LD2 P E i) : LD2 P E (i + 1) = LD2 P E i := by
  rw [LD2_mem] at h
  unfold LD2
  rw [List.range_succ, List.filter_append]
  rcases h with h | h
  · simp [h]
  · simp [h]
theorem nodup_len : ∀ (n : Nat) (l : List Nat), l.Nodup → (∀ x ∈ l, x < n) → l.length ≤ n := by
  intro n
  induction n with
  | zero =>
    intro l _ h
    cases l with
    | nil => exact Nat.le_refl _
    | cons a l => exact absurd (h a List.mem_cons_self) (Nat.not_lt_zero _)
  | succ n ih =>
    intro l hl h
    by_cases q : n ∈ l
    · have h1 := ih (l.erase n) (hl.erase n) (fun x hx => by
        have hx2 := (List.Nodup.mem_erase_iff hl).mp hx
        have := h x hx2.2
        have := hx2.1
        omega)
      rw [List.length_erase_of_mem q] at h1
      omega
    · exact Nat.le_succ_of_le (ih l hl (fun x hx => by
        have := h x hx
        have : x ≠ n := fun e => q (e ▸ hx)
        omega))
theorem LD1_sub {P : Nat → Bool} {D : List Nat} {k : Nat} : (LD1 P D k).Sublist D := by
  unfold LD1
  have h : (D.take k ++ (D.drop k).filter P).Sublist (D.take k ++ D.drop k) := List.Sublist.append (List.Sublist.refl _) List.filter_sublist
  rwa [List.take_append_drop] at h
theorem LD2_ok {P : Nat → Bool} {E : List Nat} {n : Nat} (hE : E.Nodup) (hn : ∀ x ∈ E, x < n) : ∀ i, i ≤ n → (LD2 P E i).Nodup ∧ ∀ x ∈ LD2 P E i, x < n := by
  intro i hi
  unfold LD2
  refine ⟨List.nodup_append.mpr ⟨hE, List.nodup_range.filter _, fun a ha b hb e => ?_⟩, fun x hx => ?_⟩
  · have := (List.mem_filter.mp hb).2
    simp at this
    exact this.2 (e ▸ ha)
  · rcases List.mem_append.mp hx with q | q
    · exact hn x q
    · have := List.mem_range.mp (List.mem_filter.mp q).1
      omega
/-- the sentence has a word astray -/
def asB (fr : Nat → Int32) (cl n : Nat) (wd : Nat → Nat) (bf : Nat → Int32) : Bool := (List.range n).any (fun j => decide (ast fr cl wd bf j))
theorem asB_t {fr bf : Nat → Int32} {cl n : Nat} {wd : Nat → Nat} {r : Int32} (h : FaP n fr cl wd bf r) (c : ¬ r = -1) : asB fr cl n wd bf = true := by
  rcases h with ⟨i, h1, _, h3, _⟩ | ⟨h1, _⟩
  · exact List.any_eq_true.mpr ⟨i, List.mem_range.mpr h1, decide_eq_true h3⟩
  · exact absurd h1 c
theorem asB_f {fr bf : Nat → Int32} {cl n : Nat} {wd : Nat → Nat} {r : Int32} (hn : n ≤ 8) (h : FaP n fr cl wd bf r) (c : r = -1) : asB fr cl n wd bf = false := by
  rcases h with ⟨i, h1, h2, _⟩ | ⟨_, h1⟩
  · exact absurd (h2.symm.trans c) (nI_nm1 h1 hn)
  · rw [asB, List.any_eq_false]
    intro j hj
    simpa using h1 j (List.mem_range.mp hj)
def RulW (ac : Nat → ClassId) (adr : Nat → Nat) (w : Nat → va_E) (fs fr : Nat → Int32) (ft : Nat → Nat) : Prop := w 3 = .inr (5, [.ref (adr 4), .ref (adr 5), .ref (adr 6)]) ∧ w 4 = .inl (ac 0, 600, .inl fs) ∧ w 5 = .inl (ac 0, 200, .inl fr) ∧ w 6 = .inl (ac 0, 200, .inl (fun j => nI (ft j)))
theorem RulW.up {ac : Nat → ClassId} {adr : Nat → Nat} {w : Nat → va_E} {fs fr : Nat → Int32} {ft : Nat → Nat} {k : Nat} {e : va_E} (hk : k < 3 ∨ 6 < k) (h : RulW ac adr w fs fr ft) : RulW ac adr (va_up w k e) fs fr ft := by
  obtain ⟨h1, h2, h3, h4⟩ := h
  exact ⟨by rw [va_up_ne _ _ (by omega)]; exact h1, by rw [va_up_ne _ _ (by omega)]; exact h2, by rw [va_up_ne _ _ (by omega)]; exact h3, by rw [va_up_ne _ _ (by omega)]; exact h4⟩
theorem sref_push {adr : Nat → Nat} {ns o : Nat} {so : Nat → Nat} : va_up (sref adr ns so) ns (some (adr (23 + 6 * o))) = sref adr (ns + 1) (va_up so ns o) := by
  funext i
  by_cases h : i = ns
  · subst h
    rw [va_up_self]
    unfold sref
    rw [if_pos (by omega), va_up_self]
  · rw [va_up_ne _ _ h]
    unfold sref
    by_cases h2 : i < ns
    · rw [if_pos h2, if_pos (by omega), va_up_ne _ _ h]
    · rw [if_neg h2, if_neg (by omega)]
/-- the index of words with a sentence more -/
def kpv (hv : Nat → Int64) (b : Nat) (wd : Nat → Nat) : Nat → (Nat → Int64)
  | 0 => hv
  | j + 1 => vp_updL (kpv hv b wd j) (wd j) (kpv hv b wd j (wd j) ||| (1 <<< ((nI b).toInt64 &&& 63)))
theorem kp_end {w w1 : Nat → va_E} {e7 e8 e9 : va_E} (h : ∀ q, q ≠ 8 → q ≠ 9 → w1 q = w q) (h8 : w1 8 = e8) (h9 : w1 9 = e9) : va_up w1 7 e7 = va_up (va_up (va_up w 8 e8) 9 e9) 7 e7 := by
  congr 1
  funext q
  by_cases q1 : q = 9
  · subst q1; rw [va_up_self, h9]
  · rw [va_up_ne _ _ q1]
    by_cases q2 : q = 8
    · subst q2; rw [va_up_self, h8]
    · rw [va_up_ne _ _ q2, h q q2 q1]
set_option maxHeartbeats 4000000 in
set_option maxRecDepth 100000 in
/-- Memory.keep -/
theorem k_X2_keep (l : Launch) (D : va_G) (ac : Nat → ClassId) (H : Heap) (A : Nat → Prop) (N : Nat) (adr : Nat → Nat) (w : Nat → va_E) (hM : MW D A N adr w H) (no : Nat) (oc on_ : Nat → Nat) (owd : Nat → Nat → Nat) (obf : Nat → Nat → Int32) (ns : Nat) (so : Nat → Nat) (hv : Nat → Int64) (nd : Nat) (du : Nat → Nat) (T : Nat → Int32) (hN : 22 + 6 * no ≤ N) (hS1 : SenF ac adr w no oc on_ owd obf) (hm : MemW ac adr w ns so hv nd du T) (hso : ∀ i, i < ns → so i < no) (o : Nat) (ho : o < no) (hns0 : ns < 40) : WRi l yX2_keep wsX2_keep ({ frames := 1, cells := 0, slots := 0, locals := 21 }) [.ref (adr 7), .ref (adr (23 + 6 * o))] D ac H A N adr (fun r w1 => r = nI ns ∧ w1 = va_up (va_up (va_up w 8 (.inl (ac 4, 40, .inr (.inr (.inr (.inr (sref adr (ns + 1) (va_up so ns o)))))))) 9 (.inl (ac 1, 50, .inr (.inl (kpv hv ns (owd o) (on_ o)))))) 7 (.inr (2, [.ref (adr 8), .ref (adr 9), .ref (adr 10), .ref (adr 12), .int (nI (ns + 1))]))) := by
  refine Met.ofW (cc := cX2_keep) (maxL := 5) (ret := (some .int)) (by decide) rfl ?_
  intro p e s m args below meth c s₁ B hml hv
  obtain ⟨hargs, hsz, hK⟩ := hv
  have hx := B.exec
  have hb := B.bytes
  have hr := B.returns
  have hts := atoms_spec (ws := wsX2_keep) B.pre
  have hown : s.vm.findClass RX2 = some m.cls := findClass_of_methodNamed B.named
  have hlocks := B.notSynchronized
  subst hsz
  have inX2_ : ∀ w ∈ wsX20, w ∈ wsX2_keep := by decide +kernel
  have inX4_ : ∀ w ∈ wsX40, w ∈ wsX2_keep := by decide +kernel
  have inX6_ : ∀ w ∈ wsX60, w ∈ wsX2_keep := by decide +kernel
  have hS : va_S A s.heap s.heap [] := va_S.rf
  have hl := lv_entry ([.ref (adr 7), .ref (adr (23 + 6 * o))]) (n := 5) (Nat.le_of_ble_eq_true rfl)
  have hen := lg_entry_eq m [.ref (adr 7), .ref (adr (23 + 6 * o))] 5
  rw [← hargs] at hen
  rw [hen]
  generalize (lg_sl ([.ref (adr 7), .ref (adr (23 + 6 * o))]) ++ List.replicate (5 - (lg_sl ([.ref (adr 7), .ref (adr (23 + 6 * o))])).length) Slot.unset).toArray = ls at hl ⊢
  have hl : lv_has ls 5 [(0, .ref (adr 7)), (1, .ref (adr (23 + 6 * o)))] := hl
  obtain ⟨Q0, hQ0⟩ : ∃ z, z = MQ below (va_Qi (fun r w1 => r = nI ns ∧ w1 = va_up (va_up (va_up w 8 (.inl (ac 4, 40, .inr (.inr (.inr (.inr (sref adr (ns + 1) (va_up so ns o)))))))) 9 (.inl (ac 1, 50, .inr (.inl (kpv hv ns (owd o) (on_ o)))))) 7 (.inr (2, [.ref (adr 8), .ref (adr 9), .ref (adr 10), .ref (adr 12), .int (nI (ns + 1))]))) (fun c t => MW D A N adr c t.heap) A) args s 0 0 A := ⟨_, rfl⟩
  rw [← hQ0]
  obtain ⟨hns, hnd⟩ := hm.2.2.2.2.2.2.2
  have ho_ := ho
  have hsn_ := hS1 o ho
  obtain ⟨hn0_, hn8_, hcl_, hwd_⟩ := hsn_.2.2.2.2.2
  refine lv_aload_n hx hb dX2_keep_0 rfl (lv_at hl 0 rfl) ?_
  refine m_get (ci := 2) (C := RX2) (T := TX2) (n := 5) (v := .int (nI ns)) hx hb hts inX2_ hown hK rfl (hM.cel (by omega) hm.1) 4 (by decide) (hts _ (by decide +kernel)) rfl dX2_keep_1 ?_
  refine lv_istore_n (lv' := [(2, .int (nI ns)), (0, .ref (adr 7)), (1, .ref (adr (23 + 6 * o)))]) hx hb dX2_keep_4 rfl hl (by decide) rfl (fun ls hl => ?_)
  refine lv_iload_n hx hb dX2_keep_5 rfl (lv_at hl 0 rfl) ?_
  refine lv_if_lt (tgt := 18) hx hb dX2_keep_6 (by decide) (fun c6 => ?_) (fun c6 => ?_)
  · exact absurd c6 (nI_pos (by omega))
  · refine lv_iload_n hx hb dX2_keep_9 rfl (lv_at hl 0 rfl) ?_
    refine lv_aload_n hx hb dX2_keep_10 rfl (lv_at hl 1 rfl) ?_
    refine m_get (ci := 2) (C := RX2) (T := TX2) (n := 5) (v := .ref (adr 8)) hx hb hts inX2_ hown hK rfl (hM.cel (by omega) hm.1) 0 (by decide) (hts _ (by decide +kernel)) rfl dX2_keep_11 ?_
    refine m_alen (v := 40) (ty := _) hx hb hK 4 (hM.cel (by omega) hm.2.1) rfl (by first | rfl | decide) dX2_keep_14 ?_
    refine lv_icmp_lt (tgt := 20) hx hb dX2_keep_15 (by decide) (fun c15 => ?_) (fun c15 => ?_)
    · refine lv_aload_n hx hb dX2_keep_20 rfl (lv_at hl 1 rfl) ?_
      refine m_get (ci := 2) (C := RX2) (T := TX2) (n := 5) (v := .ref (adr 8)) hx hb hts inX2_ hown hK rfl (hM.cel (by omega) hm.1) 0 (by decide) (hts _ (by decide +kernel)) rfl dX2_keep_21 ?_
      refine lv_iload_n hx hb dX2_keep_24 rfl (lv_at hl 0 rfl) ?_
      refine lv_aload_n hx hb dX2_keep_25 rfl (lv_at hl 2 rfl) ?_
      refine m_astq hx hb hK hM hS 4 8 (by omega) hm.2.1 (23 + 6 * o) 6 (by have := ho_; omega) hsn_.1 rfl rfl (vp_in_nI (by omega) (by decide)) dX2_keep_26 (fun H locs hM hS => ?_)
      have ef_ : (va_up (sref adr ns so) (nI ns).toNatClampNeg (some (adr (23 + 6 * o)))) = sref adr (ns + 1) (va_up so ns o) := by rw [nI_clamp (by omega)]; exact sref_push
      rw [ef_] at hM
      clear ef_
      obtain ⟨w_1, ew_1⟩ : ∃ z, z = va_up w 8 (.inl (ac 4, 40, .inr (.inr (.inr (.inr (sref adr (ns + 1) (va_up so ns o))))))) := ⟨_, rfl⟩
      rw [← ew_1] at hM
      have h_2 : w_1 7 = .inr (2, [.ref (adr 8), .ref (adr 9), .ref (adr 10), .ref (adr 12), .int (nI ns)]) := by rw [ew_1, va_up_ne _ _ (by omega)]; exact hm.1
      have h_3 : w_1 8 = .inl (ac 4, 40, .inr (.inr (.inr (.inr (sref adr (ns + 1) (va_up so ns o)))))) := by rw [ew_1]; exact va_up_self _ _ _
      have h_4 : w_1 9 = .inl (ac 1, 50, .inr (.inl hv)) := by rw [ew_1, va_up_ne _ _ (by omega)]; exact hm.2.2.1
      have h_5 : w_1 10 = .inr (1, [.ref (adr 11), .int (nI nd)]) := by rw [ew_1, va_up_ne _ _ (by omega)]; exact hm.2.2.2.1
      have h_6 : w_1 11 = .inl (ac 0, 60, .inl (fun j => nI (du j))) := by rw [ew_1, va_up_ne _ _ (by omega)]; exact hm.2.2.2.2.1
      have h_7 : w_1 12 = .inr (0, [.ref (adr 13)]) := by rw [ew_1, va_up_ne _ _ (by omega)]; exact hm.2.2.2.2.2.1
      have h_8 : w_1 13 = .inl (ac 0, 81, .inl T) := by rw [ew_1, va_up_ne _ _ (by omega)]; exact hm.2.2.2.2.2.2.1
      have h_9 : w_1 (23 + 6 * o) = .inr (6, [.int (nI (oc o)), .ref (adr (23 + 6 * o + 1)), .ref (adr (23 + 6 * o + 3))]) := by rw [ew_1, va_up_ne _ _ (by omega)]; exact hsn_.1
      have h_10 : w_1 (23 + 6 * o + 1) = .inr (4, [.ref (adr (23 + 6 * o + 2)), .int (nI (on_ o))]) := by rw [ew_1, va_up_ne _ _ (by omega)]; exact hsn_.2.1
      have h_11 : w_1 (23 + 6 * o + 2) = .inl (ac 0, 8, .inl (fun j => nI (owd o j))) := by rw [ew_1, va_up_ne _ _ (by omega)]; exact hsn_.2.2.1
      have h_12 : w_1 (23 + 6 * o + 3) = .inr (4, [.ref (adr (23 + 6 * o + 4)), .int (nI (on_ o))]) := by rw [ew_1, va_up_ne _ _ (by omega)]; exact hsn_.2.2.2.1
      have h_13 : w_1 (23 + 6 * o + 4) = .inl (ac 0, 8, .inl (obf o)) := by rw [ew_1, va_up_ne _ _ (by omega)]; exact hsn_.2.2.2.2.1
      refine lv_iconst (v := 0) hx hb dX2_keep_27 (by decide) ?_
      refine lv_istore_n (lv' := [(3, .int 0), (2, .int (nI ns)), (0, .ref (adr 7)), (1, .ref (adr (23 + 6 * o)))]) hx hb dX2_keep_28 rfl hl (by decide) rfl (fun ls hl => ?_)
      have L29 : ∀ (k9 : Nat) (i : Nat) (hk : on_ o - i < k9) (hi9 : i ≤ on_ o) (wz : Nat → va_E) (z0wz : wz 7 = .inr (2, [.ref (adr 8), .ref (adr 9), .ref (adr 10), .ref (adr 12), .int (nI ns)])) (z1wz : wz 8 = .inl (ac 4, 40, .inr (.inr (.inr (.inr (sref adr (ns + 1) (va_up so ns o))))))) (z2wz : wz 9 = .inl (ac 1, 50, .inr (.inl (kpv hv ns (owd o) i)))) (z3wz : wz (23 + 6 * o) = .inr (6, [.int (nI (oc o)), .ref (adr (23 + 6 * o + 1)), .ref (adr (23 + 6 * o + 3))])) (z4wz : wz (23 + 6 * o + 1) = .inr (4, [.ref (adr (23 + 6 * o + 2)), .int (nI (on_ o))])) (z5wz : wz (23 + 6 * o + 2) = .inl (ac 0, 8, .inl (fun j => nI (owd o j)))) (zrwz : ∀ q, q ≠ 8 → q ≠ 9 → wz q = w q) (H : Heap) (locs : List Loc) (hM : MW D A N adr wz H) (hS : va_S A s.heap H locs) (ls : Array Slot) (hl : lv_has ls 5 [(0, .ref (adr 7)), (1, .ref (adr (23 + 6 * o))), (2, .int (nI ns)), (3, .int (nI i))]), W p l e (headSpec wsX2_keep ({ frames := 1, cells := 0, slots := 0, locals := 21 })).room s m args below meth c H locs 0 0 Q0 (F0 m 29 ls []) := by
        intro k9
        induction k9 with
        | zero => intro i hk hi9 wz z0wz z1wz z2wz z3wz z4wz z5wz zrwz H locs hM hS ls hl; exact absurd hk (Nat.not_lt_zero _)
        | succ k9 ih29 =>
          intro i hk hi9 wz z0wz z1wz z2wz z3wz z4wz z5wz zrwz H locs hM hS ls hl
          refine lv_iload_n hx hb dX2_keep_29 rfl (lv_at hl 3 rfl) ?_
          refine lv_aload_n hx hb dX2_keep_30 rfl (lv_at hl 1 rfl) ?_
          refine m_getN (host := RX7) (ci := 6) (C := RX6) (T := TX6) (n := 3) (v := .ref (adr (23 + 6 * o + 1))) hx hb hts inX6_ hown hK rfl (hM.cel (by have := ho_; omega) z3wz) 1 (by decide) 17 rfl rfl dX2_keep_31 ?_
          refine m_getN (host := RX7) (ci := 4) (C := RX4) (T := TX4) (n := 2) (v := .int (nI (on_ o))) hx hb hts inX4_ hown hK rfl (hM.cel (by have := ho_; omega) z4wz) 1 (by decide) 4 rfl rfl dX2_keep_34 ?_
          refine lv_icmp_ge (tgt := 84) hx hb dX2_keep_37 (by decide) (fun c37 => ?_) (fun c37 => ?_)
          · have hin : i = on_ o := by have := le_le (b := i) c37 (by omega) (by omega); omega
            refine lv_aload_n hx hb dX2_keep_84 rfl (lv_at hl 0 rfl) ?_
            refine lv_iload_n hx hb dX2_keep_85 rfl (lv_at hl 2 rfl) ?_
            refine lv_iconst (v := 1) hx hb dX2_keep_86 (by decide) ?_
            refine lv_iadd hx hb dX2_keep_87 ?_
            refine m_top (show ((nI ns) + 1) = nI (ns + 1) from nI_1 _) ?_
            refine m_put (ci := 2) (C := RX2) (T := TX2) (n := 5) (v := .int (nI (ns + 1))) (ty := tyX2 4) hx hb hts inX2_ tyX2 tyX2_ok nmX2 hown hK hM hS rfl 7 (by omega) z0wz 4 (by decide) (hts _ (by decide +kernel)) rfl (by decide +kernel) rfl rfl (Nat.le_of_ble_eq_true rfl) dX2_keep_88 (fun H locs hM hS => ?_)
            have hM : MW D A N adr (va_up wz 7 (.inr (2, [.ref (adr 8), .ref (adr 9), .ref (adr 10), .ref (adr 12), .int (nI (ns + 1))]))) H := hM
            obtain ⟨w_14, ew_14⟩ : ∃ z, z = va_up wz 7 (.inr (2, [.ref (adr 8), .ref (adr 9), .ref (adr 10), .ref (adr 12), .int (nI (ns + 1))])) := ⟨_, rfl⟩
            rw [← ew_14] at hM
            have h_15 : w_14 7 = .inr (2, [.ref (adr 8), .ref (adr 9), .ref (adr 10), .ref (adr 12), .int (nI (ns + 1))]) := by rw [ew_14]; exact va_up_self _ _ _
            have h_16 : w_14 8 = .inl (ac 4, 40, .inr (.inr (.inr (.inr (sref adr (ns + 1) (va_up so ns o)))))) := by rw [ew_14, va_up_ne _ _ (by omega)]; exact z1wz
            have h_17 : w_14 9 = .inl (ac 1, 50, .inr (.inl (kpv hv ns (owd o) i))) := by rw [ew_14, va_up_ne _ _ (by omega)]; exact z2wz
            have h_18 : w_14 (23 + 6 * o) = .inr (6, [.int (nI (oc o)), .ref (adr (23 + 6 * o + 1)), .ref (adr (23 + 6 * o + 3))]) := by rw [ew_14, va_up_ne _ _ (by omega)]; exact z3wz
            have h_19 : w_14 (23 + 6 * o + 1) = .inr (4, [.ref (adr (23 + 6 * o + 2)), .int (nI (on_ o))]) := by rw [ew_14, va_up_ne _ _ (by omega)]; exact z4wz
            have h_20 : w_14 (23 + 6 * o + 2) = .inl (ac 0, 8, .inl (fun j => nI (owd o j))) := by rw [ew_14, va_up_ne _ _ (by omega)]; exact z5wz
            refine lv_iload_n hx hb dX2_keep_91 rfl (lv_at hl 2 rfl) ?_
            rw [hQ0]
            exact e_wi hx hb hlocks hr dX2_keep_92 hM hS (⟨rfl, by rw [ew_14]; exact kp_end zrwz z1wz (by rw [← hin]; exact z2wz)⟩)
          · have hin : i < on_ o := nle_lt c37 (by omega) (by omega)
            have hwi := hwd_ i hin
            refine lv_aload_n hx hb dX2_keep_40 rfl (lv_at hl 1 rfl) ?_
            refine m_getN (host := RX7) (ci := 6) (C := RX6) (T := TX6) (n := 3) (v := .ref (adr (23 + 6 * o + 1))) hx hb hts inX6_ hown hK rfl (hM.cel (by have := ho_; omega) z3wz) 1 (by decide) 17 rfl rfl dX2_keep_41 ?_
            refine lv_iload_n hx hb dX2_keep_44 rfl (lv_at hl 3 rfl) ?_
            refine r_calli (va_runV (As := [.int (nI i)]) (rest := []) ⟨hx, hb, hml, hown, hts⟩ (k_X4_at l D ac _ (adr (23 + 6 * o + 1)) (adr (23 + 6 * o + 2)) (on_ o) (fun j => nI (owd o j)) (hM.cel (by have := ho_; omega) z4wz) (hM.cel (by have := ho_; omega) z5wz) (by omega) (nI i)) (cwV 1 hts gX2_keep_X4_at rfl rfl rfl (by decide +kernel) ⟨Nat.le_of_ble_eq_true rfl, Nat.le_of_ble_eq_true rfl⟩) (pV hK (ci := 4) rfl (hM.cel (by have := ho_; omega) z4wz)) rfl rfl hl.1 rfl (lv_room (Nat.le_of_ble_eq_true rfl)) dX2_keep_45 ⟨Nat.le_of_ble_eq_true rfl, Nat.le_of_ble_eq_true rfl⟩) hS (fun rv_21 locs hrv_21 hS => ?_)
            subst hrv_21
            refine m_top (show ((ix (nI i) (on_ o)).elim (-1) (fun j => nI (owd o j))) = nI (owd o i) from by rw [ix_nI hin (by omega)]; rfl) ?_
            refine lv_istore (lv' := [(4, .int (nI (owd o i))), (0, .ref (adr 7)), (1, .ref (adr (23 + 6 * o))), (2, .int (nI ns)), (3, .int (nI i))]) hx hb dX2_keep_48 hl (by decide) rfl (fun ls hl => ?_)
            refine lv_iload hx hb dX2_keep_50 (lv_at hl 0 rfl) ?_
            refine lv_if_lt (tgt := 78) hx hb dX2_keep_52 (by decide) (fun c52 => ?_) (fun c52 => ?_)
            · exact absurd c52 (nI_pos (by omega))
            · refine lv_iload hx hb dX2_keep_55 (lv_at hl 0 rfl) ?_
              refine lv_aload_n hx hb dX2_keep_57 rfl (lv_at hl 1 rfl) ?_
              refine m_get (ci := 2) (C := RX2) (T := TX2) (n := 5) (v := .ref (adr 9)) hx hb hts inX2_ hown hK rfl (hM.cel (by omega) z0wz) 1 (by decide) (hts _ (by decide +kernel)) rfl dX2_keep_58 ?_
              refine m_alen (v := 50) (ty := _) hx hb hK 1 (hM.cel (by omega) z2wz) rfl (by first | rfl | decide) dX2_keep_61 ?_
              refine lv_icmp_ge (tgt := 78) hx hb dX2_keep_62 (by decide) (fun c62 => ?_) (fun c62 => ?_)
              · exact absurd (le_le (a := 50) c62 (by omega) (by omega)) (by omega)
              · refine lv_aload_n hx hb dX2_keep_65 rfl (lv_at hl 1 rfl) ?_
                refine m_get (ci := 2) (C := RX2) (T := TX2) (n := 5) (v := .ref (adr 9)) hx hb hts inX2_ hown hK rfl (hM.cel (by omega) z0wz) 1 (by decide) (hts _ (by decide +kernel)) rfl dX2_keep_66 ?_
                refine lv_iload hx hb dX2_keep_69 (lv_at hl 0 rfl) ?_
                refine lv_dup2_11 hx hb dX2_keep_71 rfl rfl ?_
                refine m_lald hx hb hK (hM.cel (by omega) z2wz) (vp_in_nI (by omega) (by decide)) dX2_keep_72 ?_
                refine m_topl (show (kpv hv ns (owd o) i) (nI (owd o i)).toNatClampNeg = (kpv hv ns (owd o) i) (owd o i) from by rw [nI_clamp (by omega)]) ?_
                refine lv_lconst (v := 1) hx hb dX2_keep_73 (by decide) ?_
                refine lv_iload_n hx hb dX2_keep_74 rfl (lv_at hl 3 rfl) ?_
                refine lv_lshl (v := 1 <<< ((nI ns).toInt64 &&& 63)) hx hb dX2_keep_75 rfl ?_
                refine lv_lor hx hb dX2_keep_76 ?_
                refine m_last hx hb hK hM hS 9 (by omega) z2wz (vp_in_nI (by omega) (by decide)) dX2_keep_77 (fun H locs hM hS => ?_)
                have ef_ : (vp_updL (kpv hv ns (owd o) i) (nI (owd o i)).toNatClampNeg (((kpv hv ns (owd o) i) (owd o i)) ||| (1 <<< ((nI ns).toInt64 &&& 63)))) = kpv hv ns (owd o) (i + 1) := by rw [nI_clamp (by omega)]; rfl
                rw [ef_] at hM
                clear ef_
                obtain ⟨w_23, ew_23⟩ : ∃ z, z = va_up wz 9 (.inl (ac 1, 50, .inr (.inl (kpv hv ns (owd o) (i + 1))))) := ⟨_, rfl⟩
                rw [← ew_23] at hM
                have h_24 : w_23 7 = .inr (2, [.ref (adr 8), .ref (adr 9), .ref (adr 10), .ref (adr 12), .int (nI ns)]) := by rw [ew_23, va_up_ne _ _ (by omega)]; exact z0wz
                have h_25 : w_23 8 = .inl (ac 4, 40, .inr (.inr (.inr (.inr (sref adr (ns + 1) (va_up so ns o)))))) := by rw [ew_23, va_up_ne _ _ (by omega)]; exact z1wz
                have h_26 : w_23 9 = .inl (ac 1, 50, .inr (.inl (kpv hv ns (owd o) (i + 1)))) := by rw [ew_23]; exact va_up_self _ _ _
                have h_27 : w_23 (23 + 6 * o) = .inr (6, [.int (nI (oc o)), .ref (adr (23 + 6 * o + 1)), .ref (adr (23 + 6 * o + 3))]) := by rw [ew_23, va_up_ne _ _ (by omega)]; exact z3wz
                have h_28 : w_23 (23 + 6 * o + 1) = .inr (4, [.ref (adr (23 + 6 * o + 2)), .int (nI (on_ o))]) := by rw [ew_23, va_up_ne _ _ (by omega)]; exact z4wz
                have h_29 : w_23 (23 + 6 * o + 2) = .inl (ac 0, 8, .inl (fun j => nI (owd o j))) := by rw [ew_23, va_up_ne _ _ (by omega)]; exact z5wz
                refine lv_iinc (v := nI (i + 1)) (lv' := [(3, .int (nI (i + 1))), (4, .int (nI (owd o i))), (0, .ref (adr 7)), (1, .ref (adr (23 + 6 * o))), (2, .int (nI ns))]) hx hb dX2_keep_78 hl (k := 4) rfl (nI_1 _) (by decide) rfl (fun ls hl => ?_)
                refine lv_goto (tgt := 29) hx hb dX2_keep_81 (by decide) ?_
                exact ih29 (i + 1) (by omega) (by omega) w_23 h_24 h_25 h_26 h_27 h_28 h_29 (fun q q1 q2 => by rw [ew_23, va_up_ne _ _ q2]; exact zrwz q q1 q2) _ _ hM hS ls (lv_sub hl [2, 3, 4, 0] rfl)
      exact L29 _ 0 (Nat.lt_succ_self _) (Nat.zero_le _) w_1 h_2 h_3 h_4 h_9 h_10 h_11 (fun q q1 q2 => by rw [ew_1, va_up_ne _ _ q1]) _ _ hM hS ls (lv_sub hl [2, 3, 1, 0] rfl)
    · exact absurd (nlt_le (b := 40) c15 (by omega) (by omega)) (by omega)
end
section
theorem ho_t {n : Nat} {d : Nat → Nat} {i : Nat} {r : Int32} (h : HoP n (fun j => nI (d j)) (nI i) r) (c : ¬ r = 0) (hd : ∀ j, j < n → d j < 2 ^ 31) (hi : i < 2 ^ 31) : i ∈ lst n d := by
  rcases h with ⟨_, j, h1, h2⟩ | ⟨h1, _⟩
  · have := (nI_eq (hd j h1) hi).mp h2
    exact List.mem_map.mpr ⟨j, List.mem_range.mpr h1, this⟩
  · exact absurd h1 c
theorem ho_f {n : Nat} {d : Nat → Nat} {i : Nat} {r : Int32} (h : HoP n (fun j => nI (d j)) (nI i) r) (c : r = 0) : ¬ i ∈ lst n d := by
  rcases h with ⟨h1, _⟩ | ⟨_, h1⟩
  · rw [h1] at c; exact absurd c (by decide)
  · intro q
    obtain ⟨j, h2, h3⟩ := List.mem_map.mp q
    exact h1 j (List.mem_range.mp h2) (congrArg nI h3)
theorem two_up {w w1 : Nat → va_E} {e10 e11 : va_E} (h1 : w1 11 = e11) (h0 : w1 10 = e10) (h : ∀ q, q ≠ 10 → q ≠ 11 → w1 q = w q) : w1 = va_up (va_up w 11 e11) 10 e10 := by
  funext q
  by_cases q1 : q = 10
  · subst q1; rw [va_up_self, h0]
  · rw [va_up_ne _ _ q1]
    by_cases q2 : q = 11
    · subst q2; rw [va_up_self, h1]
    · rw [va_up_ne _ _ q2, h q q1 q2]
set_option maxHeartbeats 4000000 in
set_option maxRecDepth 100000 in
/-- Memory.listDue -/
theorem k_X2_listDue (l : Launch) (D : va_G) (ac : Nat → ClassId) (H : Heap) (A : Nat → Prop) (N : Nat) (adr : Nat → Nat) (w : Nat → va_E) (hM : MW D A N adr w H) (no : Nat) (oc on_ : Nat → Nat) (owd : Nat → Nat → Nat) (obf : Nat → Nat → Int32) (ns : Nat) (so : Nat → Nat) (hv : Nat → Int64) (nd : Nat) (du : Nat → Nat) (T : Nat → Int32) (hN : 22 + 6 * no ≤ N) (hS1 : SenF ac adr w no oc on_ owd obf) (hm : MemW ac adr w ns so hv nd du T) (hso : ∀ i, i < ns → so i < no) (fs fr : Nat → Int32) (ft : Nat → Nat) (hru : RulW ac adr w fs fr ft) (hdn : (lst nd du).Nodup) (hdu : ∀ x ∈ lst nd du, x < ns) : WRv l yX2_listDue wsX2_listDue ({ frames := 4, cells := 0, slots := 0, locals := 90 }) [.ref (adr 7), .ref (adr 3)] D ac H A N adr (fun w1 => ∃ (n2 : Nat) (d2 : Nat → Nat), w1 = va_up (va_up w 11 (.inl (ac 0, 60, .inl (fun j => nI (d2 j))))) 10 (.inr (1, [.ref (adr 11), .int (nI n2)])) ∧ lst n2 d2 = LD2 (fun i => asB fr (oc (so i)) (on_ (so i)) (owd (so i)) (obf (so i))) ((lst nd du).filter (fun i => asB fr (oc (so i)) (on_ (so i)) (owd (so i)) (obf (so i)))) ns) := by
  refine Met.ofW (cc := cX2_listDue) (maxL := 4) (ret := none) (by decide) rfl ?_
  intro p e s m args below meth c s₁ B hml hv
  obtain ⟨hargs, hsz, hK⟩ := hv
  have hx := B.exec
  have hb := B.bytes
  have hr := B.returns
  have hts := atoms_spec (ws := wsX2_listDue) B.pre
  have hown : s.vm.findClass RX2 = some m.cls := findClass_of_methodNamed B.named
  have hlocks := B.notSynchronized
  subst hsz
  have inX1_ : ∀ w ∈ wsX10, w ∈ wsX2_listDue := by decide +kernel
  have inX2_ : ∀ w ∈ wsX20, w ∈ wsX2_listDue := by decide +kernel
  have hS : va_S A s.heap s.heap [] := va_S.rf
  have hl := lv_entry ([.ref (adr 7), .ref (adr 3)]) (n := 4) (Nat.le_of_ble_eq_true rfl)
  have hen := lg_entry_eq m [.ref (adr 7), .ref (adr 3)] 4
  rw [← hargs] at hen
  rw [hen]
  generalize (lg_sl ([.ref (adr 7), .ref (adr 3)]) ++ List.replicate (4 - (lg_sl ([.ref (adr 7), .ref (adr 3)])).length) Slot.unset).toArray = ls at hl ⊢
  have hl : lv_has ls 4 [(0, .ref (adr 7)), (1, .ref (adr 3))] := hl
  obtain ⟨Q0, hQ0⟩ : ∃ z, z = MQ below (va_Qv (fun w1 => ∃ (n2 : Nat) (d2 : Nat → Nat), w1 = va_up (va_up w 11 (.inl (ac 0, 60, .inl (fun j => nI (d2 j))))) 10 (.inr (1, [.ref (adr 11), .int (nI n2)])) ∧ lst n2 d2 = LD2 (fun i => asB fr (oc (so i)) (on_ (so i)) (owd (so i)) (obf (so i))) ((lst nd du).filter (fun i => asB fr (oc (so i)) (on_ (so i)) (owd (so i)) (obf (so i)))) ns) (fun c t => MW D A N adr c t.heap) A) args s 0 0 A := ⟨_, rfl⟩
  rw [← hQ0]
  obtain ⟨hns, hnd⟩ := hm.2.2.2.2.2.2.2
  obtain ⟨P0, hP0⟩ : ∃ z : Nat → Bool, z = (fun i => asB fr (oc (so i)) (on_ (so i)) (owd (so i)) (obf (so i))) := ⟨_, rfl⟩
  refine lv_aload_n hx hb dX2_listDue_0 rfl (lv_at hl 0 rfl) ?_
  refine m_get (ci := 2) (C := RX2) (T := TX2) (n := 5) (v := .ref (adr 10)) hx hb hts inX2_ hown hK rfl (hM.cel (by omega) hm.1) 2 (by decide) (hts _ (by decide +kernel)) rfl dX2_listDue_1 ?_
  refine m_getN (host := RX7) (ci := 1) (C := RX1) (T := TX1) (n := 2) (v := .int (nI nd)) hx hb hts inX1_ hown hK rfl (hM.cel (by omega) hm.2.2.2.1) 1 (by decide) 7 rfl rfl dX2_listDue_4 ?_
  refine lv_iconst (v := 1) hx hb dX2_listDue_7 (by decide) ?_
  refine lv_isub hx hb dX2_listDue_8 ?_
  refine lv_istore_n (lv' := [(2, .int ((nI nd) - 1)), (0, .ref (adr 7)), (1, .ref (adr 3))]) hx hb dX2_listDue_9 rfl hl (by decide) rfl (fun ls hl => ?_)
  have L10 : ∀ (k9 : Nat) (k : Nat) (n1 : Nat) (d1 : Nat → Nat) (hk : k < k9) (hk8 : k ≤ nd) (hkn : k ≤ n1) (hn1 : n1 ≤ 40) (hL1 : lst n1 d1 = LD1 P0 (lst nd du) k) (wz : Nat → va_E) (z0wz : wz 7 = .inr (2, [.ref (adr 8), .ref (adr 9), .ref (adr 10), .ref (adr 12), .int (nI ns)])) (z1wz : wz 8 = .inl (ac 4, 40, .inr (.inr (.inr (.inr (sref adr ns so)))))) (z2wz : wz 10 = .inr (1, [.ref (adr 11), .int (nI n1)])) (z3wz : wz 11 = .inl (ac 0, 60, .inl (fun j => nI (d1 j)))) (z4wz : wz 3 = .inr (5, [.ref (adr 4), .ref (adr 5), .ref (adr 6)])) (z5wz : wz 4 = .inl (ac 0, 600, .inl fs)) (z6wz : wz 5 = .inl (ac 0, 200, .inl fr)) (z7wz : wz 6 = .inl (ac 0, 200, .inl (fun j => nI (ft j)))) (zSwz : SenF ac adr wz no oc on_ owd obf) (zrwz : ∀ q, q ≠ 10 → q ≠ 11 → wz q = w q) (H : Heap) (locs : List Loc) (hM : MW D A N adr wz H) (hS : va_S A s.heap H locs) (ls : Array Slot) (hl : lv_has ls 4 [(0, .ref (adr 7)), (1, .ref (adr 3)), (2, .int (nI k - 1))]), W p l e (headSpec wsX2_listDue ({ frames := 4, cells := 0, slots := 0, locals := 90 })).room s m args below meth c H locs 0 0 Q0 (F0 m 10 ls []) := by
    intro k9
    induction k9 with
    | zero => intro k n1 d1 hk hk8 hkn hn1 hL1 wz z0wz z1wz z2wz z3wz z4wz z5wz z6wz z7wz zSwz zrwz H locs hM hS ls hl; exact absurd hk (Nat.not_lt_zero _)
    | succ k9 ih10 =>
      intro k n1 d1 hk hk8 hkn hn1 hL1 wz z0wz z1wz z2wz z3wz z4wz z5wz z6wz z7wz zSwz zrwz H locs hM hS ls hl
      refine lv_iload_n hx hb dX2_listDue_10 rfl (lv_at hl 2 rfl) ?_
      refine lv_if_lt (tgt := 54) hx hb dX2_listDue_11 (by decide) (fun c11 => ?_) (fun c11 => ?_)
      · have hk0 : k = 0 := Classical.byContradiction (fun e => absurd c11 (by rw [show nI k - 1 = nI (k - 1) from pk_sub (a := k) (b := 1) (by omega)]; exact nI_pos (by omega)))
        refine lv_iconst (v := 0) hx hb dX2_listDue_54 (by decide) ?_
        refine lv_istore_n (lv' := [(2, .int 0), (0, .ref (adr 7)), (1, .ref (adr 3))]) hx hb dX2_listDue_55 rfl hl (by decide) rfl (fun ls hl => ?_)
        have L56 : ∀ (k9 : Nat) (i : Nat) (n2 : Nat) (d2 : Nat → Nat) (hk2 : ns - i < k9) (hi9 : i ≤ ns) (hn2 : n2 ≤ 40) (hL2 : lst n2 d2 = LD2 P0 ((lst nd du).filter P0) i) (wy : Nat → va_E) (z0wy : wy 7 = .inr (2, [.ref (adr 8), .ref (adr 9), .ref (adr 10), .ref (adr 12), .int (nI ns)])) (z1wy : wy 8 = .inl (ac 4, 40, .inr (.inr (.inr (.inr (sref adr ns so)))))) (z2wy : wy 10 = .inr (1, [.ref (adr 11), .int (nI n2)])) (z3wy : wy 11 = .inl (ac 0, 60, .inl (fun j => nI (d2 j)))) (z4wy : wy 3 = .inr (5, [.ref (adr 4), .ref (adr 5), .ref (adr 6)])) (z5wy : wy 4 = .inl (ac 0, 600, .inl fs)) (z6wy : wy 5 = .inl (ac 0, 200, .inl fr)) (z7wy : wy 6 = .inl (ac 0, 200, .inl (fun j => nI (ft j)))) (zSwy : SenF ac adr wy no oc on_ owd obf) (zrwy : ∀ q, q ≠ 10 → q ≠ 11 → wy q = w q) (H : Heap) (locs : List Loc) (hM : MW D A N adr wy H) (hS : va_S A s.heap H locs) (ls : Array Slot) (hl : lv_has ls 4 [(0, .ref (adr 7)), (1, .ref (adr 3)), (2, .int (nI i))]), W p l e (headSpec wsX2_listDue ({ frames := 4, cells := 0, slots := 0, locals := 90 })).room s m args below meth c H locs 0 0 Q0 (F0 m 56 ls []) := by
          intro k9
          induction k9 with
          | zero => intro i n2 d2 hk2 hi9 hn2 hL2 wy z0wy z1wy z2wy z3wy z4wy z5wy z6wy z7wy zSwy zrwy H locs hM hS ls hl; exact absurd hk2 (Nat.not_lt_zero _)
          | succ k9 ih56 =>
            intro i n2 d2 hk2 hi9 hn2 hL2 wy z0wy z1wy z2wy z3wy z4wy z5wy z6wy z7wy zSwy zrwy H locs hM hS ls hl
            refine lv_iload_n hx hb dX2_listDue_56 rfl (lv_at hl 2 rfl) ?_
            refine lv_aload_n hx hb dX2_listDue_57 rfl (lv_at hl 0 rfl) ?_
            refine m_get (ci := 2) (C := RX2) (T := TX2) (n := 5) (v := .int (nI ns)) hx hb hts inX2_ hown hK rfl (hM.cel (by omega) z0wy) 4 (by decide) (hts _ (by decide +kernel)) rfl dX2_listDue_58 ?_
            refine lv_icmp_ge (tgt := 108) hx hb dX2_listDue_61 (by decide) (fun c61 => ?_) (fun c61 => ?_)
            · have hin : i = ns := by have := le_le (b := i) c61 (by omega) (by omega); omega
              rw [hQ0]
              exact e_wv hx hb hlocks hr dX2_listDue_108 hM hS (⟨n2, d2, two_up z3wy z2wy zrwy, by rw [hL2, hin, hP0]⟩)
            · have hin : i < ns := nle_lt c61 (by omega) (by omega)
              refine lv_aload_n hx hb dX2_listDue_64 rfl (lv_at hl 0 rfl) ?_
              refine lv_iload_n hx hb dX2_listDue_65 rfl (lv_at hl 2 rfl) ?_
              refine r_callq (va_runV (As := [.int (nI i)]) (rest := []) ⟨hx, hb, hml, hown, hts⟩ (k_X2_sentenceAt l D ac _ (adr 7) (adr 8) (sref adr ns so) (.ref (adr 9)) (.ref (adr 10)) (.ref (adr 12)) (.int (nI ns)) (hM.cel (by omega) z0wy) (hM.cel (by omega) z1wy) (nI i)) (cwV 1 hts gX2_listDue_X2_sentenceAt rfl rfl rfl (by decide +kernel) ⟨Nat.le_of_ble_eq_true rfl, Nat.le_of_ble_eq_true rfl⟩) (pV hK (ci := 2) rfl (hM.cel (by omega) z0wy)) rfl rfl hl.1 rfl (lv_room (Nat.le_of_ble_eq_true rfl)) dX2_listDue_66 ⟨Nat.le_of_ble_eq_true rfl, Nat.le_of_ble_eq_true rfl⟩) hS (fun rv_1 locs hrv_1 hS => ?_)
              subst hrv_1
              refine m_topq (show (ix (nI i) 40).bind (sref adr ns so) = (ix (nI i) ns).map (fun i => adr (23 + 6 * so i)) from sat_eq (by omega)) ?_
              rcases hi : ix (nI i) ns with _ | jhi
              · exact absurd (ix_nI hin (by omega)) (by rw [hi]; exact fun h => nomatch h)
              · obtain ⟨hj_, he_⟩ := ix_of hi (by omega)
                have hji : i = jhi := (nI_eq (by omega) (by omega)).mp he_
                subst hji
                have ho_ : so i < no := hso i hj_
                have hsn_ := zSwy (so i) ho_
                obtain ⟨hn0_, hn8_, hcl_, hwd_⟩ := hsn_.2.2.2.2.2
                refine m_topr ?_
                refine lv_astore_n (lv' := [(3, .ref (adr (23 + 6 * so i))), (0, .ref (adr 7)), (1, .ref (adr 3)), (2, .int (nI i))]) hx hb dX2_listDue_69 rfl hl (by decide) rfl (fun ls hl => ?_)
                refine lv_aload_n hx hb dX2_listDue_70 rfl (lv_at hl 0 rfl) ?_
                refine lv_ifnull hx hb dX2_listDue_71 ?_
                refine lv_aload_n hx hb dX2_listDue_74 rfl (lv_at hl 0 rfl) ?_
                refine lv_aload_n hx hb dX2_listDue_75 rfl (lv_at hl 2 rfl) ?_
                refine r_calli (va_runV (As := [.ref (adr 3)]) (rest := []) ⟨hx, hb, hml, hown, hts⟩ (k_X6_firstAstray l D ac _ (adr (23 + 6 * so i)) (adr (23 + 6 * so i + 1)) (adr (23 + 6 * so i + 2)) (adr (23 + 6 * so i + 3)) (adr (23 + 6 * so i + 4)) ((oc (so i))) ((on_ (so i))) (fun j => nI (owd (so i) j)) (obf (so i)) (owd (so i)) ⟨(hM.cel (by have := ho_; omega) hsn_.1), (hM.cel (by have := ho_; omega) hsn_.2.1), (hM.cel (by have := ho_; omega) hsn_.2.2.1), (hM.cel (by have := ho_; omega) hsn_.2.2.2.1), (hM.cel (by have := ho_; omega) hsn_.2.2.2.2.1), ⟨hn8_, hcl_, fun j hj => ⟨rfl, hwd_ j hj⟩⟩⟩ (adr 3) (adr 4) (adr 5) (adr 6) fs fr (fun j => nI (ft j)) ⟨(hM.cel (by omega) z4wy), (hM.cel (by omega) z5wy), (hM.cel (by omega) z6wy), (hM.cel (by omega) z7wy)⟩) (cwV 1 hts gX2_listDue_X6_firstAstray rfl rfl rfl (by decide +kernel) ⟨Nat.le_of_ble_eq_true rfl, Nat.le_of_ble_eq_true rfl⟩) (pV hK (ci := 6) rfl (hM.cel (by have := ho_; omega) hsn_.1)) rfl rfl hl.1 rfl (lv_room (Nat.le_of_ble_eq_true rfl)) dX2_listDue_76 ⟨Nat.le_of_ble_eq_true rfl, Nat.le_of_ble_eq_true rfl⟩) hS (fun rv_2 locs hrv_2 hS => ?_)
                refine lv_iconst (v := (-1)) hx hb dX2_listDue_79 (by decide) ?_
                refine lv_icmp_eq (tgt := 102) hx hb dX2_listDue_80 (by decide) (fun c80 => ?_) (fun c80 => ?_)
                · have hP_ : P0 i = false := by rw [hP0]; exact asB_f (by omega) hrv_2 c80
                  have hX_ := LD2_skip (P := P0) (E := (lst nd du).filter P0) (i := i) (Or.inl hP_)
                  refine lv_iinc (v := nI (i + 1)) (lv' := [(2, .int (nI (i + 1))), (3, .ref (adr (23 + 6 * so i))), (0, .ref (adr 7)), (1, .ref (adr 3))]) hx hb dX2_listDue_102 hl (k := 3) rfl (nI_1 _) (by decide) rfl (fun ls hl => ?_)
                  refine lv_goto (tgt := 56) hx hb dX2_listDue_105 (by decide) ?_
                  exact ih56 (i + 1) n2 d2 (by omega) (by omega) hn2 (hL2.trans hX_.symm) wy z0wy z1wy z2wy z3wy z4wy z5wy z6wy z7wy zSwy zrwy _ _ hM hS ls (lv_sub hl [2, 3, 0] rfl)
                · have hP_ : P0 i = true := by rw [hP0]; exact asB_t hrv_2 c80
                  refine lv_aload_n hx hb dX2_listDue_83 rfl (lv_at hl 1 rfl) ?_
                  refine m_get (ci := 2) (C := RX2) (T := TX2) (n := 5) (v := .ref (adr 10)) hx hb hts inX2_ hown hK rfl (hM.cel (by omega) z0wy) 2 (by decide) (hts _ (by decide +kernel)) rfl dX2_listDue_84 ?_
                  refine lv_iload_n hx hb dX2_listDue_87 rfl (lv_at hl 3 rfl) ?_
                  refine r_calli (va_runV (As := [.int (nI i)]) (rest := []) ⟨hx, hb, hml, hown, hts⟩ (k_X1_holds l D ac _ (adr 10) (adr 11) n2 (fun j => nI (d2 j)) (hM.cel (by omega) z2wy) (hM.cel (by omega) z3wy) (by omega) (nI i)) (cwV 1 hts gX2_listDue_X1_holds rfl rfl rfl (by decide +kernel) ⟨Nat.le_of_ble_eq_true rfl, Nat.le_of_ble_eq_true rfl⟩) (pV hK (ci := 1) rfl (hM.cel (by omega) z2wy)) rfl rfl hl.1 rfl (lv_room (Nat.le_of_ble_eq_true rfl)) dX2_listDue_88 ⟨Nat.le_of_ble_eq_true rfl, Nat.le_of_ble_eq_true rfl⟩) hS (fun rv_3 locs hrv_3 hS => ?_)
                  refine lv_if_ne (tgt := 102) hx hb dX2_listDue_91 (by decide) (fun c91 => ?_) (fun c91 => ?_)
                  · have hX_ := LD2_skip (P := P0) (E := (lst nd du).filter P0) (i := i) (Or.inr (by rw [← hL2]; exact ho_t hrv_3 c91 (fun j hj => by have := (LD2_ok (P := P0) (hdn.filter P0) (fun x hx => hdu x (List.mem_filter.mp hx).1) i (by omega)).2 (d2 j) (by rw [← hL2]; exact List.mem_map.mpr ⟨j, List.mem_range.mpr hj, rfl⟩); omega) (by omega)))
                    refine lv_iinc (v := nI (i + 1)) (lv' := [(2, .int (nI (i + 1))), (3, .ref (adr (23 + 6 * so i))), (0, .ref (adr 7)), (1, .ref (adr 3))]) hx hb dX2_listDue_102 hl (k := 3) rfl (nI_1 _) (by decide) rfl (fun ls hl => ?_)
                    refine lv_goto (tgt := 56) hx hb dX2_listDue_105 (by decide) ?_
                    exact ih56 (i + 1) n2 d2 (by omega) (by omega) hn2 (hL2.trans hX_.symm) wy z0wy z1wy z2wy z3wy z4wy z5wy z6wy z7wy zSwy zrwy _ _ hM hS ls (lv_sub hl [2, 3, 0] rfl)
                  · have hX_ := LD2_add (P := P0) (E := (lst nd du).filter P0) (i := i) hP_ (by rw [← hL2]; exact ho_f hrv_3 c91)
                    have hn2x : n2 + 1 ≤ 40 := by have q_ := LD2_ok (P := P0) (hdn.filter P0) (fun x hx => hdu x (List.mem_filter.mp hx).1) (i + 1) (by omega); have := nodup_len ns _ q_.1 q_.2; rw [hX_, List.length_append, ← hL2, lst_len] at this; simp at this; omega
                    refine lv_aload_n hx hb dX2_listDue_94 rfl (lv_at hl 1 rfl) ?_
                    refine m_get (ci := 2) (C := RX2) (T := TX2) (n := 5) (v := .ref (adr 10)) hx hb hts inX2_ hown hK rfl (hM.cel (by omega) z0wy) 2 (by decide) (hts _ (by decide +kernel)) rfl dX2_listDue_95 ?_
                    refine lv_iload_n hx hb dX2_listDue_98 rfl (lv_at hl 3 rfl) ?_
                    refine w_callv (va_runV (As := [.int (nI i)]) (rest := []) ⟨hx, hb, hml, hown, hts⟩ (k_X1_addLast l D ac _ A N adr wy hM 10 11 n2 (fun j => nI (d2 j)) (by omega) (by omega) (by omega) z2wy z3wy (by omega) (nI i)) (cwV 1 hts gX2_listDue_X1_addLast rfl rfl rfl (by decide +kernel) ⟨Nat.le_of_ble_eq_true rfl, Nat.le_of_ble_eq_true rfl⟩) (pV hK (ci := 1) rfl (hM.cel (by omega) z2wy)) rfl rfl hl.1 rfl (lv_room (Nat.le_of_ble_eq_true rfl)) dX2_listDue_99 ⟨Nat.le_of_ble_eq_true rfl, Nat.le_of_ble_eq_true rfl⟩) hS (fun w_5 H locs hw_5 hM hS => ?_)
                    rw [upd_nI] at hw_5
                    have h_6 : w_5 7 = .inr (2, [.ref (adr 8), .ref (adr 9), .ref (adr 10), .ref (adr 12), .int (nI ns)]) := by rw [hw_5, va_up_ne _ _ (by omega), va_up_ne _ _ (by omega)]; exact z0wy
                    have h_7 : w_5 8 = .inl (ac 4, 40, .inr (.inr (.inr (.inr (sref adr ns so))))) := by rw [hw_5, va_up_ne _ _ (by omega), va_up_ne _ _ (by omega)]; exact z1wy
                    have h_8 : w_5 10 = .inr (1, [.ref (adr 11), .int (nI (n2 + 1))]) := by rw [hw_5]; exact va_up_self _ _ _
                    have h_9 : w_5 11 = .inl (ac 0, 60, .inl (fun j => nI (va_up d2 n2 i j))) := by rw [hw_5, va_up_ne _ _ (by omega)]; exact va_up_self _ _ _
                    have h_10 : w_5 3 = .inr (5, [.ref (adr 4), .ref (adr 5), .ref (adr 6)]) := by rw [hw_5, va_up_ne _ _ (by omega), va_up_ne _ _ (by omega)]; exact z4wy
                    have h_11 : w_5 4 = .inl (ac 0, 600, .inl fs) := by rw [hw_5, va_up_ne _ _ (by omega), va_up_ne _ _ (by omega)]; exact z5wy
                    have h_12 : w_5 5 = .inl (ac 0, 200, .inl fr) := by rw [hw_5, va_up_ne _ _ (by omega), va_up_ne _ _ (by omega)]; exact z6wy
                    have h_13 : w_5 6 = .inl (ac 0, 200, .inl (fun j => nI (ft j))) := by rw [hw_5, va_up_ne _ _ (by omega), va_up_ne _ _ (by omega)]; exact z7wy
                    have h_14 : w_5 (23 + 6 * so i) = .inr (6, [.int (nI (oc (so i))), .ref (adr (23 + 6 * so i + 1)), .ref (adr (23 + 6 * so i + 3))]) := by rw [hw_5, va_up_ne _ _ (by omega), va_up_ne _ _ (by omega)]; exact hsn_.1
                    have h_15 : w_5 (23 + 6 * so i + 1) = .inr (4, [.ref (adr (23 + 6 * so i + 2)), .int (nI (on_ (so i)))]) := by rw [hw_5, va_up_ne _ _ (by omega), va_up_ne _ _ (by omega)]; exact hsn_.2.1
                    have h_16 : w_5 (23 + 6 * so i + 2) = .inl (ac 0, 8, .inl (fun j => nI (owd (so i) j))) := by rw [hw_5, va_up_ne _ _ (by omega), va_up_ne _ _ (by omega)]; exact hsn_.2.2.1
                    have h_17 : w_5 (23 + 6 * so i + 3) = .inr (4, [.ref (adr (23 + 6 * so i + 4)), .int (nI (on_ (so i)))]) := by rw [hw_5, va_up_ne _ _ (by omega), va_up_ne _ _ (by omega)]; exact hsn_.2.2.2.1
                    have h_18 : w_5 (23 + 6 * so i + 4) = .inl (ac 0, 8, .inl (obf (so i))) := by rw [hw_5, va_up_ne _ _ (by omega), va_up_ne _ _ (by omega)]; exact hsn_.2.2.2.2.1
                    have h_19 : SenF ac adr w_5 no oc on_ owd obf := by rw [hw_5]; exact (SenF.up (by omega) (SenF.up (by omega) zSwy))
                    refine lv_iinc (v := nI (i + 1)) (lv' := [(2, .int (nI (i + 1))), (3, .ref (adr (23 + 6 * so i))), (0, .ref (adr 7)), (1, .ref (adr 3))]) hx hb dX2_listDue_102 hl (k := 3) rfl (nI_1 _) (by decide) rfl (fun ls hl => ?_)
                    refine lv_goto (tgt := 56) hx hb dX2_listDue_105 (by decide) ?_
                    exact ih56 (i + 1) ((n2 + 1)) (va_up d2 n2 i) (by omega) (by omega) (by omega) (by rw [hX_, lst_push, hL2]) w_5 h_6 h_7 h_8 h_9 h_10 h_11 h_12 h_13 h_19 (fun q q1 q2 => by rw [hw_5, va_up_ne _ _ q1, va_up_ne _ _ q2]; exact zrwy q q1 q2) _ _ hM hS ls (lv_sub hl [2, 3, 0] rfl)
        exact L56 _ 0 n1 d1 (Nat.lt_succ_self _) (Nat.zero_le _) hn1 (by rw [hL1, hk0, LD1_0, LD2_0]) wz z0wz z1wz z2wz z3wz z4wz z5wz z6wz z7wz zSwz zrwz _ _ hM hS ls (lv_sub hl [1, 2, 0] rfl)
      · have hk1 : 0 < k := Nat.pos_of_ne_zero (fun e => by rw [e] at c11; exact c11 (by decide))
        have ek_ : nI k - 1 = nI (k - 1) := pk_sub (a := k) (b := 1) (by omega)
        rw [ek_] at hl
        have hdk : (lst nd du)[k - 1]? = some (d1 (k - 1)) := by rw [← LD1_at (P := P0) (show k - 1 < k by omega), ← hL1, lst_get (by omega)]
        have hdm : d1 (k - 1) < ns := hdu _ (List.mem_of_getElem? hdk)
        refine lv_aload_n hx hb dX2_listDue_14 rfl (lv_at hl 0 rfl) ?_
        refine lv_aload_n hx hb dX2_listDue_15 rfl (lv_at hl 0 rfl) ?_
        refine m_get (ci := 2) (C := RX2) (T := TX2) (n := 5) (v := .ref (adr 10)) hx hb hts inX2_ hown hK rfl (hM.cel (by omega) z0wz) 2 (by decide) (hts _ (by decide +kernel)) rfl dX2_listDue_16 ?_
        refine lv_iload_n hx hb dX2_listDue_19 rfl (lv_at hl 2 rfl) ?_
        refine r_calli (va_runV (As := [.int (nI (k - 1))]) (rest := [.ref (adr 7)]) ⟨hx, hb, hml, hown, hts⟩ (k_X1_at l D ac _ (adr 10) (adr 11) n1 (fun j => nI (d1 j)) (hM.cel (by omega) z2wz) (hM.cel (by omega) z3wz) (by omega) (nI (k - 1))) (cwV 1 hts gX2_listDue_X1_at rfl rfl rfl (by decide +kernel) ⟨Nat.le_of_ble_eq_true rfl, Nat.le_of_ble_eq_true rfl⟩) (pV hK (ci := 1) rfl (hM.cel (by omega) z2wz)) rfl rfl hl.1 rfl (lv_room (Nat.le_of_ble_eq_true rfl)) dX2_listDue_20 ⟨Nat.le_of_ble_eq_true rfl, Nat.le_of_ble_eq_true rfl⟩) hS (fun rv_20 locs hrv_20 hS => ?_)
        subst hrv_20
        refine m_top (show ((ix (nI (k - 1)) n1).elim (-1) (fun j => nI (d1 j))) = nI (d1 (k - 1)) from by rw [ix_nI (by omega) (by omega)]; rfl) ?_
        refine r_callq (va_runV (As := [.int (nI (d1 (k - 1)))]) (rest := []) ⟨hx, hb, hml, hown, hts⟩ (k_X2_sentenceAt l D ac _ (adr 7) (adr 8) (sref adr ns so) (.ref (adr 9)) (.ref (adr 10)) (.ref (adr 12)) (.int (nI ns)) (hM.cel (by omega) z0wz) (hM.cel (by omega) z1wz) (nI (d1 (k - 1)))) (cwV 1 hts gX2_listDue_X2_sentenceAt rfl rfl rfl (by decide +kernel) ⟨Nat.le_of_ble_eq_true rfl, Nat.le_of_ble_eq_true rfl⟩) (pV hK (ci := 2) rfl (hM.cel (by omega) z0wz)) rfl rfl hl.1 rfl (lv_room (Nat.le_of_ble_eq_true rfl)) dX2_listDue_23 ⟨Nat.le_of_ble_eq_true rfl, Nat.le_of_ble_eq_true rfl⟩) hS (fun rv_21 locs hrv_21 hS => ?_)
        subst hrv_21
        refine m_topq (show (ix (nI (d1 (k - 1))) 40).bind (sref adr ns so) = (ix (nI (d1 (k - 1))) ns).map (fun i => adr (23 + 6 * so i)) from sat_eq (by omega)) ?_
        rcases hi : ix (nI (d1 (k - 1))) ns with _ | jhi
        · exact absurd (ix_nI hdm (by omega)) (by rw [hi]; exact fun h => nomatch h)
        · obtain ⟨hj_, he_⟩ := ix_of hi (by omega)
          have hji : jhi = d1 (k - 1) := ((nI_eq (by omega) (by omega)).mp he_).symm
          subst hji
          have ho_ : so (d1 (k - 1)) < no := hso (d1 (k - 1)) hj_
          have hsn_ := zSwz (so (d1 (k - 1))) ho_
          obtain ⟨hn0_, hn8_, hcl_, hwd_⟩ := hsn_.2.2.2.2.2
          refine m_topr ?_
          refine lv_astore_n (lv' := [(3, .ref (adr (23 + 6 * so (d1 (k - 1))))), (0, .ref (adr 7)), (1, .ref (adr 3)), (2, .int (nI (k - 1)))]) hx hb dX2_listDue_26 rfl hl (by decide) rfl (fun ls hl => ?_)
          refine lv_aload_n hx hb dX2_listDue_27 rfl (lv_at hl 0 rfl) ?_
          refine lv_ifnull hx hb dX2_listDue_28 ?_
          refine lv_aload_n hx hb dX2_listDue_31 rfl (lv_at hl 0 rfl) ?_
          refine lv_aload_n hx hb dX2_listDue_32 rfl (lv_at hl 2 rfl) ?_
          refine r_calli (va_runV (As := [.ref (adr 3)]) (rest := []) ⟨hx, hb, hml, hown, hts⟩ (k_X6_firstAstray l D ac _ (adr (23 + 6 * so (d1 (k - 1)))) (adr (23 + 6 * so (d1 (k - 1)) + 1)) (adr (23 + 6 * so (d1 (k - 1)) + 2)) (adr (23 + 6 * so (d1 (k - 1)) + 3)) (adr (23 + 6 * so (d1 (k - 1)) + 4)) ((oc (so (d1 (k - 1))))) ((on_ (so (d1 (k - 1))))) (fun j => nI (owd (so (d1 (k - 1))) j)) (obf (so (d1 (k - 1)))) (owd (so (d1 (k - 1)))) ⟨(hM.cel (by have := ho_; omega) hsn_.1), (hM.cel (by have := ho_; omega) hsn_.2.1), (hM.cel (by have := ho_; omega) hsn_.2.2.1), (hM.cel (by have := ho_; omega) hsn_.2.2.2.1), (hM.cel (by have := ho_; omega) hsn_.2.2.2.2.1), ⟨hn8_, hcl_, fun j hj => ⟨rfl, hwd_ j hj⟩⟩⟩ (adr 3) (adr 4) (adr 5) (adr 6) fs fr (fun j => nI (ft j)) ⟨(hM.cel (by omega) z4wz), (hM.cel (by omega) z5wz), (hM.cel (by omega) z6wz), (hM.cel (by omega) z7wz)⟩) (cwV 1 hts gX2_listDue_X6_firstAstray rfl rfl rfl (by decide +kernel) ⟨Nat.le_of_ble_eq_true rfl, Nat.le_of_ble_eq_true rfl⟩) (pV hK (ci := 6) rfl (hM.cel (by have := ho_; omega) hsn_.1)) rfl rfl hl.1 rfl (lv_room (Nat.le_of_ble_eq_true rfl)) dX2_listDue_33 ⟨Nat.le_of_ble_eq_true rfl, Nat.le_of_ble_eq_true rfl⟩) hS (fun rv_22 locs hrv_22 hS => ?_)
          refine lv_iconst (v := (-1)) hx hb dX2_listDue_36 (by decide) ?_
          refine lv_icmp_ne (tgt := 48) hx hb dX2_listDue_37 (by decide) (fun c37 => ?_) (fun c37 => ?_)
          · have hP_ : P0 (d1 (k - 1)) = true := by rw [hP0]; exact asB_t hrv_22 c37
            refine lv_iinc (v := nI (k - 1) - 1) (lv' := [(2, .int (nI (k - 1) - 1)), (3, .ref (adr (23 + 6 * so (d1 (k - 1))))), (0, .ref (adr 7)), (1, .ref (adr 3))]) hx hb dX2_listDue_48 hl (k := 3) rfl (by rw [Int32.sub_eq_add_neg]; rfl) (by decide) rfl (fun ls hl => ?_)
            refine lv_goto (tgt := 10) hx hb dX2_listDue_51 (by decide) ?_
            exact ih10 (k - 1) n1 d1 (by omega) (by omega) (by omega) (by omega) (hL1.trans ((congrArg (LD1 P0 (lst nd du)) (show k = (k - 1) + 1 by omega)).trans (LD1_keep hdk hP_))) wz z0wz z1wz z2wz z3wz z4wz z5wz z6wz z7wz zSwz zrwz _ _ hM hS ls (lv_sub hl [2, 3, 0] rfl)
          · have hP_ : P0 (d1 (k - 1)) = false := by rw [hP0]; exact asB_f (by omega) hrv_22 c37
            refine lv_aload_n hx hb dX2_listDue_40 rfl (lv_at hl 1 rfl) ?_
            refine m_get (ci := 2) (C := RX2) (T := TX2) (n := 5) (v := .ref (adr 10)) hx hb hts inX2_ hown hK rfl (hM.cel (by omega) z0wz) 2 (by decide) (hts _ (by decide +kernel)) rfl dX2_listDue_41 ?_
            refine lv_iload_n hx hb dX2_listDue_44 rfl (lv_at hl 3 rfl) ?_
            refine w_callv (va_runV (As := [.int (nI (k - 1))]) (rest := []) ⟨hx, hb, hml, hown, hts⟩ (k_X1_removeAt l D ac _ A N adr wz hM 10 11 n1 (fun j => nI (d1 j)) (by omega) (by omega) (by omega) z2wz z3wz (by omega) ((k - 1)) (by omega)) (cwV 1 hts gX2_listDue_X1_removeAt rfl rfl rfl (by decide +kernel) ⟨Nat.le_of_ble_eq_true rfl, Nat.le_of_ble_eq_true rfl⟩) (pV hK (ci := 1) rfl (hM.cel (by omega) z2wz)) rfl rfl hl.1 rfl (lv_room (Nat.le_of_ble_eq_true rfl)) dX2_listDue_45 ⟨Nat.le_of_ble_eq_true rfl, Nat.le_of_ble_eq_true rfl⟩) hS (fun w_24 H locs hw_24 hM hS => ?_)
            obtain ⟨f_, hw_24, hf_⟩ := hw_24
            obtain ⟨d2_, hd2_, hl2_⟩ := cut_nat (by omega) hf_
            subst hd2_
            have h_25 : w_24 7 = .inr (2, [.ref (adr 8), .ref (adr 9), .ref (adr 10), .ref (adr 12), .int (nI ns)]) := by rw [hw_24, va_up_ne _ _ (by omega), va_up_ne _ _ (by omega)]; exact z0wz
            have h_26 : w_24 8 = .inl (ac 4, 40, .inr (.inr (.inr (.inr (sref adr ns so))))) := by rw [hw_24, va_up_ne _ _ (by omega), va_up_ne _ _ (by omega)]; exact z1wz
            have h_27 : w_24 10 = .inr (1, [.ref (adr 11), .int (nI (n1 - 1))]) := by rw [hw_24]; exact va_up_self _ _ _
            have h_28 : w_24 11 = .inl (ac 0, 60, .inl (fun j => nI (d2_ j))) := by rw [hw_24, va_up_ne _ _ (by omega)]; exact va_up_self _ _ _
            have h_29 : w_24 3 = .inr (5, [.ref (adr 4), .ref (adr 5), .ref (adr 6)]) := by rw [hw_24, va_up_ne _ _ (by omega), va_up_ne _ _ (by omega)]; exact z4wz
            have h_30 : w_24 4 = .inl (ac 0, 600, .inl fs) := by rw [hw_24, va_up_ne _ _ (by omega), va_up_ne _ _ (by omega)]; exact z5wz
            have h_31 : w_24 5 = .inl (ac 0, 200, .inl fr) := by rw [hw_24, va_up_ne _ _ (by omega), va_up_ne _ _ (by omega)]; exact z6wz
            have h_32 : w_24 6 = .inl (ac 0, 200, .inl (fun j => nI (ft j))) := by rw [hw_24, va_up_ne _ _ (by omega), va_up_ne _ _ (by omega)]; exact z7wz
            have h_33 : w_24 (23 + 6 * so (d1 (k - 1))) = .inr (6, [.int (nI (oc (so (d1 (k - 1))))), .ref (adr (23 + 6 * so (d1 (k - 1)) + 1)), .ref (adr (23 + 6 * so (d1 (k - 1)) + 3))]) := by rw [hw_24, va_up_ne _ _ (by omega), va_up_ne _ _ (by omega)]; exact hsn_.1
            have h_34 : w_24 (23 + 6 * so (d1 (k - 1)) + 1) = .inr (4, [.ref (adr (23 + 6 * so (d1 (k - 1)) + 2)), .int (nI (on_ (so (d1 (k - 1)))))]) := by rw [hw_24, va_up_ne _ _ (by omega), va_up_ne _ _ (by omega)]; exact hsn_.2.1
            have h_35 : w_24 (23 + 6 * so (d1 (k - 1)) + 2) = .inl (ac 0, 8, .inl (fun j => nI (owd (so (d1 (k - 1))) j))) := by rw [hw_24, va_up_ne _ _ (by omega), va_up_ne _ _ (by omega)]; exact hsn_.2.2.1
            have h_36 : w_24 (23 + 6 * so (d1 (k - 1)) + 3) = .inr (4, [.ref (adr (23 + 6 * so (d1 (k - 1)) + 4)), .int (nI (on_ (so (d1 (k - 1)))))]) := by rw [hw_24, va_up_ne _ _ (by omega), va_up_ne _ _ (by omega)]; exact hsn_.2.2.2.1
            have h_37 : w_24 (23 + 6 * so (d1 (k - 1)) + 4) = .inl (ac 0, 8, .inl (obf (so (d1 (k - 1))))) := by rw [hw_24, va_up_ne _ _ (by omega), va_up_ne _ _ (by omega)]; exact hsn_.2.2.2.2.1
            have h_38 : SenF ac adr w_24 no oc on_ owd obf := by rw [hw_24]; exact (SenF.up (by omega) (SenF.up (by omega) zSwz))
            refine lv_iinc (v := nI (k - 1) - 1) (lv' := [(2, .int (nI (k - 1) - 1)), (3, .ref (adr (23 + 6 * so (d1 (k - 1))))), (0, .ref (adr 7)), (1, .ref (adr 3))]) hx hb dX2_listDue_48 hl (k := 3) rfl (by rw [Int32.sub_eq_add_neg]; rfl) (by decide) rfl (fun ls hl => ?_)
            refine lv_goto (tgt := 10) hx hb dX2_listDue_51 (by decide) ?_
            exact ih10 (k - 1) ((n1 - 1)) d2_ (by omega) (by omega) (by omega) (by omega) (hl2_.trans ((congrArg (fun z => List.eraseIdx z (k - 1)) (hL1.trans (congrArg (LD1 P0 (lst nd du)) (show k = (k - 1) + 1 by omega)))).trans (LD1_cut hdk hP_))) w_24 h_25 h_26 h_27 h_28 h_29 h_30 h_31 h_32 h_38 (fun q q1 q2 => by rw [hw_24, va_up_ne _ _ q1, va_up_ne _ _ q2]; exact zrwz q q1 q2) _ _ hM hS ls (lv_sub hl [2, 3, 0] rfl)
  exact L10 _ nd nd du (Nat.lt_succ_self _) (Nat.le_refl _) (Nat.le_refl _) hnd (LD1_top.symm.trans (congrArg (LD1 P0 (lst nd du)) lst_len)) w hm.1 hm.2.1 hm.2.2.2.1 hm.2.2.2.2.1 hru.1 hru.2.1 hru.2.2.1 hru.2.2.2 hS1 (fun q _ _ => rfl) _ _ hM hS ls (lv_sub hl [1, 2, 0] rfl)
end
section
theorem nI_dec {i : Nat} (h : 0 < i) : nI i + Int32.ofInt (-1) = nI (i - 1) := by
  have e : nI i + Int32.ofInt (-1) = nI i - nI 1 := by rw [Int32.sub_eq_add_neg]; rfl
  rw [e]
  exact pk_sub h
/-- a row and its match are paired from their ends on, F steps at most -/
def lendF (f g : Nat → Int32) (lb : Nat → Int32) : Nat → Nat → Nat → (Nat → Int32) → (Nat → Int32)
  | 0, _, _, b => b
  | F + 1, i, j, b => if i = 0 ∨ j = 0 then b else if f (i - 1) = g (j - 1) then lendF f g lb F (i - 1) (j - 1) (upd b (i - 1) (lb (j - 1))) else lendF f g lb F (i - (if skp (ed f g (i - 1) j) (ed f g i (j - 1)) (ed f g (i - 1) (j - 1)) = 1 then 0 else 1)) (j - (if skp (ed f g (i - 1) j) (ed f g i (j - 1)) (ed f g (i - 1) (j - 1)) = 0 then 0 else 1)) b
theorem lendF_z {f g lb b : Nat → Int32} {F i j : Nat} (h : i = 0 ∨ j = 0) : lendF f g lb F i j b = b := by
  cases F with
  | zero => rfl
  | succ F => show (if _ then _ else _) = _; rw [if_pos h]
theorem lendF_p {f g lb b : Nat → Int32} {F i j : Nat} (hi : 0 < i) (hj : 0 < j) (h : f (i - 1) = g (j - 1)) : lendF f g lb (F + 1) i j b = lendF f g lb F (i - 1) (j - 1) (upd b (i - 1) (lb (j - 1))) := by
  show (if _ then _ else _) = _
  rw [if_neg (by omega), if_pos h]
theorem lendF_n {f g lb b : Nat → Int32} {F i j : Nat} (hi : 0 < i) (hj : 0 < j) (h : ¬ f (i - 1) = g (j - 1)) : lendF f g lb (F + 1) i j b = lendF f g lb F (i - (if skp (ed f g (i - 1) j) (ed f g i (j - 1)) (ed f g (i - 1) (j - 1)) = 1 then 0 else 1)) (j - (if skp (ed f g (i - 1) j) (ed f g i (j - 1)) (ed f g (i - 1) (j - 1)) = 0 then 0 else 1)) b := by
  show (if _ then _ else _) = _
  rw [if_neg (by omega), if_neg h]
/-- what the words of the sentence o become by the match x -/
def lndO (on_ : Nat → Nat) (owd : Nat → Nat → Nat) (obf : Nat → Nat → Int32) (ns : Nat) (so : Nat → Nat) (o : Nat) (x : Int32) : Nat → Int32 := (ix x ns).elim (obf o) (fun i => lendF (fun j => nI (owd o j)) (fun j => nI (owd (so i) j)) (obf (so i)) 16 (on_ o) (on_ (so i)) (obf o))
theorem ln_end {w w1 : Nat → va_E} {k : Nat} {e13 e9 : va_E} (h1 : w1 13 = e13) (h0 : w1 k = e9) (h : ∀ q, q ≠ 13 → q ≠ k → w1 q = w q) : w1 = va_up (va_up w 13 e13) k e9 := by
  funext q
  by_cases q1 : q = k
  · subst q1; rw [va_up_self, h0]
  · rw [va_up_ne _ _ q1]
    by_cases q2 : q = 13
    · subst q2; rw [va_up_self, h1]
    · rw [va_up_ne _ _ q2, h q q2 q1]
set_option maxHeartbeats 4000000 in
set_option maxRecDepth 100000 in
/-- Memory.lendTo -/
theorem k_X2_lendTo (l : Launch) (D : va_G) (ac : Nat → ClassId) (H : Heap) (A : Nat → Prop) (N : Nat) (adr : Nat → Nat) (w : Nat → va_E) (hM : MW D A N adr w H) (no : Nat) (oc on_ : Nat → Nat) (owd : Nat → Nat → Nat) (obf : Nat → Nat → Int32) (ns : Nat) (so : Nat → Nat) (hv : Nat → Int64) (nd : Nat) (du : Nat → Nat) (T : Nat → Int32) (hN : 22 + 6 * no ≤ N) (hS1 : SenF ac adr w no oc on_ owd obf) (hm : MemW ac adr w ns so hv nd du T) (hso : ∀ i, i < ns → so i < no) (o : Nat) (ho : o < no) (hlo : ∀ i, i < ns → so i ≠ o) (x : Int32) : WRv l yX2_lendTo wsX2_lendTo ({ frames := 3, cells := 0, slots := 0, locals := 74 }) [.ref (adr 7), .ref (adr (23 + 6 * o)), .int x] D ac H A N adr (fun w1 => ∃ T1 : Nat → Int32, w1 = va_up (va_up w 13 (.inl (ac 0, 81, .inl T1))) (23 + 6 * o + 4) (.inl (ac 0, 8, .inl (lndO on_ owd obf ns so o x)))) := by
  refine Met.ofW (cc := cX2_lendTo) (maxL := 8) (ret := none) (by decide) rfl ?_
  intro p e s m args below meth c s₁ B hml hv
  obtain ⟨hargs, hsz, hK⟩ := hv
  have hx := B.exec
  have hb := B.bytes
  have hr := B.returns
  have hts := atoms_spec (ws := wsX2_lendTo) B.pre
  have hown : s.vm.findClass RX2 = some m.cls := findClass_of_methodNamed B.named
  have hlocks := B.notSynchronized
  subst hsz
  have inX2_ : ∀ w ∈ wsX20, w ∈ wsX2_lendTo := by decide +kernel
  have inX4_ : ∀ w ∈ wsX40, w ∈ wsX2_lendTo := by decide +kernel
  have inX6_ : ∀ w ∈ wsX60, w ∈ wsX2_lendTo := by decide +kernel
  have hS : va_S A s.heap s.heap [] := va_S.rf
  have hl := lv_entry ([.ref (adr 7), .ref (adr (23 + 6 * o)), .int x]) (n := 8) (Nat.le_of_ble_eq_true rfl)
  have hen := lg_entry_eq m [.ref (adr 7), .ref (adr (23 + 6 * o)), .int x] 8
  rw [← hargs] at hen
  rw [hen]
  generalize (lg_sl ([.ref (adr 7), .ref (adr (23 + 6 * o)), .int x]) ++ List.replicate (8 - (lg_sl ([.ref (adr 7), .ref (adr (23 + 6 * o)), .int x])).length) Slot.unset).toArray = ls at hl ⊢
  have hl : lv_has ls 8 [(0, .ref (adr 7)), (1, .ref (adr (23 + 6 * o))), (2, .int x)] := hl
  obtain ⟨Q0, hQ0⟩ : ∃ z, z = MQ below (va_Qv (fun w1 => ∃ T1 : Nat → Int32, w1 = va_up (va_up w 13 (.inl (ac 0, 81, .inl T1))) (23 + 6 * o + 4) (.inl (ac 0, 8, .inl (lndO on_ owd obf ns so o x)))) (fun c t => MW D A N adr c t.heap) A) args s 0 0 A := ⟨_, rfl⟩
  rw [← hQ0]
  obtain ⟨hns, hnd⟩ := hm.2.2.2.2.2.2.2
  have hsno_ := hS1 o ho
  obtain ⟨hn0o, hn8o, hclo, hwdo⟩ := hsno_.2.2.2.2.2
  refine lv_aload_n hx hb dX2_lendTo_0 rfl (lv_at hl 0 rfl) ?_
  refine lv_iload_n hx hb dX2_lendTo_1 rfl (lv_at hl 2 rfl) ?_
  refine r_callq (va_runV (As := [.int x]) (rest := []) ⟨hx, hb, hml, hown, hts⟩ (k_X2_sentenceAt l D ac _ (adr 7) (adr 8) (sref adr ns so) (.ref (adr 9)) (.ref (adr 10)) (.ref (adr 12)) (.int (nI ns)) (hM.cel (by omega) hm.1) (hM.cel (by omega) hm.2.1) x) (cwV 1 hts gX2_lendTo_X2_sentenceAt rfl rfl rfl (by decide +kernel) ⟨Nat.le_of_ble_eq_true rfl, Nat.le_of_ble_eq_true rfl⟩) (pV hK (ci := 2) rfl (hM.cel (by omega) hm.1)) rfl rfl hl.1 rfl (lv_room (Nat.le_of_ble_eq_true rfl)) dX2_lendTo_2 ⟨Nat.le_of_ble_eq_true rfl, Nat.le_of_ble_eq_true rfl⟩) hS (fun rv_1 locs hrv_1 hS => ?_)
  subst hrv_1
  refine m_topq (show (ix x 40).bind (sref adr ns so) = (ix x ns).map (fun i => adr (23 + 6 * so i)) from sat_eq (by omega)) ?_
  rcases hi : ix x ns with _ | jhi
  · refine m_topn ?_
    refine lv_astore_nN (lv' := [(3, .null), (0, .ref (adr 7)), (1, .ref (adr (23 + 6 * o))), (2, .int x)]) hx hb dX2_lendTo_5 rfl hl (by decide) rfl (fun ls hl => ?_)
    refine lv_aload_nN hx hb dX2_lendTo_6 rfl (lv_at hl 0 rfl) ?_
    refine lv_ifnonnullN hx hb dX2_lendTo_7 ?_
    rw [hQ0]
    exact e_wv hx hb hlocks hr dX2_lendTo_10 hM hS (⟨T, by unfold lndO; rw [hi]; show w = va_up (va_up w 13 _) (23 + 6 * o + 4) (.inl (ac 0, 8, .inl (obf o))); rw [va_up_same hm.2.2.2.2.2.2.1, va_up_same hsno_.2.2.2.2.1]⟩)
  · obtain ⟨hj_, he_⟩ := ix_of hi (by omega)
    have ho_ : so jhi < no := hso jhi hj_
    have hsn_ := hS1 (so jhi) ho_
    obtain ⟨hn0_, hn8_, hcl_, hwd_⟩ := hsn_.2.2.2.2.2
    refine m_topr ?_
    have hne_ : so jhi ≠ o := hlo jhi hj_
    refine lv_astore_n (lv' := [(3, .ref (adr (23 + 6 * so jhi))), (0, .ref (adr 7)), (1, .ref (adr (23 + 6 * o))), (2, .int x)]) hx hb dX2_lendTo_5 rfl hl (by decide) rfl (fun ls hl => ?_)
    refine lv_aload_n hx hb dX2_lendTo_6 rfl (lv_at hl 0 rfl) ?_
    refine lv_ifnonnull (tgt := 11) hx hb dX2_lendTo_7 (by decide) ?_
    refine lv_aload_n hx hb dX2_lendTo_11 rfl (lv_at hl 1 rfl) ?_
    refine m_get (ci := 2) (C := RX2) (T := TX2) (n := 5) (v := .ref (adr 12)) hx hb hts inX2_ hown hK rfl (hM.cel (by omega) hm.1) 3 (by decide) (hts _ (by decide +kernel)) rfl dX2_lendTo_12 ?_
    refine lv_aload_n hx hb dX2_lendTo_15 rfl (lv_at hl 2 rfl) ?_
    refine m_getN (host := RX7) (ci := 6) (C := RX6) (T := TX6) (n := 3) (v := .ref (adr (23 + 6 * o + 1))) hx hb hts inX6_ hown hK rfl (hM.cel (by have := ho; omega) hsno_.1) 1 (by decide) 17 rfl rfl dX2_lendTo_16 ?_
    refine lv_aload_n hx hb dX2_lendTo_19 rfl (lv_at hl 0 rfl) ?_
    refine m_getN (host := RX7) (ci := 6) (C := RX6) (T := TX6) (n := 3) (v := .ref (adr (23 + 6 * so jhi + 1))) hx hb hts inX6_ hown hK rfl (hM.cel (by have := ho_; omega) hsn_.1) 1 (by decide) 17 rfl rfl dX2_lendTo_20 ?_
    refine w_callv (va_runV (As := [.ref (adr (23 + 6 * o + 1)), .ref (adr (23 + 6 * so jhi + 1))]) (rest := []) ⟨hx, hb, hml, hown, hts⟩ (k_X0_compare l D ac _ A N adr w hM 12 13 T (by omega) (by omega) (by omega) hm.2.2.2.2.2.1 hm.2.2.2.2.2.2.1 (23 + 6 * o + 1) (23 + 6 * o + 2) (23 + 6 * so jhi + 1) (23 + 6 * so jhi + 2) ((on_ o)) ((on_ (so jhi))) (fun j => nI (owd o j)) (fun j => nI (owd (so jhi) j)) (by have := ho; omega) (by have := ho; omega) (by have := ho_; omega) (by have := ho_; omega) (by omega) (by omega) (by omega) hsno_.2.1 hsno_.2.2.1 hsn_.2.1 hsn_.2.2.1) (cwV 2 hts gX2_lendTo_X0_compare rfl rfl rfl (by decide +kernel) ⟨Nat.le_of_ble_eq_true rfl, Nat.le_of_ble_eq_true rfl⟩) (pV hK (ci := 0) rfl (hM.cel (by omega) hm.2.2.2.2.2.1)) rfl rfl hl.1 rfl (lv_room (Nat.le_of_ble_eq_true rfl)) dX2_lendTo_23 ⟨Nat.le_of_ble_eq_true rfl, Nat.le_of_ble_eq_true rfl⟩) hS (fun w_3 H locs hw_3 hM hS => ?_)
    obtain ⟨T_4, hw_3, eT_4⟩ := hw_3
    have h_5 : w_3 7 = .inr (2, [.ref (adr 8), .ref (adr 9), .ref (adr 10), .ref (adr 12), .int (nI ns)]) := by rw [hw_3, va_up_ne _ _ (by omega)]; exact hm.1
    have h_6 : w_3 8 = .inl (ac 4, 40, .inr (.inr (.inr (.inr (sref adr ns so))))) := by rw [hw_3, va_up_ne _ _ (by omega)]; exact hm.2.1
    have h_7 : w_3 9 = .inl (ac 1, 50, .inr (.inl hv)) := by rw [hw_3, va_up_ne _ _ (by omega)]; exact hm.2.2.1
    have h_8 : w_3 10 = .inr (1, [.ref (adr 11), .int (nI nd)]) := by rw [hw_3, va_up_ne _ _ (by omega)]; exact hm.2.2.2.1
    have h_9 : w_3 11 = .inl (ac 0, 60, .inl (fun j => nI (du j))) := by rw [hw_3, va_up_ne _ _ (by omega)]; exact hm.2.2.2.2.1
    have h_10 : w_3 12 = .inr (0, [.ref (adr 13)]) := by rw [hw_3, va_up_ne _ _ (by omega)]; exact hm.2.2.2.2.2.1
    have h_11 : w_3 13 = .inl (ac 0, 81, .inl T_4) := by rw [hw_3]; exact va_up_self _ _ _
    have h_12 : w_3 (23 + 6 * o) = .inr (6, [.int (nI (oc o)), .ref (adr (23 + 6 * o + 1)), .ref (adr (23 + 6 * o + 3))]) := by rw [hw_3, va_up_ne _ _ (by omega)]; exact hsno_.1
    have h_13 : w_3 (23 + 6 * o + 1) = .inr (4, [.ref (adr (23 + 6 * o + 2)), .int (nI (on_ o))]) := by rw [hw_3, va_up_ne _ _ (by omega)]; exact hsno_.2.1
    have h_14 : w_3 (23 + 6 * o + 2) = .inl (ac 0, 8, .inl (fun j => nI (owd o j))) := by rw [hw_3, va_up_ne _ _ (by omega)]; exact hsno_.2.2.1
    have h_15 : w_3 (23 + 6 * o + 3) = .inr (4, [.ref (adr (23 + 6 * o + 4)), .int (nI (on_ o))]) := by rw [hw_3, va_up_ne _ _ (by omega)]; exact hsno_.2.2.2.1
    have h_16 : w_3 (23 + 6 * o + 4) = .inl (ac 0, 8, .inl (obf o)) := by rw [hw_3, va_up_ne _ _ (by omega)]; exact hsno_.2.2.2.2.1
    have h_17 : w_3 (23 + 6 * so jhi) = .inr (6, [.int (nI (oc (so jhi))), .ref (adr (23 + 6 * so jhi + 1)), .ref (adr (23 + 6 * so jhi + 3))]) := by rw [hw_3, va_up_ne _ _ (by omega)]; exact hsn_.1
    have h_18 : w_3 (23 + 6 * so jhi + 1) = .inr (4, [.ref (adr (23 + 6 * so jhi + 2)), .int (nI (on_ (so jhi)))]) := by rw [hw_3, va_up_ne _ _ (by omega)]; exact hsn_.2.1
    have h_19 : w_3 (23 + 6 * so jhi + 2) = .inl (ac 0, 8, .inl (fun j => nI (owd (so jhi) j))) := by rw [hw_3, va_up_ne _ _ (by omega)]; exact hsn_.2.2.1
    have h_20 : w_3 (23 + 6 * so jhi + 3) = .inr (4, [.ref (adr (23 + 6 * so jhi + 4)), .int (nI (on_ (so jhi)))]) := by rw [hw_3, va_up_ne _ _ (by omega)]; exact hsn_.2.2.2.1
    have h_21 : w_3 (23 + 6 * so jhi + 4) = .inl (ac 0, 8, .inl (obf (so jhi))) := by rw [hw_3, va_up_ne _ _ (by omega)]; exact hsn_.2.2.2.2.1
    have h_22 : SenF ac adr w_3 no oc on_ owd obf := by rw [hw_3]; exact (SenF.up (by omega) hS1)
    refine lv_aload_n hx hb dX2_lendTo_26 rfl (lv_at hl 2 rfl) ?_
    refine m_getN (host := RX7) (ci := 6) (C := RX6) (T := TX6) (n := 3) (v := .ref (adr (23 + 6 * o + 1))) hx hb hts inX6_ hown hK rfl (hM.cel (by have := ho; omega) h_12) 1 (by decide) 17 rfl rfl dX2_lendTo_27 ?_
    refine m_getN (host := RX7) (ci := 4) (C := RX4) (T := TX4) (n := 2) (v := .int (nI (on_ o))) hx hb hts inX4_ hown hK rfl (hM.cel (by have := ho; omega) h_13) 1 (by decide) 4 rfl rfl dX2_lendTo_30 ?_
    refine lv_istore (lv' := [(4, .int (nI (on_ o))), (3, .ref (adr (23 + 6 * so jhi))), (0, .ref (adr 7)), (1, .ref (adr (23 + 6 * o))), (2, .int x)]) hx hb dX2_lendTo_33 hl (by decide) rfl (fun ls hl => ?_)
    refine lv_aload_n hx hb dX2_lendTo_35 rfl (lv_at hl 1 rfl) ?_
    refine m_getN (host := RX7) (ci := 6) (C := RX6) (T := TX6) (n := 3) (v := .ref (adr (23 + 6 * so jhi + 1))) hx hb hts inX6_ hown hK rfl (hM.cel (by have := ho_; omega) h_17) 1 (by decide) 17 rfl rfl dX2_lendTo_36 ?_
    refine m_getN (host := RX7) (ci := 4) (C := RX4) (T := TX4) (n := 2) (v := .int (nI (on_ (so jhi)))) hx hb hts inX4_ hown hK rfl (hM.cel (by have := ho_; omega) h_18) 1 (by decide) 4 rfl rfl dX2_lendTo_39 ?_
    refine lv_istore (lv' := [(5, .int (nI (on_ (so jhi)))), (4, .int (nI (on_ o))), (3, .ref (adr (23 + 6 * so jhi))), (0, .ref (adr 7)), (1, .ref (adr (23 + 6 * o))), (2, .int x)]) hx hb dX2_lendTo_42 hl (by decide) rfl (fun ls hl => ?_)
    refine lv_iconst (v := 0) hx hb dX2_lendTo_44 (by decide) ?_
    refine lv_istore (lv' := [(6, .int 0), (5, .int (nI (on_ (so jhi)))), (4, .int (nI (on_ o))), (3, .ref (adr (23 + 6 * so jhi))), (0, .ref (adr 7)), (1, .ref (adr (23 + 6 * o))), (2, .int x)]) hx hb dX2_lendTo_45 hl (by decide) rfl (fun ls hl => ?_)
    have L47 : ∀ (k9 : Nat) (s9 : Nat) (F9 : Nat) (i : Nat) (j : Nat) (Tz : Nat → Int32) (bz : Nat → Int32) (hTz : ∀ a b, a ≤ on_ o → b ≤ on_ (so jhi) → Tz (a * 9 + b) = nI (ed (fun j => nI (owd o j)) (fun j => nI (owd (so jhi) j)) a b)) (hk : F9 < k9) (hsF : s9 + F9 = 16) (hij : i + j ≤ F9) (hi9 : i ≤ on_ o) (hj9 : j ≤ on_ (so jhi)) (hI : lendF (fun j => nI (owd o j)) (fun j => nI (owd (so jhi) j)) (obf (so jhi)) 16 (on_ o) (on_ (so jhi)) (obf o) = lendF (fun j => nI (owd o j)) (fun j => nI (owd (so jhi) j)) (obf (so jhi)) F9 i j bz) (wz : Nat → va_E) (z0wz : wz 7 = .inr (2, [.ref (adr 8), .ref (adr 9), .ref (adr 10), .ref (adr 12), .int (nI ns)])) (z1wz : wz 12 = .inr (0, [.ref (adr 13)])) (z2wz : wz 13 = .inl (ac 0, 81, .inl Tz)) (z3wz : wz (23 + 6 * o) = .inr (6, [.int (nI (oc o)), .ref (adr (23 + 6 * o + 1)), .ref (adr (23 + 6 * o + 3))])) (z4wz : wz (23 + 6 * o + 1) = .inr (4, [.ref (adr (23 + 6 * o + 2)), .int (nI (on_ o))])) (z5wz : wz (23 + 6 * o + 2) = .inl (ac 0, 8, .inl (fun j => nI (owd o j)))) (z6wz : wz (23 + 6 * o + 3) = .inr (4, [.ref (adr (23 + 6 * o + 4)), .int (nI (on_ o))])) (z7wz : wz (23 + 6 * o + 4) = .inl (ac 0, 8, .inl bz)) (z8wz : wz (23 + 6 * so jhi) = .inr (6, [.int (nI (oc (so jhi))), .ref (adr (23 + 6 * so jhi + 1)), .ref (adr (23 + 6 * so jhi + 3))])) (z9wz : wz (23 + 6 * so jhi + 1) = .inr (4, [.ref (adr (23 + 6 * so jhi + 2)), .int (nI (on_ (so jhi)))])) (z10wz : wz (23 + 6 * so jhi + 2) = .inl (ac 0, 8, .inl (fun j => nI (owd (so jhi) j)))) (z11wz : wz (23 + 6 * so jhi + 3) = .inr (4, [.ref (adr (23 + 6 * so jhi + 4)), .int (nI (on_ (so jhi)))])) (z12wz : wz (23 + 6 * so jhi + 4) = .inl (ac 0, 8, .inl (obf (so jhi)))) (zrwz : ∀ q, q ≠ 13 → q ≠ 23 + 6 * o + 4 → wz q = w q) (H : Heap) (locs : List Loc) (hM : MW D A N adr wz H) (hS : va_S A s.heap H locs) (ls : Array Slot) (hl : lv_has ls 8 [(0, .ref (adr 7)), (1, .ref (adr (23 + 6 * o))), (3, .ref (adr (23 + 6 * so jhi))), (4, .int (nI i)), (5, .int (nI j)), (6, .int (nI s9))]), W p l e (headSpec wsX2_lendTo ({ frames := 3, cells := 0, slots := 0, locals := 74 })).room s m args below meth c H locs 0 0 Q0 (F0 m 47 ls []) := by
      intro k9
      induction k9 with
      | zero => intro s9 F9 i j Tz bz hTz hk hsF hij hi9 hj9 hI wz z0wz z1wz z2wz z3wz z4wz z5wz z6wz z7wz z8wz z9wz z10wz z11wz z12wz zrwz H locs hM hS ls hl; exact absurd hk (Nat.not_lt_zero _)
      | succ k9 ih47 =>
        intro s9 F9 i j Tz bz hTz hk hsF hij hi9 hj9 hI wz z0wz z1wz z2wz z3wz z4wz z5wz z6wz z7wz z8wz z9wz z10wz z11wz z12wz zrwz H locs hM hS ls hl
        refine lv_iload hx hb dX2_lendTo_47 (lv_at hl 5 rfl) ?_
        refine lv_bipush (v := 16) hx hb dX2_lendTo_49 (by decide) ?_
        refine lv_icmp_ge (tgt := 166) hx hb dX2_lendTo_51 (by decide) (fun c51 => ?_) (fun c51 => ?_)
        · have hz_ : i = 0 ∨ j = 0 := by have := le_le (a := 16) c51 (by omega) (by omega); omega
          rw [hQ0]
          exact e_wv hx hb hlocks hr dX2_lendTo_166 hM hS (⟨Tz, by unfold lndO; rw [hi]; show wz = va_up (va_up w 13 _) (23 + 6 * o + 4) (.inl (ac 0, 8, .inl (lendF (fun j => nI (owd o j)) (fun j => nI (owd (so jhi) j)) (obf (so jhi)) 16 (on_ o) (on_ (so jhi)) (obf o)))); rw [hI, lendF_z hz_]; exact ln_end z2wz z7wz zrwz⟩)
        · refine lv_iload hx hb dX2_lendTo_54 (lv_at hl 3 rfl) ?_
          refine lv_if_le (tgt := 166) hx hb dX2_lendTo_56 (by decide) (fun c56 => ?_) (fun c56 => ?_)
          · have hz_ : i = 0 ∨ j = 0 := Or.inl (Classical.byContradiction (fun e => absurd c56 (by intro h; exact absurd (show (0 : Int32) < nI i from by rw [← nI_0]; exact nI_lt (by omega) (by omega)) (fun q => by rw [Int32.lt_iff_toInt_lt] at q; rw [Int32.le_iff_toInt_le] at h; omega))))
            rw [hQ0]
            exact e_wv hx hb hlocks hr dX2_lendTo_166 hM hS (⟨Tz, by unfold lndO; rw [hi]; show wz = va_up (va_up w 13 _) (23 + 6 * o + 4) (.inl (ac 0, 8, .inl (lendF (fun j => nI (owd o j)) (fun j => nI (owd (so jhi) j)) (obf (so jhi)) 16 (on_ o) (on_ (so jhi)) (obf o)))); rw [hI, lendF_z hz_]; exact ln_end z2wz z7wz zrwz⟩)
          · have hip : 0 < i := Nat.pos_of_ne_zero (fun e => by rw [e] at c56; exact c56 (by decide))
            refine lv_iload hx hb dX2_lendTo_59 (lv_at hl 4 rfl) ?_
            refine lv_if_le (tgt := 166) hx hb dX2_lendTo_61 (by decide) (fun c61 => ?_) (fun c61 => ?_)
            · have hz_ : i = 0 ∨ j = 0 := Or.inr (Classical.byContradiction (fun e => absurd c61 (by intro h; exact absurd (show (0 : Int32) < nI j from by rw [← nI_0]; exact nI_lt (by omega) (by omega)) (fun q => by rw [Int32.lt_iff_toInt_lt] at q; rw [Int32.le_iff_toInt_le] at h; omega))))
              rw [hQ0]
              exact e_wv hx hb hlocks hr dX2_lendTo_166 hM hS (⟨Tz, by unfold lndO; rw [hi]; show wz = va_up (va_up w 13 _) (23 + 6 * o + 4) (.inl (ac 0, 8, .inl (lendF (fun j => nI (owd o j)) (fun j => nI (owd (so jhi) j)) (obf (so jhi)) 16 (on_ o) (on_ (so jhi)) (obf o)))); rw [hI, lendF_z hz_]; exact ln_end z2wz z7wz zrwz⟩)
            · have hjp : 0 < j := Nat.pos_of_ne_zero (fun e => by rw [e] at c61; exact c61 (by decide))
              obtain ⟨F9, rfl⟩ : ∃ z, F9 = z + 1 := ⟨F9 - 1, by omega⟩
              refine lv_aload_n hx hb dX2_lendTo_64 rfl (lv_at hl 1 rfl) ?_
              refine m_getN (host := RX7) (ci := 6) (C := RX6) (T := TX6) (n := 3) (v := .ref (adr (23 + 6 * o + 1))) hx hb hts inX6_ hown hK rfl (hM.cel (by have := ho; omega) z3wz) 1 (by decide) 17 rfl rfl dX2_lendTo_65 ?_
              refine lv_iload hx hb dX2_lendTo_68 (lv_at hl 3 rfl) ?_
              refine lv_iconst (v := 1) hx hb dX2_lendTo_70 (by decide) ?_
              refine lv_isub hx hb dX2_lendTo_71 ?_
              refine m_top (show ((nI i) - 1) = nI (i - 1) from pk_sub (a := i) (b := 1) (by omega)) ?_
              refine r_calli (va_runV (As := [.int (nI (i - 1))]) (rest := []) ⟨hx, hb, hml, hown, hts⟩ (k_X4_at l D ac _ (adr (23 + 6 * o + 1)) (adr (23 + 6 * o + 2)) (on_ o) (fun j => nI (owd o j)) (hM.cel (by have := ho; omega) z4wz) (hM.cel (by have := ho; omega) z5wz) (by omega) (nI (i - 1))) (cwV 1 hts gX2_lendTo_X4_at rfl rfl rfl (by decide +kernel) ⟨Nat.le_of_ble_eq_true rfl, Nat.le_of_ble_eq_true rfl⟩) (pV hK (ci := 4) rfl (hM.cel (by have := ho; omega) z4wz)) rfl rfl hl.1 rfl (lv_room (Nat.le_of_ble_eq_true rfl)) dX2_lendTo_72 ⟨Nat.le_of_ble_eq_true rfl, Nat.le_of_ble_eq_true rfl⟩) hS (fun rv_23 locs hrv_23 hS => ?_)
              subst hrv_23
              refine m_top (show ((ix (nI (i - 1)) (on_ o)).elim (-1) (fun j => nI (owd o j))) = nI (owd o (i - 1)) from by rw [ix_nI (by omega) (by omega)]; rfl) ?_
              refine lv_aload_n hx hb dX2_lendTo_75 rfl (lv_at hl 2 rfl) ?_
              refine m_getN (host := RX7) (ci := 6) (C := RX6) (T := TX6) (n := 3) (v := .ref (adr (23 + 6 * so jhi + 1))) hx hb hts inX6_ hown hK rfl (hM.cel (by have := ho_; omega) z8wz) 1 (by decide) 17 rfl rfl dX2_lendTo_76 ?_
              refine lv_iload hx hb dX2_lendTo_79 (lv_at hl 4 rfl) ?_
              refine lv_iconst (v := 1) hx hb dX2_lendTo_81 (by decide) ?_
              refine lv_isub hx hb dX2_lendTo_82 ?_
              refine m_top (show ((nI j) - 1) = nI (j - 1) from pk_sub (a := j) (b := 1) (by omega)) ?_
              refine r_calli (va_runV (As := [.int (nI (j - 1))]) (rest := [.int (nI (owd o (i - 1)))]) ⟨hx, hb, hml, hown, hts⟩ (k_X4_at l D ac _ (adr (23 + 6 * so jhi + 1)) (adr (23 + 6 * so jhi + 2)) (on_ (so jhi)) (fun j => nI (owd (so jhi) j)) (hM.cel (by have := ho_; omega) z9wz) (hM.cel (by have := ho_; omega) z10wz) (by omega) (nI (j - 1))) (cwV 1 hts gX2_lendTo_X4_at rfl rfl rfl (by decide +kernel) ⟨Nat.le_of_ble_eq_true rfl, Nat.le_of_ble_eq_true rfl⟩) (pV hK (ci := 4) rfl (hM.cel (by have := ho_; omega) z9wz)) rfl rfl hl.1 rfl (lv_room (Nat.le_of_ble_eq_true rfl)) dX2_lendTo_83 ⟨Nat.le_of_ble_eq_true rfl, Nat.le_of_ble_eq_true rfl⟩) hS (fun rv_24 locs hrv_24 hS => ?_)
              subst hrv_24
              refine m_top (show ((ix (nI (j - 1)) (on_ (so jhi))).elim (-1) (fun j => nI (owd (so jhi) j))) = nI (owd (so jhi) (j - 1)) from by rw [ix_nI (by omega) (by omega)]; rfl) ?_
              refine lv_icmp_ne (tgt := 116) hx hb dX2_lendTo_86 (by decide) (fun c86 => ?_) (fun c86 => ?_)
              · refine lv_aload_n hx hb dX2_lendTo_116 rfl (lv_at hl 0 rfl) ?_
                refine m_get (ci := 2) (C := RX2) (T := TX2) (n := 5) (v := .ref (adr 12)) hx hb hts inX2_ hown hK rfl (hM.cel (by omega) z0wz) 3 (by decide) (hts _ (by decide +kernel)) rfl dX2_lendTo_117 ?_
                refine lv_iload hx hb dX2_lendTo_120 (lv_at hl 3 rfl) ?_
                refine lv_iload hx hb dX2_lendTo_122 (lv_at hl 4 rfl) ?_
                refine r_calli (va_runV (As := [.int (nI i), .int (nI j)]) (rest := []) ⟨hx, hb, hml, hown, hts⟩ (k_X0_skipBehind l D ac _ (adr 12) (adr 13) Tz (hM.cel (by omega) z1wz) (hM.cel (by omega) z2wz) i j (ed (fun j => nI (owd o j)) (fun j => nI (owd (so jhi) j)) (i - 1) j) (ed (fun j => nI (owd o j)) (fun j => nI (owd (so jhi) j)) i (j - 1)) (ed (fun j => nI (owd o j)) (fun j => nI (owd (so jhi) j)) (i - 1) (j - 1)) (by omega) (by omega) (by omega) (by omega) (by have := ed_le (f := (fun j => nI (owd o j))) (g := (fun j => nI (owd (so jhi) j))) (i - 1) j; omega) (by have := ed_le (f := (fun j => nI (owd o j))) (g := (fun j => nI (owd (so jhi) j))) i (j - 1); omega) (by have := ed_le (f := (fun j => nI (owd o j))) (g := (fun j => nI (owd (so jhi) j))) (i - 1) (j - 1); omega) ⟨hTz _ _ (by omega) (by omega), hTz _ _ (by omega) (by omega), hTz _ _ (by omega) (by omega)⟩) (cwV 2 hts gX2_lendTo_X0_skipBehind rfl rfl rfl (by decide +kernel) ⟨Nat.le_of_ble_eq_true rfl, Nat.le_of_ble_eq_true rfl⟩) (pV hK (ci := 0) rfl (hM.cel (by omega) z1wz)) rfl rfl hl.1 rfl (lv_room (Nat.le_of_ble_eq_true rfl)) dX2_lendTo_124 ⟨Nat.le_of_ble_eq_true rfl, Nat.le_of_ble_eq_true rfl⟩) hS (fun rv_25 locs hrv_25 hS => ?_)
                subst hrv_25
                refine lv_istore (lv' := [(7, .int (skp (ed (fun j => nI (owd o j)) (fun j => nI (owd (so jhi) j)) (i - 1) j) (ed (fun j => nI (owd o j)) (fun j => nI (owd (so jhi) j)) i (j - 1)) (ed (fun j => nI (owd o j)) (fun j => nI (owd (so jhi) j)) (i - 1) (j - 1)))), (0, .ref (adr 7)), (1, .ref (adr (23 + 6 * o))), (3, .ref (adr (23 + 6 * so jhi))), (4, .int (nI i)), (5, .int (nI j)), (6, .int (nI s9))]) hx hb dX2_lendTo_127 hl (by decide) rfl (fun ls hl => ?_)
                refine lv_iload hx hb dX2_lendTo_129 (lv_at hl 4 rfl) ?_
                refine lv_iload hx hb dX2_lendTo_131 (lv_at hl 0 rfl) ?_
                refine lv_iconst (v := 1) hx hb dX2_lendTo_133 (by decide) ?_
                refine lv_icmp_ne (tgt := 141) hx hb dX2_lendTo_134 (by decide) (fun c134 => ?_) (fun c134 => ?_)
                · refine lv_iconst (v := 1) hx hb dX2_lendTo_141 (by decide) ?_
                  refine lv_isub hx hb dX2_lendTo_142 ?_
                  refine m_top (show ((nI i) - 1) = nI (i - 1) from pk_sub (a := i) (b := 1) (by omega)) ?_
                  refine lv_istore (lv' := [(4, .int (nI (i - 1))), (7, .int (skp (ed (fun j => nI (owd o j)) (fun j => nI (owd (so jhi) j)) (i - 1) j) (ed (fun j => nI (owd o j)) (fun j => nI (owd (so jhi) j)) i (j - 1)) (ed (fun j => nI (owd o j)) (fun j => nI (owd (so jhi) j)) (i - 1) (j - 1)))), (0, .ref (adr 7)), (1, .ref (adr (23 + 6 * o))), (3, .ref (adr (23 + 6 * so jhi))), (5, .int (nI j)), (6, .int (nI s9))]) hx hb dX2_lendTo_143 hl (by decide) rfl (fun ls hl => ?_)
                  refine lv_iload hx hb dX2_lendTo_145 (lv_at hl 5 rfl) ?_
                  refine lv_iload hx hb dX2_lendTo_147 (lv_at hl 1 rfl) ?_
                  refine lv_if_ne (tgt := 156) hx hb dX2_lendTo_149 (by decide) (fun c149 => ?_) (fun c149 => ?_)
                  · refine lv_iconst (v := 1) hx hb dX2_lendTo_156 (by decide) ?_
                    refine lv_isub hx hb dX2_lendTo_157 ?_
                    refine m_top (show ((nI j) - 1) = nI (j - 1) from pk_sub (a := j) (b := 1) (by omega)) ?_
                    refine lv_istore (lv' := [(5, .int (nI (j - 1))), (4, .int (nI (i - 1))), (7, .int (skp (ed (fun j => nI (owd o j)) (fun j => nI (owd (so jhi) j)) (i - 1) j) (ed (fun j => nI (owd o j)) (fun j => nI (owd (so jhi) j)) i (j - 1)) (ed (fun j => nI (owd o j)) (fun j => nI (owd (so jhi) j)) (i - 1) (j - 1)))), (0, .ref (adr 7)), (1, .ref (adr (23 + 6 * o))), (3, .ref (adr (23 + 6 * so jhi))), (6, .int (nI s9))]) hx hb dX2_lendTo_158 hl (by decide) rfl (fun ls hl => ?_)
                    refine lv_iinc (v := nI (s9 + 1)) (lv' := [(6, .int (nI (s9 + 1))), (5, .int (nI (j - 1))), (4, .int (nI (i - 1))), (7, .int (skp (ed (fun j => nI (owd o j)) (fun j => nI (owd (so jhi) j)) (i - 1) j) (ed (fun j => nI (owd o j)) (fun j => nI (owd (so jhi) j)) i (j - 1)) (ed (fun j => nI (owd o j)) (fun j => nI (owd (so jhi) j)) (i - 1) (j - 1)))), (0, .ref (adr 7)), (1, .ref (adr (23 + 6 * o))), (3, .ref (adr (23 + 6 * so jhi)))]) hx hb dX2_lendTo_160 hl (k := 6) rfl (nI_1 _) (by decide) rfl (fun ls hl => ?_)
                    refine lv_goto (tgt := 47) hx hb dX2_lendTo_163 (by decide) ?_
                    exact ih47 (s9 + 1) F9 ((i - 1)) ((j - 1)) Tz bz hTz (by omega) (by omega) (by omega) (by omega) (by omega) (hI.trans ((lendF_n (by omega) (by omega) c86).trans (by rw [if_neg c134, if_neg c149] <;> rfl))) wz z0wz z1wz z2wz z3wz z4wz z5wz z6wz z7wz z8wz z9wz z10wz z11wz z12wz zrwz _ _ hM hS ls (lv_sub hl [4, 5, 6, 2, 1, 0] rfl)
                  · refine lv_iconst (v := 0) hx hb dX2_lendTo_152 (by decide) ?_
                    refine lv_goto (tgt := 157) hx hb dX2_lendTo_153 (by decide) ?_
                    refine lv_isub hx hb dX2_lendTo_157 ?_
                    refine m_top (show ((nI j) - 0) = nI j from Int32.sub_zero _) ?_
                    refine lv_istore (lv' := [(5, .int (nI j)), (4, .int (nI (i - 1))), (7, .int (skp (ed (fun j => nI (owd o j)) (fun j => nI (owd (so jhi) j)) (i - 1) j) (ed (fun j => nI (owd o j)) (fun j => nI (owd (so jhi) j)) i (j - 1)) (ed (fun j => nI (owd o j)) (fun j => nI (owd (so jhi) j)) (i - 1) (j - 1)))), (0, .ref (adr 7)), (1, .ref (adr (23 + 6 * o))), (3, .ref (adr (23 + 6 * so jhi))), (6, .int (nI s9))]) hx hb dX2_lendTo_158 hl (by decide) rfl (fun ls hl => ?_)
                    refine lv_iinc (v := nI (s9 + 1)) (lv' := [(6, .int (nI (s9 + 1))), (5, .int (nI j)), (4, .int (nI (i - 1))), (7, .int (skp (ed (fun j => nI (owd o j)) (fun j => nI (owd (so jhi) j)) (i - 1) j) (ed (fun j => nI (owd o j)) (fun j => nI (owd (so jhi) j)) i (j - 1)) (ed (fun j => nI (owd o j)) (fun j => nI (owd (so jhi) j)) (i - 1) (j - 1)))), (0, .ref (adr 7)), (1, .ref (adr (23 + 6 * o))), (3, .ref (adr (23 + 6 * so jhi)))]) hx hb dX2_lendTo_160 hl (k := 6) rfl (nI_1 _) (by decide) rfl (fun ls hl => ?_)
                    refine lv_goto (tgt := 47) hx hb dX2_lendTo_163 (by decide) ?_
                    exact ih47 (s9 + 1) F9 ((i - 1)) j Tz bz hTz (by omega) (by omega) (by omega) (by omega) (by omega) (hI.trans ((lendF_n (by omega) (by omega) c86).trans (by rw [if_neg c134, if_pos c149] <;> rfl))) wz z0wz z1wz z2wz z3wz z4wz z5wz z6wz z7wz z8wz z9wz z10wz z11wz z12wz zrwz _ _ hM hS ls (lv_sub hl [4, 5, 6, 2, 1, 0] rfl)
                · refine lv_iconst (v := 0) hx hb dX2_lendTo_137 (by decide) ?_
                  refine lv_goto (tgt := 142) hx hb dX2_lendTo_138 (by decide) ?_
                  refine lv_isub hx hb dX2_lendTo_142 ?_
                  refine m_top (show ((nI i) - 0) = nI i from Int32.sub_zero _) ?_
                  refine lv_istore (lv' := [(4, .int (nI i)), (7, .int (skp (ed (fun j => nI (owd o j)) (fun j => nI (owd (so jhi) j)) (i - 1) j) (ed (fun j => nI (owd o j)) (fun j => nI (owd (so jhi) j)) i (j - 1)) (ed (fun j => nI (owd o j)) (fun j => nI (owd (so jhi) j)) (i - 1) (j - 1)))), (0, .ref (adr 7)), (1, .ref (adr (23 + 6 * o))), (3, .ref (adr (23 + 6 * so jhi))), (5, .int (nI j)), (6, .int (nI s9))]) hx hb dX2_lendTo_143 hl (by decide) rfl (fun ls hl => ?_)
                  refine lv_iload hx hb dX2_lendTo_145 (lv_at hl 5 rfl) ?_
                  refine lv_iload hx hb dX2_lendTo_147 (lv_at hl 1 rfl) ?_
                  refine lv_if_ne (tgt := 156) hx hb dX2_lendTo_149 (by decide) (fun c149 => ?_) (fun c149 => ?_)
                  · refine lv_iconst (v := 1) hx hb dX2_lendTo_156 (by decide) ?_
                    refine lv_isub hx hb dX2_lendTo_157 ?_
                    refine m_top (show ((nI j) - 1) = nI (j - 1) from pk_sub (a := j) (b := 1) (by omega)) ?_
                    refine lv_istore (lv' := [(5, .int (nI (j - 1))), (4, .int (nI i)), (7, .int (skp (ed (fun j => nI (owd o j)) (fun j => nI (owd (so jhi) j)) (i - 1) j) (ed (fun j => nI (owd o j)) (fun j => nI (owd (so jhi) j)) i (j - 1)) (ed (fun j => nI (owd o j)) (fun j => nI (owd (so jhi) j)) (i - 1) (j - 1)))), (0, .ref (adr 7)), (1, .ref (adr (23 + 6 * o))), (3, .ref (adr (23 + 6 * so jhi))), (6, .int (nI s9))]) hx hb dX2_lendTo_158 hl (by decide) rfl (fun ls hl => ?_)
                    refine lv_iinc (v := nI (s9 + 1)) (lv' := [(6, .int (nI (s9 + 1))), (5, .int (nI (j - 1))), (4, .int (nI i)), (7, .int (skp (ed (fun j => nI (owd o j)) (fun j => nI (owd (so jhi) j)) (i - 1) j) (ed (fun j => nI (owd o j)) (fun j => nI (owd (so jhi) j)) i (j - 1)) (ed (fun j => nI (owd o j)) (fun j => nI (owd (so jhi) j)) (i - 1) (j - 1)))), (0, .ref (adr 7)), (1, .ref (adr (23 + 6 * o))), (3, .ref (adr (23 + 6 * so jhi)))]) hx hb dX2_lendTo_160 hl (k := 6) rfl (nI_1 _) (by decide) rfl (fun ls hl => ?_)
                    refine lv_goto (tgt := 47) hx hb dX2_lendTo_163 (by decide) ?_
                    exact ih47 (s9 + 1) F9 i ((j - 1)) Tz bz hTz (by omega) (by omega) (by omega) (by omega) (by omega) (hI.trans ((lendF_n (by omega) (by omega) c86).trans (by rw [if_pos c134, if_neg c149] <;> rfl))) wz z0wz z1wz z2wz z3wz z4wz z5wz z6wz z7wz z8wz z9wz z10wz z11wz z12wz zrwz _ _ hM hS ls (lv_sub hl [4, 5, 6, 2, 1, 0] rfl)
                  · refine lv_iconst (v := 0) hx hb dX2_lendTo_152 (by decide) ?_
                    refine lv_goto (tgt := 157) hx hb dX2_lendTo_153 (by decide) ?_
                    refine lv_isub hx hb dX2_lendTo_157 ?_
                    refine m_top (show ((nI j) - 0) = nI j from Int32.sub_zero _) ?_
                    refine lv_istore (lv' := [(5, .int (nI j)), (4, .int (nI i)), (7, .int (skp (ed (fun j => nI (owd o j)) (fun j => nI (owd (so jhi) j)) (i - 1) j) (ed (fun j => nI (owd o j)) (fun j => nI (owd (so jhi) j)) i (j - 1)) (ed (fun j => nI (owd o j)) (fun j => nI (owd (so jhi) j)) (i - 1) (j - 1)))), (0, .ref (adr 7)), (1, .ref (adr (23 + 6 * o))), (3, .ref (adr (23 + 6 * so jhi))), (6, .int (nI s9))]) hx hb dX2_lendTo_158 hl (by decide) rfl (fun ls hl => ?_)
                    refine lv_iinc (v := nI (s9 + 1)) (lv' := [(6, .int (nI (s9 + 1))), (5, .int (nI j)), (4, .int (nI i)), (7, .int (skp (ed (fun j => nI (owd o j)) (fun j => nI (owd (so jhi) j)) (i - 1) j) (ed (fun j => nI (owd o j)) (fun j => nI (owd (so jhi) j)) i (j - 1)) (ed (fun j => nI (owd o j)) (fun j => nI (owd (so jhi) j)) (i - 1) (j - 1)))), (0, .ref (adr 7)), (1, .ref (adr (23 + 6 * o))), (3, .ref (adr (23 + 6 * so jhi)))]) hx hb dX2_lendTo_160 hl (k := 6) rfl (nI_1 _) (by decide) rfl (fun ls hl => ?_)
                    refine lv_goto (tgt := 47) hx hb dX2_lendTo_163 (by decide) ?_
                    exact absurd (c134.symm.trans c149) (by decide)
              · refine lv_iinc (v := nI (i - 1)) (lv' := [(4, .int (nI (i - 1))), (0, .ref (adr 7)), (1, .ref (adr (23 + 6 * o))), (3, .ref (adr (23 + 6 * so jhi))), (5, .int (nI j)), (6, .int (nI s9))]) hx hb dX2_lendTo_89 hl (k := 3) rfl (nI_dec hip) (by decide) rfl (fun ls hl => ?_)
                refine lv_iinc (v := nI (j - 1)) (lv' := [(5, .int (nI (j - 1))), (4, .int (nI (i - 1))), (0, .ref (adr 7)), (1, .ref (adr (23 + 6 * o))), (3, .ref (adr (23 + 6 * so jhi))), (6, .int (nI s9))]) hx hb dX2_lendTo_92 hl (k := 4) rfl (nI_dec hjp) (by decide) rfl (fun ls hl => ?_)
                refine lv_aload_n hx hb dX2_lendTo_95 rfl (lv_at hl 3 rfl) ?_
                refine m_getN (host := RX7) (ci := 6) (C := RX6) (T := TX6) (n := 3) (v := .ref (adr (23 + 6 * o + 3))) hx hb hts inX6_ hown hK rfl (hM.cel (by have := ho; omega) z3wz) 2 (by decide) 19 rfl rfl dX2_lendTo_96 ?_
                refine lv_iload hx hb dX2_lendTo_99 (lv_at hl 1 rfl) ?_
                refine lv_aload_n hx hb dX2_lendTo_101 rfl (lv_at hl 4 rfl) ?_
                refine m_getN (host := RX7) (ci := 6) (C := RX6) (T := TX6) (n := 3) (v := .ref (adr (23 + 6 * so jhi + 3))) hx hb hts inX6_ hown hK rfl (hM.cel (by have := ho_; omega) z8wz) 2 (by decide) 19 rfl rfl dX2_lendTo_102 ?_
                refine lv_iload hx hb dX2_lendTo_105 (lv_at hl 0 rfl) ?_
                refine r_calli (va_runV (As := [.int (nI (j - 1))]) (rest := [.int (nI (i - 1)), .ref (adr (23 + 6 * o + 3))]) ⟨hx, hb, hml, hown, hts⟩ (k_X4_at l D ac _ (adr (23 + 6 * so jhi + 3)) (adr (23 + 6 * so jhi + 4)) (on_ (so jhi)) (obf (so jhi)) (hM.cel (by have := ho_; omega) z11wz) (hM.cel (by have := ho_; omega) z12wz) (by omega) (nI (j - 1))) (cwV 1 hts gX2_lendTo_X4_at rfl rfl rfl (by decide +kernel) ⟨Nat.le_of_ble_eq_true rfl, Nat.le_of_ble_eq_true rfl⟩) (pV hK (ci := 4) rfl (hM.cel (by have := ho_; omega) z11wz)) rfl rfl hl.1 rfl (lv_room (Nat.le_of_ble_eq_true rfl)) dX2_lendTo_107 ⟨Nat.le_of_ble_eq_true rfl, Nat.le_of_ble_eq_true rfl⟩) hS (fun rv_26 locs hrv_26 hS => ?_)
                subst hrv_26
                refine m_top (show ((ix (nI (j - 1)) (on_ (so jhi))).elim (-1) (obf (so jhi))) = obf (so jhi) (j - 1) from by rw [ix_nI (by omega) (by omega)]; rfl) ?_
                refine w_callv (va_runV (As := [.int (nI (i - 1)), .int (obf (so jhi) (j - 1))]) (rest := []) ⟨hx, hb, hml, hown, hts⟩ (k_X4_put l D ac _ A N adr wz hM (23 + 6 * o + 3) (23 + 6 * o + 4) ((on_ o)) bz (by have := ho; omega) (by have := ho; omega) (by omega) z6wz z7wz (by omega) ((i - 1)) (by omega) (obf (so jhi) (j - 1))) (cwV 2 hts gX2_lendTo_X4_put rfl rfl rfl (by decide +kernel) ⟨Nat.le_of_ble_eq_true rfl, Nat.le_of_ble_eq_true rfl⟩) (pV hK (ci := 4) rfl (hM.cel (by have := ho; omega) z6wz)) rfl rfl hl.1 rfl (lv_room (Nat.le_of_ble_eq_true rfl)) dX2_lendTo_110 ⟨Nat.le_of_ble_eq_true rfl, Nat.le_of_ble_eq_true rfl⟩) hS (fun w_28 H locs hw_28 hM hS => ?_)
                have h_29 : w_28 7 = .inr (2, [.ref (adr 8), .ref (adr 9), .ref (adr 10), .ref (adr 12), .int (nI ns)]) := by rw [hw_28, va_up_ne _ _ (by omega)]; exact z0wz
                have h_30 : w_28 12 = .inr (0, [.ref (adr 13)]) := by rw [hw_28, va_up_ne _ _ (by omega)]; exact z1wz
                have h_31 : w_28 13 = .inl (ac 0, 81, .inl Tz) := by rw [hw_28, va_up_ne _ _ (by omega)]; exact z2wz
                have h_32 : w_28 (23 + 6 * o) = .inr (6, [.int (nI (oc o)), .ref (adr (23 + 6 * o + 1)), .ref (adr (23 + 6 * o + 3))]) := by rw [hw_28, va_up_ne _ _ (by omega)]; exact z3wz
                have h_33 : w_28 (23 + 6 * o + 1) = .inr (4, [.ref (adr (23 + 6 * o + 2)), .int (nI (on_ o))]) := by rw [hw_28, va_up_ne _ _ (by omega)]; exact z4wz
                have h_34 : w_28 (23 + 6 * o + 2) = .inl (ac 0, 8, .inl (fun j => nI (owd o j))) := by rw [hw_28, va_up_ne _ _ (by omega)]; exact z5wz
                have h_35 : w_28 (23 + 6 * o + 3) = .inr (4, [.ref (adr (23 + 6 * o + 4)), .int (nI (on_ o))]) := by rw [hw_28, va_up_ne _ _ (by omega)]; exact z6wz
                have h_36 : w_28 (23 + 6 * o + 4) = .inl (ac 0, 8, .inl (upd bz ((i - 1)) (obf (so jhi) (j - 1)))) := by rw [hw_28]; exact va_up_self _ _ _
                have h_37 : w_28 (23 + 6 * so jhi) = .inr (6, [.int (nI (oc (so jhi))), .ref (adr (23 + 6 * so jhi + 1)), .ref (adr (23 + 6 * so jhi + 3))]) := by rw [hw_28, va_up_ne _ _ (by omega)]; exact z8wz
                have h_38 : w_28 (23 + 6 * so jhi + 1) = .inr (4, [.ref (adr (23 + 6 * so jhi + 2)), .int (nI (on_ (so jhi)))]) := by rw [hw_28, va_up_ne _ _ (by omega)]; exact z9wz
                have h_39 : w_28 (23 + 6 * so jhi + 2) = .inl (ac 0, 8, .inl (fun j => nI (owd (so jhi) j))) := by rw [hw_28, va_up_ne _ _ (by omega)]; exact z10wz
                have h_40 : w_28 (23 + 6 * so jhi + 3) = .inr (4, [.ref (adr (23 + 6 * so jhi + 4)), .int (nI (on_ (so jhi)))]) := by rw [hw_28, va_up_ne _ _ (by omega)]; exact z11wz
                have h_41 : w_28 (23 + 6 * so jhi + 4) = .inl (ac 0, 8, .inl (obf (so jhi))) := by rw [hw_28, va_up_ne _ _ (by omega)]; exact z12wz
                refine lv_goto (tgt := 160) hx hb dX2_lendTo_113 (by decide) ?_
                refine lv_iinc (v := nI (s9 + 1)) (lv' := [(6, .int (nI (s9 + 1))), (5, .int (nI (j - 1))), (4, .int (nI (i - 1))), (0, .ref (adr 7)), (1, .ref (adr (23 + 6 * o))), (3, .ref (adr (23 + 6 * so jhi)))]) hx hb dX2_lendTo_160 hl (k := 5) rfl (nI_1 _) (by decide) rfl (fun ls hl => ?_)
                refine lv_goto (tgt := 47) hx hb dX2_lendTo_163 (by decide) ?_
                exact ih47 (s9 + 1) F9 ((i - 1)) ((j - 1)) Tz (upd bz ((i - 1)) (obf (so jhi) (j - 1))) hTz (by omega) (by omega) (by omega) (by omega) (by omega) (hI.trans (lendF_p (by omega) (by omega) c86)) w_28 h_29 h_30 h_31 h_32 h_33 h_34 h_35 h_36 h_37 h_38 h_39 h_40 h_41 (fun q q1 q2 => by rw [hw_28, va_up_ne _ _ q2]; exact zrwz q q1 q2) _ _ hM hS ls (lv_sub hl [3, 4, 5, 2, 1, 0] rfl)
    exact L47 _ 0 16 (on_ o) (on_ (so jhi)) T_4 (obf o) eT_4 (Nat.lt_succ_self _) rfl (by omega) (Nat.le_refl _) (Nat.le_refl _) rfl w_3 h_5 h_10 h_11 h_12 h_13 h_14 h_15 h_16 h_17 h_18 h_19 h_20 h_21 (fun q q1 q2 => by rw [hw_3, va_up_ne _ _ q1]) _ _ hM hS ls (lv_sub hl [4, 5, 3, 2, 1, 0] rfl)
end
