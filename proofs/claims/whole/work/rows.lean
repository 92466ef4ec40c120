section
-- ===== PART A: goes FIRST, ahead of the names: the tables' words, and 'selects' of the private methods out of them =====
/-- a private method of a class that the tables say can be made, by its rows of tables_1 -/
def lw_okq (q : MethodName × Nat) : Prop := (q.1.cls ≠ "java/lang/invoke/MethodHandle" ∧ q.1.cls ≠ "java/lang/invoke/VarHandle") ∧ Cond.instantiable q.1.cls q.2 ∈ tables_1 ∧ Cond.privateMethod q.1 ∈ tables_1 ∧ Cond.instanceMethod q.1 ∈ tables_1
theorem lw_p0 : lw_okq (⟨"ShelfJudge", "forget", "()V"⟩, 12) := ⟨⟨by decide +kernel, by decide +kernel⟩, List.mem_of_getElem? (i := 11) (by decide +kernel), List.mem_of_getElem? (i := 207) (by decide +kernel), List.mem_of_getElem? (i := 208) (by decide +kernel)⟩
theorem lw_p1 : lw_okq (⟨"ShelfJudgeModel", "add", "(I)V"⟩, 34) := ⟨⟨by decide +kernel, by decide +kernel⟩, List.mem_of_getElem? (i := 524) (by decide +kernel), List.mem_of_getElem? (i := 649) (by decide +kernel), List.mem_of_getElem? (i := 650) (by decide +kernel)⟩
theorem lw_p2 : lw_okq (⟨"ShelfJudgeModel", "isAsking", "(I)Z"⟩, 34) := ⟨⟨by decide +kernel, by decide +kernel⟩, List.mem_of_getElem? (i := 524) (by decide +kernel), List.mem_of_getElem? (i := 662) (by decide +kernel), List.mem_of_getElem? (i := 663) (by decide +kernel)⟩
theorem lw_p3 : lw_okq (⟨"ShelfJudgeModel", "unlike", "()I"⟩, 34) := ⟨⟨by decide +kernel, by decide +kernel⟩, List.mem_of_getElem? (i := 524) (by decide +kernel), List.mem_of_getElem? (i := 678) (by decide +kernel), List.mem_of_getElem? (i := 679) (by decide +kernel)⟩
theorem lw_p4 : lw_okq (⟨"ShelfJudgeModel", "allPrices", "()I"⟩, 34) := ⟨⟨by decide +kernel, by decide +kernel⟩, List.mem_of_getElem? (i := 524) (by decide +kernel), List.mem_of_getElem? (i := 682) (by decide +kernel), List.mem_of_getElem? (i := 683) (by decide +kernel)⟩
theorem lw_p5 : lw_okq (⟨"ShelfJudgeModel", "begin", "(II)V"⟩, 34) := ⟨⟨by decide +kernel, by decide +kernel⟩, List.mem_of_getElem? (i := 524) (by decide +kernel), List.mem_of_getElem? (i := 690) (by decide +kernel), List.mem_of_getElem? (i := 691) (by decide +kernel)⟩
theorem lw_p6 : lw_okq (⟨"ShelfJudgeModel", "serveOne", "(I)V"⟩, 34) := ⟨⟨by decide +kernel, by decide +kernel⟩, List.mem_of_getElem? (i := 524) (by decide +kernel), List.mem_of_getElem? (i := 694) (by decide +kernel), List.mem_of_getElem? (i := 695) (by decide +kernel)⟩
theorem lw_p7 : lw_okq (⟨"ShelfJudgeModel", "hit", "(II)V"⟩, 34) := ⟨⟨by decide +kernel, by decide +kernel⟩, List.mem_of_getElem? (i := 524) (by decide +kernel), List.mem_of_getElem? (i := 698) (by decide +kernel), List.mem_of_getElem? (i := 699) (by decide +kernel)⟩
theorem lw_p8 : lw_okq (⟨"ShelfJudgeModel", "fromBook", "(I)Z"⟩, 34) := ⟨⟨by decide +kernel, by decide +kernel⟩, List.mem_of_getElem? (i := 524) (by decide +kernel), List.mem_of_getElem? (i := 702) (by decide +kernel), List.mem_of_getElem? (i := 703) (by decide +kernel)⟩
theorem lw_p9 : lw_okq (⟨"ShelfJudgeModel", "chosen", "(I)I"⟩, 34) := ⟨⟨by decide +kernel, by decide +kernel⟩, List.mem_of_getElem? (i := 524) (by decide +kernel), List.mem_of_getElem? (i := 706) (by decide +kernel), List.mem_of_getElem? (i := 707) (by decide +kernel)⟩
theorem lw_p10 : lw_okq (⟨"ShelfJudgeModel", "oldest", "()I"⟩, 34) := ⟨⟨by decide +kernel, by decide +kernel⟩, List.mem_of_getElem? (i := 524) (by decide +kernel), List.mem_of_getElem? (i := 710) (by decide +kernel), List.mem_of_getElem? (i := 711) (by decide +kernel)⟩
theorem lw_p11 : lw_okq (⟨"ShelfJudgeModel", "resting", "(IZ)I"⟩, 34) := ⟨⟨by decide +kernel, by decide +kernel⟩, List.mem_of_getElem? (i := 524) (by decide +kernel), List.mem_of_getElem? (i := 714) (by decide +kernel), List.mem_of_getElem? (i := 715) (by decide +kernel)⟩
theorem lw_p12 : lw_okq (⟨"ShelfJudgeModel", "unmarked", "()I"⟩, 34) := ⟨⟨by decide +kernel, by decide +kernel⟩, List.mem_of_getElem? (i := 524) (by decide +kernel), List.mem_of_getElem? (i := 718) (by decide +kernel), List.mem_of_getElem? (i := 719) (by decide +kernel)⟩
theorem lw_p13 : lw_okq (⟨"ShelfJudgeModel", "atHand", "()I"⟩, 34) := ⟨⟨by decide +kernel, by decide +kernel⟩, List.mem_of_getElem? (i := 524) (by decide +kernel), List.mem_of_getElem? (i := 722) (by decide +kernel), List.mem_of_getElem? (i := 723) (by decide +kernel)⟩
theorem lw_p14 : lw_okq (⟨"ShelfJudgeModel", "atPlace", "(I)I"⟩, 34) := ⟨⟨by decide +kernel, by decide +kernel⟩, List.mem_of_getElem? (i := 524) (by decide +kernel), List.mem_of_getElem? (i := 726) (by decide +kernel), List.mem_of_getElem? (i := 727) (by decide +kernel)⟩
theorem lw_p15 : lw_okq (⟨"ShelfJudgeModel", "least", "([I)I"⟩, 34) := ⟨⟨by decide +kernel, by decide +kernel⟩, List.mem_of_getElem? (i := 524) (by decide +kernel), List.mem_of_getElem? (i := 730) (by decide +kernel), List.mem_of_getElem? (i := 731) (by decide +kernel)⟩
def lw_privs_1 : List (MethodName × Nat) := [(⟨"ShelfJudge", "forget", "()V"⟩, 12), (⟨"ShelfJudgeModel", "add", "(I)V"⟩, 34), (⟨"ShelfJudgeModel", "isAsking", "(I)Z"⟩, 34), (⟨"ShelfJudgeModel", "unlike", "()I"⟩, 34), (⟨"ShelfJudgeModel", "allPrices", "()I"⟩, 34), (⟨"ShelfJudgeModel", "begin", "(II)V"⟩, 34), (⟨"ShelfJudgeModel", "serveOne", "(I)V"⟩, 34), (⟨"ShelfJudgeModel", "hit", "(II)V"⟩, 34), (⟨"ShelfJudgeModel", "fromBook", "(I)Z"⟩, 34), (⟨"ShelfJudgeModel", "chosen", "(I)I"⟩, 34), (⟨"ShelfJudgeModel", "oldest", "()I"⟩, 34), (⟨"ShelfJudgeModel", "resting", "(IZ)I"⟩, 34), (⟨"ShelfJudgeModel", "unmarked", "()I"⟩, 34), (⟨"ShelfJudgeModel", "atHand", "()I"⟩, 34), (⟨"ShelfJudgeModel", "atPlace", "(I)I"⟩, 34), (⟨"ShelfJudgeModel", "least", "([I)I"⟩, 34)]
theorem lw_r1 : ∀ q ∈ lw_privs_1, lw_okq q := List.forall_mem_cons.mpr ⟨lw_p0, List.forall_mem_cons.mpr ⟨lw_p1, List.forall_mem_cons.mpr ⟨lw_p2, List.forall_mem_cons.mpr ⟨lw_p3, List.forall_mem_cons.mpr ⟨lw_p4, List.forall_mem_cons.mpr ⟨lw_p5, List.forall_mem_cons.mpr ⟨lw_p6, List.forall_mem_cons.mpr ⟨lw_p7, List.forall_mem_cons.mpr ⟨lw_p8, List.forall_mem_cons.mpr ⟨lw_p9, List.forall_mem_cons.mpr ⟨lw_p10, List.forall_mem_cons.mpr ⟨lw_p11, List.forall_mem_cons.mpr ⟨lw_p12, List.forall_mem_cons.mpr ⟨lw_p13, List.forall_mem_cons.mpr ⟨lw_p14, List.forall_mem_cons.mpr ⟨lw_p15, fun _ h => absurd h List.not_mem_nil⟩⟩⟩⟩⟩⟩⟩⟩⟩⟩⟩⟩⟩⟩⟩⟩
theorem lw_p16 : lw_okq (⟨"ShelfJudgeModel", "ofTwoParts", "(I)I"⟩, 34) := ⟨⟨by decide +kernel, by decide +kernel⟩, List.mem_of_getElem? (i := 524) (by decide +kernel), List.mem_of_getElem? (i := 734) (by decide +kernel), List.mem_of_getElem? (i := 735) (by decide +kernel)⟩
theorem lw_p17 : lw_okq (⟨"ShelfJudgeModel", "partSize", "(I)I"⟩, 34) := ⟨⟨by decide +kernel, by decide +kernel⟩, List.mem_of_getElem? (i := 524) (by decide +kernel), List.mem_of_getElem? (i := 738) (by decide +kernel), List.mem_of_getElem? (i := 739) (by decide +kernel)⟩
theorem lw_p18 : lw_okq (⟨"ShelfJudgeModel", "firstIn", "(I)I"⟩, 34) := ⟨⟨by decide +kernel, by decide +kernel⟩, List.mem_of_getElem? (i := 524) (by decide +kernel), List.mem_of_getElem? (i := 742) (by decide +kernel), List.mem_of_getElem? (i := 743) (by decide +kernel)⟩
theorem lw_p19 : lw_okq (⟨"ShelfJudgeModel", "toBook", "(III)V"⟩, 34) := ⟨⟨by decide +kernel, by decide +kernel⟩, List.mem_of_getElem? (i := 524) (by decide +kernel), List.mem_of_getElem? (i := 746) (by decide +kernel), List.mem_of_getElem? (i := 747) (by decide +kernel)⟩
theorem lw_p20 : lw_okq (⟨"ShelfJudgeModel", "latestAhead", "(I)I"⟩, 34) := ⟨⟨by decide +kernel, by decide +kernel⟩, List.mem_of_getElem? (i := 524) (by decide +kernel), List.mem_of_getElem? (i := 750) (by decide +kernel), List.mem_of_getElem? (i := 751) (by decide +kernel)⟩
theorem lw_p21 : lw_okq (⟨"ShelfJudgeModel", "askedNext", "(II)I"⟩, 34) := ⟨⟨by decide +kernel, by decide +kernel⟩, List.mem_of_getElem? (i := 524) (by decide +kernel), List.mem_of_getElem? (i := 754) (by decide +kernel), List.mem_of_getElem? (i := 755) (by decide +kernel)⟩
theorem lw_p22 : lw_okq (⟨"ShelfJudgeModel", "leave", "(I)V"⟩, 34) := ⟨⟨by decide +kernel, by decide +kernel⟩, List.mem_of_getElem? (i := 524) (by decide +kernel), List.mem_of_getElem? (i := 758) (by decide +kernel), List.mem_of_getElem? (i := 759) (by decide +kernel)⟩
theorem lw_p23 : lw_okq (⟨"ShelfJudgeModel", "isOfWay", "(I)Z"⟩, 34) := ⟨⟨by decide +kernel, by decide +kernel⟩, List.mem_of_getElem? (i := 524) (by decide +kernel), List.mem_of_getElem? (i := 779) (by decide +kernel), List.mem_of_getElem? (i := 780) (by decide +kernel)⟩
theorem lw_p24 : lw_okq (⟨"ShelfJudgeModel", "isOfParts", "()Z"⟩, 34) := ⟨⟨by decide +kernel, by decide +kernel⟩, List.mem_of_getElem? (i := 524) (by decide +kernel), List.mem_of_getElem? (i := 783) (by decide +kernel), List.mem_of_getElem? (i := 784) (by decide +kernel)⟩
theorem lw_p25 : lw_okq (⟨"ShelfJudgeModel", "serveTo", "(III)V"⟩, 34) := ⟨⟨by decide +kernel, by decide +kernel⟩, List.mem_of_getElem? (i := 524) (by decide +kernel), List.mem_of_getElem? (i := 788) (by decide +kernel), List.mem_of_getElem? (i := 789) (by decide +kernel)⟩
theorem lw_p26 : lw_okq (⟨"ShelfJudgeModel", "missesOf", "(II)I"⟩, 34) := ⟨⟨by decide +kernel, by decide +kernel⟩, List.mem_of_getElem? (i := 524) (by decide +kernel), List.mem_of_getElem? (i := 800) (by decide +kernel), List.mem_of_getElem? (i := 801) (by decide +kernel)⟩
theorem lw_p27 : lw_okq (⟨"ShelfJudgeModel", "findLeast", "(I)Z"⟩, 34) := ⟨⟨by decide +kernel, by decide +kernel⟩, List.mem_of_getElem? (i := 524) (by decide +kernel), List.mem_of_getElem? (i := 813) (by decide +kernel), List.mem_of_getElem? (i := 814) (by decide +kernel)⟩
theorem lw_p28 : lw_okq (⟨"ShelfJudgeModel", "sizeOf", "(I)I"⟩, 34) := ⟨⟨by decide +kernel, by decide +kernel⟩, List.mem_of_getElem? (i := 524) (by decide +kernel), List.mem_of_getElem? (i := 817) (by decide +kernel), List.mem_of_getElem? (i := 818) (by decide +kernel)⟩
theorem lw_p29 : lw_okq (⟨"ShelfJudgeModel", "leastFor", "(III)I"⟩, 34) := ⟨⟨by decide +kernel, by decide +kernel⟩, List.mem_of_getElem? (i := 524) (by decide +kernel), List.mem_of_getElem? (i := 821) (by decide +kernel), List.mem_of_getElem? (i := 822) (by decide +kernel)⟩
theorem lw_p30 : lw_okq (⟨"ShelfJudgeModel", "behind", "(IIII)I"⟩, 34) := ⟨⟨by decide +kernel, by decide +kernel⟩, List.mem_of_getElem? (i := 524) (by decide +kernel), List.mem_of_getElem? (i := 825) (by decide +kernel), List.mem_of_getElem? (i := 826) (by decide +kernel)⟩
theorem lw_p31 : lw_okq (⟨"ShelfJudgeModel", "thingAt", "(I)I"⟩, 34) := ⟨⟨by decide +kernel, by decide +kernel⟩, List.mem_of_getElem? (i := 524) (by decide +kernel), List.mem_of_getElem? (i := 834) (by decide +kernel), List.mem_of_getElem? (i := 835) (by decide +kernel)⟩
def lw_privs_2 : List (MethodName × Nat) := [(⟨"ShelfJudgeModel", "ofTwoParts", "(I)I"⟩, 34), (⟨"ShelfJudgeModel", "partSize", "(I)I"⟩, 34), (⟨"ShelfJudgeModel", "firstIn", "(I)I"⟩, 34), (⟨"ShelfJudgeModel", "toBook", "(III)V"⟩, 34), (⟨"ShelfJudgeModel", "latestAhead", "(I)I"⟩, 34), (⟨"ShelfJudgeModel", "askedNext", "(II)I"⟩, 34), (⟨"ShelfJudgeModel", "leave", "(I)V"⟩, 34), (⟨"ShelfJudgeModel", "isOfWay", "(I)Z"⟩, 34), (⟨"ShelfJudgeModel", "isOfParts", "()Z"⟩, 34), (⟨"ShelfJudgeModel", "serveTo", "(III)V"⟩, 34), (⟨"ShelfJudgeModel", "missesOf", "(II)I"⟩, 34), (⟨"ShelfJudgeModel", "findLeast", "(I)Z"⟩, 34), (⟨"ShelfJudgeModel", "sizeOf", "(I)I"⟩, 34), (⟨"ShelfJudgeModel", "leastFor", "(III)I"⟩, 34), (⟨"ShelfJudgeModel", "behind", "(IIII)I"⟩, 34), (⟨"ShelfJudgeModel", "thingAt", "(I)I"⟩, 34)]
theorem lw_r2 : ∀ q ∈ lw_privs_2, lw_okq q := List.forall_mem_cons.mpr ⟨lw_p16, List.forall_mem_cons.mpr ⟨lw_p17, List.forall_mem_cons.mpr ⟨lw_p18, List.forall_mem_cons.mpr ⟨lw_p19, List.forall_mem_cons.mpr ⟨lw_p20, List.forall_mem_cons.mpr ⟨lw_p21, List.forall_mem_cons.mpr ⟨lw_p22, List.forall_mem_cons.mpr ⟨lw_p23, List.forall_mem_cons.mpr ⟨lw_p24, List.forall_mem_cons.mpr ⟨lw_p25, List.forall_mem_cons.mpr ⟨lw_p26, List.forall_mem_cons.mpr ⟨lw_p27, List.forall_mem_cons.mpr ⟨lw_p28, List.forall_mem_cons.mpr ⟨lw_p29, List.forall_mem_cons.mpr ⟨lw_p30, List.forall_mem_cons.mpr ⟨lw_p31, fun _ h => absurd h List.not_mem_nil⟩⟩⟩⟩⟩⟩⟩⟩⟩⟩⟩⟩⟩⟩⟩⟩
theorem lw_p32 : lw_okq (⟨"ShelfJudgeModel", "phaseOf", "(II)I"⟩, 34) := ⟨⟨by decide +kernel, by decide +kernel⟩, List.mem_of_getElem? (i := 524) (by decide +kernel), List.mem_of_getElem? (i := 842) (by decide +kernel), List.mem_of_getElem? (i := 843) (by decide +kernel)⟩
theorem lw_p33 : lw_okq (⟨"ShelfJudgeModel", "distanceOf", "(I)I"⟩, 34) := ⟨⟨by decide +kernel, by decide +kernel⟩, List.mem_of_getElem? (i := 524) (by decide +kernel), List.mem_of_getElem? (i := 854) (by decide +kernel), List.mem_of_getElem? (i := 855) (by decide +kernel)⟩
def lw_privs_3 : List (MethodName × Nat) := [(⟨"ShelfJudgeModel", "phaseOf", "(II)I"⟩, 34), (⟨"ShelfJudgeModel", "distanceOf", "(I)I"⟩, 34)]
theorem lw_r3 : ∀ q ∈ lw_privs_3, lw_okq q := List.forall_mem_cons.mpr ⟨lw_p32, List.forall_mem_cons.mpr ⟨lw_p33, fun _ h => absurd h List.not_mem_nil⟩⟩
def lw_privs : List (MethodName × Nat) := lw_privs_1 ++ (lw_privs_2 ++ (lw_privs_3))
def lw_tbl : List Cond := k2_sels lw_privs ++ tables_1
theorem lw_privs_ok : ∀ q ∈ lw_privs, lw_okq q := by
  show ∀ q ∈ lw_privs_1 ++ (lw_privs_2 ++ (lw_privs_3)), lw_okq q
  exact List.forall_mem_append.mpr ⟨lw_r1, List.forall_mem_append.mpr ⟨lw_r2, lw_r3⟩⟩
/-- the streams that the claim lets the run draw from -/
abbrev lw_cs : List Choice := [Jvm.Choice.named "NaN.bits"]
theorem lw_bits : nanBits ∈ lw_cs := by first | decide | exact List.mem_cons_self | simp [lw_cs, nanBits]
end
section
def RX0 : String := "ShelfJudge$LeastTable"
def TX0 : u_T := fun k => match k with
  | 0 => ("ShelfJudge$LeastTable", "row", "LShelfJudge$Row;", true)
  | 1 => ("ShelfJudge$LeastTable", "bitOf", "[I", true)
  | 2 => ("ShelfJudge$LeastTable", "thingOf", "[I", true)
  | 3 => ("ShelfJudge$LeastTable", "fullMasks", "[I", true)
  | 4 => ("ShelfJudge$LeastTable", "rankOf", "[I", true)
  | 5 => ("ShelfJudge$LeastTable", "due", "[I", true)
  | 6 => ("ShelfJudge$LeastTable", "choices", "[J", true)
  | 7 => ("ShelfJudge$LeastTable", "plan", "[I", true)
  | 8 => ("ShelfJudge$LeastTable", "unlike", "I", false)
  | 9 => ("ShelfJudge$LeastTable", "fullCount", "I", false)
  | 10 => ("ShelfJudge$LeastTable", "places", "I", false)
  | _ => ("ShelfJudge$LeastTable", "sum", "I", false)
def tyX0 : Nat → FieldType := fun k => match k with
  | 0 => .object "ShelfJudge$Row"
  | 1 => .array .int
  | 2 => .array .int
  | 3 => .array .int
  | 4 => .array .int
  | 5 => .array .int
  | 6 => .array .long
  | 7 => .array .int
  | 8 => .int
  | 9 => .int
  | 10 => .int
  | _ => .int
theorem nmX0 : ∀ a, a < 12 → ∀ b, b < 12 → a ≠ b → (TX0 a).2.1 ≠ (TX0 b).2.1 := by decide +kernel
theorem tyX0_ok : ∀ k, k < 12 → parseFieldDescriptor (TX0 k).2.2.1 = some (tyX0 k) := by decide +kernel
abbrev cX0_init : ByteArray := prog_2_method_1_code
def yX0_init : MethodName := ⟨RX0, "<init>", "(LShelfJudge$Row;)V"⟩
abbrev cX0_prepare : ByteArray := prog_2_method_2_code
def yX0_prepare : MethodName := ⟨RX0, "prepare", "(I)V"⟩
abbrev cX0_numberThings : ByteArray := prog_2_method_3_code
def yX0_numberThings : MethodName := ⟨RX0, "numberThings", "()V"⟩
abbrev cX0_listFullMasks : ByteArray := prog_2_method_4_code
def yX0_listFullMasks : MethodName := ⟨RX0, "listFullMasks", "()V"⟩
abbrev cX0_fillAsking : ByteArray := prog_2_method_5_code
def yX0_fillAsking : MethodName := ⟨RX0, "fillAsking", "(I)V"⟩
abbrev cX0_bestChoice : ByteArray := prog_2_method_6_code
def yX0_bestChoice : MethodName := ⟨RX0, "bestChoice", "(II)I"⟩
abbrev cX0_followChoices : ByteArray := prog_2_method_7_code
def yX0_followChoices : MethodName := ⟨RX0, "followChoices", "(II)V"⟩
abbrev cX0_keepChoice : ByteArray := prog_2_method_8_code
def yX0_keepChoice : MethodName := ⟨RX0, "keepChoice", "(III)V"⟩
abbrev cX0_keptChoice : ByteArray := prog_2_method_9_code
def yX0_keptChoice : MethodName := ⟨RX0, "keptChoice", "(II)I"⟩
def RX1 : String := "ShelfJudge$Row"
def TX1 : u_T := fun k => match k with
  | 0 => ("ShelfJudge$Row", "things", "[I", true)
  | 1 => ("ShelfJudge$Row", "prices", "[I", true)
  | 2 => ("ShelfJudge$Row", "next", "[I", true)
  | 3 => ("ShelfJudge$Row", "soonest", "[I", true)
  | _ => ("ShelfJudge$Row", "size", "I", false)
def tyX1 : Nat → FieldType := fun k => match k with
  | 0 => .array .int
  | 1 => .array .int
  | 2 => .array .int
  | 3 => .array .int
  | _ => .int
theorem nmX1 : ∀ a, a < 5 → ∀ b, b < 5 → a ≠ b → (TX1 a).2.1 ≠ (TX1 b).2.1 := by decide +kernel
theorem tyX1_ok : ∀ k, k < 5 → parseFieldDescriptor (TX1 k).2.2.1 = some (tyX1 k) := by decide +kernel
abbrev cX1_init : ByteArray := prog_3_method_1_code
def yX1_init : MethodName := ⟨RX1, "<init>", "()V"⟩
abbrev cX1_has : ByteArray := prog_3_method_2_code
def yX1_has : MethodName := ⟨RX1, "has", "(I)Z"⟩
abbrev cX1_append : ByteArray := prog_3_method_3_code
def yX1_append : MethodName := ⟨RX1, "append", "(I)V"⟩
abbrev cX1_priceAt : ByteArray := prog_3_method_4_code
def yX1_priceAt : MethodName := ⟨RX1, "priceAt", "(I)I"⟩
abbrev cX1_priceOfAll : ByteArray := prog_3_method_5_code
def yX1_priceOfAll : MethodName := ⟨RX1, "priceOfAll", "()I"⟩
abbrev cX1_bits : ByteArray := prog_3_method_6_code
def yX1_bits : MethodName := ⟨RX1, "bits", "()I"⟩
abbrev cX1_unlike : ByteArray := prog_3_method_7_code
def yX1_unlike : MethodName := ⟨RX1, "unlike", "()I"⟩
abbrev cX1_phaseAt : ByteArray := prog_3_method_8_code
def yX1_phaseAt : MethodName := ⟨RX1, "phaseAt", "(II)I"⟩
abbrev cX1_distanceAt : ByteArray := prog_3_method_9_code
def yX1_distanceAt : MethodName := ⟨RX1, "distanceAt", "(I)I"⟩
abbrev cX1_findNext : ByteArray := prog_3_method_10_code
def yX1_findNext : MethodName := ⟨RX1, "findNext", "()V"⟩
def RX2 : String := "ShelfJudge$Shelf"
def TX2 : u_T := fun k => match k with
  | 0 => ("ShelfJudge$Shelf", "row", "LShelfJudge$Row;", true)
  | 1 => ("ShelfJudge$Shelf", "part", "[I", true)
  | 2 => ("ShelfJudge$Shelf", "inPart", "[I", true)
  | 3 => ("ShelfJudge$Shelf", "since", "[I", true)
  | 4 => ("ShelfJudge$Shelf", "latest", "[I", true)
  | 5 => ("ShelfJudge$Shelf", "times", "[I", true)
  | 6 => ("ShelfJudge$Shelf", "credit", "[I", true)
  | 7 => ("ShelfJudge$Shelf", "place", "[I", true)
  | 8 => ("ShelfJudge$Shelf", "thingAt", "[I", true)
  | 9 => ("ShelfJudge$Shelf", "way", "I", false)
  | 10 => ("ShelfJudge$Shelf", "places", "I", false)
  | 11 => ("ShelfJudge$Shelf", "served", "I", false)
  | 12 => ("ShelfJudge$Shelf", "marks", "I", false)
  | 13 => ("ShelfJudge$Shelf", "rounds", "I", false)
  | 14 => ("ShelfJudge$Shelf", "hand", "I", false)
  | 15 => ("ShelfJudge$Shelf", "onceShare", "I", false)
  | 16 => ("ShelfJudge$Shelf", "height", "I", false)
  | _ => ("ShelfJudge$Shelf", "wasHit", "Z", false)
def tyX2 : Nat → FieldType := fun k => match k with
  | 0 => .object "ShelfJudge$Row"
  | 1 => .array .int
  | 2 => .array .int
  | 3 => .array .int
  | 4 => .array .int
  | 5 => .array .int
  | 6 => .array .int
  | 7 => .array .int
  | 8 => .array .int
  | 9 => .int
  | 10 => .int
  | 11 => .int
  | 12 => .int
  | 13 => .int
  | 14 => .int
  | 15 => .int
  | 16 => .int
  | _ => .boolean
theorem nmX2 : ∀ a, a < 18 → ∀ b, b < 18 → a ≠ b → (TX2 a).2.1 ≠ (TX2 b).2.1 := by decide +kernel
theorem tyX2_ok : ∀ k, k < 18 → parseFieldDescriptor (TX2 k).2.2.1 = some (tyX2 k) := by decide +kernel
abbrev cX2_init : ByteArray := prog_4_method_1_code
def yX2_init : MethodName := ⟨RX2, "<init>", "(LShelfJudge$Row;)V"⟩
abbrev cX2_begin : ByteArray := prog_4_method_2_code
def yX2_begin : MethodName := ⟨RX2, "begin", "(II)V"⟩
abbrev cX2_missesBy : ByteArray := prog_4_method_3_code
def yX2_missesBy : MethodName := ⟨RX2, "missesBy", "(II)I"⟩
abbrev cX2_standBehind : ByteArray := prog_4_method_4_code
def yX2_standBehind : MethodName := ⟨RX2, "standBehind", "(I)V"⟩
abbrev cX2_step : ByteArray := prog_4_method_5_code
def yX2_step : MethodName := ⟨RX2, "step", "()I"⟩
abbrev cX2_lies : ByteArray := prog_4_method_6_code
def yX2_lies : MethodName := ⟨RX2, "lies", "(I)Z"⟩
abbrev cX2_lying : ByteArray := prog_4_method_7_code
def yX2_lying : MethodName := ⟨RX2, "lying", "()I"⟩
abbrev cX2_leastAbsent : ByteArray := prog_4_method_8_code
def yX2_leastAbsent : MethodName := ⟨RX2, "leastAbsent", "()I"⟩
abbrev cX2_hasBooks : ByteArray := prog_4_method_9_code
def yX2_hasBooks : MethodName := ⟨RX2, "hasBooks", "()Z"⟩
abbrev cX2_meet : ByteArray := prog_4_method_10_code
def yX2_meet : MethodName := ⟨RX2, "meet", "(I)V"⟩
abbrev cX2_bring : ByteArray := prog_4_method_11_code
def yX2_bring : MethodName := ⟨RX2, "bring", "(I)I"⟩
abbrev cX2_partFor : ByteArray := prog_4_method_12_code
def yX2_partFor : MethodName := ⟨RX2, "partFor", "(I)I"⟩
abbrev cX2_chooseGoing : ByteArray := prog_4_method_13_code
def yX2_chooseGoing : MethodName := ⟨RX2, "chooseGoing", "()I"⟩
abbrev cX2_endFullRound : ByteArray := prog_4_method_14_code
def yX2_endFullRound : MethodName := ⟨RX2, "endFullRound", "()V"⟩
abbrev cX2_turnHand : ByteArray := prog_4_method_15_code
def yX2_turnHand : MethodName := ⟨RX2, "turnHand", "()I"⟩
abbrev cX2_moveHandOn : ByteArray := prog_4_method_16_code
def yX2_moveHandOn : MethodName := ⟨RX2, "moveHandOn", "()V"⟩
abbrev cX2_partThatLoses : ByteArray := prog_4_method_17_code
def yX2_partThatLoses : MethodName := ⟨RX2, "partThatLoses", "(I)I"⟩
abbrev cX2_firstOf : ByteArray := prog_4_method_18_code
def yX2_firstOf : MethodName := ⟨RX2, "firstOf", "(I)I"⟩
abbrev cX2_keyOf : ByteArray := prog_4_method_19_code
def yX2_keyOf : MethodName := ⟨RX2, "keyOf", "(I)I"⟩
abbrev cX2_takeAway : ByteArray := prog_4_method_20_code
def yX2_takeAway : MethodName := ⟨RX2, "takeAway", "(I)V"⟩
abbrev cX2_bookFor : ByteArray := prog_4_method_21_code
def yX2_bookFor : MethodName := ⟨RX2, "bookFor", "(I)I"⟩
abbrev cX2_move : ByteArray := prog_4_method_22_code
def yX2_move : MethodName := ⟨RX2, "move", "(II)V"⟩
abbrev cX2_knowsOfThing : ByteArray := prog_4_method_23_code
def yX2_knowsOfThing : MethodName := ⟨RX2, "knowsOfThing", "(I)Z"⟩
abbrev cX2_tellOfThing : ByteArray := prog_4_method_24_code
def yX2_tellOfThing : MethodName := ⟨RX2, "tellOfThing", "(II)I"⟩
abbrev cX2_knowsOfAll : ByteArray := prog_4_method_25_code
def yX2_knowsOfAll : MethodName := ⟨RX2, "knowsOfAll", "(I)Z"⟩
abbrev cX2_tellOfAll : ByteArray := prog_4_method_26_code
def yX2_tellOfAll : MethodName := ⟨RX2, "tellOfAll", "(I)I"⟩
def RX3 : String := "ShelfJudge"
def TX3 : u_T := fun k => match k with
  | 0 => ("ShelfJudge", "row", "LShelfJudge$Row;", true)
  | 1 => ("ShelfJudge", "run", "LShelfJudge$Shelf;", true)
  | 2 => ("ShelfJudge", "trial", "LShelfJudge$Shelf;", true)
  | 3 => ("ShelfJudge", "table", "LShelfJudge$LeastTable;", true)
  | 4 => ("ShelfJudge", "coming", "[I", true)
  | 5 => ("ShelfJudge", "told", "[I", true)
  | 6 => ("ShelfJudge", "runHits", "[I", true)
  | 7 => ("ShelfJudge", "runGoings", "[I", true)
  | 8 => ("ShelfJudge", "toldCount", "I", false)
  | 9 => ("ShelfJudge", "runMisses", "I", false)
  | 10 => ("ShelfJudge", "runPaid", "I", false)
  | _ => ("ShelfJudge", "hasRun", "Z", false)
def tyX3 : Nat → FieldType := fun k => match k with
  | 0 => .object "ShelfJudge$Row"
  | 1 => .object "ShelfJudge$Shelf"
  | 2 => .object "ShelfJudge$Shelf"
  | 3 => .object "ShelfJudge$LeastTable"
  | 4 => .array .int
  | 5 => .array .int
  | 6 => .array .int
  | 7 => .array .int
  | 8 => .int
  | 9 => .int
  | 10 => .int
  | _ => .boolean
theorem nmX3 : ∀ a, a < 12 → ∀ b, b < 12 → a ≠ b → (TX3 a).2.1 ≠ (TX3 b).2.1 := by decide +kernel
theorem tyX3_ok : ∀ k, k < 12 → parseFieldDescriptor (TX3 k).2.2.1 = some (tyX3 k) := by decide +kernel
abbrev cX3_init : ByteArray := prog_1_method_1_code
def yX3_init : MethodName := ⟨RX3, "<init>", "()V"⟩
abbrev cX3_price : ByteArray := prog_1_method_2_code
def yX3_price : MethodName := ⟨RX3, "price", "(II)I"⟩
abbrev cX3_ask : ByteArray := prog_1_method_3_code
def yX3_ask : MethodName := ⟨RX3, "ask", "(IIIII)I"⟩
abbrev cX3_draw : ByteArray := prog_1_method_4_code
def yX3_draw : MethodName := ⟨RX3, "draw", "(III)I"⟩
abbrev cX3_change : ByteArray := prog_1_method_5_code
def yX3_change : MethodName := ⟨RX3, "change", "(II)I"⟩
abbrev cX3_cut : ByteArray := prog_1_method_6_code
def yX3_cut : MethodName := ⟨RX3, "cut", "(I)I"⟩
abbrev cX3_asked : ByteArray := prog_1_method_7_code
def yX3_asked : MethodName := ⟨RX3, "asked", "(I)I"⟩
abbrev cX3_many : ByteArray := prog_1_method_8_code
def yX3_many : MethodName := ⟨RX3, "many", "(I)I"⟩
abbrev cX3_serve : ByteArray := prog_1_method_9_code
def yX3_serve : MethodName := ⟨RX3, "serve", "(II)I"⟩
abbrev cX3_paid : ByteArray := prog_1_method_10_code
def yX3_paid : MethodName := ⟨RX3, "paid", "()I"⟩
abbrev cX3_hit : ByteArray := prog_1_method_11_code
def yX3_hit : MethodName := ⟨RX3, "hit", "(I)I"⟩
abbrev cX3_gone : ByteArray := prog_1_method_12_code
def yX3_gone : MethodName := ⟨RX3, "gone", "(I)I"⟩
abbrev cX3_look : ByteArray := prog_1_method_13_code
def yX3_look : MethodName := ⟨RX3, "look", "(III)I"⟩
abbrev cX3_level : ByteArray := prog_1_method_14_code
def yX3_level : MethodName := ⟨RX3, "level", "(II)I"⟩
abbrev cX3_fewest : ByteArray := prog_1_method_15_code
def yX3_fewest : MethodName := ⟨RX3, "fewest", "(I)I"⟩
abbrev cX3_share : ByteArray := prog_1_method_16_code
def yX3_share : MethodName := ⟨RX3, "share", "()I"⟩
abbrev cX3_least : ByteArray := prog_1_method_17_code
def yX3_least : MethodName := ⟨RX3, "least", "(I)I"⟩
abbrev cX3_goes : ByteArray := prog_1_method_18_code
def yX3_goes : MethodName := ⟨RX3, "goes", "(II)I"⟩
abbrev cX3_phases : ByteArray := prog_1_method_19_code
def yX3_phases : MethodName := ⟨RX3, "phases", "(I)I"⟩
abbrev cX3_phase : ByteArray := prog_1_method_20_code
def yX3_phase : MethodName := ⟨RX3, "phase", "(II)I"⟩
abbrev cX3_distance : ByteArray := prog_1_method_21_code
def yX3_distance : MethodName := ⟨RX3, "distance", "(I)I"⟩
abbrev cX3_curve : ByteArray := prog_1_method_22_code
def yX3_curve : MethodName := ⟨RX3, "curve", "(I)I"⟩
abbrev cX3_hard : ByteArray := prog_1_method_23_code
def yX3_hard : MethodName := ⟨RX3, "hard", "(III)I"⟩
abbrev cX3_claim : ByteArray := prog_1_method_24_code
def yX3_claim : MethodName := ⟨RX3, "claim", "(I)I"⟩
abbrev cX3_copy : ByteArray := prog_1_method_25_code
def yX3_copy : MethodName := ⟨RX3, "copy", "()I"⟩
abbrev cX3_unclaim : ByteArray := prog_1_method_26_code
def yX3_unclaim : MethodName := ⟨RX3, "unclaim", "()I"⟩
abbrev cX3_cost : ByteArray := prog_1_method_27_code
def yX3_cost : MethodName := ⟨RX3, "cost", "(I)I"⟩
abbrev cX3_check : ByteArray := prog_1_method_28_code
def yX3_check : MethodName := ⟨RX3, "check", "(II)I"⟩
abbrev cX3_forget : ByteArray := prog_1_method_29_code
def yX3_forget : MethodName := ⟨RX3, "forget", "()V"⟩
abbrev cX3_isThing : ByteArray := prog_1_method_30_code
def yX3_isThing : MethodName := ⟨RX3, "isThing", "(I)Z"⟩
abbrev cX3_isWay : ByteArray := prog_1_method_31_code
def yX3_isWay : MethodName := ⟨RX3, "isWay", "(I)Z"⟩
abbrev cX3_isPlaces : ByteArray := prog_1_method_32_code
def yX3_isPlaces : MethodName := ⟨RX3, "isPlaces", "(I)Z"⟩
abbrev cX3_canGo : ByteArray := prog_1_method_33_code
def yX3_canGo : MethodName := ⟨RX3, "canGo", "(IIII)Z"⟩
def RX4 : String := "ShelfJudgeModel"
def TX4 : u_T := fun k => match k with
  | 0 => ("ShelfJudgeModel", "priceOf", "[I", true)
  | 1 => ("ShelfJudgeModel", "row", "[I", true)
  | 2 => ("ShelfJudgeModel", "askings", "I", false)
  | 3 => ("ShelfJudgeModel", "hasRun", "Z", false)
  | 4 => ("ShelfJudgeModel", "runWay", "I", false)
  | 5 => ("ShelfJudgeModel", "runPlaces", "I", false)
  | 6 => ("ShelfJudgeModel", "runHit", "[I", true)
  | 7 => ("ShelfJudgeModel", "runGone", "[I", true)
  | 8 => ("ShelfJudgeModel", "told", "[I", true)
  | 9 => ("ShelfJudgeModel", "tolds", "I", false)
  | 10 => ("ShelfJudgeModel", "five", "[I", true)
  | 11 => ("ShelfJudgeModel", "way", "I", false)
  | 12 => ("ShelfJudgeModel", "places", "I", false)
  | 13 => ("ShelfJudgeModel", "lies", "[Z", true)
  | 14 => ("ShelfJudgeModel", "cameAt", "[I", true)
  | 15 => ("ShelfJudgeModel", "lastAt", "[I", true)
  | 16 => ("ShelfJudgeModel", "counts", "[I", true)
  | 17 => ("ShelfJudgeModel", "isMarked", "[Z", true)
  | 18 => ("ShelfJudgeModel", "placeOf", "[I", true)
  | 19 => ("ShelfJudgeModel", "part", "[I", true)
  | 20 => ("ShelfJudgeModel", "partAt", "[I", true)
  | 21 => ("ShelfJudgeModel", "credit", "[I", true)
  | 22 => ("ShelfJudgeModel", "lying", "I", false)
  | 23 => ("ShelfJudgeModel", "rounds", "I", false)
  | 24 => ("ShelfJudgeModel", "hand", "I", false)
  | 25 => ("ShelfJudgeModel", "share", "I", false)
  | 26 => ("ShelfJudgeModel", "level", "I", false)
  | 27 => ("ShelfJudgeModel", "wasHit", "I", false)
  | 28 => ("ShelfJudgeModel", "went", "I", false)
  | 29 => ("ShelfJudgeModel", "bitOf", "[I", true)
  | 30 => ("ShelfJudgeModel", "spent", "[I", true)
  | 31 => ("ShelfJudgeModel", "sets", "I", false)
  | 32 => ("ShelfJudgeModel", "isSeen", "[Z", true)
  | _ => ("ShelfJudgeModel", "stands", "[Z", true)
def tyX4 : Nat → FieldType := fun k => match k with
  | 0 => .array .int
  | 1 => .array .int
  | 2 => .int
  | 3 => .boolean
  | 4 => .int
  | 5 => .int
  | 6 => .array .int
  | 7 => .array .int
  | 8 => .array .int
  | 9 => .int
  | 10 => .array .int
  | 11 => .int
  | 12 => .int
  | 13 => .array .boolean
  | 14 => .array .int
  | 15 => .array .int
  | 16 => .array .int
  | 17 => .array .boolean
  | 18 => .array .int
  | 19 => .array .int
  | 20 => .array .int
  | 21 => .array .int
  | 22 => .int
  | 23 => .int
  | 24 => .int
  | 25 => .int
  | 26 => .int
  | 27 => .int
  | 28 => .int
  | 29 => .array .int
  | 30 => .array .int
  | 31 => .int
  | 32 => .array .boolean
  | _ => .array .boolean
theorem nmX4 : ∀ a, a < 34 → ∀ b, b < 34 → a ≠ b → (TX4 a).2.1 ≠ (TX4 b).2.1 := by decide +kernel
theorem tyX4_ok : ∀ k, k < 34 → parseFieldDescriptor (TX4 k).2.2.1 = some (tyX4 k) := by decide +kernel
abbrev cX4_init : ByteArray := prog_6_method_1_code
def yX4_init : MethodName := ⟨RX4, "<init>", "()V"⟩
abbrev cX4_in : ByteArray := prog_6_method_2_code
def yX4_in : MethodName := ⟨RX4, "in", "(III)Z"⟩
abbrev cX4_isThing : ByteArray := prog_6_method_3_code
def yX4_isThing : MethodName := ⟨RX4, "isThing", "(I)Z"⟩
abbrev cX4_isAsking : ByteArray := prog_6_method_4_code
def yX4_isAsking : MethodName := ⟨RX4, "isAsking", "(I)Z"⟩
abbrev cX4_price : ByteArray := prog_6_method_5_code
def yX4_price : MethodName := ⟨RX4, "price", "(II)I"⟩
abbrev cX4_add : ByteArray := prog_6_method_6_code
def yX4_add : MethodName := ⟨RX4, "add", "(I)V"⟩
abbrev cX4_ask : ByteArray := prog_6_method_7_code
def yX4_ask : MethodName := ⟨RX4, "ask", "(IIIII)I"⟩
abbrev cX4_draw : ByteArray := prog_6_method_8_code
def yX4_draw : MethodName := ⟨RX4, "draw", "(III)I"⟩
abbrev cX4_change : ByteArray := prog_6_method_9_code
def yX4_change : MethodName := ⟨RX4, "change", "(II)I"⟩
abbrev cX4_cut : ByteArray := prog_6_method_10_code
def yX4_cut : MethodName := ⟨RX4, "cut", "(I)I"⟩
abbrev cX4_asked : ByteArray := prog_6_method_11_code
def yX4_asked : MethodName := ⟨RX4, "asked", "(I)I"⟩
abbrev cX4_unlike : ByteArray := prog_6_method_12_code
def yX4_unlike : MethodName := ⟨RX4, "unlike", "()I"⟩
abbrev cX4_allPrices : ByteArray := prog_6_method_13_code
def yX4_allPrices : MethodName := ⟨RX4, "allPrices", "()I"⟩
abbrev cX4_many : ByteArray := prog_6_method_14_code
def yX4_many : MethodName := ⟨RX4, "many", "(I)I"⟩
abbrev cX4_begin : ByteArray := prog_6_method_15_code
def yX4_begin : MethodName := ⟨RX4, "begin", "(II)V"⟩
abbrev cX4_partSize : ByteArray := prog_6_method_16_code
def yX4_partSize : MethodName := ⟨RX4, "partSize", "(I)I"⟩
abbrev cX4_firstIn : ByteArray := prog_6_method_17_code
def yX4_firstIn : MethodName := ⟨RX4, "firstIn", "(I)I"⟩
abbrev cX4_resting : ByteArray := prog_6_method_18_code
def yX4_resting : MethodName := ⟨RX4, "resting", "(IZ)I"⟩
abbrev cX4_oldest : ByteArray := prog_6_method_19_code
def yX4_oldest : MethodName := ⟨RX4, "oldest", "()I"⟩
abbrev cX4_unmarked : ByteArray := prog_6_method_20_code
def yX4_unmarked : MethodName := ⟨RX4, "unmarked", "()I"⟩
abbrev cX4_atPlace : ByteArray := prog_6_method_21_code
def yX4_atPlace : MethodName := ⟨RX4, "atPlace", "(I)I"⟩
abbrev cX4_atHand : ByteArray := prog_6_method_22_code
def yX4_atHand : MethodName := ⟨RX4, "atHand", "()I"⟩
abbrev cX4_least : ByteArray := prog_6_method_23_code
def yX4_least : MethodName := ⟨RX4, "least", "([I)I"⟩
abbrev cX4_toBook : ByteArray := prog_6_method_24_code
def yX4_toBook : MethodName := ⟨RX4, "toBook", "(III)V"⟩
abbrev cX4_ofTwoParts : ByteArray := prog_6_method_25_code
def yX4_ofTwoParts : MethodName := ⟨RX4, "ofTwoParts", "(I)I"⟩
abbrev cX4_askedNext : ByteArray := prog_6_method_26_code
def yX4_askedNext : MethodName := ⟨RX4, "askedNext", "(II)I"⟩
abbrev cX4_latestAhead : ByteArray := prog_6_method_27_code
def yX4_latestAhead : MethodName := ⟨RX4, "latestAhead", "(I)I"⟩
abbrev cX4_chosen : ByteArray := prog_6_method_28_code
def yX4_chosen : MethodName := ⟨RX4, "chosen", "(I)I"⟩
abbrev cX4_hit : ByteArray := prog_6_method_29_code
def yX4_hit : MethodName := ⟨RX4, "hit", "(II)V"⟩
abbrev cX4_fromBook : ByteArray := prog_6_method_30_code
def yX4_fromBook : MethodName := ⟨RX4, "fromBook", "(I)Z"⟩
abbrev cX4_leave : ByteArray := prog_6_method_31_code
def yX4_leave : MethodName := ⟨RX4, "leave", "(I)V"⟩
abbrev cX4_serveOne : ByteArray := prog_6_method_32_code
def yX4_serveOne : MethodName := ⟨RX4, "serveOne", "(I)V"⟩
abbrev cX4_serveTo : ByteArray := prog_6_method_33_code
def yX4_serveTo : MethodName := ⟨RX4, "serveTo", "(III)V"⟩
abbrev cX4_missesOf : ByteArray := prog_6_method_34_code
def yX4_missesOf : MethodName := ⟨RX4, "missesOf", "(II)I"⟩
abbrev cX4_serve : ByteArray := prog_6_method_35_code
def yX4_serve : MethodName := ⟨RX4, "serve", "(II)I"⟩
abbrev cX4_paid : ByteArray := prog_6_method_36_code
def yX4_paid : MethodName := ⟨RX4, "paid", "()I"⟩
abbrev cX4_hit_ : ByteArray := prog_6_method_37_code
def yX4_hit_ : MethodName := ⟨RX4, "hit", "(I)I"⟩
abbrev cX4_gone : ByteArray := prog_6_method_38_code
def yX4_gone : MethodName := ⟨RX4, "gone", "(I)I"⟩
abbrev cX4_isOfParts : ByteArray := prog_6_method_39_code
def yX4_isOfParts : MethodName := ⟨RX4, "isOfParts", "()Z"⟩
abbrev cX4_isOfWay : ByteArray := prog_6_method_40_code
def yX4_isOfWay : MethodName := ⟨RX4, "isOfWay", "(I)Z"⟩
abbrev cX4_look : ByteArray := prog_6_method_41_code
def yX4_look : MethodName := ⟨RX4, "look", "(III)I"⟩
abbrev cX4_level : ByteArray := prog_6_method_42_code
def yX4_level : MethodName := ⟨RX4, "level", "(II)I"⟩
abbrev cX4_fewest : ByteArray := prog_6_method_43_code
def yX4_fewest : MethodName := ⟨RX4, "fewest", "(I)I"⟩
abbrev cX4_share : ByteArray := prog_6_method_44_code
def yX4_share : MethodName := ⟨RX4, "share", "()I"⟩
abbrev cX4_sizeOf : ByteArray := prog_6_method_45_code
def yX4_sizeOf : MethodName := ⟨RX4, "sizeOf", "(I)I"⟩
abbrev cX4_behind : ByteArray := prog_6_method_46_code
def yX4_behind : MethodName := ⟨RX4, "behind", "(IIII)I"⟩
abbrev cX4_leastFor : ByteArray := prog_6_method_47_code
def yX4_leastFor : MethodName := ⟨RX4, "leastFor", "(III)I"⟩
abbrev cX4_findLeast : ByteArray := prog_6_method_48_code
def yX4_findLeast : MethodName := ⟨RX4, "findLeast", "(I)Z"⟩
abbrev cX4_least_ : ByteArray := prog_6_method_49_code
def yX4_least_ : MethodName := ⟨RX4, "least", "(I)I"⟩
abbrev cX4_thingAt : ByteArray := prog_6_method_50_code
def yX4_thingAt : MethodName := ⟨RX4, "thingAt", "(I)I"⟩
abbrev cX4_goes : ByteArray := prog_6_method_51_code
def yX4_goes : MethodName := ⟨RX4, "goes", "(II)I"⟩
abbrev cX4_phaseOf : ByteArray := prog_6_method_52_code
def yX4_phaseOf : MethodName := ⟨RX4, "phaseOf", "(II)I"⟩
abbrev cX4_phases : ByteArray := prog_6_method_53_code
def yX4_phases : MethodName := ⟨RX4, "phases", "(I)I"⟩
abbrev cX4_phase : ByteArray := prog_6_method_54_code
def yX4_phase : MethodName := ⟨RX4, "phase", "(II)I"⟩
abbrev cX4_distanceOf : ByteArray := prog_6_method_55_code
def yX4_distanceOf : MethodName := ⟨RX4, "distanceOf", "(I)I"⟩
abbrev cX4_distance : ByteArray := prog_6_method_56_code
def yX4_distance : MethodName := ⟨RX4, "distance", "(I)I"⟩
abbrev cX4_curve : ByteArray := prog_6_method_57_code
def yX4_curve : MethodName := ⟨RX4, "curve", "(I)I"⟩
abbrev cX4_hard : ByteArray := prog_6_method_58_code
def yX4_hard : MethodName := ⟨RX4, "hard", "(III)I"⟩
abbrev cX4_claim : ByteArray := prog_6_method_59_code
def yX4_claim : MethodName := ⟨RX4, "claim", "(I)I"⟩
abbrev cX4_copy : ByteArray := prog_6_method_60_code
def yX4_copy : MethodName := ⟨RX4, "copy", "()I"⟩
abbrev cX4_unclaim : ByteArray := prog_6_method_61_code
def yX4_unclaim : MethodName := ⟨RX4, "unclaim", "()I"⟩
abbrev cX4_cost : ByteArray := prog_6_method_62_code
def yX4_cost : MethodName := ⟨RX4, "cost", "(I)I"⟩
abbrev cX4_check : ByteArray := prog_6_method_63_code
def yX4_check : MethodName := ⟨RX4, "check", "(II)I"⟩
def RJ6 : String := "java/lang/Integer"
def TJ6 : u_T := fun k => match k with
  | _ => ("", "", "", false)
def tyJ6 : Nat → FieldType := fun k => match k with
  | _ => .int
theorem nmJ6 : ∀ a, a < 0 → ∀ b, b < 0 → a ≠ b → (TJ6 a).2.1 ≠ (TJ6 b).2.1 := by decide +kernel
theorem tyJ6_ok : ∀ k, k < 0 → parseFieldDescriptor (TJ6 k).2.2.1 = some (tyJ6 k) := by decide +kernel
abbrev cJ6_bitCount_0f7a4 : ByteArray := prog_7_method_49_code
def yJ6_bitCount_0f7a4 : MethodName := ⟨RJ6, "bitCount", "(I)I"⟩
def RJ9 : String := "java/lang/Math"
def TJ9 : u_T := fun k => match k with
  | _ => ("", "", "", false)
def tyJ9 : Nat → FieldType := fun k => match k with
  | _ => .int
theorem nmJ9 : ∀ a, a < 0 → ∀ b, b < 0 → a ≠ b → (TJ9 a).2.1 ≠ (TJ9 b).2.1 := by decide +kernel
theorem tyJ9_ok : ∀ k, k < 0 → parseFieldDescriptor (TJ9 k).2.2.1 = some (tyJ9 k) := by decide +kernel
abbrev cJ9_max_7cf53 : ByteArray := prog_8_method_65_code
def yJ9_max_7cf53 : MethodName := ⟨RJ9, "max", "(II)I"⟩
abbrev cJ9_min_7cf53 : ByteArray := prog_8_method_69_code
def yJ9_min_7cf53 : MethodName := ⟨RJ9, "min", "(II)I"⟩
def RJ10 : String := "java/lang/System"
def TJ10 : u_T := fun k => match k with
  | _ => ("", "", "", false)
def tyJ10 : Nat → FieldType := fun k => match k with
  | _ => .int
theorem nmJ10 : ∀ a, a < 0 → ∀ b, b < 0 → a ≠ b → (TJ10 a).2.1 ≠ (TJ10 b).2.1 := by decide +kernel
theorem tyJ10_ok : ∀ k, k < 0 → parseFieldDescriptor (TJ10 k).2.2.1 = some (tyJ10 k) := by decide +kernel
def RJ7 : String := "java/util/Arrays"
def TJ7 : u_T := fun k => match k with
  | _ => ("", "", "", false)
def tyJ7 : Nat → FieldType := fun k => match k with
  | _ => .int
theorem nmJ7 : ∀ a, a < 0 → ∀ b, b < 0 → a ≠ b → (TJ7 a).2.1 ≠ (TJ7 b).2.1 := by decide +kernel
theorem tyJ7_ok : ∀ k, k < 0 → parseFieldDescriptor (TJ7 k).2.2.1 = some (tyJ7 k) := by decide +kernel
abbrev cJ7_fill_53178 : ByteArray := prog_10_method_103_code
def yJ7_fill_53178 : MethodName := ⟨RJ7, "fill", "([II)V"⟩
def RL : String := "ShelfJudgeLaw"
abbrev cL_law : ByteArray := code
def yL_law : MethodName := ⟨RL, "law", "([I)Z"⟩
abbrev vwCl : List vw_C := [(RX0, TX0, 12), (RX1, TX1, 5), (RX2, TX2, 18), (RX3, TX3, 12), (RX4, TX4, 34)]
end
section
theorem dX0_init_0 : decode cX0_init 0 = .ok (.aload_n 0, 1) := by decide +kernel
theorem dX0_init_1 : decode cX0_init 1 = .ok (.invokespecial 3, 3) := by decide +kernel
theorem dX0_init_4 : decode cX0_init 4 = .ok (.aload_n 0, 1) := by decide +kernel
theorem dX0_init_5 : decode cX0_init 5 = .ok (.bipush 16, 2) := by decide +kernel
theorem dX0_init_7 : decode cX0_init 7 = .ok (.newarray .int, 2) := by decide +kernel
theorem dX0_init_9 : decode cX0_init 9 = .ok (.putfield 9, 3) := by decide +kernel
theorem dX0_init_12 : decode cX0_init 12 = .ok (.aload_n 0, 1) := by decide +kernel
theorem dX0_init_13 : decode cX0_init 13 = .ok (.bipush 16, 2) := by decide +kernel
theorem dX0_init_15 : decode cX0_init 15 = .ok (.newarray .int, 2) := by decide +kernel
theorem dX0_init_17 : decode cX0_init 17 = .ok (.putfield 15, 3) := by decide +kernel
theorem dX0_init_20 : decode cX0_init 20 = .ok (.aload_n 0, 1) := by decide +kernel
theorem dX0_init_21 : decode cX0_init 21 = .ok (.sipush 252, 3) := by decide +kernel
theorem dX0_init_24 : decode cX0_init 24 = .ok (.newarray .int, 2) := by decide +kernel
theorem dX0_init_26 : decode cX0_init 26 = .ok (.putfield 18, 3) := by decide +kernel
theorem dX0_init_29 : decode cX0_init 29 = .ok (.aload_n 0, 1) := by decide +kernel
theorem dX0_init_30 : decode cX0_init 30 = .ok (.sipush 1024, 3) := by decide +kernel
theorem dX0_init_33 : decode cX0_init 33 = .ok (.newarray .int, 2) := by decide +kernel
theorem dX0_init_35 : decode cX0_init 35 = .ok (.putfield 21, 3) := by decide +kernel
theorem dX0_init_38 : decode cX0_init 38 = .ok (.aload_n 0, 1) := by decide +kernel
theorem dX0_init_39 : decode cX0_init 39 = .ok (.sipush 1024, 3) := by decide +kernel
theorem dX0_init_42 : decode cX0_init 42 = .ok (.newarray .int, 2) := by decide +kernel
theorem dX0_init_44 : decode cX0_init 44 = .ok (.putfield 24, 3) := by decide +kernel
theorem dX0_init_47 : decode cX0_init 47 = .ok (.aload_n 0, 1) := by decide +kernel
theorem dX0_init_48 : decode cX0_init 48 = .ok (.sipush 4800, 3) := by decide +kernel
theorem dX0_init_51 : decode cX0_init 51 = .ok (.newarray .long, 2) := by decide +kernel
theorem dX0_init_53 : decode cX0_init 53 = .ok (.putfield 27, 3) := by decide +kernel
theorem dX0_init_56 : decode cX0_init 56 = .ok (.aload_n 0, 1) := by decide +kernel
theorem dX0_init_57 : decode cX0_init 57 = .ok (.sipush 300, 3) := by decide +kernel
theorem dX0_init_60 : decode cX0_init 60 = .ok (.newarray .int, 2) := by decide +kernel
theorem dX0_init_62 : decode cX0_init 62 = .ok (.putfield 31, 3) := by decide +kernel
theorem dX0_init_65 : decode cX0_init 65 = .ok (.aload_n 0, 1) := by decide +kernel
theorem dX0_init_66 : decode cX0_init 66 = .ok (.aload_n 1, 1) := by decide +kernel
theorem dX0_init_67 : decode cX0_init 67 = .ok (.putfield 34, 3) := by decide +kernel
theorem dX0_init_70 : decode cX0_init 70 = .ok (.aload_n 0, 1) := by decide +kernel
theorem dX0_init_71 : decode cX0_init 71 = .ok (.iconst 0, 1) := by decide +kernel
theorem dX0_init_72 : decode cX0_init 72 = .ok (.putfield 38, 3) := by decide +kernel
theorem dX0_init_75 : decode cX0_init 75 = .ok (.return_, 1) := by decide +kernel
theorem dX0_prepare_0 : decode cX0_prepare 0 = .ok (.aload_n 0, 1) := by decide +kernel
theorem dX0_prepare_1 : decode cX0_prepare 1 = .ok (.getfield 38, 3) := by decide +kernel
theorem dX0_prepare_4 : decode cX0_prepare 4 = .ok (.iload_n 1, 1) := by decide +kernel
theorem dX0_prepare_5 : decode cX0_prepare 5 = .ok (.if_icmp .ne 4, 3) := by decide +kernel
theorem dX0_prepare_8 : decode cX0_prepare 8 = .ok (.return_, 1) := by decide +kernel
theorem dX0_prepare_9 : decode cX0_prepare 9 = .ok (.aload_n 0, 1) := by decide +kernel
theorem dX0_prepare_10 : decode cX0_prepare 10 = .ok (.iload_n 1, 1) := by decide +kernel
theorem dX0_prepare_11 : decode cX0_prepare 11 = .ok (.putfield 38, 3) := by decide +kernel
theorem dX0_prepare_14 : decode cX0_prepare 14 = .ok (.aload_n 0, 1) := by decide +kernel
theorem dX0_prepare_15 : decode cX0_prepare 15 = .ok (.iconst 0, 1) := by decide +kernel
theorem dX0_prepare_16 : decode cX0_prepare 16 = .ok (.putfield 42, 3) := by decide +kernel
theorem dX0_prepare_19 : decode cX0_prepare 19 = .ok (.aload_n 0, 1) := by decide +kernel
theorem dX0_prepare_20 : decode cX0_prepare 20 = .ok (.getfield 31, 3) := by decide +kernel
theorem dX0_prepare_23 : decode cX0_prepare 23 = .ok (.iconst (-1), 1) := by decide +kernel
theorem dX0_prepare_24 : decode cX0_prepare 24 = .ok (.invokestatic 45, 3) := by decide +kernel
theorem dX0_prepare_27 : decode cX0_prepare 27 = .ok (.aload_n 0, 1) := by decide +kernel
theorem dX0_prepare_28 : decode cX0_prepare 28 = .ok (.invokevirtual 51, 3) := by decide +kernel
theorem dX0_prepare_31 : decode cX0_prepare 31 = .ok (.aload_n 0, 1) := by decide +kernel
theorem dX0_prepare_32 : decode cX0_prepare 32 = .ok (.invokevirtual 54, 3) := by decide +kernel
theorem dX0_prepare_35 : decode cX0_prepare 35 = .ok (.iconst 0, 1) := by decide +kernel
theorem dX0_prepare_36 : decode cX0_prepare 36 = .ok (.istore_n 2, 1) := by decide +kernel
theorem dX0_prepare_37 : decode cX0_prepare 37 = .ok (.iconst 0, 1) := by decide +kernel
theorem dX0_prepare_38 : decode cX0_prepare 38 = .ok (.istore_n 3, 1) := by decide +kernel
theorem dX0_prepare_39 : decode cX0_prepare 39 = .ok (.iload_n 3, 1) := by decide +kernel
theorem dX0_prepare_40 : decode cX0_prepare 40 = .ok (.aload_n 0, 1) := by decide +kernel
theorem dX0_prepare_41 : decode cX0_prepare 41 = .ok (.getfield 34, 3) := by decide +kernel
theorem dX0_prepare_44 : decode cX0_prepare 44 = .ok (.getfield 57, 3) := by decide +kernel
theorem dX0_prepare_47 : decode cX0_prepare 47 = .ok (.if_icmp .ge 64, 3) := by decide +kernel
theorem dX0_prepare_50 : decode cX0_prepare 50 = .ok (.iload_n 2, 1) := by decide +kernel
theorem dX0_prepare_51 : decode cX0_prepare 51 = .ok (.invokestatic 62, 3) := by decide +kernel
theorem dX0_prepare_54 : decode cX0_prepare 54 = .ok (.iload_n 1, 1) := by decide +kernel
theorem dX0_prepare_55 : decode cX0_prepare 55 = .ok (.if_icmp .ge 56, 3) := by decide +kernel
theorem dX0_prepare_58 : decode cX0_prepare 58 = .ok (.iconst 1, 1) := by decide +kernel
theorem dX0_prepare_59 : decode cX0_prepare 59 = .ok (.aload_n 0, 1) := by decide +kernel
theorem dX0_prepare_60 : decode cX0_prepare 60 = .ok (.getfield 9, 3) := by decide +kernel
theorem dX0_prepare_63 : decode cX0_prepare 63 = .ok (.aload_n 0, 1) := by decide +kernel
theorem dX0_prepare_64 : decode cX0_prepare 64 = .ok (.getfield 34, 3) := by decide +kernel
theorem dX0_prepare_67 : decode cX0_prepare 67 = .ok (.getfield 68, 3) := by decide +kernel
theorem dX0_prepare_70 : decode cX0_prepare 70 = .ok (.iload_n 3, 1) := by decide +kernel
theorem dX0_prepare_71 : decode cX0_prepare 71 = .ok (.iaload, 1) := by decide +kernel
theorem dX0_prepare_72 : decode cX0_prepare 72 = .ok (.iaload, 1) := by decide +kernel
theorem dX0_prepare_73 : decode cX0_prepare 73 = .ok (.ishl, 1) := by decide +kernel
theorem dX0_prepare_74 : decode cX0_prepare 74 = .ok (.istore 4, 2) := by decide +kernel
theorem dX0_prepare_76 : decode cX0_prepare 76 = .ok (.iload_n 2, 1) := by decide +kernel
theorem dX0_prepare_77 : decode cX0_prepare 77 = .ok (.iload 4, 2) := by decide +kernel
theorem dX0_prepare_79 : decode cX0_prepare 79 = .ok (.iand, 1) := by decide +kernel
theorem dX0_prepare_80 : decode cX0_prepare 80 = .ok (.ifCond .ne 20, 3) := by decide +kernel
theorem dX0_prepare_83 : decode cX0_prepare 83 = .ok (.aload_n 0, 1) := by decide +kernel
theorem dX0_prepare_84 : decode cX0_prepare 84 = .ok (.dup, 1) := by decide +kernel
theorem dX0_prepare_85 : decode cX0_prepare 85 = .ok (.getfield 42, 3) := by decide +kernel
theorem dX0_prepare_88 : decode cX0_prepare 88 = .ok (.aload_n 0, 1) := by decide +kernel
theorem dX0_prepare_89 : decode cX0_prepare 89 = .ok (.getfield 34, 3) := by decide +kernel
theorem dX0_prepare_92 : decode cX0_prepare 92 = .ok (.iload_n 3, 1) := by decide +kernel
theorem dX0_prepare_93 : decode cX0_prepare 93 = .ok (.invokevirtual 71, 3) := by decide +kernel
theorem dX0_prepare_96 : decode cX0_prepare 96 = .ok (.iadd, 1) := by decide +kernel
theorem dX0_prepare_97 : decode cX0_prepare 97 = .ok (.putfield 42, 3) := by decide +kernel
theorem dX0_prepare_100 : decode cX0_prepare 100 = .ok (.iload_n 2, 1) := by decide +kernel
theorem dX0_prepare_101 : decode cX0_prepare 101 = .ok (.iload 4, 2) := by decide +kernel
theorem dX0_prepare_103 : decode cX0_prepare 103 = .ok (.ior, 1) := by decide +kernel
theorem dX0_prepare_104 : decode cX0_prepare 104 = .ok (.istore_n 2, 1) := by decide +kernel
theorem dX0_prepare_105 : decode cX0_prepare 105 = .ok (.iinc 3 1, 3) := by decide +kernel
theorem dX0_prepare_108 : decode cX0_prepare 108 = .ok (.goto (-69), 3) := by decide +kernel
theorem dX0_prepare_111 : decode cX0_prepare 111 = .ok (.aload_n 0, 1) := by decide +kernel
theorem dX0_prepare_112 : decode cX0_prepare 112 = .ok (.getfield 34, 3) := by decide +kernel
theorem dX0_prepare_115 : decode cX0_prepare 115 = .ok (.getfield 57, 3) := by decide +kernel
theorem dX0_prepare_118 : decode cX0_prepare 118 = .ok (.iconst 1, 1) := by decide +kernel
theorem dX0_prepare_119 : decode cX0_prepare 119 = .ok (.isub, 1) := by decide +kernel
theorem dX0_prepare_120 : decode cX0_prepare 120 = .ok (.istore 4, 2) := by decide +kernel
theorem dX0_prepare_122 : decode cX0_prepare 122 = .ok (.iload 4, 2) := by decide +kernel
theorem dX0_prepare_124 : decode cX0_prepare 124 = .ok (.iload_n 3, 1) := by decide +kernel
theorem dX0_prepare_125 : decode cX0_prepare 125 = .ok (.if_icmp .lt 15, 3) := by decide +kernel
theorem dX0_prepare_128 : decode cX0_prepare 128 = .ok (.aload_n 0, 1) := by decide +kernel
theorem dX0_prepare_129 : decode cX0_prepare 129 = .ok (.iload 4, 2) := by decide +kernel
theorem dX0_prepare_131 : decode cX0_prepare 131 = .ok (.invokevirtual 74, 3) := by decide +kernel
theorem dX0_prepare_134 : decode cX0_prepare 134 = .ok (.iinc 4 (-1), 3) := by decide +kernel
theorem dX0_prepare_137 : decode cX0_prepare 137 = .ok (.goto (-15), 3) := by decide +kernel
theorem dX0_prepare_140 : decode cX0_prepare 140 = .ok (.aload_n 0, 1) := by decide +kernel
theorem dX0_prepare_141 : decode cX0_prepare 141 = .ok (.dup, 1) := by decide +kernel
theorem dX0_prepare_142 : decode cX0_prepare 142 = .ok (.getfield 42, 3) := by decide +kernel
theorem dX0_prepare_145 : decode cX0_prepare 145 = .ok (.aload_n 0, 1) := by decide +kernel
theorem dX0_prepare_146 : decode cX0_prepare 146 = .ok (.getfield 24, 3) := by decide +kernel
theorem dX0_prepare_149 : decode cX0_prepare 149 = .ok (.iload_n 2, 1) := by decide +kernel
theorem dX0_prepare_150 : decode cX0_prepare 150 = .ok (.iaload, 1) := by decide +kernel
theorem dX0_prepare_151 : decode cX0_prepare 151 = .ok (.iadd, 1) := by decide +kernel
theorem dX0_prepare_152 : decode cX0_prepare 152 = .ok (.putfield 42, 3) := by decide +kernel
theorem dX0_prepare_155 : decode cX0_prepare 155 = .ok (.aload_n 0, 1) := by decide +kernel
theorem dX0_prepare_156 : decode cX0_prepare 156 = .ok (.iload_n 2, 1) := by decide +kernel
theorem dX0_prepare_157 : decode cX0_prepare 157 = .ok (.iload_n 3, 1) := by decide +kernel
theorem dX0_prepare_158 : decode cX0_prepare 158 = .ok (.invokevirtual 78, 3) := by decide +kernel
theorem dX0_prepare_161 : decode cX0_prepare 161 = .ok (.return_, 1) := by decide +kernel
theorem dX0_numberThings_0 : decode cX0_numberThings 0 = .ok (.aload_n 0, 1) := by decide +kernel
theorem dX0_numberThings_1 : decode cX0_numberThings 1 = .ok (.getfield 34, 3) := by decide +kernel
theorem dX0_numberThings_4 : decode cX0_numberThings 4 = .ok (.invokevirtual 82, 3) := by decide +kernel
theorem dX0_numberThings_7 : decode cX0_numberThings 7 = .ok (.istore_n 1, 1) := by decide +kernel
theorem dX0_numberThings_8 : decode cX0_numberThings 8 = .ok (.aload_n 0, 1) := by decide +kernel
theorem dX0_numberThings_9 : decode cX0_numberThings 9 = .ok (.iconst 0, 1) := by decide +kernel
theorem dX0_numberThings_10 : decode cX0_numberThings 10 = .ok (.putfield 86, 3) := by decide +kernel
theorem dX0_numberThings_13 : decode cX0_numberThings 13 = .ok (.iconst 0, 1) := by decide +kernel
theorem dX0_numberThings_14 : decode cX0_numberThings 14 = .ok (.istore_n 2, 1) := by decide +kernel
theorem dX0_numberThings_15 : decode cX0_numberThings 15 = .ok (.iload_n 2, 1) := by decide +kernel
theorem dX0_numberThings_16 : decode cX0_numberThings 16 = .ok (.bipush 16, 2) := by decide +kernel
theorem dX0_numberThings_18 : decode cX0_numberThings 18 = .ok (.if_icmp .ge 56, 3) := by decide +kernel
theorem dX0_numberThings_21 : decode cX0_numberThings 21 = .ok (.iload_n 1, 1) := by decide +kernel
theorem dX0_numberThings_22 : decode cX0_numberThings 22 = .ok (.iconst 1, 1) := by decide +kernel
theorem dX0_numberThings_23 : decode cX0_numberThings 23 = .ok (.iload_n 2, 1) := by decide +kernel
theorem dX0_numberThings_24 : decode cX0_numberThings 24 = .ok (.ishl, 1) := by decide +kernel
theorem dX0_numberThings_25 : decode cX0_numberThings 25 = .ok (.iand, 1) := by decide +kernel
theorem dX0_numberThings_26 : decode cX0_numberThings 26 = .ok (.ifCond .eq 42, 3) := by decide +kernel
theorem dX0_numberThings_29 : decode cX0_numberThings 29 = .ok (.aload_n 0, 1) := by decide +kernel
theorem dX0_numberThings_30 : decode cX0_numberThings 30 = .ok (.getfield 86, 3) := by decide +kernel
theorem dX0_numberThings_33 : decode cX0_numberThings 33 = .ok (.bipush 10, 2) := by decide +kernel
theorem dX0_numberThings_35 : decode cX0_numberThings 35 = .ok (.if_icmp .ge 33, 3) := by decide +kernel
theorem dX0_numberThings_38 : decode cX0_numberThings 38 = .ok (.aload_n 0, 1) := by decide +kernel
theorem dX0_numberThings_39 : decode cX0_numberThings 39 = .ok (.getfield 9, 3) := by decide +kernel
theorem dX0_numberThings_42 : decode cX0_numberThings 42 = .ok (.iload_n 2, 1) := by decide +kernel
theorem dX0_numberThings_43 : decode cX0_numberThings 43 = .ok (.aload_n 0, 1) := by decide +kernel
theorem dX0_numberThings_44 : decode cX0_numberThings 44 = .ok (.getfield 86, 3) := by decide +kernel
theorem dX0_numberThings_47 : decode cX0_numberThings 47 = .ok (.iastore, 1) := by decide +kernel
theorem dX0_numberThings_48 : decode cX0_numberThings 48 = .ok (.aload_n 0, 1) := by decide +kernel
theorem dX0_numberThings_49 : decode cX0_numberThings 49 = .ok (.getfield 15, 3) := by decide +kernel
theorem dX0_numberThings_52 : decode cX0_numberThings 52 = .ok (.aload_n 0, 1) := by decide +kernel
theorem dX0_numberThings_53 : decode cX0_numberThings 53 = .ok (.getfield 86, 3) := by decide +kernel
theorem dX0_numberThings_56 : decode cX0_numberThings 56 = .ok (.iload_n 2, 1) := by decide +kernel
theorem dX0_numberThings_57 : decode cX0_numberThings 57 = .ok (.iastore, 1) := by decide +kernel
theorem dX0_numberThings_58 : decode cX0_numberThings 58 = .ok (.aload_n 0, 1) := by decide +kernel
theorem dX0_numberThings_59 : decode cX0_numberThings 59 = .ok (.dup, 1) := by decide +kernel
theorem dX0_numberThings_60 : decode cX0_numberThings 60 = .ok (.getfield 86, 3) := by decide +kernel
theorem dX0_numberThings_63 : decode cX0_numberThings 63 = .ok (.iconst 1, 1) := by decide +kernel
theorem dX0_numberThings_64 : decode cX0_numberThings 64 = .ok (.iadd, 1) := by decide +kernel
theorem dX0_numberThings_65 : decode cX0_numberThings 65 = .ok (.putfield 86, 3) := by decide +kernel
theorem dX0_numberThings_68 : decode cX0_numberThings 68 = .ok (.iinc 2 1, 3) := by decide +kernel
theorem dX0_numberThings_71 : decode cX0_numberThings 71 = .ok (.goto (-56), 3) := by decide +kernel
theorem dX0_numberThings_74 : decode cX0_numberThings 74 = .ok (.return_, 1) := by decide +kernel
theorem dX0_listFullMasks_0 : decode cX0_listFullMasks 0 = .ok (.aload_n 0, 1) := by decide +kernel
theorem dX0_listFullMasks_1 : decode cX0_listFullMasks 1 = .ok (.iconst 0, 1) := by decide +kernel
theorem dX0_listFullMasks_2 : decode cX0_listFullMasks 2 = .ok (.putfield 89, 3) := by decide +kernel
theorem dX0_listFullMasks_5 : decode cX0_listFullMasks 5 = .ok (.iconst 0, 1) := by decide +kernel
theorem dX0_listFullMasks_6 : decode cX0_listFullMasks 6 = .ok (.istore_n 1, 1) := by decide +kernel
theorem dX0_listFullMasks_7 : decode cX0_listFullMasks 7 = .ok (.iload_n 1, 1) := by decide +kernel
theorem dX0_listFullMasks_8 : decode cX0_listFullMasks 8 = .ok (.iconst 1, 1) := by decide +kernel
theorem dX0_listFullMasks_9 : decode cX0_listFullMasks 9 = .ok (.aload_n 0, 1) := by decide +kernel
theorem dX0_listFullMasks_10 : decode cX0_listFullMasks 10 = .ok (.getfield 86, 3) := by decide +kernel
theorem dX0_listFullMasks_13 : decode cX0_listFullMasks 13 = .ok (.ishl, 1) := by decide +kernel
theorem dX0_listFullMasks_14 : decode cX0_listFullMasks 14 = .ok (.if_icmp .ge 67, 3) := by decide +kernel
theorem dX0_listFullMasks_17 : decode cX0_listFullMasks 17 = .ok (.aload_n 0, 1) := by decide +kernel
theorem dX0_listFullMasks_18 : decode cX0_listFullMasks 18 = .ok (.getfield 24, 3) := by decide +kernel
theorem dX0_listFullMasks_21 : decode cX0_listFullMasks 21 = .ok (.iload_n 1, 1) := by decide +kernel
theorem dX0_listFullMasks_22 : decode cX0_listFullMasks 22 = .ok (.iconst 0, 1) := by decide +kernel
theorem dX0_listFullMasks_23 : decode cX0_listFullMasks 23 = .ok (.iastore, 1) := by decide +kernel
theorem dX0_listFullMasks_24 : decode cX0_listFullMasks 24 = .ok (.iload_n 1, 1) := by decide +kernel
theorem dX0_listFullMasks_25 : decode cX0_listFullMasks 25 = .ok (.invokestatic 62, 3) := by decide +kernel
theorem dX0_listFullMasks_28 : decode cX0_listFullMasks 28 = .ok (.aload_n 0, 1) := by decide +kernel
theorem dX0_listFullMasks_29 : decode cX0_listFullMasks 29 = .ok (.getfield 38, 3) := by decide +kernel
theorem dX0_listFullMasks_32 : decode cX0_listFullMasks 32 = .ok (.if_icmp .ne 43, 3) := by decide +kernel
theorem dX0_listFullMasks_35 : decode cX0_listFullMasks 35 = .ok (.aload_n 0, 1) := by decide +kernel
theorem dX0_listFullMasks_36 : decode cX0_listFullMasks 36 = .ok (.getfield 89, 3) := by decide +kernel
theorem dX0_listFullMasks_39 : decode cX0_listFullMasks 39 = .ok (.sipush 252, 3) := by decide +kernel
theorem dX0_listFullMasks_42 : decode cX0_listFullMasks 42 = .ok (.if_icmp .ge 33, 3) := by decide +kernel
theorem dX0_listFullMasks_45 : decode cX0_listFullMasks 45 = .ok (.aload_n 0, 1) := by decide +kernel
theorem dX0_listFullMasks_46 : decode cX0_listFullMasks 46 = .ok (.getfield 18, 3) := by decide +kernel
theorem dX0_listFullMasks_49 : decode cX0_listFullMasks 49 = .ok (.aload_n 0, 1) := by decide +kernel
theorem dX0_listFullMasks_50 : decode cX0_listFullMasks 50 = .ok (.getfield 89, 3) := by decide +kernel
theorem dX0_listFullMasks_53 : decode cX0_listFullMasks 53 = .ok (.iload_n 1, 1) := by decide +kernel
theorem dX0_listFullMasks_54 : decode cX0_listFullMasks 54 = .ok (.iastore, 1) := by decide +kernel
theorem dX0_listFullMasks_55 : decode cX0_listFullMasks 55 = .ok (.aload_n 0, 1) := by decide +kernel
theorem dX0_listFullMasks_56 : decode cX0_listFullMasks 56 = .ok (.getfield 21, 3) := by decide +kernel
theorem dX0_listFullMasks_59 : decode cX0_listFullMasks 59 = .ok (.iload_n 1, 1) := by decide +kernel
theorem dX0_listFullMasks_60 : decode cX0_listFullMasks 60 = .ok (.aload_n 0, 1) := by decide +kernel
theorem dX0_listFullMasks_61 : decode cX0_listFullMasks 61 = .ok (.getfield 89, 3) := by decide +kernel
theorem dX0_listFullMasks_64 : decode cX0_listFullMasks 64 = .ok (.iastore, 1) := by decide +kernel
theorem dX0_listFullMasks_65 : decode cX0_listFullMasks 65 = .ok (.aload_n 0, 1) := by decide +kernel
theorem dX0_listFullMasks_66 : decode cX0_listFullMasks 66 = .ok (.dup, 1) := by decide +kernel
theorem dX0_listFullMasks_67 : decode cX0_listFullMasks 67 = .ok (.getfield 89, 3) := by decide +kernel
theorem dX0_listFullMasks_70 : decode cX0_listFullMasks 70 = .ok (.iconst 1, 1) := by decide +kernel
theorem dX0_listFullMasks_71 : decode cX0_listFullMasks 71 = .ok (.iadd, 1) := by decide +kernel
theorem dX0_listFullMasks_72 : decode cX0_listFullMasks 72 = .ok (.putfield 89, 3) := by decide +kernel
theorem dX0_listFullMasks_75 : decode cX0_listFullMasks 75 = .ok (.iinc 1 1, 3) := by decide +kernel
theorem dX0_listFullMasks_78 : decode cX0_listFullMasks 78 = .ok (.goto (-71), 3) := by decide +kernel
theorem dX0_listFullMasks_81 : decode cX0_listFullMasks 81 = .ok (.return_, 1) := by decide +kernel
theorem dX0_fillAsking_0 : decode cX0_fillAsking 0 = .ok (.iconst 1, 1) := by decide +kernel
theorem dX0_fillAsking_1 : decode cX0_fillAsking 1 = .ok (.aload_n 0, 1) := by decide +kernel
theorem dX0_fillAsking_2 : decode cX0_fillAsking 2 = .ok (.getfield 9, 3) := by decide +kernel
theorem dX0_fillAsking_5 : decode cX0_fillAsking 5 = .ok (.aload_n 0, 1) := by decide +kernel
theorem dX0_fillAsking_6 : decode cX0_fillAsking 6 = .ok (.getfield 34, 3) := by decide +kernel
theorem dX0_fillAsking_9 : decode cX0_fillAsking 9 = .ok (.getfield 68, 3) := by decide +kernel
theorem dX0_fillAsking_12 : decode cX0_fillAsking 12 = .ok (.iload_n 1, 1) := by decide +kernel
theorem dX0_fillAsking_13 : decode cX0_fillAsking 13 = .ok (.iaload, 1) := by decide +kernel
theorem dX0_fillAsking_14 : decode cX0_fillAsking 14 = .ok (.iaload, 1) := by decide +kernel
theorem dX0_fillAsking_15 : decode cX0_fillAsking 15 = .ok (.ishl, 1) := by decide +kernel
theorem dX0_fillAsking_16 : decode cX0_fillAsking 16 = .ok (.istore_n 2, 1) := by decide +kernel
theorem dX0_fillAsking_17 : decode cX0_fillAsking 17 = .ok (.aload_n 0, 1) := by decide +kernel
theorem dX0_fillAsking_18 : decode cX0_fillAsking 18 = .ok (.getfield 34, 3) := by decide +kernel
theorem dX0_fillAsking_21 : decode cX0_fillAsking 21 = .ok (.iload_n 1, 1) := by decide +kernel
theorem dX0_fillAsking_22 : decode cX0_fillAsking 22 = .ok (.invokevirtual 71, 3) := by decide +kernel
theorem dX0_fillAsking_25 : decode cX0_fillAsking 25 = .ok (.istore_n 3, 1) := by decide +kernel
theorem dX0_fillAsking_26 : decode cX0_fillAsking 26 = .ok (.iconst 0, 1) := by decide +kernel
theorem dX0_fillAsking_27 : decode cX0_fillAsking 27 = .ok (.istore 4, 2) := by decide +kernel
theorem dX0_fillAsking_29 : decode cX0_fillAsking 29 = .ok (.iload 4, 2) := by decide +kernel
theorem dX0_fillAsking_31 : decode cX0_fillAsking 31 = .ok (.aload_n 0, 1) := by decide +kernel
theorem dX0_fillAsking_32 : decode cX0_fillAsking 32 = .ok (.getfield 89, 3) := by decide +kernel
theorem dX0_fillAsking_35 : decode cX0_fillAsking 35 = .ok (.if_icmp .ge 66, 3) := by decide +kernel
theorem dX0_fillAsking_38 : decode cX0_fillAsking 38 = .ok (.aload_n 0, 1) := by decide +kernel
theorem dX0_fillAsking_39 : decode cX0_fillAsking 39 = .ok (.getfield 18, 3) := by decide +kernel
theorem dX0_fillAsking_42 : decode cX0_fillAsking 42 = .ok (.iload 4, 2) := by decide +kernel
theorem dX0_fillAsking_44 : decode cX0_fillAsking 44 = .ok (.iaload, 1) := by decide +kernel
theorem dX0_fillAsking_45 : decode cX0_fillAsking 45 = .ok (.istore 5, 2) := by decide +kernel
theorem dX0_fillAsking_47 : decode cX0_fillAsking 47 = .ok (.iload 5, 2) := by decide +kernel
theorem dX0_fillAsking_49 : decode cX0_fillAsking 49 = .ok (.iload_n 2, 1) := by decide +kernel
theorem dX0_fillAsking_50 : decode cX0_fillAsking 50 = .ok (.iand, 1) := by decide +kernel
theorem dX0_fillAsking_51 : decode cX0_fillAsking 51 = .ok (.ifCond .ne 44, 3) := by decide +kernel
theorem dX0_fillAsking_54 : decode cX0_fillAsking 54 = .ok (.aload_n 0, 1) := by decide +kernel
theorem dX0_fillAsking_55 : decode cX0_fillAsking 55 = .ok (.iload 5, 2) := by decide +kernel
theorem dX0_fillAsking_57 : decode cX0_fillAsking 57 = .ok (.iload_n 2, 1) := by decide +kernel
theorem dX0_fillAsking_58 : decode cX0_fillAsking 58 = .ok (.invokevirtual 92, 3) := by decide +kernel
theorem dX0_fillAsking_61 : decode cX0_fillAsking 61 = .ok (.istore 6, 2) := by decide +kernel
theorem dX0_fillAsking_63 : decode cX0_fillAsking 63 = .ok (.aload_n 0, 1) := by decide +kernel
theorem dX0_fillAsking_64 : decode cX0_fillAsking 64 = .ok (.getfield 24, 3) := by decide +kernel
theorem dX0_fillAsking_67 : decode cX0_fillAsking 67 = .ok (.iload 5, 2) := by decide +kernel
theorem dX0_fillAsking_69 : decode cX0_fillAsking 69 = .ok (.iload_n 3, 1) := by decide +kernel
theorem dX0_fillAsking_70 : decode cX0_fillAsking 70 = .ok (.aload_n 0, 1) := by decide +kernel
theorem dX0_fillAsking_71 : decode cX0_fillAsking 71 = .ok (.getfield 24, 3) := by decide +kernel
theorem dX0_fillAsking_74 : decode cX0_fillAsking 74 = .ok (.iload 5, 2) := by decide +kernel
theorem dX0_fillAsking_76 : decode cX0_fillAsking 76 = .ok (.iconst 1, 1) := by decide +kernel
theorem dX0_fillAsking_77 : decode cX0_fillAsking 77 = .ok (.iload 6, 2) := by decide +kernel
theorem dX0_fillAsking_79 : decode cX0_fillAsking 79 = .ok (.ishl, 1) := by decide +kernel
theorem dX0_fillAsking_80 : decode cX0_fillAsking 80 = .ok (.ixor, 1) := by decide +kernel
theorem dX0_fillAsking_81 : decode cX0_fillAsking 81 = .ok (.iload_n 2, 1) := by decide +kernel
theorem dX0_fillAsking_82 : decode cX0_fillAsking 82 = .ok (.ior, 1) := by decide +kernel
theorem dX0_fillAsking_83 : decode cX0_fillAsking 83 = .ok (.iaload, 1) := by decide +kernel
theorem dX0_fillAsking_84 : decode cX0_fillAsking 84 = .ok (.iadd, 1) := by decide +kernel
theorem dX0_fillAsking_85 : decode cX0_fillAsking 85 = .ok (.iastore, 1) := by decide +kernel
theorem dX0_fillAsking_86 : decode cX0_fillAsking 86 = .ok (.aload_n 0, 1) := by decide +kernel
theorem dX0_fillAsking_87 : decode cX0_fillAsking 87 = .ok (.iload_n 1, 1) := by decide +kernel
theorem dX0_fillAsking_88 : decode cX0_fillAsking 88 = .ok (.iload 4, 2) := by decide +kernel
theorem dX0_fillAsking_90 : decode cX0_fillAsking 90 = .ok (.iload 6, 2) := by decide +kernel
theorem dX0_fillAsking_92 : decode cX0_fillAsking 92 = .ok (.invokevirtual 96, 3) := by decide +kernel
theorem dX0_fillAsking_95 : decode cX0_fillAsking 95 = .ok (.iinc 4 1, 3) := by decide +kernel
theorem dX0_fillAsking_98 : decode cX0_fillAsking 98 = .ok (.goto (-69), 3) := by decide +kernel
theorem dX0_fillAsking_101 : decode cX0_fillAsking 101 = .ok (.return_, 1) := by decide +kernel
theorem dX0_bestChoice_0 : decode cX0_bestChoice 0 = .ok (.iconst 0, 1) := by decide +kernel
theorem dX0_bestChoice_1 : decode cX0_bestChoice 1 = .ok (.istore_n 3, 1) := by decide +kernel
theorem dX0_bestChoice_2 : decode cX0_bestChoice 2 = .ok (.iconst 0, 1) := by decide +kernel
theorem dX0_bestChoice_3 : decode cX0_bestChoice 3 = .ok (.istore 4, 2) := by decide +kernel
theorem dX0_bestChoice_5 : decode cX0_bestChoice 5 = .ok (.iconst 0, 1) := by decide +kernel
theorem dX0_bestChoice_6 : decode cX0_bestChoice 6 = .ok (.istore 5, 2) := by decide +kernel
theorem dX0_bestChoice_8 : decode cX0_bestChoice 8 = .ok (.iconst 0, 1) := by decide +kernel
theorem dX0_bestChoice_9 : decode cX0_bestChoice 9 = .ok (.istore 6, 2) := by decide +kernel
theorem dX0_bestChoice_11 : decode cX0_bestChoice 11 = .ok (.iload 6, 2) := by decide +kernel
theorem dX0_bestChoice_13 : decode cX0_bestChoice 13 = .ok (.aload_n 0, 1) := by decide +kernel
theorem dX0_bestChoice_14 : decode cX0_bestChoice 14 = .ok (.getfield 86, 3) := by decide +kernel
theorem dX0_bestChoice_17 : decode cX0_bestChoice 17 = .ok (.if_icmp .ge 55, 3) := by decide +kernel
theorem dX0_bestChoice_20 : decode cX0_bestChoice 20 = .ok (.iload_n 1, 1) := by decide +kernel
theorem dX0_bestChoice_21 : decode cX0_bestChoice 21 = .ok (.iconst 1, 1) := by decide +kernel
theorem dX0_bestChoice_22 : decode cX0_bestChoice 22 = .ok (.iload 6, 2) := by decide +kernel
theorem dX0_bestChoice_24 : decode cX0_bestChoice 24 = .ok (.ishl, 1) := by decide +kernel
theorem dX0_bestChoice_25 : decode cX0_bestChoice 25 = .ok (.iand, 1) := by decide +kernel
theorem dX0_bestChoice_26 : decode cX0_bestChoice 26 = .ok (.ifCond .eq 40, 3) := by decide +kernel
theorem dX0_bestChoice_29 : decode cX0_bestChoice 29 = .ok (.aload_n 0, 1) := by decide +kernel
theorem dX0_bestChoice_30 : decode cX0_bestChoice 30 = .ok (.getfield 24, 3) := by decide +kernel
theorem dX0_bestChoice_33 : decode cX0_bestChoice 33 = .ok (.iload_n 1, 1) := by decide +kernel
theorem dX0_bestChoice_34 : decode cX0_bestChoice 34 = .ok (.iconst 1, 1) := by decide +kernel
theorem dX0_bestChoice_35 : decode cX0_bestChoice 35 = .ok (.iload 6, 2) := by decide +kernel
theorem dX0_bestChoice_37 : decode cX0_bestChoice 37 = .ok (.ishl, 1) := by decide +kernel
theorem dX0_bestChoice_38 : decode cX0_bestChoice 38 = .ok (.ixor, 1) := by decide +kernel
theorem dX0_bestChoice_39 : decode cX0_bestChoice 39 = .ok (.iload_n 2, 1) := by decide +kernel
theorem dX0_bestChoice_40 : decode cX0_bestChoice 40 = .ok (.ior, 1) := by decide +kernel
theorem dX0_bestChoice_41 : decode cX0_bestChoice 41 = .ok (.iaload, 1) := by decide +kernel
theorem dX0_bestChoice_42 : decode cX0_bestChoice 42 = .ok (.istore 7, 2) := by decide +kernel
theorem dX0_bestChoice_44 : decode cX0_bestChoice 44 = .ok (.iload 5, 2) := by decide +kernel
theorem dX0_bestChoice_46 : decode cX0_bestChoice 46 = .ok (.ifCond .eq 10, 3) := by decide +kernel
theorem dX0_bestChoice_49 : decode cX0_bestChoice 49 = .ok (.iload 7, 2) := by decide +kernel
theorem dX0_bestChoice_51 : decode cX0_bestChoice 51 = .ok (.iload 4, 2) := by decide +kernel
theorem dX0_bestChoice_53 : decode cX0_bestChoice 53 = .ok (.if_icmp .ge 13, 3) := by decide +kernel
theorem dX0_bestChoice_56 : decode cX0_bestChoice 56 = .ok (.iload 6, 2) := by decide +kernel
theorem dX0_bestChoice_58 : decode cX0_bestChoice 58 = .ok (.istore_n 3, 1) := by decide +kernel
theorem dX0_bestChoice_59 : decode cX0_bestChoice 59 = .ok (.iload 7, 2) := by decide +kernel
theorem dX0_bestChoice_61 : decode cX0_bestChoice 61 = .ok (.istore 4, 2) := by decide +kernel
theorem dX0_bestChoice_63 : decode cX0_bestChoice 63 = .ok (.iconst 1, 1) := by decide +kernel
theorem dX0_bestChoice_64 : decode cX0_bestChoice 64 = .ok (.istore 5, 2) := by decide +kernel
theorem dX0_bestChoice_66 : decode cX0_bestChoice 66 = .ok (.iinc 6 1, 3) := by decide +kernel
theorem dX0_bestChoice_69 : decode cX0_bestChoice 69 = .ok (.goto (-58), 3) := by decide +kernel
theorem dX0_bestChoice_72 : decode cX0_bestChoice 72 = .ok (.iload_n 3, 1) := by decide +kernel
theorem dX0_bestChoice_73 : decode cX0_bestChoice 73 = .ok (.ireturn, 1) := by decide +kernel
theorem dX0_followChoices_0 : decode cX0_followChoices 0 = .ok (.iload_n 1, 1) := by decide +kernel
theorem dX0_followChoices_1 : decode cX0_followChoices 1 = .ok (.istore_n 3, 1) := by decide +kernel
theorem dX0_followChoices_2 : decode cX0_followChoices 2 = .ok (.iload_n 2, 1) := by decide +kernel
theorem dX0_followChoices_3 : decode cX0_followChoices 3 = .ok (.istore 4, 2) := by decide +kernel
theorem dX0_followChoices_5 : decode cX0_followChoices 5 = .ok (.iload 4, 2) := by decide +kernel
theorem dX0_followChoices_7 : decode cX0_followChoices 7 = .ok (.aload_n 0, 1) := by decide +kernel
theorem dX0_followChoices_8 : decode cX0_followChoices 8 = .ok (.getfield 34, 3) := by decide +kernel
theorem dX0_followChoices_11 : decode cX0_followChoices 11 = .ok (.getfield 57, 3) := by decide +kernel
theorem dX0_followChoices_14 : decode cX0_followChoices 14 = .ok (.if_icmp .ge 73, 3) := by decide +kernel
theorem dX0_followChoices_17 : decode cX0_followChoices 17 = .ok (.iconst 1, 1) := by decide +kernel
theorem dX0_followChoices_18 : decode cX0_followChoices 18 = .ok (.aload_n 0, 1) := by decide +kernel
theorem dX0_followChoices_19 : decode cX0_followChoices 19 = .ok (.getfield 9, 3) := by decide +kernel
theorem dX0_followChoices_22 : decode cX0_followChoices 22 = .ok (.aload_n 0, 1) := by decide +kernel
theorem dX0_followChoices_23 : decode cX0_followChoices 23 = .ok (.getfield 34, 3) := by decide +kernel
theorem dX0_followChoices_26 : decode cX0_followChoices 26 = .ok (.getfield 68, 3) := by decide +kernel
theorem dX0_followChoices_29 : decode cX0_followChoices 29 = .ok (.iload 4, 2) := by decide +kernel
theorem dX0_followChoices_31 : decode cX0_followChoices 31 = .ok (.iaload, 1) := by decide +kernel
theorem dX0_followChoices_32 : decode cX0_followChoices 32 = .ok (.iaload, 1) := by decide +kernel
theorem dX0_followChoices_33 : decode cX0_followChoices 33 = .ok (.ishl, 1) := by decide +kernel
theorem dX0_followChoices_34 : decode cX0_followChoices 34 = .ok (.istore 5, 2) := by decide +kernel
theorem dX0_followChoices_36 : decode cX0_followChoices 36 = .ok (.iload_n 3, 1) := by decide +kernel
theorem dX0_followChoices_37 : decode cX0_followChoices 37 = .ok (.iload 5, 2) := by decide +kernel
theorem dX0_followChoices_39 : decode cX0_followChoices 39 = .ok (.iand, 1) := by decide +kernel
theorem dX0_followChoices_40 : decode cX0_followChoices 40 = .ok (.ifCond .ne 41, 3) := by decide +kernel
theorem dX0_followChoices_43 : decode cX0_followChoices 43 = .ok (.aload_n 0, 1) := by decide +kernel
theorem dX0_followChoices_44 : decode cX0_followChoices 44 = .ok (.iload 4, 2) := by decide +kernel
theorem dX0_followChoices_46 : decode cX0_followChoices 46 = .ok (.aload_n 0, 1) := by decide +kernel
theorem dX0_followChoices_47 : decode cX0_followChoices 47 = .ok (.getfield 21, 3) := by decide +kernel
theorem dX0_followChoices_50 : decode cX0_followChoices 50 = .ok (.iload_n 3, 1) := by decide +kernel
theorem dX0_followChoices_51 : decode cX0_followChoices 51 = .ok (.iaload, 1) := by decide +kernel
theorem dX0_followChoices_52 : decode cX0_followChoices 52 = .ok (.invokevirtual 100, 3) := by decide +kernel
theorem dX0_followChoices_55 : decode cX0_followChoices 55 = .ok (.istore 6, 2) := by decide +kernel
theorem dX0_followChoices_57 : decode cX0_followChoices 57 = .ok (.aload_n 0, 1) := by decide +kernel
theorem dX0_followChoices_58 : decode cX0_followChoices 58 = .ok (.getfield 31, 3) := by decide +kernel
theorem dX0_followChoices_61 : decode cX0_followChoices 61 = .ok (.iload 4, 2) := by decide +kernel
theorem dX0_followChoices_63 : decode cX0_followChoices 63 = .ok (.aload_n 0, 1) := by decide +kernel
theorem dX0_followChoices_64 : decode cX0_followChoices 64 = .ok (.getfield 15, 3) := by decide +kernel
theorem dX0_followChoices_67 : decode cX0_followChoices 67 = .ok (.iload 6, 2) := by decide +kernel
theorem dX0_followChoices_69 : decode cX0_followChoices 69 = .ok (.iaload, 1) := by decide +kernel
theorem dX0_followChoices_70 : decode cX0_followChoices 70 = .ok (.iastore, 1) := by decide +kernel
theorem dX0_followChoices_71 : decode cX0_followChoices 71 = .ok (.iload_n 3, 1) := by decide +kernel
theorem dX0_followChoices_72 : decode cX0_followChoices 72 = .ok (.iconst 1, 1) := by decide +kernel
theorem dX0_followChoices_73 : decode cX0_followChoices 73 = .ok (.iload 6, 2) := by decide +kernel
theorem dX0_followChoices_75 : decode cX0_followChoices 75 = .ok (.ishl, 1) := by decide +kernel
theorem dX0_followChoices_76 : decode cX0_followChoices 76 = .ok (.ixor, 1) := by decide +kernel
theorem dX0_followChoices_77 : decode cX0_followChoices 77 = .ok (.iload 5, 2) := by decide +kernel
theorem dX0_followChoices_79 : decode cX0_followChoices 79 = .ok (.ior, 1) := by decide +kernel
theorem dX0_followChoices_80 : decode cX0_followChoices 80 = .ok (.istore_n 3, 1) := by decide +kernel
theorem dX0_followChoices_81 : decode cX0_followChoices 81 = .ok (.iinc 4 1, 3) := by decide +kernel
theorem dX0_followChoices_84 : decode cX0_followChoices 84 = .ok (.goto (-79), 3) := by decide +kernel
theorem dX0_followChoices_87 : decode cX0_followChoices 87 = .ok (.return_, 1) := by decide +kernel
theorem dX0_keepChoice_0 : decode cX0_keepChoice 0 = .ok (.iload_n 1, 1) := by decide +kernel
theorem dX0_keepChoice_1 : decode cX0_keepChoice 1 = .ok (.bipush 16, 2) := by decide +kernel
theorem dX0_keepChoice_3 : decode cX0_keepChoice 3 = .ok (.imul, 1) := by decide +kernel
theorem dX0_keepChoice_4 : decode cX0_keepChoice 4 = .ok (.iload_n 2, 1) := by decide +kernel
theorem dX0_keepChoice_5 : decode cX0_keepChoice 5 = .ok (.iconst 4, 1) := by decide +kernel
theorem dX0_keepChoice_6 : decode cX0_keepChoice 6 = .ok (.ishr, 1) := by decide +kernel
theorem dX0_keepChoice_7 : decode cX0_keepChoice 7 = .ok (.iadd, 1) := by decide +kernel
theorem dX0_keepChoice_8 : decode cX0_keepChoice 8 = .ok (.istore 4, 2) := by decide +kernel
theorem dX0_keepChoice_10 : decode cX0_keepChoice 10 = .ok (.iload_n 2, 1) := by decide +kernel
theorem dX0_keepChoice_11 : decode cX0_keepChoice 11 = .ok (.bipush 15, 2) := by decide +kernel
theorem dX0_keepChoice_13 : decode cX0_keepChoice 13 = .ok (.iand, 1) := by decide +kernel
theorem dX0_keepChoice_14 : decode cX0_keepChoice 14 = .ok (.iconst 4, 1) := by decide +kernel
theorem dX0_keepChoice_15 : decode cX0_keepChoice 15 = .ok (.imul, 1) := by decide +kernel
theorem dX0_keepChoice_16 : decode cX0_keepChoice 16 = .ok (.istore 5, 2) := by decide +kernel
theorem dX0_keepChoice_18 : decode cX0_keepChoice 18 = .ok (.aload_n 0, 1) := by decide +kernel
theorem dX0_keepChoice_19 : decode cX0_keepChoice 19 = .ok (.getfield 27, 3) := by decide +kernel
theorem dX0_keepChoice_22 : decode cX0_keepChoice 22 = .ok (.iload 4, 2) := by decide +kernel
theorem dX0_keepChoice_24 : decode cX0_keepChoice 24 = .ok (.aload_n 0, 1) := by decide +kernel
theorem dX0_keepChoice_25 : decode cX0_keepChoice 25 = .ok (.getfield 27, 3) := by decide +kernel
theorem dX0_keepChoice_28 : decode cX0_keepChoice 28 = .ok (.iload 4, 2) := by decide +kernel
theorem dX0_keepChoice_30 : decode cX0_keepChoice 30 = .ok (.laload, 1) := by decide +kernel
theorem dX0_keepChoice_31 : decode cX0_keepChoice 31 = .ok (.ldc2_w 103, 3) := by decide +kernel
theorem dX0_keepChoice_34 : decode cX0_keepChoice 34 = .ok (.iload 5, 2) := by decide +kernel
theorem dX0_keepChoice_36 : decode cX0_keepChoice 36 = .ok (.lshl, 1) := by decide +kernel
theorem dX0_keepChoice_37 : decode cX0_keepChoice 37 = .ok (.ldc2_w 105, 3) := by decide +kernel
theorem dX0_keepChoice_40 : decode cX0_keepChoice 40 = .ok (.lxor, 1) := by decide +kernel
theorem dX0_keepChoice_41 : decode cX0_keepChoice 41 = .ok (.land, 1) := by decide +kernel
theorem dX0_keepChoice_42 : decode cX0_keepChoice 42 = .ok (.iload_n 3, 1) := by decide +kernel
theorem dX0_keepChoice_43 : decode cX0_keepChoice 43 = .ok (.i2l, 1) := by decide +kernel
theorem dX0_keepChoice_44 : decode cX0_keepChoice 44 = .ok (.iload 5, 2) := by decide +kernel
theorem dX0_keepChoice_46 : decode cX0_keepChoice 46 = .ok (.lshl, 1) := by decide +kernel
theorem dX0_keepChoice_47 : decode cX0_keepChoice 47 = .ok (.lor, 1) := by decide +kernel
theorem dX0_keepChoice_48 : decode cX0_keepChoice 48 = .ok (.lastore, 1) := by decide +kernel
theorem dX0_keepChoice_49 : decode cX0_keepChoice 49 = .ok (.return_, 1) := by decide +kernel
theorem dX0_keptChoice_0 : decode cX0_keptChoice 0 = .ok (.iload_n 1, 1) := by decide +kernel
theorem dX0_keptChoice_1 : decode cX0_keptChoice 1 = .ok (.bipush 16, 2) := by decide +kernel
theorem dX0_keptChoice_3 : decode cX0_keptChoice 3 = .ok (.imul, 1) := by decide +kernel
theorem dX0_keptChoice_4 : decode cX0_keptChoice 4 = .ok (.iload_n 2, 1) := by decide +kernel
theorem dX0_keptChoice_5 : decode cX0_keptChoice 5 = .ok (.iconst 4, 1) := by decide +kernel
theorem dX0_keptChoice_6 : decode cX0_keptChoice 6 = .ok (.ishr, 1) := by decide +kernel
theorem dX0_keptChoice_7 : decode cX0_keptChoice 7 = .ok (.iadd, 1) := by decide +kernel
theorem dX0_keptChoice_8 : decode cX0_keptChoice 8 = .ok (.istore_n 3, 1) := by decide +kernel
theorem dX0_keptChoice_9 : decode cX0_keptChoice 9 = .ok (.aload_n 0, 1) := by decide +kernel
theorem dX0_keptChoice_10 : decode cX0_keptChoice 10 = .ok (.getfield 27, 3) := by decide +kernel
theorem dX0_keptChoice_13 : decode cX0_keptChoice 13 = .ok (.iload_n 3, 1) := by decide +kernel
theorem dX0_keptChoice_14 : decode cX0_keptChoice 14 = .ok (.laload, 1) := by decide +kernel
theorem dX0_keptChoice_15 : decode cX0_keptChoice 15 = .ok (.iload_n 2, 1) := by decide +kernel
theorem dX0_keptChoice_16 : decode cX0_keptChoice 16 = .ok (.bipush 15, 2) := by decide +kernel
theorem dX0_keptChoice_18 : decode cX0_keptChoice 18 = .ok (.iand, 1) := by decide +kernel
theorem dX0_keptChoice_19 : decode cX0_keptChoice 19 = .ok (.iconst 4, 1) := by decide +kernel
theorem dX0_keptChoice_20 : decode cX0_keptChoice 20 = .ok (.imul, 1) := by decide +kernel
theorem dX0_keptChoice_21 : decode cX0_keptChoice 21 = .ok (.lshr, 1) := by decide +kernel
theorem dX0_keptChoice_22 : decode cX0_keptChoice 22 = .ok (.l2i, 1) := by decide +kernel
theorem dX0_keptChoice_23 : decode cX0_keptChoice 23 = .ok (.bipush 15, 2) := by decide +kernel
theorem dX0_keptChoice_25 : decode cX0_keptChoice 25 = .ok (.iand, 1) := by decide +kernel
theorem dX0_keptChoice_26 : decode cX0_keptChoice 26 = .ok (.ireturn, 1) := by decide +kernel
end
section
theorem dX1_init_0 : decode cX1_init 0 = .ok (.aload_n 0, 1) := by decide +kernel
theorem dX1_init_1 : decode cX1_init 1 = .ok (.invokespecial 3, 3) := by decide +kernel
theorem dX1_init_4 : decode cX1_init 4 = .ok (.aload_n 0, 1) := by decide +kernel
theorem dX1_init_5 : decode cX1_init 5 = .ok (.sipush 300, 3) := by decide +kernel
theorem dX1_init_8 : decode cX1_init 8 = .ok (.newarray .int, 2) := by decide +kernel
theorem dX1_init_10 : decode cX1_init 10 = .ok (.putfield 9, 3) := by decide +kernel
theorem dX1_init_13 : decode cX1_init 13 = .ok (.aload_n 0, 1) := by decide +kernel
theorem dX1_init_14 : decode cX1_init 14 = .ok (.bipush 16, 2) := by decide +kernel
theorem dX1_init_16 : decode cX1_init 16 = .ok (.newarray .int, 2) := by decide +kernel
theorem dX1_init_18 : decode cX1_init 18 = .ok (.putfield 15, 3) := by decide +kernel
theorem dX1_init_21 : decode cX1_init 21 = .ok (.aload_n 0, 1) := by decide +kernel
theorem dX1_init_22 : decode cX1_init 22 = .ok (.sipush 300, 3) := by decide +kernel
theorem dX1_init_25 : decode cX1_init 25 = .ok (.newarray .int, 2) := by decide +kernel
theorem dX1_init_27 : decode cX1_init 27 = .ok (.putfield 18, 3) := by decide +kernel
theorem dX1_init_30 : decode cX1_init 30 = .ok (.aload_n 0, 1) := by decide +kernel
theorem dX1_init_31 : decode cX1_init 31 = .ok (.bipush 16, 2) := by decide +kernel
theorem dX1_init_33 : decode cX1_init 33 = .ok (.newarray .int, 2) := by decide +kernel
theorem dX1_init_35 : decode cX1_init 35 = .ok (.putfield 21, 3) := by decide +kernel
theorem dX1_init_38 : decode cX1_init 38 = .ok (.aload_n 0, 1) := by decide +kernel
theorem dX1_init_39 : decode cX1_init 39 = .ok (.getfield 15, 3) := by decide +kernel
theorem dX1_init_42 : decode cX1_init 42 = .ok (.iconst 1, 1) := by decide +kernel
theorem dX1_init_43 : decode cX1_init 43 = .ok (.invokestatic 24, 3) := by decide +kernel
theorem dX1_init_46 : decode cX1_init 46 = .ok (.return_, 1) := by decide +kernel
theorem dX1_has_0 : decode cX1_has 0 = .ok (.iload_n 1, 1) := by decide +kernel
theorem dX1_has_1 : decode cX1_has 1 = .ok (.ifCond .lt 15, 3) := by decide +kernel
theorem dX1_has_4 : decode cX1_has 4 = .ok (.iload_n 1, 1) := by decide +kernel
theorem dX1_has_5 : decode cX1_has 5 = .ok (.aload_n 0, 1) := by decide +kernel
theorem dX1_has_6 : decode cX1_has 6 = .ok (.getfield 30, 3) := by decide +kernel
theorem dX1_has_9 : decode cX1_has 9 = .ok (.if_icmp .ge 7, 3) := by decide +kernel
theorem dX1_has_12 : decode cX1_has 12 = .ok (.iconst 1, 1) := by decide +kernel
theorem dX1_has_13 : decode cX1_has 13 = .ok (.goto 4, 3) := by decide +kernel
theorem dX1_has_16 : decode cX1_has 16 = .ok (.iconst 0, 1) := by decide +kernel
theorem dX1_has_17 : decode cX1_has 17 = .ok (.ireturn, 1) := by decide +kernel
theorem dX1_append_0 : decode cX1_append 0 = .ok (.aload_n 0, 1) := by decide +kernel
theorem dX1_append_1 : decode cX1_append 1 = .ok (.getfield 30, 3) := by decide +kernel
theorem dX1_append_4 : decode cX1_append 4 = .ok (.sipush 300, 3) := by decide +kernel
theorem dX1_append_7 : decode cX1_append 7 = .ok (.if_icmp .ge 23, 3) := by decide +kernel
theorem dX1_append_10 : decode cX1_append 10 = .ok (.aload_n 0, 1) := by decide +kernel
theorem dX1_append_11 : decode cX1_append 11 = .ok (.getfield 9, 3) := by decide +kernel
theorem dX1_append_14 : decode cX1_append 14 = .ok (.aload_n 0, 1) := by decide +kernel
theorem dX1_append_15 : decode cX1_append 15 = .ok (.getfield 30, 3) := by decide +kernel
theorem dX1_append_18 : decode cX1_append 18 = .ok (.iload_n 1, 1) := by decide +kernel
theorem dX1_append_19 : decode cX1_append 19 = .ok (.iastore, 1) := by decide +kernel
theorem dX1_append_20 : decode cX1_append 20 = .ok (.aload_n 0, 1) := by decide +kernel
theorem dX1_append_21 : decode cX1_append 21 = .ok (.dup, 1) := by decide +kernel
theorem dX1_append_22 : decode cX1_append 22 = .ok (.getfield 30, 3) := by decide +kernel
theorem dX1_append_25 : decode cX1_append 25 = .ok (.iconst 1, 1) := by decide +kernel
theorem dX1_append_26 : decode cX1_append 26 = .ok (.iadd, 1) := by decide +kernel
theorem dX1_append_27 : decode cX1_append 27 = .ok (.putfield 30, 3) := by decide +kernel
theorem dX1_append_30 : decode cX1_append 30 = .ok (.return_, 1) := by decide +kernel
theorem dX1_priceAt_0 : decode cX1_priceAt 0 = .ok (.aload_n 0, 1) := by decide +kernel
theorem dX1_priceAt_1 : decode cX1_priceAt 1 = .ok (.getfield 15, 3) := by decide +kernel
theorem dX1_priceAt_4 : decode cX1_priceAt 4 = .ok (.aload_n 0, 1) := by decide +kernel
theorem dX1_priceAt_5 : decode cX1_priceAt 5 = .ok (.getfield 9, 3) := by decide +kernel
theorem dX1_priceAt_8 : decode cX1_priceAt 8 = .ok (.iload_n 1, 1) := by decide +kernel
theorem dX1_priceAt_9 : decode cX1_priceAt 9 = .ok (.iaload, 1) := by decide +kernel
theorem dX1_priceAt_10 : decode cX1_priceAt 10 = .ok (.iaload, 1) := by decide +kernel
theorem dX1_priceAt_11 : decode cX1_priceAt 11 = .ok (.ireturn, 1) := by decide +kernel
theorem dX1_priceOfAll_0 : decode cX1_priceOfAll 0 = .ok (.iconst 0, 1) := by decide +kernel
theorem dX1_priceOfAll_1 : decode cX1_priceOfAll 1 = .ok (.istore_n 1, 1) := by decide +kernel
theorem dX1_priceOfAll_2 : decode cX1_priceOfAll 2 = .ok (.iconst 0, 1) := by decide +kernel
theorem dX1_priceOfAll_3 : decode cX1_priceOfAll 3 = .ok (.istore_n 2, 1) := by decide +kernel
theorem dX1_priceOfAll_4 : decode cX1_priceOfAll 4 = .ok (.iload_n 2, 1) := by decide +kernel
theorem dX1_priceOfAll_5 : decode cX1_priceOfAll 5 = .ok (.aload_n 0, 1) := by decide +kernel
theorem dX1_priceOfAll_6 : decode cX1_priceOfAll 6 = .ok (.getfield 30, 3) := by decide +kernel
theorem dX1_priceOfAll_9 : decode cX1_priceOfAll 9 = .ok (.if_icmp .ge 17, 3) := by decide +kernel
theorem dX1_priceOfAll_12 : decode cX1_priceOfAll 12 = .ok (.iload_n 1, 1) := by decide +kernel
theorem dX1_priceOfAll_13 : decode cX1_priceOfAll 13 = .ok (.aload_n 0, 1) := by decide +kernel
theorem dX1_priceOfAll_14 : decode cX1_priceOfAll 14 = .ok (.iload_n 2, 1) := by decide +kernel
theorem dX1_priceOfAll_15 : decode cX1_priceOfAll 15 = .ok (.invokevirtual 34, 3) := by decide +kernel
theorem dX1_priceOfAll_18 : decode cX1_priceOfAll 18 = .ok (.iadd, 1) := by decide +kernel
theorem dX1_priceOfAll_19 : decode cX1_priceOfAll 19 = .ok (.istore_n 1, 1) := by decide +kernel
theorem dX1_priceOfAll_20 : decode cX1_priceOfAll 20 = .ok (.iinc 2 1, 3) := by decide +kernel
theorem dX1_priceOfAll_23 : decode cX1_priceOfAll 23 = .ok (.goto (-19), 3) := by decide +kernel
theorem dX1_priceOfAll_26 : decode cX1_priceOfAll 26 = .ok (.iload_n 1, 1) := by decide +kernel
theorem dX1_priceOfAll_27 : decode cX1_priceOfAll 27 = .ok (.ireturn, 1) := by decide +kernel
theorem dX1_bits_0 : decode cX1_bits 0 = .ok (.iconst 0, 1) := by decide +kernel
theorem dX1_bits_1 : decode cX1_bits 1 = .ok (.istore_n 1, 1) := by decide +kernel
theorem dX1_bits_2 : decode cX1_bits 2 = .ok (.iconst 0, 1) := by decide +kernel
theorem dX1_bits_3 : decode cX1_bits 3 = .ok (.istore_n 2, 1) := by decide +kernel
theorem dX1_bits_4 : decode cX1_bits 4 = .ok (.iload_n 2, 1) := by decide +kernel
theorem dX1_bits_5 : decode cX1_bits 5 = .ok (.aload_n 0, 1) := by decide +kernel
theorem dX1_bits_6 : decode cX1_bits 6 = .ok (.getfield 30, 3) := by decide +kernel
theorem dX1_bits_9 : decode cX1_bits 9 = .ok (.if_icmp .ge 20, 3) := by decide +kernel
theorem dX1_bits_12 : decode cX1_bits 12 = .ok (.iload_n 1, 1) := by decide +kernel
theorem dX1_bits_13 : decode cX1_bits 13 = .ok (.iconst 1, 1) := by decide +kernel
theorem dX1_bits_14 : decode cX1_bits 14 = .ok (.aload_n 0, 1) := by decide +kernel
theorem dX1_bits_15 : decode cX1_bits 15 = .ok (.getfield 9, 3) := by decide +kernel
theorem dX1_bits_18 : decode cX1_bits 18 = .ok (.iload_n 2, 1) := by decide +kernel
theorem dX1_bits_19 : decode cX1_bits 19 = .ok (.iaload, 1) := by decide +kernel
theorem dX1_bits_20 : decode cX1_bits 20 = .ok (.ishl, 1) := by decide +kernel
theorem dX1_bits_21 : decode cX1_bits 21 = .ok (.ior, 1) := by decide +kernel
theorem dX1_bits_22 : decode cX1_bits 22 = .ok (.istore_n 1, 1) := by decide +kernel
theorem dX1_bits_23 : decode cX1_bits 23 = .ok (.iinc 2 1, 3) := by decide +kernel
theorem dX1_bits_26 : decode cX1_bits 26 = .ok (.goto (-22), 3) := by decide +kernel
theorem dX1_bits_29 : decode cX1_bits 29 = .ok (.iload_n 1, 1) := by decide +kernel
theorem dX1_bits_30 : decode cX1_bits 30 = .ok (.ireturn, 1) := by decide +kernel
theorem dX1_unlike_0 : decode cX1_unlike 0 = .ok (.aload_n 0, 1) := by decide +kernel
theorem dX1_unlike_1 : decode cX1_unlike 1 = .ok (.invokevirtual 38, 3) := by decide +kernel
theorem dX1_unlike_4 : decode cX1_unlike 4 = .ok (.invokestatic 42, 3) := by decide +kernel
theorem dX1_unlike_7 : decode cX1_unlike 7 = .ok (.ireturn, 1) := by decide +kernel
theorem dX1_phaseAt_0 : decode cX1_phaseAt 0 = .ok (.iconst 0, 1) := by decide +kernel
theorem dX1_phaseAt_1 : decode cX1_phaseAt 1 = .ok (.istore_n 3, 1) := by decide +kernel
theorem dX1_phaseAt_2 : decode cX1_phaseAt 2 = .ok (.iconst 0, 1) := by decide +kernel
theorem dX1_phaseAt_3 : decode cX1_phaseAt 3 = .ok (.istore 4, 2) := by decide +kernel
theorem dX1_phaseAt_5 : decode cX1_phaseAt 5 = .ok (.iconst 0, 1) := by decide +kernel
theorem dX1_phaseAt_6 : decode cX1_phaseAt 6 = .ok (.istore 5, 2) := by decide +kernel
theorem dX1_phaseAt_8 : decode cX1_phaseAt 8 = .ok (.iload 5, 2) := by decide +kernel
theorem dX1_phaseAt_10 : decode cX1_phaseAt 10 = .ok (.iload_n 2, 1) := by decide +kernel
theorem dX1_phaseAt_11 : decode cX1_phaseAt 11 = .ok (.if_icmp .gt 45, 3) := by decide +kernel
theorem dX1_phaseAt_14 : decode cX1_phaseAt 14 = .ok (.iconst 1, 1) := by decide +kernel
theorem dX1_phaseAt_15 : decode cX1_phaseAt 15 = .ok (.aload_n 0, 1) := by decide +kernel
theorem dX1_phaseAt_16 : decode cX1_phaseAt 16 = .ok (.getfield 9, 3) := by decide +kernel
theorem dX1_phaseAt_19 : decode cX1_phaseAt 19 = .ok (.iload 5, 2) := by decide +kernel
theorem dX1_phaseAt_21 : decode cX1_phaseAt 21 = .ok (.iaload, 1) := by decide +kernel
theorem dX1_phaseAt_22 : decode cX1_phaseAt 22 = .ok (.ishl, 1) := by decide +kernel
theorem dX1_phaseAt_23 : decode cX1_phaseAt 23 = .ok (.istore 6, 2) := by decide +kernel
theorem dX1_phaseAt_25 : decode cX1_phaseAt 25 = .ok (.iload 4, 2) := by decide +kernel
theorem dX1_phaseAt_27 : decode cX1_phaseAt 27 = .ok (.iload 6, 2) := by decide +kernel
theorem dX1_phaseAt_29 : decode cX1_phaseAt 29 = .ok (.ior, 1) := by decide +kernel
theorem dX1_phaseAt_30 : decode cX1_phaseAt 30 = .ok (.invokestatic 42, 3) := by decide +kernel
theorem dX1_phaseAt_33 : decode cX1_phaseAt 33 = .ok (.iload_n 1, 1) := by decide +kernel
theorem dX1_phaseAt_34 : decode cX1_phaseAt 34 = .ok (.if_icmp .le 9, 3) := by decide +kernel
theorem dX1_phaseAt_37 : decode cX1_phaseAt 37 = .ok (.iinc 3 1, 3) := by decide +kernel
theorem dX1_phaseAt_40 : decode cX1_phaseAt 40 = .ok (.iconst 0, 1) := by decide +kernel
theorem dX1_phaseAt_41 : decode cX1_phaseAt 41 = .ok (.istore 4, 2) := by decide +kernel
theorem dX1_phaseAt_43 : decode cX1_phaseAt 43 = .ok (.iload 4, 2) := by decide +kernel
theorem dX1_phaseAt_45 : decode cX1_phaseAt 45 = .ok (.iload 6, 2) := by decide +kernel
theorem dX1_phaseAt_47 : decode cX1_phaseAt 47 = .ok (.ior, 1) := by decide +kernel
theorem dX1_phaseAt_48 : decode cX1_phaseAt 48 = .ok (.istore 4, 2) := by decide +kernel
theorem dX1_phaseAt_50 : decode cX1_phaseAt 50 = .ok (.iinc 5 1, 3) := by decide +kernel
theorem dX1_phaseAt_53 : decode cX1_phaseAt 53 = .ok (.goto (-45), 3) := by decide +kernel
theorem dX1_phaseAt_56 : decode cX1_phaseAt 56 = .ok (.iload_n 3, 1) := by decide +kernel
theorem dX1_phaseAt_57 : decode cX1_phaseAt 57 = .ok (.ireturn, 1) := by decide +kernel
theorem dX1_distanceAt_0 : decode cX1_distanceAt 0 = .ok (.iconst 1, 1) := by decide +kernel
theorem dX1_distanceAt_1 : decode cX1_distanceAt 1 = .ok (.aload_n 0, 1) := by decide +kernel
theorem dX1_distanceAt_2 : decode cX1_distanceAt 2 = .ok (.getfield 9, 3) := by decide +kernel
theorem dX1_distanceAt_5 : decode cX1_distanceAt 5 = .ok (.iload_n 1, 1) := by decide +kernel
theorem dX1_distanceAt_6 : decode cX1_distanceAt 6 = .ok (.iaload, 1) := by decide +kernel
theorem dX1_distanceAt_7 : decode cX1_distanceAt 7 = .ok (.ishl, 1) := by decide +kernel
theorem dX1_distanceAt_8 : decode cX1_distanceAt 8 = .ok (.istore_n 2, 1) := by decide +kernel
theorem dX1_distanceAt_9 : decode cX1_distanceAt 9 = .ok (.iload_n 1, 1) := by decide +kernel
theorem dX1_distanceAt_10 : decode cX1_distanceAt 10 = .ok (.iconst 1, 1) := by decide +kernel
theorem dX1_distanceAt_11 : decode cX1_distanceAt 11 = .ok (.isub, 1) := by decide +kernel
theorem dX1_distanceAt_12 : decode cX1_distanceAt 12 = .ok (.istore_n 3, 1) := by decide +kernel
theorem dX1_distanceAt_13 : decode cX1_distanceAt 13 = .ok (.iload_n 3, 1) := by decide +kernel
theorem dX1_distanceAt_14 : decode cX1_distanceAt 14 = .ok (.ifCond .lt 40, 3) := by decide +kernel
theorem dX1_distanceAt_17 : decode cX1_distanceAt 17 = .ok (.aload_n 0, 1) := by decide +kernel
theorem dX1_distanceAt_18 : decode cX1_distanceAt 18 = .ok (.getfield 9, 3) := by decide +kernel
theorem dX1_distanceAt_21 : decode cX1_distanceAt 21 = .ok (.iload_n 3, 1) := by decide +kernel
theorem dX1_distanceAt_22 : decode cX1_distanceAt 22 = .ok (.iaload, 1) := by decide +kernel
theorem dX1_distanceAt_23 : decode cX1_distanceAt 23 = .ok (.aload_n 0, 1) := by decide +kernel
theorem dX1_distanceAt_24 : decode cX1_distanceAt 24 = .ok (.getfield 9, 3) := by decide +kernel
theorem dX1_distanceAt_27 : decode cX1_distanceAt 27 = .ok (.iload_n 1, 1) := by decide +kernel
theorem dX1_distanceAt_28 : decode cX1_distanceAt 28 = .ok (.iaload, 1) := by decide +kernel
theorem dX1_distanceAt_29 : decode cX1_distanceAt 29 = .ok (.if_icmp .ne 8, 3) := by decide +kernel
theorem dX1_distanceAt_32 : decode cX1_distanceAt 32 = .ok (.iload_n 2, 1) := by decide +kernel
theorem dX1_distanceAt_33 : decode cX1_distanceAt 33 = .ok (.invokestatic 42, 3) := by decide +kernel
theorem dX1_distanceAt_36 : decode cX1_distanceAt 36 = .ok (.ireturn, 1) := by decide +kernel
theorem dX1_distanceAt_37 : decode cX1_distanceAt 37 = .ok (.iload_n 2, 1) := by decide +kernel
theorem dX1_distanceAt_38 : decode cX1_distanceAt 38 = .ok (.iconst 1, 1) := by decide +kernel
theorem dX1_distanceAt_39 : decode cX1_distanceAt 39 = .ok (.aload_n 0, 1) := by decide +kernel
theorem dX1_distanceAt_40 : decode cX1_distanceAt 40 = .ok (.getfield 9, 3) := by decide +kernel
theorem dX1_distanceAt_43 : decode cX1_distanceAt 43 = .ok (.iload_n 3, 1) := by decide +kernel
theorem dX1_distanceAt_44 : decode cX1_distanceAt 44 = .ok (.iaload, 1) := by decide +kernel
theorem dX1_distanceAt_45 : decode cX1_distanceAt 45 = .ok (.ishl, 1) := by decide +kernel
theorem dX1_distanceAt_46 : decode cX1_distanceAt 46 = .ok (.ior, 1) := by decide +kernel
theorem dX1_distanceAt_47 : decode cX1_distanceAt 47 = .ok (.istore_n 2, 1) := by decide +kernel
theorem dX1_distanceAt_48 : decode cX1_distanceAt 48 = .ok (.iinc 3 (-1), 3) := by decide +kernel
theorem dX1_distanceAt_51 : decode cX1_distanceAt 51 = .ok (.goto (-38), 3) := by decide +kernel
theorem dX1_distanceAt_54 : decode cX1_distanceAt 54 = .ok (.iconst 0, 1) := by decide +kernel
theorem dX1_distanceAt_55 : decode cX1_distanceAt 55 = .ok (.ireturn, 1) := by decide +kernel
theorem dX1_findNext_0 : decode cX1_findNext 0 = .ok (.aload_n 0, 1) := by decide +kernel
theorem dX1_findNext_1 : decode cX1_findNext 1 = .ok (.getfield 21, 3) := by decide +kernel
theorem dX1_findNext_4 : decode cX1_findNext 4 = .ok (.sipush 300, 3) := by decide +kernel
theorem dX1_findNext_7 : decode cX1_findNext 7 = .ok (.invokestatic 24, 3) := by decide +kernel
theorem dX1_findNext_10 : decode cX1_findNext 10 = .ok (.aload_n 0, 1) := by decide +kernel
theorem dX1_findNext_11 : decode cX1_findNext 11 = .ok (.getfield 30, 3) := by decide +kernel
theorem dX1_findNext_14 : decode cX1_findNext 14 = .ok (.iconst 1, 1) := by decide +kernel
theorem dX1_findNext_15 : decode cX1_findNext 15 = .ok (.isub, 1) := by decide +kernel
theorem dX1_findNext_16 : decode cX1_findNext 16 = .ok (.istore_n 1, 1) := by decide +kernel
theorem dX1_findNext_17 : decode cX1_findNext 17 = .ok (.iload_n 1, 1) := by decide +kernel
theorem dX1_findNext_18 : decode cX1_findNext 18 = .ok (.ifCond .lt 38, 3) := by decide +kernel
theorem dX1_findNext_21 : decode cX1_findNext 21 = .ok (.aload_n 0, 1) := by decide +kernel
theorem dX1_findNext_22 : decode cX1_findNext 22 = .ok (.getfield 18, 3) := by decide +kernel
theorem dX1_findNext_25 : decode cX1_findNext 25 = .ok (.iload_n 1, 1) := by decide +kernel
theorem dX1_findNext_26 : decode cX1_findNext 26 = .ok (.aload_n 0, 1) := by decide +kernel
theorem dX1_findNext_27 : decode cX1_findNext 27 = .ok (.getfield 21, 3) := by decide +kernel
theorem dX1_findNext_30 : decode cX1_findNext 30 = .ok (.aload_n 0, 1) := by decide +kernel
theorem dX1_findNext_31 : decode cX1_findNext 31 = .ok (.getfield 9, 3) := by decide +kernel
theorem dX1_findNext_34 : decode cX1_findNext 34 = .ok (.iload_n 1, 1) := by decide +kernel
theorem dX1_findNext_35 : decode cX1_findNext 35 = .ok (.iaload, 1) := by decide +kernel
theorem dX1_findNext_36 : decode cX1_findNext 36 = .ok (.iaload, 1) := by decide +kernel
theorem dX1_findNext_37 : decode cX1_findNext 37 = .ok (.iastore, 1) := by decide +kernel
theorem dX1_findNext_38 : decode cX1_findNext 38 = .ok (.aload_n 0, 1) := by decide +kernel
theorem dX1_findNext_39 : decode cX1_findNext 39 = .ok (.getfield 21, 3) := by decide +kernel
theorem dX1_findNext_42 : decode cX1_findNext 42 = .ok (.aload_n 0, 1) := by decide +kernel
theorem dX1_findNext_43 : decode cX1_findNext 43 = .ok (.getfield 9, 3) := by decide +kernel
theorem dX1_findNext_46 : decode cX1_findNext 46 = .ok (.iload_n 1, 1) := by decide +kernel
theorem dX1_findNext_47 : decode cX1_findNext 47 = .ok (.iaload, 1) := by decide +kernel
theorem dX1_findNext_48 : decode cX1_findNext 48 = .ok (.iload_n 1, 1) := by decide +kernel
theorem dX1_findNext_49 : decode cX1_findNext 49 = .ok (.iastore, 1) := by decide +kernel
theorem dX1_findNext_50 : decode cX1_findNext 50 = .ok (.iinc 1 (-1), 3) := by decide +kernel
theorem dX1_findNext_53 : decode cX1_findNext 53 = .ok (.goto (-36), 3) := by decide +kernel
theorem dX1_findNext_56 : decode cX1_findNext 56 = .ok (.return_, 1) := by decide +kernel
end
section
theorem dX2_init_0 : decode cX2_init 0 = .ok (.aload_n 0, 1) := by decide +kernel
theorem dX2_init_1 : decode cX2_init 1 = .ok (.invokespecial 3, 3) := by decide +kernel
theorem dX2_init_4 : decode cX2_init 4 = .ok (.aload_n 0, 1) := by decide +kernel
theorem dX2_init_5 : decode cX2_init 5 = .ok (.bipush 16, 2) := by decide +kernel
theorem dX2_init_7 : decode cX2_init 7 = .ok (.newarray .int, 2) := by decide +kernel
theorem dX2_init_9 : decode cX2_init 9 = .ok (.putfield 9, 3) := by decide +kernel
theorem dX2_init_12 : decode cX2_init 12 = .ok (.aload_n 0, 1) := by decide +kernel
theorem dX2_init_13 : decode cX2_init 13 = .ok (.iconst 5, 1) := by decide +kernel
theorem dX2_init_14 : decode cX2_init 14 = .ok (.newarray .int, 2) := by decide +kernel
theorem dX2_init_16 : decode cX2_init 16 = .ok (.putfield 15, 3) := by decide +kernel
theorem dX2_init_19 : decode cX2_init 19 = .ok (.aload_n 0, 1) := by decide +kernel
theorem dX2_init_20 : decode cX2_init 20 = .ok (.bipush 16, 2) := by decide +kernel
theorem dX2_init_22 : decode cX2_init 22 = .ok (.newarray .int, 2) := by decide +kernel
theorem dX2_init_24 : decode cX2_init 24 = .ok (.putfield 18, 3) := by decide +kernel
theorem dX2_init_27 : decode cX2_init 27 = .ok (.aload_n 0, 1) := by decide +kernel
theorem dX2_init_28 : decode cX2_init 28 = .ok (.bipush 16, 2) := by decide +kernel
theorem dX2_init_30 : decode cX2_init 30 = .ok (.newarray .int, 2) := by decide +kernel
theorem dX2_init_32 : decode cX2_init 32 = .ok (.putfield 21, 3) := by decide +kernel
theorem dX2_init_35 : decode cX2_init 35 = .ok (.aload_n 0, 1) := by decide +kernel
theorem dX2_init_36 : decode cX2_init 36 = .ok (.bipush 16, 2) := by decide +kernel
theorem dX2_init_38 : decode cX2_init 38 = .ok (.newarray .int, 2) := by decide +kernel
theorem dX2_init_40 : decode cX2_init 40 = .ok (.putfield 24, 3) := by decide +kernel
theorem dX2_init_43 : decode cX2_init 43 = .ok (.aload_n 0, 1) := by decide +kernel
theorem dX2_init_44 : decode cX2_init 44 = .ok (.bipush 16, 2) := by decide +kernel
theorem dX2_init_46 : decode cX2_init 46 = .ok (.newarray .int, 2) := by decide +kernel
theorem dX2_init_48 : decode cX2_init 48 = .ok (.putfield 27, 3) := by decide +kernel
theorem dX2_init_51 : decode cX2_init 51 = .ok (.aload_n 0, 1) := by decide +kernel
theorem dX2_init_52 : decode cX2_init 52 = .ok (.bipush 16, 2) := by decide +kernel
theorem dX2_init_54 : decode cX2_init 54 = .ok (.newarray .int, 2) := by decide +kernel
theorem dX2_init_56 : decode cX2_init 56 = .ok (.putfield 30, 3) := by decide +kernel
theorem dX2_init_59 : decode cX2_init 59 = .ok (.aload_n 0, 1) := by decide +kernel
theorem dX2_init_60 : decode cX2_init 60 = .ok (.bipush 8, 2) := by decide +kernel
theorem dX2_init_62 : decode cX2_init 62 = .ok (.newarray .int, 2) := by decide +kernel
theorem dX2_init_64 : decode cX2_init 64 = .ok (.putfield 33, 3) := by decide +kernel
theorem dX2_init_67 : decode cX2_init 67 = .ok (.aload_n 0, 1) := by decide +kernel
theorem dX2_init_68 : decode cX2_init 68 = .ok (.aload_n 1, 1) := by decide +kernel
theorem dX2_init_69 : decode cX2_init 69 = .ok (.putfield 36, 3) := by decide +kernel
theorem dX2_init_72 : decode cX2_init 72 = .ok (.aload_n 0, 1) := by decide +kernel
theorem dX2_init_73 : decode cX2_init 73 = .ok (.iconst 1, 1) := by decide +kernel
theorem dX2_init_74 : decode cX2_init 74 = .ok (.putfield 40, 3) := by decide +kernel
theorem dX2_init_77 : decode cX2_init 77 = .ok (.return_, 1) := by decide +kernel
theorem dX2_begin_0 : decode cX2_begin 0 = .ok (.aload_n 0, 1) := by decide +kernel
theorem dX2_begin_1 : decode cX2_begin 1 = .ok (.iload_n 1, 1) := by decide +kernel
theorem dX2_begin_2 : decode cX2_begin 2 = .ok (.putfield 44, 3) := by decide +kernel
theorem dX2_begin_5 : decode cX2_begin 5 = .ok (.aload_n 0, 1) := by decide +kernel
theorem dX2_begin_6 : decode cX2_begin 6 = .ok (.iload_n 2, 1) := by decide +kernel
theorem dX2_begin_7 : decode cX2_begin 7 = .ok (.putfield 40, 3) := by decide +kernel
theorem dX2_begin_10 : decode cX2_begin 10 = .ok (.aload_n 0, 1) := by decide +kernel
theorem dX2_begin_11 : decode cX2_begin 11 = .ok (.getfield 9, 3) := by decide +kernel
theorem dX2_begin_14 : decode cX2_begin 14 = .ok (.iconst 0, 1) := by decide +kernel
theorem dX2_begin_15 : decode cX2_begin 15 = .ok (.invokestatic 47, 3) := by decide +kernel
theorem dX2_begin_18 : decode cX2_begin 18 = .ok (.aload_n 0, 1) := by decide +kernel
theorem dX2_begin_19 : decode cX2_begin 19 = .ok (.getfield 15, 3) := by decide +kernel
theorem dX2_begin_22 : decode cX2_begin 22 = .ok (.iconst 0, 1) := by decide +kernel
theorem dX2_begin_23 : decode cX2_begin 23 = .ok (.invokestatic 47, 3) := by decide +kernel
theorem dX2_begin_26 : decode cX2_begin 26 = .ok (.aload_n 0, 1) := by decide +kernel
theorem dX2_begin_27 : decode cX2_begin 27 = .ok (.iconst 0, 1) := by decide +kernel
theorem dX2_begin_28 : decode cX2_begin 28 = .ok (.putfield 53, 3) := by decide +kernel
theorem dX2_begin_31 : decode cX2_begin 31 = .ok (.aload_n 0, 1) := by decide +kernel
theorem dX2_begin_32 : decode cX2_begin 32 = .ok (.iconst 0, 1) := by decide +kernel
theorem dX2_begin_33 : decode cX2_begin 33 = .ok (.putfield 56, 3) := by decide +kernel
theorem dX2_begin_36 : decode cX2_begin 36 = .ok (.aload_n 0, 1) := by decide +kernel
theorem dX2_begin_37 : decode cX2_begin 37 = .ok (.iconst 0, 1) := by decide +kernel
theorem dX2_begin_38 : decode cX2_begin 38 = .ok (.putfield 59, 3) := by decide +kernel
theorem dX2_begin_41 : decode cX2_begin 41 = .ok (.aload_n 0, 1) := by decide +kernel
theorem dX2_begin_42 : decode cX2_begin 42 = .ok (.iconst 0, 1) := by decide +kernel
theorem dX2_begin_43 : decode cX2_begin 43 = .ok (.putfield 62, 3) := by decide +kernel
theorem dX2_begin_46 : decode cX2_begin 46 = .ok (.aload_n 0, 1) := by decide +kernel
theorem dX2_begin_47 : decode cX2_begin 47 = .ok (.iconst 0, 1) := by decide +kernel
theorem dX2_begin_48 : decode cX2_begin 48 = .ok (.putfield 65, 3) := by decide +kernel
theorem dX2_begin_51 : decode cX2_begin 51 = .ok (.aload_n 0, 1) := by decide +kernel
theorem dX2_begin_52 : decode cX2_begin 52 = .ok (.iconst 0, 1) := by decide +kernel
theorem dX2_begin_53 : decode cX2_begin 53 = .ok (.putfield 68, 3) := by decide +kernel
theorem dX2_begin_56 : decode cX2_begin 56 = .ok (.aload_n 0, 1) := by decide +kernel
theorem dX2_begin_57 : decode cX2_begin 57 = .ok (.getfield 44, 3) := by decide +kernel
theorem dX2_begin_60 : decode cX2_begin 60 = .ok (.bipush 8, 2) := by decide +kernel
theorem dX2_begin_62 : decode cX2_begin 62 = .ok (.if_icmp .ne 10, 3) := by decide +kernel
theorem dX2_begin_65 : decode cX2_begin 65 = .ok (.aload_n 0, 1) := by decide +kernel
theorem dX2_begin_66 : decode cX2_begin 66 = .ok (.getfield 36, 3) := by decide +kernel
theorem dX2_begin_69 : decode cX2_begin 69 = .ok (.invokevirtual 71, 3) := by decide +kernel
theorem dX2_begin_72 : decode cX2_begin 72 = .ok (.return_, 1) := by decide +kernel
theorem dX2_missesBy_0 : decode cX2_missesBy 0 = .ok (.aload_n 0, 1) := by decide +kernel
theorem dX2_missesBy_1 : decode cX2_missesBy 1 = .ok (.iload_n 1, 1) := by decide +kernel
theorem dX2_missesBy_2 : decode cX2_missesBy 2 = .ok (.iload_n 2, 1) := by decide +kernel
theorem dX2_missesBy_3 : decode cX2_missesBy 3 = .ok (.invokevirtual 76, 3) := by decide +kernel
theorem dX2_missesBy_6 : decode cX2_missesBy 6 = .ok (.iconst 0, 1) := by decide +kernel
theorem dX2_missesBy_7 : decode cX2_missesBy 7 = .ok (.istore_n 3, 1) := by decide +kernel
theorem dX2_missesBy_8 : decode cX2_missesBy 8 = .ok (.iconst 0, 1) := by decide +kernel
theorem dX2_missesBy_9 : decode cX2_missesBy 9 = .ok (.istore 4, 2) := by decide +kernel
theorem dX2_missesBy_11 : decode cX2_missesBy 11 = .ok (.iload 4, 2) := by decide +kernel
theorem dX2_missesBy_13 : decode cX2_missesBy 13 = .ok (.aload_n 0, 1) := by decide +kernel
theorem dX2_missesBy_14 : decode cX2_missesBy 14 = .ok (.getfield 36, 3) := by decide +kernel
theorem dX2_missesBy_17 : decode cX2_missesBy 17 = .ok (.getfield 80, 3) := by decide +kernel
theorem dX2_missesBy_20 : decode cX2_missesBy 20 = .ok (.if_icmp .ge 24, 3) := by decide +kernel
theorem dX2_missesBy_23 : decode cX2_missesBy 23 = .ok (.aload_n 0, 1) := by decide +kernel
theorem dX2_missesBy_24 : decode cX2_missesBy 24 = .ok (.invokevirtual 83, 3) := by decide +kernel
theorem dX2_missesBy_27 : decode cX2_missesBy 27 = .ok (.pop, 1) := by decide +kernel
theorem dX2_missesBy_28 : decode cX2_missesBy 28 = .ok (.aload_n 0, 1) := by decide +kernel
theorem dX2_missesBy_29 : decode cX2_missesBy 29 = .ok (.getfield 87, 3) := by decide +kernel
theorem dX2_missesBy_32 : decode cX2_missesBy 32 = .ok (.ifCond .ne 6, 3) := by decide +kernel
theorem dX2_missesBy_35 : decode cX2_missesBy 35 = .ok (.iinc 3 1, 3) := by decide +kernel
theorem dX2_missesBy_38 : decode cX2_missesBy 38 = .ok (.iinc 4 1, 3) := by decide +kernel
theorem dX2_missesBy_41 : decode cX2_missesBy 41 = .ok (.goto (-30), 3) := by decide +kernel
theorem dX2_missesBy_44 : decode cX2_missesBy 44 = .ok (.iload_n 3, 1) := by decide +kernel
theorem dX2_missesBy_45 : decode cX2_missesBy 45 = .ok (.ireturn, 1) := by decide +kernel
theorem dX2_standBehind_0 : decode cX2_standBehind 0 = .ok (.aload_n 0, 1) := by decide +kernel
theorem dX2_standBehind_1 : decode cX2_standBehind 1 = .ok (.getfield 53, 3) := by decide +kernel
theorem dX2_standBehind_4 : decode cX2_standBehind 4 = .ok (.iload_n 1, 1) := by decide +kernel
theorem dX2_standBehind_5 : decode cX2_standBehind 5 = .ok (.iconst 1, 1) := by decide +kernel
theorem dX2_standBehind_6 : decode cX2_standBehind 6 = .ok (.iadd, 1) := by decide +kernel
theorem dX2_standBehind_7 : decode cX2_standBehind 7 = .ok (.if_icmp .le 15, 3) := by decide +kernel
theorem dX2_standBehind_10 : decode cX2_standBehind 10 = .ok (.aload_n 0, 1) := by decide +kernel
theorem dX2_standBehind_11 : decode cX2_standBehind 11 = .ok (.aload_n 0, 1) := by decide +kernel
theorem dX2_standBehind_12 : decode cX2_standBehind 12 = .ok (.getfield 44, 3) := by decide +kernel
theorem dX2_standBehind_15 : decode cX2_standBehind 15 = .ok (.aload_n 0, 1) := by decide +kernel
theorem dX2_standBehind_16 : decode cX2_standBehind 16 = .ok (.getfield 40, 3) := by decide +kernel
theorem dX2_standBehind_19 : decode cX2_standBehind 19 = .ok (.invokevirtual 76, 3) := by decide +kernel
theorem dX2_standBehind_22 : decode cX2_standBehind 22 = .ok (.aload_n 0, 1) := by decide +kernel
theorem dX2_standBehind_23 : decode cX2_standBehind 23 = .ok (.getfield 53, 3) := by decide +kernel
theorem dX2_standBehind_26 : decode cX2_standBehind 26 = .ok (.istore_n 2, 1) := by decide +kernel
theorem dX2_standBehind_27 : decode cX2_standBehind 27 = .ok (.iload_n 2, 1) := by decide +kernel
theorem dX2_standBehind_28 : decode cX2_standBehind 28 = .ok (.iload_n 1, 1) := by decide +kernel
theorem dX2_standBehind_29 : decode cX2_standBehind 29 = .ok (.if_icmp .gt 14, 3) := by decide +kernel
theorem dX2_standBehind_32 : decode cX2_standBehind 32 = .ok (.aload_n 0, 1) := by decide +kernel
theorem dX2_standBehind_33 : decode cX2_standBehind 33 = .ok (.invokevirtual 83, 3) := by decide +kernel
theorem dX2_standBehind_36 : decode cX2_standBehind 36 = .ok (.pop, 1) := by decide +kernel
theorem dX2_standBehind_37 : decode cX2_standBehind 37 = .ok (.iinc 2 1, 3) := by decide +kernel
theorem dX2_standBehind_40 : decode cX2_standBehind 40 = .ok (.goto (-13), 3) := by decide +kernel
theorem dX2_standBehind_43 : decode cX2_standBehind 43 = .ok (.return_, 1) := by decide +kernel
theorem dX2_step_0 : decode cX2_step 0 = .ok (.aload_n 0, 1) := by decide +kernel
theorem dX2_step_1 : decode cX2_step 1 = .ok (.getfield 36, 3) := by decide +kernel
theorem dX2_step_4 : decode cX2_step 4 = .ok (.aload_n 0, 1) := by decide +kernel
theorem dX2_step_5 : decode cX2_step 5 = .ok (.getfield 53, 3) := by decide +kernel
theorem dX2_step_8 : decode cX2_step 8 = .ok (.invokevirtual 91, 3) := by decide +kernel
theorem dX2_step_11 : decode cX2_step 11 = .ok (.ifCond .ne 5, 3) := by decide +kernel
theorem dX2_step_14 : decode cX2_step 14 = .ok (.iconst (-1), 1) := by decide +kernel
theorem dX2_step_15 : decode cX2_step 15 = .ok (.ireturn, 1) := by decide +kernel
theorem dX2_step_16 : decode cX2_step 16 = .ok (.aload_n 0, 1) := by decide +kernel
theorem dX2_step_17 : decode cX2_step 17 = .ok (.getfield 36, 3) := by decide +kernel
theorem dX2_step_20 : decode cX2_step 20 = .ok (.getfield 95, 3) := by decide +kernel
theorem dX2_step_23 : decode cX2_step 23 = .ok (.aload_n 0, 1) := by decide +kernel
theorem dX2_step_24 : decode cX2_step 24 = .ok (.getfield 53, 3) := by decide +kernel
theorem dX2_step_27 : decode cX2_step 27 = .ok (.iaload, 1) := by decide +kernel
theorem dX2_step_28 : decode cX2_step 28 = .ok (.istore_n 1, 1) := by decide +kernel
theorem dX2_step_29 : decode cX2_step 29 = .ok (.iconst (-1), 1) := by decide +kernel
theorem dX2_step_30 : decode cX2_step 30 = .ok (.istore_n 2, 1) := by decide +kernel
theorem dX2_step_31 : decode cX2_step 31 = .ok (.aload_n 0, 1) := by decide +kernel
theorem dX2_step_32 : decode cX2_step 32 = .ok (.aload_n 0, 1) := by decide +kernel
theorem dX2_step_33 : decode cX2_step 33 = .ok (.iload_n 1, 1) := by decide +kernel
theorem dX2_step_34 : decode cX2_step 34 = .ok (.invokevirtual 98, 3) := by decide +kernel
theorem dX2_step_37 : decode cX2_step 37 = .ok (.putfield 87, 3) := by decide +kernel
theorem dX2_step_40 : decode cX2_step 40 = .ok (.aload_n 0, 1) := by decide +kernel
theorem dX2_step_41 : decode cX2_step 41 = .ok (.getfield 87, 3) := by decide +kernel
theorem dX2_step_44 : decode cX2_step 44 = .ok (.ifCond .eq 11, 3) := by decide +kernel
theorem dX2_step_47 : decode cX2_step 47 = .ok (.aload_n 0, 1) := by decide +kernel
theorem dX2_step_48 : decode cX2_step 48 = .ok (.iload_n 1, 1) := by decide +kernel
theorem dX2_step_49 : decode cX2_step 49 = .ok (.invokevirtual 101, 3) := by decide +kernel
theorem dX2_step_52 : decode cX2_step 52 = .ok (.goto 9, 3) := by decide +kernel
theorem dX2_step_55 : decode cX2_step 55 = .ok (.aload_n 0, 1) := by decide +kernel
theorem dX2_step_56 : decode cX2_step 56 = .ok (.iload_n 1, 1) := by decide +kernel
theorem dX2_step_57 : decode cX2_step 57 = .ok (.invokevirtual 105, 3) := by decide +kernel
theorem dX2_step_60 : decode cX2_step 60 = .ok (.istore_n 2, 1) := by decide +kernel
theorem dX2_step_61 : decode cX2_step 61 = .ok (.aload_n 0, 1) := by decide +kernel
theorem dX2_step_62 : decode cX2_step 62 = .ok (.getfield 27, 3) := by decide +kernel
theorem dX2_step_65 : decode cX2_step 65 = .ok (.iload_n 1, 1) := by decide +kernel
theorem dX2_step_66 : decode cX2_step 66 = .ok (.aload_n 0, 1) := by decide +kernel
theorem dX2_step_67 : decode cX2_step 67 = .ok (.getfield 68, 3) := by decide +kernel
theorem dX2_step_70 : decode cX2_step 70 = .ok (.aload_n 0, 1) := by decide +kernel
theorem dX2_step_71 : decode cX2_step 71 = .ok (.getfield 36, 3) := by decide +kernel
theorem dX2_step_74 : decode cX2_step 74 = .ok (.getfield 109, 3) := by decide +kernel
theorem dX2_step_77 : decode cX2_step 77 = .ok (.iload_n 1, 1) := by decide +kernel
theorem dX2_step_78 : decode cX2_step 78 = .ok (.iaload, 1) := by decide +kernel
theorem dX2_step_79 : decode cX2_step 79 = .ok (.iadd, 1) := by decide +kernel
theorem dX2_step_80 : decode cX2_step 80 = .ok (.iastore, 1) := by decide +kernel
theorem dX2_step_81 : decode cX2_step 81 = .ok (.aload_n 0, 1) := by decide +kernel
theorem dX2_step_82 : decode cX2_step 82 = .ok (.getfield 21, 3) := by decide +kernel
theorem dX2_step_85 : decode cX2_step 85 = .ok (.iload_n 1, 1) := by decide +kernel
theorem dX2_step_86 : decode cX2_step 86 = .ok (.aload_n 0, 1) := by decide +kernel
theorem dX2_step_87 : decode cX2_step 87 = .ok (.getfield 53, 3) := by decide +kernel
theorem dX2_step_90 : decode cX2_step 90 = .ok (.iastore, 1) := by decide +kernel
theorem dX2_step_91 : decode cX2_step 91 = .ok (.aload_n 0, 1) := by decide +kernel
theorem dX2_step_92 : decode cX2_step 92 = .ok (.dup, 1) := by decide +kernel
theorem dX2_step_93 : decode cX2_step 93 = .ok (.getfield 53, 3) := by decide +kernel
theorem dX2_step_96 : decode cX2_step 96 = .ok (.iconst 1, 1) := by decide +kernel
theorem dX2_step_97 : decode cX2_step 97 = .ok (.iadd, 1) := by decide +kernel
theorem dX2_step_98 : decode cX2_step 98 = .ok (.putfield 53, 3) := by decide +kernel
theorem dX2_step_101 : decode cX2_step 101 = .ok (.iload_n 2, 1) := by decide +kernel
theorem dX2_step_102 : decode cX2_step 102 = .ok (.ireturn, 1) := by decide +kernel
theorem dX2_lies_0 : decode cX2_lies 0 = .ok (.aload_n 0, 1) := by decide +kernel
theorem dX2_lies_1 : decode cX2_lies 1 = .ok (.getfield 9, 3) := by decide +kernel
theorem dX2_lies_4 : decode cX2_lies 4 = .ok (.iload_n 1, 1) := by decide +kernel
theorem dX2_lies_5 : decode cX2_lies 5 = .ok (.iaload, 1) := by decide +kernel
theorem dX2_lies_6 : decode cX2_lies 6 = .ok (.iconst 1, 1) := by decide +kernel
theorem dX2_lies_7 : decode cX2_lies 7 = .ok (.if_icmp .eq 13, 3) := by decide +kernel
theorem dX2_lies_10 : decode cX2_lies 10 = .ok (.aload_n 0, 1) := by decide +kernel
theorem dX2_lies_11 : decode cX2_lies 11 = .ok (.getfield 9, 3) := by decide +kernel
theorem dX2_lies_14 : decode cX2_lies 14 = .ok (.iload_n 1, 1) := by decide +kernel
theorem dX2_lies_15 : decode cX2_lies 15 = .ok (.iaload, 1) := by decide +kernel
theorem dX2_lies_16 : decode cX2_lies 16 = .ok (.iconst 2, 1) := by decide +kernel
theorem dX2_lies_17 : decode cX2_lies 17 = .ok (.if_icmp .ne 7, 3) := by decide +kernel
theorem dX2_lies_20 : decode cX2_lies 20 = .ok (.iconst 1, 1) := by decide +kernel
theorem dX2_lies_21 : decode cX2_lies 21 = .ok (.goto 4, 3) := by decide +kernel
theorem dX2_lies_24 : decode cX2_lies 24 = .ok (.iconst 0, 1) := by decide +kernel
theorem dX2_lies_25 : decode cX2_lies 25 = .ok (.ireturn, 1) := by decide +kernel
theorem dX2_lying_0 : decode cX2_lying 0 = .ok (.aload_n 0, 1) := by decide +kernel
theorem dX2_lying_1 : decode cX2_lying 1 = .ok (.getfield 15, 3) := by decide +kernel
theorem dX2_lying_4 : decode cX2_lying 4 = .ok (.iconst 1, 1) := by decide +kernel
theorem dX2_lying_5 : decode cX2_lying 5 = .ok (.iaload, 1) := by decide +kernel
theorem dX2_lying_6 : decode cX2_lying 6 = .ok (.aload_n 0, 1) := by decide +kernel
theorem dX2_lying_7 : decode cX2_lying 7 = .ok (.getfield 15, 3) := by decide +kernel
theorem dX2_lying_10 : decode cX2_lying 10 = .ok (.iconst 2, 1) := by decide +kernel
theorem dX2_lying_11 : decode cX2_lying 11 = .ok (.iaload, 1) := by decide +kernel
theorem dX2_lying_12 : decode cX2_lying 12 = .ok (.iadd, 1) := by decide +kernel
theorem dX2_lying_13 : decode cX2_lying 13 = .ok (.ireturn, 1) := by decide +kernel
theorem dX2_leastAbsent_0 : decode cX2_leastAbsent 0 = .ok (.iconst 0, 1) := by decide +kernel
theorem dX2_leastAbsent_1 : decode cX2_leastAbsent 1 = .ok (.istore_n 1, 1) := by decide +kernel
theorem dX2_leastAbsent_2 : decode cX2_leastAbsent 2 = .ok (.iload_n 1, 1) := by decide +kernel
theorem dX2_leastAbsent_3 : decode cX2_leastAbsent 3 = .ok (.aload_n 0, 1) := by decide +kernel
theorem dX2_leastAbsent_4 : decode cX2_leastAbsent 4 = .ok (.getfield 40, 3) := by decide +kernel
theorem dX2_leastAbsent_7 : decode cX2_leastAbsent 7 = .ok (.if_icmp .ge 17, 3) := by decide +kernel
theorem dX2_leastAbsent_10 : decode cX2_leastAbsent 10 = .ok (.aload_n 0, 1) := by decide +kernel
theorem dX2_leastAbsent_11 : decode cX2_leastAbsent 11 = .ok (.iload_n 1, 1) := by decide +kernel
theorem dX2_leastAbsent_12 : decode cX2_leastAbsent 12 = .ok (.invokevirtual 98, 3) := by decide +kernel
theorem dX2_leastAbsent_15 : decode cX2_leastAbsent 15 = .ok (.ifCond .eq 9, 3) := by decide +kernel
theorem dX2_leastAbsent_18 : decode cX2_leastAbsent 18 = .ok (.iinc 1 1, 3) := by decide +kernel
theorem dX2_leastAbsent_21 : decode cX2_leastAbsent 21 = .ok (.goto (-19), 3) := by decide +kernel
theorem dX2_leastAbsent_24 : decode cX2_leastAbsent 24 = .ok (.iload_n 1, 1) := by decide +kernel
theorem dX2_leastAbsent_25 : decode cX2_leastAbsent 25 = .ok (.ireturn, 1) := by decide +kernel
theorem dX2_hasBooks_0 : decode cX2_hasBooks 0 = .ok (.aload_n 0, 1) := by decide +kernel
theorem dX2_hasBooks_1 : decode cX2_hasBooks 1 = .ok (.getfield 44, 3) := by decide +kernel
theorem dX2_hasBooks_4 : decode cX2_hasBooks 4 = .ok (.iconst 5, 1) := by decide +kernel
theorem dX2_hasBooks_5 : decode cX2_hasBooks 5 = .ok (.if_icmp .eq 12, 3) := by decide +kernel
theorem dX2_hasBooks_8 : decode cX2_hasBooks 8 = .ok (.aload_n 0, 1) := by decide +kernel
theorem dX2_hasBooks_9 : decode cX2_hasBooks 9 = .ok (.getfield 44, 3) := by decide +kernel
theorem dX2_hasBooks_12 : decode cX2_hasBooks 12 = .ok (.bipush 6, 2) := by decide +kernel
theorem dX2_hasBooks_14 : decode cX2_hasBooks 14 = .ok (.if_icmp .ne 7, 3) := by decide +kernel
theorem dX2_hasBooks_17 : decode cX2_hasBooks 17 = .ok (.iconst 1, 1) := by decide +kernel
theorem dX2_hasBooks_18 : decode cX2_hasBooks 18 = .ok (.goto 4, 3) := by decide +kernel
theorem dX2_hasBooks_21 : decode cX2_hasBooks 21 = .ok (.iconst 0, 1) := by decide +kernel
theorem dX2_hasBooks_22 : decode cX2_hasBooks 22 = .ok (.ireturn, 1) := by decide +kernel
theorem dX2_meet_0 : decode cX2_meet 0 = .ok (.aload_n 0, 1) := by decide +kernel
theorem dX2_meet_1 : decode cX2_meet 1 = .ok (.getfield 24, 3) := by decide +kernel
theorem dX2_meet_4 : decode cX2_meet 4 = .ok (.iload_n 1, 1) := by decide +kernel
theorem dX2_meet_5 : decode cX2_meet 5 = .ok (.dup2, 1) := by decide +kernel
theorem dX2_meet_6 : decode cX2_meet 6 = .ok (.iaload, 1) := by decide +kernel
theorem dX2_meet_7 : decode cX2_meet 7 = .ok (.iconst 1, 1) := by decide +kernel
theorem dX2_meet_8 : decode cX2_meet 8 = .ok (.iadd, 1) := by decide +kernel
theorem dX2_meet_9 : decode cX2_meet 9 = .ok (.iastore, 1) := by decide +kernel
theorem dX2_meet_10 : decode cX2_meet 10 = .ok (.aload_n 0, 1) := by decide +kernel
theorem dX2_meet_11 : decode cX2_meet 11 = .ok (.dup, 1) := by decide +kernel
theorem dX2_meet_12 : decode cX2_meet 12 = .ok (.getfield 56, 3) := by decide +kernel
theorem dX2_meet_15 : decode cX2_meet 15 = .ok (.iconst 1, 1) := by decide +kernel
theorem dX2_meet_16 : decode cX2_meet 16 = .ok (.iload_n 1, 1) := by decide +kernel
theorem dX2_meet_17 : decode cX2_meet 17 = .ok (.ishl, 1) := by decide +kernel
theorem dX2_meet_18 : decode cX2_meet 18 = .ok (.ior, 1) := by decide +kernel
theorem dX2_meet_19 : decode cX2_meet 19 = .ok (.putfield 56, 3) := by decide +kernel
theorem dX2_meet_22 : decode cX2_meet 22 = .ok (.aload_n 0, 1) := by decide +kernel
theorem dX2_meet_23 : decode cX2_meet 23 = .ok (.invokevirtual 112, 3) := by decide +kernel
theorem dX2_meet_26 : decode cX2_meet 26 = .ok (.ifCond .eq 9, 3) := by decide +kernel
theorem dX2_meet_29 : decode cX2_meet 29 = .ok (.aload_n 0, 1) := by decide +kernel
theorem dX2_meet_30 : decode cX2_meet 30 = .ok (.iload_n 1, 1) := by decide +kernel
theorem dX2_meet_31 : decode cX2_meet 31 = .ok (.iconst 2, 1) := by decide +kernel
theorem dX2_meet_32 : decode cX2_meet 32 = .ok (.invokevirtual 116, 3) := by decide +kernel
theorem dX2_meet_35 : decode cX2_meet 35 = .ok (.return_, 1) := by decide +kernel
theorem dX2_bring_0 : decode cX2_bring 0 = .ok (.aload_n 0, 1) := by decide +kernel
theorem dX2_bring_1 : decode cX2_bring 1 = .ok (.iload_n 1, 1) := by decide +kernel
theorem dX2_bring_2 : decode cX2_bring 2 = .ok (.invokevirtual 119, 3) := by decide +kernel
theorem dX2_bring_5 : decode cX2_bring 5 = .ok (.istore_n 2, 1) := by decide +kernel
theorem dX2_bring_6 : decode cX2_bring 6 = .ok (.aload_n 0, 1) := by decide +kernel
theorem dX2_bring_7 : decode cX2_bring 7 = .ok (.invokevirtual 122, 3) := by decide +kernel
theorem dX2_bring_10 : decode cX2_bring 10 = .ok (.istore_n 3, 1) := by decide +kernel
theorem dX2_bring_11 : decode cX2_bring 11 = .ok (.iconst (-1), 1) := by decide +kernel
theorem dX2_bring_12 : decode cX2_bring 12 = .ok (.istore 4, 2) := by decide +kernel
theorem dX2_bring_14 : decode cX2_bring 14 = .ok (.iload_n 3, 1) := by decide +kernel
theorem dX2_bring_15 : decode cX2_bring 15 = .ok (.aload_n 0, 1) := by decide +kernel
theorem dX2_bring_16 : decode cX2_bring 16 = .ok (.getfield 40, 3) := by decide +kernel
theorem dX2_bring_19 : decode cX2_bring 19 = .ok (.if_icmp .lt 23, 3) := by decide +kernel
theorem dX2_bring_22 : decode cX2_bring 22 = .ok (.aload_n 0, 1) := by decide +kernel
theorem dX2_bring_23 : decode cX2_bring 23 = .ok (.invokevirtual 125, 3) := by decide +kernel
theorem dX2_bring_26 : decode cX2_bring 26 = .ok (.istore 4, 2) := by decide +kernel
theorem dX2_bring_28 : decode cX2_bring 28 = .ok (.aload_n 0, 1) := by decide +kernel
theorem dX2_bring_29 : decode cX2_bring 29 = .ok (.getfield 30, 3) := by decide +kernel
theorem dX2_bring_32 : decode cX2_bring 32 = .ok (.iload 4, 2) := by decide +kernel
theorem dX2_bring_34 : decode cX2_bring 34 = .ok (.iaload, 1) := by decide +kernel
theorem dX2_bring_35 : decode cX2_bring 35 = .ok (.istore_n 3, 1) := by decide +kernel
theorem dX2_bring_36 : decode cX2_bring 36 = .ok (.aload_n 0, 1) := by decide +kernel
theorem dX2_bring_37 : decode cX2_bring 37 = .ok (.iload 4, 2) := by decide +kernel
theorem dX2_bring_39 : decode cX2_bring 39 = .ok (.invokevirtual 128, 3) := by decide +kernel
theorem dX2_bring_42 : decode cX2_bring 42 = .ok (.aload_n 0, 1) := by decide +kernel
theorem dX2_bring_43 : decode cX2_bring 43 = .ok (.getfield 24, 3) := by decide +kernel
theorem dX2_bring_46 : decode cX2_bring 46 = .ok (.iload_n 1, 1) := by decide +kernel
theorem dX2_bring_47 : decode cX2_bring 47 = .ok (.iconst 1, 1) := by decide +kernel
theorem dX2_bring_48 : decode cX2_bring 48 = .ok (.iastore, 1) := by decide +kernel
theorem dX2_bring_49 : decode cX2_bring 49 = .ok (.aload_n 0, 1) := by decide +kernel
theorem dX2_bring_50 : decode cX2_bring 50 = .ok (.getfield 30, 3) := by decide +kernel
theorem dX2_bring_53 : decode cX2_bring 53 = .ok (.iload_n 1, 1) := by decide +kernel
theorem dX2_bring_54 : decode cX2_bring 54 = .ok (.iload_n 3, 1) := by decide +kernel
theorem dX2_bring_55 : decode cX2_bring 55 = .ok (.iastore, 1) := by decide +kernel
theorem dX2_bring_56 : decode cX2_bring 56 = .ok (.aload_n 0, 1) := by decide +kernel
theorem dX2_bring_57 : decode cX2_bring 57 = .ok (.getfield 33, 3) := by decide +kernel
theorem dX2_bring_60 : decode cX2_bring 60 = .ok (.iload_n 3, 1) := by decide +kernel
theorem dX2_bring_61 : decode cX2_bring 61 = .ok (.iload_n 1, 1) := by decide +kernel
theorem dX2_bring_62 : decode cX2_bring 62 = .ok (.iastore, 1) := by decide +kernel
theorem dX2_bring_63 : decode cX2_bring 63 = .ok (.aload_n 0, 1) := by decide +kernel
theorem dX2_bring_64 : decode cX2_bring 64 = .ok (.getfield 44, 3) := by decide +kernel
theorem dX2_bring_67 : decode cX2_bring 67 = .ok (.iconst 2, 1) := by decide +kernel
theorem dX2_bring_68 : decode cX2_bring 68 = .ok (.if_icmp .ne 15, 3) := by decide +kernel
theorem dX2_bring_71 : decode cX2_bring 71 = .ok (.aload_n 0, 1) := by decide +kernel
theorem dX2_bring_72 : decode cX2_bring 72 = .ok (.dup, 1) := by decide +kernel
theorem dX2_bring_73 : decode cX2_bring 73 = .ok (.getfield 56, 3) := by decide +kernel
theorem dX2_bring_76 : decode cX2_bring 76 = .ok (.iconst 1, 1) := by decide +kernel
theorem dX2_bring_77 : decode cX2_bring 77 = .ok (.iload_n 1, 1) := by decide +kernel
theorem dX2_bring_78 : decode cX2_bring 78 = .ok (.ishl, 1) := by decide +kernel
theorem dX2_bring_79 : decode cX2_bring 79 = .ok (.ior, 1) := by decide +kernel
theorem dX2_bring_80 : decode cX2_bring 80 = .ok (.putfield 56, 3) := by decide +kernel
theorem dX2_bring_83 : decode cX2_bring 83 = .ok (.aload_n 0, 1) := by decide +kernel
theorem dX2_bring_84 : decode cX2_bring 84 = .ok (.iload_n 1, 1) := by decide +kernel
theorem dX2_bring_85 : decode cX2_bring 85 = .ok (.iload_n 2, 1) := by decide +kernel
theorem dX2_bring_86 : decode cX2_bring 86 = .ok (.invokevirtual 116, 3) := by decide +kernel
theorem dX2_bring_89 : decode cX2_bring 89 = .ok (.iload 4, 2) := by decide +kernel
theorem dX2_bring_91 : decode cX2_bring 91 = .ok (.ireturn, 1) := by decide +kernel
theorem dX2_partFor_0 : decode cX2_partFor 0 = .ok (.aload_n 0, 1) := by decide +kernel
theorem dX2_partFor_1 : decode cX2_partFor 1 = .ok (.getfield 9, 3) := by decide +kernel
theorem dX2_partFor_4 : decode cX2_partFor 4 = .ok (.iload_n 1, 1) := by decide +kernel
theorem dX2_partFor_5 : decode cX2_partFor 5 = .ok (.iaload, 1) := by decide +kernel
theorem dX2_partFor_6 : decode cX2_partFor 6 = .ok (.istore_n 2, 1) := by decide +kernel
theorem dX2_partFor_7 : decode cX2_partFor 7 = .ok (.iload_n 2, 1) := by decide +kernel
theorem dX2_partFor_8 : decode cX2_partFor 8 = .ok (.ifCond .ne 5, 3) := by decide +kernel
theorem dX2_partFor_11 : decode cX2_partFor 11 = .ok (.iconst 1, 1) := by decide +kernel
theorem dX2_partFor_12 : decode cX2_partFor 12 = .ok (.ireturn, 1) := by decide +kernel
theorem dX2_partFor_13 : decode cX2_partFor 13 = .ok (.aload_n 0, 1) := by decide +kernel
theorem dX2_partFor_14 : decode cX2_partFor 14 = .ok (.getfield 44, 3) := by decide +kernel
theorem dX2_partFor_17 : decode cX2_partFor 17 = .ok (.bipush 6, 2) := by decide +kernel
theorem dX2_partFor_19 : decode cX2_partFor 19 = .ok (.if_icmp .ne 28, 3) := by decide +kernel
theorem dX2_partFor_22 : decode cX2_partFor 22 = .ok (.iload_n 2, 1) := by decide +kernel
theorem dX2_partFor_23 : decode cX2_partFor 23 = .ok (.iconst 3, 1) := by decide +kernel
theorem dX2_partFor_24 : decode cX2_partFor 24 = .ok (.if_icmp .ne 23, 3) := by decide +kernel
theorem dX2_partFor_27 : decode cX2_partFor 27 = .ok (.aload_n 0, 1) := by decide +kernel
theorem dX2_partFor_28 : decode cX2_partFor 28 = .ok (.aload_n 0, 1) := by decide +kernel
theorem dX2_partFor_29 : decode cX2_partFor 29 = .ok (.getfield 40, 3) := by decide +kernel
theorem dX2_partFor_32 : decode cX2_partFor 32 = .ok (.aload_n 0, 1) := by decide +kernel
theorem dX2_partFor_33 : decode cX2_partFor 33 = .ok (.getfield 65, 3) := by decide +kernel
theorem dX2_partFor_36 : decode cX2_partFor 36 = .ok (.iconst 1, 1) := by decide +kernel
theorem dX2_partFor_37 : decode cX2_partFor 37 = .ok (.iadd, 1) := by decide +kernel
theorem dX2_partFor_38 : decode cX2_partFor 38 = .ok (.invokestatic 131, 3) := by decide +kernel
theorem dX2_partFor_41 : decode cX2_partFor 41 = .ok (.putfield 65, 3) := by decide +kernel
theorem dX2_partFor_44 : decode cX2_partFor 44 = .ok (.goto 26, 3) := by decide +kernel
theorem dX2_partFor_47 : decode cX2_partFor 47 = .ok (.aload_n 0, 1) := by decide +kernel
theorem dX2_partFor_48 : decode cX2_partFor 48 = .ok (.getfield 44, 3) := by decide +kernel
theorem dX2_partFor_51 : decode cX2_partFor 51 = .ok (.bipush 6, 2) := by decide +kernel
theorem dX2_partFor_53 : decode cX2_partFor 53 = .ok (.if_icmp .ne 17, 3) := by decide +kernel
theorem dX2_partFor_56 : decode cX2_partFor 56 = .ok (.aload_n 0, 1) := by decide +kernel
theorem dX2_partFor_57 : decode cX2_partFor 57 = .ok (.iconst 0, 1) := by decide +kernel
theorem dX2_partFor_58 : decode cX2_partFor 58 = .ok (.aload_n 0, 1) := by decide +kernel
theorem dX2_partFor_59 : decode cX2_partFor 59 = .ok (.getfield 65, 3) := by decide +kernel
theorem dX2_partFor_62 : decode cX2_partFor 62 = .ok (.iconst 1, 1) := by decide +kernel
theorem dX2_partFor_63 : decode cX2_partFor 63 = .ok (.isub, 1) := by decide +kernel
theorem dX2_partFor_64 : decode cX2_partFor 64 = .ok (.invokestatic 137, 3) := by decide +kernel
theorem dX2_partFor_67 : decode cX2_partFor 67 = .ok (.putfield 65, 3) := by decide +kernel
theorem dX2_partFor_70 : decode cX2_partFor 70 = .ok (.aload_n 0, 1) := by decide +kernel
theorem dX2_partFor_71 : decode cX2_partFor 71 = .ok (.iload_n 1, 1) := by decide +kernel
theorem dX2_partFor_72 : decode cX2_partFor 72 = .ok (.iconst 0, 1) := by decide +kernel
theorem dX2_partFor_73 : decode cX2_partFor 73 = .ok (.invokevirtual 116, 3) := by decide +kernel
theorem dX2_partFor_76 : decode cX2_partFor 76 = .ok (.iconst 2, 1) := by decide +kernel
theorem dX2_partFor_77 : decode cX2_partFor 77 = .ok (.ireturn, 1) := by decide +kernel
theorem dX2_chooseGoing_0 : decode cX2_chooseGoing 0 = .ok (.aload_n 0, 1) := by decide +kernel
theorem dX2_chooseGoing_1 : decode cX2_chooseGoing 1 = .ok (.getfield 44, 3) := by decide +kernel
theorem dX2_chooseGoing_4 : decode cX2_chooseGoing 4 = .ok (.tableswitch 79 2 6 #[36, 46, 79, 51, 66], 36) := by decide +kernel
theorem dX2_chooseGoing_40 : decode cX2_chooseGoing 40 = .ok (.aload_n 0, 1) := by decide +kernel
theorem dX2_chooseGoing_41 : decode cX2_chooseGoing 41 = .ok (.invokevirtual 140, 3) := by decide +kernel
theorem dX2_chooseGoing_44 : decode cX2_chooseGoing 44 = .ok (.aload_n 0, 1) := by decide +kernel
theorem dX2_chooseGoing_45 : decode cX2_chooseGoing 45 = .ok (.iconst 1, 1) := by decide +kernel
theorem dX2_chooseGoing_46 : decode cX2_chooseGoing 46 = .ok (.invokevirtual 143, 3) := by decide +kernel
theorem dX2_chooseGoing_49 : decode cX2_chooseGoing 49 = .ok (.ireturn, 1) := by decide +kernel
theorem dX2_chooseGoing_50 : decode cX2_chooseGoing 50 = .ok (.aload_n 0, 1) := by decide +kernel
theorem dX2_chooseGoing_51 : decode cX2_chooseGoing 51 = .ok (.invokevirtual 146, 3) := by decide +kernel
theorem dX2_chooseGoing_54 : decode cX2_chooseGoing 54 = .ok (.ireturn, 1) := by decide +kernel
theorem dX2_chooseGoing_55 : decode cX2_chooseGoing 55 = .ok (.aload_n 0, 1) := by decide +kernel
theorem dX2_chooseGoing_56 : decode cX2_chooseGoing 56 = .ok (.aload_n 0, 1) := by decide +kernel
theorem dX2_chooseGoing_57 : decode cX2_chooseGoing 57 = .ok (.aload_n 0, 1) := by decide +kernel
theorem dX2_chooseGoing_58 : decode cX2_chooseGoing 58 = .ok (.getfield 40, 3) := by decide +kernel
theorem dX2_chooseGoing_61 : decode cX2_chooseGoing 61 = .ok (.iconst 4, 1) := by decide +kernel
theorem dX2_chooseGoing_62 : decode cX2_chooseGoing 62 = .ok (.idiv, 1) := by decide +kernel
theorem dX2_chooseGoing_63 : decode cX2_chooseGoing 63 = .ok (.invokevirtual 149, 3) := by decide +kernel
theorem dX2_chooseGoing_66 : decode cX2_chooseGoing 66 = .ok (.invokevirtual 143, 3) := by decide +kernel
theorem dX2_chooseGoing_69 : decode cX2_chooseGoing 69 = .ok (.ireturn, 1) := by decide +kernel
theorem dX2_chooseGoing_70 : decode cX2_chooseGoing 70 = .ok (.aload_n 0, 1) := by decide +kernel
theorem dX2_chooseGoing_71 : decode cX2_chooseGoing 71 = .ok (.aload_n 0, 1) := by decide +kernel
theorem dX2_chooseGoing_72 : decode cX2_chooseGoing 72 = .ok (.aload_n 0, 1) := by decide +kernel
theorem dX2_chooseGoing_73 : decode cX2_chooseGoing 73 = .ok (.getfield 65, 3) := by decide +kernel
theorem dX2_chooseGoing_76 : decode cX2_chooseGoing 76 = .ok (.invokevirtual 149, 3) := by decide +kernel
theorem dX2_chooseGoing_79 : decode cX2_chooseGoing 79 = .ok (.invokevirtual 143, 3) := by decide +kernel
theorem dX2_chooseGoing_82 : decode cX2_chooseGoing 82 = .ok (.ireturn, 1) := by decide +kernel
theorem dX2_chooseGoing_83 : decode cX2_chooseGoing 83 = .ok (.aload_n 0, 1) := by decide +kernel
theorem dX2_chooseGoing_84 : decode cX2_chooseGoing 84 = .ok (.iconst 1, 1) := by decide +kernel
theorem dX2_chooseGoing_85 : decode cX2_chooseGoing 85 = .ok (.invokevirtual 143, 3) := by decide +kernel
theorem dX2_chooseGoing_88 : decode cX2_chooseGoing 88 = .ok (.ireturn, 1) := by decide +kernel
theorem dX2_endFullRound_0 : decode cX2_endFullRound 0 = .ok (.aload_n 0, 1) := by decide +kernel
theorem dX2_endFullRound_1 : decode cX2_endFullRound 1 = .ok (.getfield 56, 3) := by decide +kernel
theorem dX2_endFullRound_4 : decode cX2_endFullRound 4 = .ok (.invokestatic 152, 3) := by decide +kernel
theorem dX2_endFullRound_7 : decode cX2_endFullRound 7 = .ok (.aload_n 0, 1) := by decide +kernel
theorem dX2_endFullRound_8 : decode cX2_endFullRound 8 = .ok (.getfield 40, 3) := by decide +kernel
theorem dX2_endFullRound_11 : decode cX2_endFullRound 11 = .ok (.if_icmp .lt 18, 3) := by decide +kernel
theorem dX2_endFullRound_14 : decode cX2_endFullRound 14 = .ok (.aload_n 0, 1) := by decide +kernel
theorem dX2_endFullRound_15 : decode cX2_endFullRound 15 = .ok (.iconst 0, 1) := by decide +kernel
theorem dX2_endFullRound_16 : decode cX2_endFullRound 16 = .ok (.putfield 56, 3) := by decide +kernel
theorem dX2_endFullRound_19 : decode cX2_endFullRound 19 = .ok (.aload_n 0, 1) := by decide +kernel
theorem dX2_endFullRound_20 : decode cX2_endFullRound 20 = .ok (.dup, 1) := by decide +kernel
theorem dX2_endFullRound_21 : decode cX2_endFullRound 21 = .ok (.getfield 59, 3) := by decide +kernel
theorem dX2_endFullRound_24 : decode cX2_endFullRound 24 = .ok (.iconst 1, 1) := by decide +kernel
theorem dX2_endFullRound_25 : decode cX2_endFullRound 25 = .ok (.iadd, 1) := by decide +kernel
theorem dX2_endFullRound_26 : decode cX2_endFullRound 26 = .ok (.putfield 59, 3) := by decide +kernel
theorem dX2_endFullRound_29 : decode cX2_endFullRound 29 = .ok (.return_, 1) := by decide +kernel
theorem dX2_turnHand_0 : decode cX2_turnHand 0 = .ok (.iconst 0, 1) := by decide +kernel
theorem dX2_turnHand_1 : decode cX2_turnHand 1 = .ok (.istore_n 1, 1) := by decide +kernel
theorem dX2_turnHand_2 : decode cX2_turnHand 2 = .ok (.iload_n 1, 1) := by decide +kernel
theorem dX2_turnHand_3 : decode cX2_turnHand 3 = .ok (.aload_n 0, 1) := by decide +kernel
theorem dX2_turnHand_4 : decode cX2_turnHand 4 = .ok (.getfield 40, 3) := by decide +kernel
theorem dX2_turnHand_7 : decode cX2_turnHand 7 = .ok (.if_icmp .ge 54, 3) := by decide +kernel
theorem dX2_turnHand_10 : decode cX2_turnHand 10 = .ok (.aload_n 0, 1) := by decide +kernel
theorem dX2_turnHand_11 : decode cX2_turnHand 11 = .ok (.getfield 56, 3) := by decide +kernel
theorem dX2_turnHand_14 : decode cX2_turnHand 14 = .ok (.iconst 1, 1) := by decide +kernel
theorem dX2_turnHand_15 : decode cX2_turnHand 15 = .ok (.aload_n 0, 1) := by decide +kernel
theorem dX2_turnHand_16 : decode cX2_turnHand 16 = .ok (.getfield 33, 3) := by decide +kernel
theorem dX2_turnHand_19 : decode cX2_turnHand 19 = .ok (.aload_n 0, 1) := by decide +kernel
theorem dX2_turnHand_20 : decode cX2_turnHand 20 = .ok (.getfield 62, 3) := by decide +kernel
theorem dX2_turnHand_23 : decode cX2_turnHand 23 = .ok (.iaload, 1) := by decide +kernel
theorem dX2_turnHand_24 : decode cX2_turnHand 24 = .ok (.ishl, 1) := by decide +kernel
theorem dX2_turnHand_25 : decode cX2_turnHand 25 = .ok (.iand, 1) := by decide +kernel
theorem dX2_turnHand_26 : decode cX2_turnHand 26 = .ok (.ifCond .eq 35, 3) := by decide +kernel
theorem dX2_turnHand_29 : decode cX2_turnHand 29 = .ok (.aload_n 0, 1) := by decide +kernel
theorem dX2_turnHand_30 : decode cX2_turnHand 30 = .ok (.dup, 1) := by decide +kernel
theorem dX2_turnHand_31 : decode cX2_turnHand 31 = .ok (.getfield 56, 3) := by decide +kernel
theorem dX2_turnHand_34 : decode cX2_turnHand 34 = .ok (.iconst 1, 1) := by decide +kernel
theorem dX2_turnHand_35 : decode cX2_turnHand 35 = .ok (.aload_n 0, 1) := by decide +kernel
theorem dX2_turnHand_36 : decode cX2_turnHand 36 = .ok (.getfield 33, 3) := by decide +kernel
theorem dX2_turnHand_39 : decode cX2_turnHand 39 = .ok (.aload_n 0, 1) := by decide +kernel
theorem dX2_turnHand_40 : decode cX2_turnHand 40 = .ok (.getfield 62, 3) := by decide +kernel
theorem dX2_turnHand_43 : decode cX2_turnHand 43 = .ok (.iaload, 1) := by decide +kernel
theorem dX2_turnHand_44 : decode cX2_turnHand 44 = .ok (.ishl, 1) := by decide +kernel
theorem dX2_turnHand_45 : decode cX2_turnHand 45 = .ok (.iconst (-1), 1) := by decide +kernel
theorem dX2_turnHand_46 : decode cX2_turnHand 46 = .ok (.ixor, 1) := by decide +kernel
theorem dX2_turnHand_47 : decode cX2_turnHand 47 = .ok (.iand, 1) := by decide +kernel
theorem dX2_turnHand_48 : decode cX2_turnHand 48 = .ok (.putfield 56, 3) := by decide +kernel
theorem dX2_turnHand_51 : decode cX2_turnHand 51 = .ok (.aload_n 0, 1) := by decide +kernel
theorem dX2_turnHand_52 : decode cX2_turnHand 52 = .ok (.invokevirtual 157, 3) := by decide +kernel
theorem dX2_turnHand_55 : decode cX2_turnHand 55 = .ok (.iinc 1 1, 3) := by decide +kernel
theorem dX2_turnHand_58 : decode cX2_turnHand 58 = .ok (.goto (-56), 3) := by decide +kernel
theorem dX2_turnHand_61 : decode cX2_turnHand 61 = .ok (.aload_n 0, 1) := by decide +kernel
theorem dX2_turnHand_62 : decode cX2_turnHand 62 = .ok (.getfield 33, 3) := by decide +kernel
theorem dX2_turnHand_65 : decode cX2_turnHand 65 = .ok (.aload_n 0, 1) := by decide +kernel
theorem dX2_turnHand_66 : decode cX2_turnHand 66 = .ok (.getfield 62, 3) := by decide +kernel
theorem dX2_turnHand_69 : decode cX2_turnHand 69 = .ok (.iaload, 1) := by decide +kernel
theorem dX2_turnHand_70 : decode cX2_turnHand 70 = .ok (.istore_n 1, 1) := by decide +kernel
theorem dX2_turnHand_71 : decode cX2_turnHand 71 = .ok (.aload_n 0, 1) := by decide +kernel
theorem dX2_turnHand_72 : decode cX2_turnHand 72 = .ok (.invokevirtual 157, 3) := by decide +kernel
theorem dX2_turnHand_75 : decode cX2_turnHand 75 = .ok (.iload_n 1, 1) := by decide +kernel
theorem dX2_turnHand_76 : decode cX2_turnHand 76 = .ok (.ireturn, 1) := by decide +kernel
theorem dX2_moveHandOn_0 : decode cX2_moveHandOn 0 = .ok (.aload_n 0, 1) := by decide +kernel
theorem dX2_moveHandOn_1 : decode cX2_moveHandOn 1 = .ok (.aload_n 0, 1) := by decide +kernel
theorem dX2_moveHandOn_2 : decode cX2_moveHandOn 2 = .ok (.getfield 62, 3) := by decide +kernel
theorem dX2_moveHandOn_5 : decode cX2_moveHandOn 5 = .ok (.iconst 1, 1) := by decide +kernel
theorem dX2_moveHandOn_6 : decode cX2_moveHandOn 6 = .ok (.iadd, 1) := by decide +kernel
theorem dX2_moveHandOn_7 : decode cX2_moveHandOn 7 = .ok (.aload_n 0, 1) := by decide +kernel
theorem dX2_moveHandOn_8 : decode cX2_moveHandOn 8 = .ok (.getfield 40, 3) := by decide +kernel
theorem dX2_moveHandOn_11 : decode cX2_moveHandOn 11 = .ok (.if_icmp .ge 12, 3) := by decide +kernel
theorem dX2_moveHandOn_14 : decode cX2_moveHandOn 14 = .ok (.aload_n 0, 1) := by decide +kernel
theorem dX2_moveHandOn_15 : decode cX2_moveHandOn 15 = .ok (.getfield 62, 3) := by decide +kernel
theorem dX2_moveHandOn_18 : decode cX2_moveHandOn 18 = .ok (.iconst 1, 1) := by decide +kernel
theorem dX2_moveHandOn_19 : decode cX2_moveHandOn 19 = .ok (.iadd, 1) := by decide +kernel
theorem dX2_moveHandOn_20 : decode cX2_moveHandOn 20 = .ok (.goto 4, 3) := by decide +kernel
theorem dX2_moveHandOn_23 : decode cX2_moveHandOn 23 = .ok (.iconst 0, 1) := by decide +kernel
theorem dX2_moveHandOn_24 : decode cX2_moveHandOn 24 = .ok (.putfield 62, 3) := by decide +kernel
theorem dX2_moveHandOn_27 : decode cX2_moveHandOn 27 = .ok (.return_, 1) := by decide +kernel
theorem dX2_partThatLoses_0 : decode cX2_partThatLoses 0 = .ok (.aload_n 0, 1) := by decide +kernel
theorem dX2_partThatLoses_1 : decode cX2_partThatLoses 1 = .ok (.getfield 15, 3) := by decide +kernel
theorem dX2_partThatLoses_4 : decode cX2_partThatLoses 4 = .ok (.iconst 1, 1) := by decide +kernel
theorem dX2_partThatLoses_5 : decode cX2_partThatLoses 5 = .ok (.iaload, 1) := by decide +kernel
theorem dX2_partThatLoses_6 : decode cX2_partThatLoses 6 = .ok (.iload_n 1, 1) := by decide +kernel
theorem dX2_partThatLoses_7 : decode cX2_partThatLoses 7 = .ok (.if_icmp .gt 12, 3) := by decide +kernel
theorem dX2_partThatLoses_10 : decode cX2_partThatLoses 10 = .ok (.aload_n 0, 1) := by decide +kernel
theorem dX2_partThatLoses_11 : decode cX2_partThatLoses 11 = .ok (.getfield 15, 3) := by decide +kernel
theorem dX2_partThatLoses_14 : decode cX2_partThatLoses 14 = .ok (.iconst 2, 1) := by decide +kernel
theorem dX2_partThatLoses_15 : decode cX2_partThatLoses 15 = .ok (.iaload, 1) := by decide +kernel
theorem dX2_partThatLoses_16 : decode cX2_partThatLoses 16 = .ok (.ifCond .ne 7, 3) := by decide +kernel
theorem dX2_partThatLoses_19 : decode cX2_partThatLoses 19 = .ok (.iconst 1, 1) := by decide +kernel
theorem dX2_partThatLoses_20 : decode cX2_partThatLoses 20 = .ok (.goto 4, 3) := by decide +kernel
theorem dX2_partThatLoses_23 : decode cX2_partThatLoses 23 = .ok (.iconst 2, 1) := by decide +kernel
theorem dX2_partThatLoses_24 : decode cX2_partThatLoses 24 = .ok (.ireturn, 1) := by decide +kernel
theorem dX2_firstOf_0 : decode cX2_firstOf 0 = .ok (.iconst 0, 1) := by decide +kernel
theorem dX2_firstOf_1 : decode cX2_firstOf 1 = .ok (.istore_n 2, 1) := by decide +kernel
theorem dX2_firstOf_2 : decode cX2_firstOf 2 = .ok (.iconst 0, 1) := by decide +kernel
theorem dX2_firstOf_3 : decode cX2_firstOf 3 = .ok (.istore_n 3, 1) := by decide +kernel
theorem dX2_firstOf_4 : decode cX2_firstOf 4 = .ok (.iconst 0, 1) := by decide +kernel
theorem dX2_firstOf_5 : decode cX2_firstOf 5 = .ok (.istore 4, 2) := by decide +kernel
theorem dX2_firstOf_7 : decode cX2_firstOf 7 = .ok (.iconst 0, 1) := by decide +kernel
theorem dX2_firstOf_8 : decode cX2_firstOf 8 = .ok (.istore 5, 2) := by decide +kernel
theorem dX2_firstOf_10 : decode cX2_firstOf 10 = .ok (.iload 5, 2) := by decide +kernel
theorem dX2_firstOf_12 : decode cX2_firstOf 12 = .ok (.bipush 16, 2) := by decide +kernel
theorem dX2_firstOf_14 : decode cX2_firstOf 14 = .ok (.if_icmp .ge 80, 3) := by decide +kernel
theorem dX2_firstOf_17 : decode cX2_firstOf 17 = .ok (.aload_n 0, 1) := by decide +kernel
theorem dX2_firstOf_18 : decode cX2_firstOf 18 = .ok (.getfield 44, 3) := by decide +kernel
theorem dX2_firstOf_21 : decode cX2_firstOf 21 = .ok (.iconst 2, 1) := by decide +kernel
theorem dX2_firstOf_22 : decode cX2_firstOf 22 = .ok (.if_icmp .ne 19, 3) := by decide +kernel
theorem dX2_firstOf_25 : decode cX2_firstOf 25 = .ok (.aload_n 0, 1) := by decide +kernel
theorem dX2_firstOf_26 : decode cX2_firstOf 26 = .ok (.getfield 56, 3) := by decide +kernel
theorem dX2_firstOf_29 : decode cX2_firstOf 29 = .ok (.iconst 1, 1) := by decide +kernel
theorem dX2_firstOf_30 : decode cX2_firstOf 30 = .ok (.iload 5, 2) := by decide +kernel
theorem dX2_firstOf_32 : decode cX2_firstOf 32 = .ok (.ishl, 1) := by decide +kernel
theorem dX2_firstOf_33 : decode cX2_firstOf 33 = .ok (.iand, 1) := by decide +kernel
theorem dX2_firstOf_34 : decode cX2_firstOf 34 = .ok (.ifCond .eq 7, 3) := by decide +kernel
theorem dX2_firstOf_37 : decode cX2_firstOf 37 = .ok (.iconst 1, 1) := by decide +kernel
theorem dX2_firstOf_38 : decode cX2_firstOf 38 = .ok (.goto 4, 3) := by decide +kernel
theorem dX2_firstOf_41 : decode cX2_firstOf 41 = .ok (.iconst 0, 1) := by decide +kernel
theorem dX2_firstOf_42 : decode cX2_firstOf 42 = .ok (.istore 6, 2) := by decide +kernel
theorem dX2_firstOf_44 : decode cX2_firstOf 44 = .ok (.aload_n 0, 1) := by decide +kernel
theorem dX2_firstOf_45 : decode cX2_firstOf 45 = .ok (.getfield 9, 3) := by decide +kernel
theorem dX2_firstOf_48 : decode cX2_firstOf 48 = .ok (.iload 5, 2) := by decide +kernel
theorem dX2_firstOf_50 : decode cX2_firstOf 50 = .ok (.iaload, 1) := by decide +kernel
theorem dX2_firstOf_51 : decode cX2_firstOf 51 = .ok (.iload_n 1, 1) := by decide +kernel
theorem dX2_firstOf_52 : decode cX2_firstOf 52 = .ok (.if_icmp .ne 36, 3) := by decide +kernel
theorem dX2_firstOf_55 : decode cX2_firstOf 55 = .ok (.iload 6, 2) := by decide +kernel
theorem dX2_firstOf_57 : decode cX2_firstOf 57 = .ok (.ifCond .ne 31, 3) := by decide +kernel
theorem dX2_firstOf_60 : decode cX2_firstOf 60 = .ok (.aload_n 0, 1) := by decide +kernel
theorem dX2_firstOf_61 : decode cX2_firstOf 61 = .ok (.iload 5, 2) := by decide +kernel
theorem dX2_firstOf_63 : decode cX2_firstOf 63 = .ok (.invokevirtual 160, 3) := by decide +kernel
theorem dX2_firstOf_66 : decode cX2_firstOf 66 = .ok (.istore 7, 2) := by decide +kernel
theorem dX2_firstOf_68 : decode cX2_firstOf 68 = .ok (.iload 4, 2) := by decide +kernel
theorem dX2_firstOf_70 : decode cX2_firstOf 70 = .ok (.ifCond .eq 9, 3) := by decide +kernel
theorem dX2_firstOf_73 : decode cX2_firstOf 73 = .ok (.iload 7, 2) := by decide +kernel
theorem dX2_firstOf_75 : decode cX2_firstOf 75 = .ok (.iload_n 3, 1) := by decide +kernel
theorem dX2_firstOf_76 : decode cX2_firstOf 76 = .ok (.if_icmp .ge 12, 3) := by decide +kernel
theorem dX2_firstOf_79 : decode cX2_firstOf 79 = .ok (.iload 5, 2) := by decide +kernel
theorem dX2_firstOf_81 : decode cX2_firstOf 81 = .ok (.istore_n 2, 1) := by decide +kernel
theorem dX2_firstOf_82 : decode cX2_firstOf 82 = .ok (.iload 7, 2) := by decide +kernel
theorem dX2_firstOf_84 : decode cX2_firstOf 84 = .ok (.istore_n 3, 1) := by decide +kernel
theorem dX2_firstOf_85 : decode cX2_firstOf 85 = .ok (.iconst 1, 1) := by decide +kernel
theorem dX2_firstOf_86 : decode cX2_firstOf 86 = .ok (.istore 4, 2) := by decide +kernel
theorem dX2_firstOf_88 : decode cX2_firstOf 88 = .ok (.iinc 5 1, 3) := by decide +kernel
theorem dX2_firstOf_91 : decode cX2_firstOf 91 = .ok (.goto (-81), 3) := by decide +kernel
theorem dX2_firstOf_94 : decode cX2_firstOf 94 = .ok (.iload_n 2, 1) := by decide +kernel
theorem dX2_firstOf_95 : decode cX2_firstOf 95 = .ok (.ireturn, 1) := by decide +kernel
theorem dX2_keyOf_0 : decode cX2_keyOf 0 = .ok (.aload_n 0, 1) := by decide +kernel
theorem dX2_keyOf_1 : decode cX2_keyOf 1 = .ok (.getfield 44, 3) := by decide +kernel
theorem dX2_keyOf_4 : decode cX2_keyOf 4 = .ok (.tableswitch 137 0 8 #[52, 137, 137, 137, 59, 77, 77, 103, 121], 52) := by decide +kernel
theorem dX2_keyOf_56 : decode cX2_keyOf 56 = .ok (.aload_n 0, 1) := by decide +kernel
theorem dX2_keyOf_57 : decode cX2_keyOf 57 = .ok (.getfield 18, 3) := by decide +kernel
theorem dX2_keyOf_60 : decode cX2_keyOf 60 = .ok (.iload_n 1, 1) := by decide +kernel
theorem dX2_keyOf_61 : decode cX2_keyOf 61 = .ok (.iaload, 1) := by decide +kernel
theorem dX2_keyOf_62 : decode cX2_keyOf 62 = .ok (.ireturn, 1) := by decide +kernel
theorem dX2_keyOf_63 : decode cX2_keyOf 63 = .ok (.aload_n 0, 1) := by decide +kernel
theorem dX2_keyOf_64 : decode cX2_keyOf 64 = .ok (.getfield 24, 3) := by decide +kernel
theorem dX2_keyOf_67 : decode cX2_keyOf 67 = .ok (.iload_n 1, 1) := by decide +kernel
theorem dX2_keyOf_68 : decode cX2_keyOf 68 = .ok (.iaload, 1) := by decide +kernel
theorem dX2_keyOf_69 : decode cX2_keyOf 69 = .ok (.sipush 300, 3) := by decide +kernel
theorem dX2_keyOf_72 : decode cX2_keyOf 72 = .ok (.imul, 1) := by decide +kernel
theorem dX2_keyOf_73 : decode cX2_keyOf 73 = .ok (.aload_n 0, 1) := by decide +kernel
theorem dX2_keyOf_74 : decode cX2_keyOf 74 = .ok (.getfield 21, 3) := by decide +kernel
theorem dX2_keyOf_77 : decode cX2_keyOf 77 = .ok (.iload_n 1, 1) := by decide +kernel
theorem dX2_keyOf_78 : decode cX2_keyOf 78 = .ok (.iaload, 1) := by decide +kernel
theorem dX2_keyOf_79 : decode cX2_keyOf 79 = .ok (.iadd, 1) := by decide +kernel
theorem dX2_keyOf_80 : decode cX2_keyOf 80 = .ok (.ireturn, 1) := by decide +kernel
theorem dX2_keyOf_81 : decode cX2_keyOf 81 = .ok (.aload_n 0, 1) := by decide +kernel
theorem dX2_keyOf_82 : decode cX2_keyOf 82 = .ok (.getfield 9, 3) := by decide +kernel
theorem dX2_keyOf_85 : decode cX2_keyOf 85 = .ok (.iload_n 1, 1) := by decide +kernel
theorem dX2_keyOf_86 : decode cX2_keyOf 86 = .ok (.iaload, 1) := by decide +kernel
theorem dX2_keyOf_87 : decode cX2_keyOf 87 = .ok (.iconst 2, 1) := by decide +kernel
theorem dX2_keyOf_88 : decode cX2_keyOf 88 = .ok (.if_icmp .ne 12, 3) := by decide +kernel
theorem dX2_keyOf_91 : decode cX2_keyOf 91 = .ok (.aload_n 0, 1) := by decide +kernel
theorem dX2_keyOf_92 : decode cX2_keyOf 92 = .ok (.getfield 21, 3) := by decide +kernel
theorem dX2_keyOf_95 : decode cX2_keyOf 95 = .ok (.iload_n 1, 1) := by decide +kernel
theorem dX2_keyOf_96 : decode cX2_keyOf 96 = .ok (.iaload, 1) := by decide +kernel
theorem dX2_keyOf_97 : decode cX2_keyOf 97 = .ok (.goto 9, 3) := by decide +kernel
theorem dX2_keyOf_100 : decode cX2_keyOf 100 = .ok (.aload_n 0, 1) := by decide +kernel
theorem dX2_keyOf_101 : decode cX2_keyOf 101 = .ok (.getfield 18, 3) := by decide +kernel
theorem dX2_keyOf_104 : decode cX2_keyOf 104 = .ok (.iload_n 1, 1) := by decide +kernel
theorem dX2_keyOf_105 : decode cX2_keyOf 105 = .ok (.iaload, 1) := by decide +kernel
theorem dX2_keyOf_106 : decode cX2_keyOf 106 = .ok (.ireturn, 1) := by decide +kernel
theorem dX2_keyOf_107 : decode cX2_keyOf 107 = .ok (.aload_n 0, 1) := by decide +kernel
theorem dX2_keyOf_108 : decode cX2_keyOf 108 = .ok (.getfield 27, 3) := by decide +kernel
theorem dX2_keyOf_111 : decode cX2_keyOf 111 = .ok (.iload_n 1, 1) := by decide +kernel
theorem dX2_keyOf_112 : decode cX2_keyOf 112 = .ok (.iaload, 1) := by decide +kernel
theorem dX2_keyOf_113 : decode cX2_keyOf 113 = .ok (.sipush 300, 3) := by decide +kernel
theorem dX2_keyOf_116 : decode cX2_keyOf 116 = .ok (.imul, 1) := by decide +kernel
theorem dX2_keyOf_117 : decode cX2_keyOf 117 = .ok (.aload_n 0, 1) := by decide +kernel
theorem dX2_keyOf_118 : decode cX2_keyOf 118 = .ok (.getfield 21, 3) := by decide +kernel
theorem dX2_keyOf_121 : decode cX2_keyOf 121 = .ok (.iload_n 1, 1) := by decide +kernel
theorem dX2_keyOf_122 : decode cX2_keyOf 122 = .ok (.iaload, 1) := by decide +kernel
theorem dX2_keyOf_123 : decode cX2_keyOf 123 = .ok (.iadd, 1) := by decide +kernel
theorem dX2_keyOf_124 : decode cX2_keyOf 124 = .ok (.ireturn, 1) := by decide +kernel
theorem dX2_keyOf_125 : decode cX2_keyOf 125 = .ok (.aload_n 0, 1) := by decide +kernel
theorem dX2_keyOf_126 : decode cX2_keyOf 126 = .ok (.getfield 36, 3) := by decide +kernel
theorem dX2_keyOf_129 : decode cX2_keyOf 129 = .ok (.getfield 163, 3) := by decide +kernel
theorem dX2_keyOf_132 : decode cX2_keyOf 132 = .ok (.aload_n 0, 1) := by decide +kernel
theorem dX2_keyOf_133 : decode cX2_keyOf 133 = .ok (.getfield 21, 3) := by decide +kernel
theorem dX2_keyOf_136 : decode cX2_keyOf 136 = .ok (.iload_n 1, 1) := by decide +kernel
theorem dX2_keyOf_137 : decode cX2_keyOf 137 = .ok (.iaload, 1) := by decide +kernel
theorem dX2_keyOf_138 : decode cX2_keyOf 138 = .ok (.iaload, 1) := by decide +kernel
theorem dX2_keyOf_139 : decode cX2_keyOf 139 = .ok (.ineg, 1) := by decide +kernel
theorem dX2_keyOf_140 : decode cX2_keyOf 140 = .ok (.ireturn, 1) := by decide +kernel
theorem dX2_keyOf_141 : decode cX2_keyOf 141 = .ok (.aload_n 0, 1) := by decide +kernel
theorem dX2_keyOf_142 : decode cX2_keyOf 142 = .ok (.getfield 21, 3) := by decide +kernel
theorem dX2_keyOf_145 : decode cX2_keyOf 145 = .ok (.iload_n 1, 1) := by decide +kernel
theorem dX2_keyOf_146 : decode cX2_keyOf 146 = .ok (.iaload, 1) := by decide +kernel
theorem dX2_keyOf_147 : decode cX2_keyOf 147 = .ok (.ireturn, 1) := by decide +kernel
theorem dX2_takeAway_0 : decode cX2_takeAway 0 = .ok (.aload_n 0, 1) := by decide +kernel
theorem dX2_takeAway_1 : decode cX2_takeAway 1 = .ok (.getfield 44, 3) := by decide +kernel
theorem dX2_takeAway_4 : decode cX2_takeAway 4 = .ok (.bipush 7, 2) := by decide +kernel
theorem dX2_takeAway_6 : decode cX2_takeAway 6 = .ok (.if_icmp .ne 13, 3) := by decide +kernel
theorem dX2_takeAway_9 : decode cX2_takeAway 9 = .ok (.aload_n 0, 1) := by decide +kernel
theorem dX2_takeAway_10 : decode cX2_takeAway 10 = .ok (.aload_n 0, 1) := by decide +kernel
theorem dX2_takeAway_11 : decode cX2_takeAway 11 = .ok (.getfield 27, 3) := by decide +kernel
theorem dX2_takeAway_14 : decode cX2_takeAway 14 = .ok (.iload_n 1, 1) := by decide +kernel
theorem dX2_takeAway_15 : decode cX2_takeAway 15 = .ok (.iaload, 1) := by decide +kernel
theorem dX2_takeAway_16 : decode cX2_takeAway 16 = .ok (.putfield 68, 3) := by decide +kernel
theorem dX2_takeAway_19 : decode cX2_takeAway 19 = .ok (.aload_n 0, 1) := by decide +kernel
theorem dX2_takeAway_20 : decode cX2_takeAway 20 = .ok (.iload_n 1, 1) := by decide +kernel
theorem dX2_takeAway_21 : decode cX2_takeAway 21 = .ok (.invokevirtual 166, 3) := by decide +kernel
theorem dX2_takeAway_24 : decode cX2_takeAway 24 = .ok (.istore_n 2, 1) := by decide +kernel
theorem dX2_takeAway_25 : decode cX2_takeAway 25 = .ok (.iload_n 2, 1) := by decide +kernel
theorem dX2_takeAway_26 : decode cX2_takeAway 26 = .ok (.ifCond .eq 26, 3) := by decide +kernel
theorem dX2_takeAway_29 : decode cX2_takeAway 29 = .ok (.aload_n 0, 1) := by decide +kernel
theorem dX2_takeAway_30 : decode cX2_takeAway 30 = .ok (.getfield 15, 3) := by decide +kernel
theorem dX2_takeAway_33 : decode cX2_takeAway 33 = .ok (.iload_n 2, 1) := by decide +kernel
theorem dX2_takeAway_34 : decode cX2_takeAway 34 = .ok (.iaload, 1) := by decide +kernel
theorem dX2_takeAway_35 : decode cX2_takeAway 35 = .ok (.aload_n 0, 1) := by decide +kernel
theorem dX2_takeAway_36 : decode cX2_takeAway 36 = .ok (.getfield 40, 3) := by decide +kernel
theorem dX2_takeAway_39 : decode cX2_takeAway 39 = .ok (.if_icmp .lt 13, 3) := by decide +kernel
theorem dX2_takeAway_42 : decode cX2_takeAway 42 = .ok (.aload_n 0, 1) := by decide +kernel
theorem dX2_takeAway_43 : decode cX2_takeAway 43 = .ok (.aload_n 0, 1) := by decide +kernel
theorem dX2_takeAway_44 : decode cX2_takeAway 44 = .ok (.iload_n 2, 1) := by decide +kernel
theorem dX2_takeAway_45 : decode cX2_takeAway 45 = .ok (.invokevirtual 143, 3) := by decide +kernel
theorem dX2_takeAway_48 : decode cX2_takeAway 48 = .ok (.iconst 0, 1) := by decide +kernel
theorem dX2_takeAway_49 : decode cX2_takeAway 49 = .ok (.invokevirtual 116, 3) := by decide +kernel
theorem dX2_takeAway_52 : decode cX2_takeAway 52 = .ok (.aload_n 0, 1) := by decide +kernel
theorem dX2_takeAway_53 : decode cX2_takeAway 53 = .ok (.iload_n 1, 1) := by decide +kernel
theorem dX2_takeAway_54 : decode cX2_takeAway 54 = .ok (.iload_n 2, 1) := by decide +kernel
theorem dX2_takeAway_55 : decode cX2_takeAway 55 = .ok (.invokevirtual 116, 3) := by decide +kernel
theorem dX2_takeAway_58 : decode cX2_takeAway 58 = .ok (.return_, 1) := by decide +kernel
theorem dX2_bookFor_0 : decode cX2_bookFor 0 = .ok (.aload_n 0, 1) := by decide +kernel
theorem dX2_bookFor_1 : decode cX2_bookFor 1 = .ok (.invokevirtual 112, 3) := by decide +kernel
theorem dX2_bookFor_4 : decode cX2_bookFor 4 = .ok (.ifCond .eq 15, 3) := by decide +kernel
theorem dX2_bookFor_7 : decode cX2_bookFor 7 = .ok (.aload_n 0, 1) := by decide +kernel
theorem dX2_bookFor_8 : decode cX2_bookFor 8 = .ok (.getfield 9, 3) := by decide +kernel
theorem dX2_bookFor_11 : decode cX2_bookFor 11 = .ok (.iload_n 1, 1) := by decide +kernel
theorem dX2_bookFor_12 : decode cX2_bookFor 12 = .ok (.iaload, 1) := by decide +kernel
theorem dX2_bookFor_13 : decode cX2_bookFor 13 = .ok (.iconst 1, 1) := by decide +kernel
theorem dX2_bookFor_14 : decode cX2_bookFor 14 = .ok (.if_icmp .ne 5, 3) := by decide +kernel
theorem dX2_bookFor_17 : decode cX2_bookFor 17 = .ok (.iconst 3, 1) := by decide +kernel
theorem dX2_bookFor_18 : decode cX2_bookFor 18 = .ok (.ireturn, 1) := by decide +kernel
theorem dX2_bookFor_19 : decode cX2_bookFor 19 = .ok (.aload_n 0, 1) := by decide +kernel
theorem dX2_bookFor_20 : decode cX2_bookFor 20 = .ok (.getfield 44, 3) := by decide +kernel
theorem dX2_bookFor_23 : decode cX2_bookFor 23 = .ok (.bipush 6, 2) := by decide +kernel
theorem dX2_bookFor_25 : decode cX2_bookFor 25 = .ok (.if_icmp .ne 7, 3) := by decide +kernel
theorem dX2_bookFor_28 : decode cX2_bookFor 28 = .ok (.iconst 4, 1) := by decide +kernel
theorem dX2_bookFor_29 : decode cX2_bookFor 29 = .ok (.goto 4, 3) := by decide +kernel
theorem dX2_bookFor_32 : decode cX2_bookFor 32 = .ok (.iconst 0, 1) := by decide +kernel
theorem dX2_bookFor_33 : decode cX2_bookFor 33 = .ok (.ireturn, 1) := by decide +kernel
theorem dX2_move_0 : decode cX2_move 0 = .ok (.aload_n 0, 1) := by decide +kernel
theorem dX2_move_1 : decode cX2_move 1 = .ok (.getfield 15, 3) := by decide +kernel
theorem dX2_move_4 : decode cX2_move 4 = .ok (.aload_n 0, 1) := by decide +kernel
theorem dX2_move_5 : decode cX2_move 5 = .ok (.getfield 9, 3) := by decide +kernel
theorem dX2_move_8 : decode cX2_move 8 = .ok (.iload_n 1, 1) := by decide +kernel
theorem dX2_move_9 : decode cX2_move 9 = .ok (.iaload, 1) := by decide +kernel
theorem dX2_move_10 : decode cX2_move 10 = .ok (.dup2, 1) := by decide +kernel
theorem dX2_move_11 : decode cX2_move 11 = .ok (.iaload, 1) := by decide +kernel
theorem dX2_move_12 : decode cX2_move 12 = .ok (.iconst 1, 1) := by decide +kernel
theorem dX2_move_13 : decode cX2_move 13 = .ok (.isub, 1) := by decide +kernel
theorem dX2_move_14 : decode cX2_move 14 = .ok (.iastore, 1) := by decide +kernel
theorem dX2_move_15 : decode cX2_move 15 = .ok (.aload_n 0, 1) := by decide +kernel
theorem dX2_move_16 : decode cX2_move 16 = .ok (.getfield 15, 3) := by decide +kernel
theorem dX2_move_19 : decode cX2_move 19 = .ok (.iload_n 2, 1) := by decide +kernel
theorem dX2_move_20 : decode cX2_move 20 = .ok (.dup2, 1) := by decide +kernel
theorem dX2_move_21 : decode cX2_move 21 = .ok (.iaload, 1) := by decide +kernel
theorem dX2_move_22 : decode cX2_move 22 = .ok (.iconst 1, 1) := by decide +kernel
theorem dX2_move_23 : decode cX2_move 23 = .ok (.iadd, 1) := by decide +kernel
theorem dX2_move_24 : decode cX2_move 24 = .ok (.iastore, 1) := by decide +kernel
theorem dX2_move_25 : decode cX2_move 25 = .ok (.aload_n 0, 1) := by decide +kernel
theorem dX2_move_26 : decode cX2_move 26 = .ok (.getfield 9, 3) := by decide +kernel
theorem dX2_move_29 : decode cX2_move 29 = .ok (.iload_n 1, 1) := by decide +kernel
theorem dX2_move_30 : decode cX2_move 30 = .ok (.iload_n 2, 1) := by decide +kernel
theorem dX2_move_31 : decode cX2_move 31 = .ok (.iastore, 1) := by decide +kernel
theorem dX2_move_32 : decode cX2_move 32 = .ok (.aload_n 0, 1) := by decide +kernel
theorem dX2_move_33 : decode cX2_move 33 = .ok (.getfield 18, 3) := by decide +kernel
theorem dX2_move_36 : decode cX2_move 36 = .ok (.iload_n 1, 1) := by decide +kernel
theorem dX2_move_37 : decode cX2_move 37 = .ok (.aload_n 0, 1) := by decide +kernel
theorem dX2_move_38 : decode cX2_move 38 = .ok (.getfield 53, 3) := by decide +kernel
theorem dX2_move_41 : decode cX2_move 41 = .ok (.iastore, 1) := by decide +kernel
theorem dX2_move_42 : decode cX2_move 42 = .ok (.return_, 1) := by decide +kernel
theorem dX2_knowsOfThing_0 : decode cX2_knowsOfThing 0 = .ok (.iload_n 1, 1) := by decide +kernel
theorem dX2_knowsOfThing_1 : decode cX2_knowsOfThing 1 = .ok (.tableswitch 87 2 5 #[31, 53, 67, 72], 31) := by decide +kernel
theorem dX2_knowsOfThing_32 : decode cX2_knowsOfThing 32 = .ok (.aload_n 0, 1) := by decide +kernel
theorem dX2_knowsOfThing_33 : decode cX2_knowsOfThing 33 = .ok (.getfield 44, 3) := by decide +kernel
theorem dX2_knowsOfThing_36 : decode cX2_knowsOfThing 36 = .ok (.iconst 2, 1) := by decide +kernel
theorem dX2_knowsOfThing_37 : decode cX2_knowsOfThing 37 = .ok (.if_icmp .eq 11, 3) := by decide +kernel
theorem dX2_knowsOfThing_40 : decode cX2_knowsOfThing 40 = .ok (.aload_n 0, 1) := by decide +kernel
theorem dX2_knowsOfThing_41 : decode cX2_knowsOfThing 41 = .ok (.getfield 44, 3) := by decide +kernel
theorem dX2_knowsOfThing_44 : decode cX2_knowsOfThing 44 = .ok (.iconst 3, 1) := by decide +kernel
theorem dX2_knowsOfThing_45 : decode cX2_knowsOfThing 45 = .ok (.if_icmp .ne 7, 3) := by decide +kernel
theorem dX2_knowsOfThing_48 : decode cX2_knowsOfThing 48 = .ok (.iconst 1, 1) := by decide +kernel
theorem dX2_knowsOfThing_49 : decode cX2_knowsOfThing 49 = .ok (.goto 4, 3) := by decide +kernel
theorem dX2_knowsOfThing_52 : decode cX2_knowsOfThing 52 = .ok (.iconst 0, 1) := by decide +kernel
theorem dX2_knowsOfThing_53 : decode cX2_knowsOfThing 53 = .ok (.ireturn, 1) := by decide +kernel
theorem dX2_knowsOfThing_54 : decode cX2_knowsOfThing 54 = .ok (.aload_n 0, 1) := by decide +kernel
theorem dX2_knowsOfThing_55 : decode cX2_knowsOfThing 55 = .ok (.getfield 44, 3) := by decide +kernel
theorem dX2_knowsOfThing_58 : decode cX2_knowsOfThing 58 = .ok (.iconst 3, 1) := by decide +kernel
theorem dX2_knowsOfThing_59 : decode cX2_knowsOfThing 59 = .ok (.if_icmp .ne 7, 3) := by decide +kernel
theorem dX2_knowsOfThing_62 : decode cX2_knowsOfThing 62 = .ok (.iconst 1, 1) := by decide +kernel
theorem dX2_knowsOfThing_63 : decode cX2_knowsOfThing 63 = .ok (.goto 4, 3) := by decide +kernel
theorem dX2_knowsOfThing_66 : decode cX2_knowsOfThing 66 = .ok (.iconst 0, 1) := by decide +kernel
theorem dX2_knowsOfThing_67 : decode cX2_knowsOfThing 67 = .ok (.ireturn, 1) := by decide +kernel
theorem dX2_knowsOfThing_68 : decode cX2_knowsOfThing 68 = .ok (.aload_n 0, 1) := by decide +kernel
theorem dX2_knowsOfThing_69 : decode cX2_knowsOfThing 69 = .ok (.invokevirtual 112, 3) := by decide +kernel
theorem dX2_knowsOfThing_72 : decode cX2_knowsOfThing 72 = .ok (.ireturn, 1) := by decide +kernel
theorem dX2_knowsOfThing_73 : decode cX2_knowsOfThing 73 = .ok (.aload_n 0, 1) := by decide +kernel
theorem dX2_knowsOfThing_74 : decode cX2_knowsOfThing 74 = .ok (.getfield 44, 3) := by decide +kernel
theorem dX2_knowsOfThing_77 : decode cX2_knowsOfThing 77 = .ok (.bipush 7, 2) := by decide +kernel
theorem dX2_knowsOfThing_79 : decode cX2_knowsOfThing 79 = .ok (.if_icmp .ne 7, 3) := by decide +kernel
theorem dX2_knowsOfThing_82 : decode cX2_knowsOfThing 82 = .ok (.iconst 1, 1) := by decide +kernel
theorem dX2_knowsOfThing_83 : decode cX2_knowsOfThing 83 = .ok (.goto 4, 3) := by decide +kernel
theorem dX2_knowsOfThing_86 : decode cX2_knowsOfThing 86 = .ok (.iconst 0, 1) := by decide +kernel
theorem dX2_knowsOfThing_87 : decode cX2_knowsOfThing 87 = .ok (.ireturn, 1) := by decide +kernel
theorem dX2_knowsOfThing_88 : decode cX2_knowsOfThing 88 = .ok (.iconst 1, 1) := by decide +kernel
theorem dX2_knowsOfThing_89 : decode cX2_knowsOfThing 89 = .ok (.ireturn, 1) := by decide +kernel
theorem dX2_tellOfThing_0 : decode cX2_tellOfThing 0 = .ok (.iload_n 2, 1) := by decide +kernel
theorem dX2_tellOfThing_1 : decode cX2_tellOfThing 1 = .ok (.tableswitch 103 0 4 #[35, 49, 68, 77, 96], 35) := by decide +kernel
theorem dX2_tellOfThing_36 : decode cX2_tellOfThing 36 = .ok (.aload_n 0, 1) := by decide +kernel
theorem dX2_tellOfThing_37 : decode cX2_tellOfThing 37 = .ok (.iload_n 1, 1) := by decide +kernel
theorem dX2_tellOfThing_38 : decode cX2_tellOfThing 38 = .ok (.invokevirtual 98, 3) := by decide +kernel
theorem dX2_tellOfThing_41 : decode cX2_tellOfThing 41 = .ok (.ifCond .eq 7, 3) := by decide +kernel
theorem dX2_tellOfThing_44 : decode cX2_tellOfThing 44 = .ok (.iconst 1, 1) := by decide +kernel
theorem dX2_tellOfThing_45 : decode cX2_tellOfThing 45 = .ok (.goto 4, 3) := by decide +kernel
theorem dX2_tellOfThing_48 : decode cX2_tellOfThing 48 = .ok (.iconst 0, 1) := by decide +kernel
theorem dX2_tellOfThing_49 : decode cX2_tellOfThing 49 = .ok (.ireturn, 1) := by decide +kernel
theorem dX2_tellOfThing_50 : decode cX2_tellOfThing 50 = .ok (.aload_n 0, 1) := by decide +kernel
theorem dX2_tellOfThing_51 : decode cX2_tellOfThing 51 = .ok (.iload_n 1, 1) := by decide +kernel
theorem dX2_tellOfThing_52 : decode cX2_tellOfThing 52 = .ok (.invokevirtual 98, 3) := by decide +kernel
theorem dX2_tellOfThing_55 : decode cX2_tellOfThing 55 = .ok (.ifCond .eq 12, 3) := by decide +kernel
theorem dX2_tellOfThing_58 : decode cX2_tellOfThing 58 = .ok (.aload_n 0, 1) := by decide +kernel
theorem dX2_tellOfThing_59 : decode cX2_tellOfThing 59 = .ok (.getfield 24, 3) := by decide +kernel
theorem dX2_tellOfThing_62 : decode cX2_tellOfThing 62 = .ok (.iload_n 1, 1) := by decide +kernel
theorem dX2_tellOfThing_63 : decode cX2_tellOfThing 63 = .ok (.iaload, 1) := by decide +kernel
theorem dX2_tellOfThing_64 : decode cX2_tellOfThing 64 = .ok (.goto 4, 3) := by decide +kernel
theorem dX2_tellOfThing_67 : decode cX2_tellOfThing 67 = .ok (.iconst 0, 1) := by decide +kernel
theorem dX2_tellOfThing_68 : decode cX2_tellOfThing 68 = .ok (.ireturn, 1) := by decide +kernel
theorem dX2_tellOfThing_69 : decode cX2_tellOfThing 69 = .ok (.aload_n 0, 1) := by decide +kernel
theorem dX2_tellOfThing_70 : decode cX2_tellOfThing 70 = .ok (.getfield 56, 3) := by decide +kernel
theorem dX2_tellOfThing_73 : decode cX2_tellOfThing 73 = .ok (.iload_n 1, 1) := by decide +kernel
theorem dX2_tellOfThing_74 : decode cX2_tellOfThing 74 = .ok (.ishr, 1) := by decide +kernel
theorem dX2_tellOfThing_75 : decode cX2_tellOfThing 75 = .ok (.iconst 1, 1) := by decide +kernel
theorem dX2_tellOfThing_76 : decode cX2_tellOfThing 76 = .ok (.iand, 1) := by decide +kernel
theorem dX2_tellOfThing_77 : decode cX2_tellOfThing 77 = .ok (.ireturn, 1) := by decide +kernel
theorem dX2_tellOfThing_78 : decode cX2_tellOfThing 78 = .ok (.aload_n 0, 1) := by decide +kernel
theorem dX2_tellOfThing_79 : decode cX2_tellOfThing 79 = .ok (.iload_n 1, 1) := by decide +kernel
theorem dX2_tellOfThing_80 : decode cX2_tellOfThing 80 = .ok (.invokevirtual 98, 3) := by decide +kernel
theorem dX2_tellOfThing_83 : decode cX2_tellOfThing 83 = .ok (.ifCond .eq 12, 3) := by decide +kernel
theorem dX2_tellOfThing_86 : decode cX2_tellOfThing 86 = .ok (.aload_n 0, 1) := by decide +kernel
theorem dX2_tellOfThing_87 : decode cX2_tellOfThing 87 = .ok (.getfield 30, 3) := by decide +kernel
theorem dX2_tellOfThing_90 : decode cX2_tellOfThing 90 = .ok (.iload_n 1, 1) := by decide +kernel
theorem dX2_tellOfThing_91 : decode cX2_tellOfThing 91 = .ok (.iaload, 1) := by decide +kernel
theorem dX2_tellOfThing_92 : decode cX2_tellOfThing 92 = .ok (.goto 4, 3) := by decide +kernel
theorem dX2_tellOfThing_95 : decode cX2_tellOfThing 95 = .ok (.iconst (-1), 1) := by decide +kernel
theorem dX2_tellOfThing_96 : decode cX2_tellOfThing 96 = .ok (.ireturn, 1) := by decide +kernel
theorem dX2_tellOfThing_97 : decode cX2_tellOfThing 97 = .ok (.aload_n 0, 1) := by decide +kernel
theorem dX2_tellOfThing_98 : decode cX2_tellOfThing 98 = .ok (.getfield 9, 3) := by decide +kernel
theorem dX2_tellOfThing_101 : decode cX2_tellOfThing 101 = .ok (.iload_n 1, 1) := by decide +kernel
theorem dX2_tellOfThing_102 : decode cX2_tellOfThing 102 = .ok (.iaload, 1) := by decide +kernel
theorem dX2_tellOfThing_103 : decode cX2_tellOfThing 103 = .ok (.ireturn, 1) := by decide +kernel
theorem dX2_tellOfThing_104 : decode cX2_tellOfThing 104 = .ok (.aload_n 0, 1) := by decide +kernel
theorem dX2_tellOfThing_105 : decode cX2_tellOfThing 105 = .ok (.iload_n 1, 1) := by decide +kernel
theorem dX2_tellOfThing_106 : decode cX2_tellOfThing 106 = .ok (.invokevirtual 98, 3) := by decide +kernel
theorem dX2_tellOfThing_109 : decode cX2_tellOfThing 109 = .ok (.ifCond .eq 12, 3) := by decide +kernel
theorem dX2_tellOfThing_112 : decode cX2_tellOfThing 112 = .ok (.aload_n 0, 1) := by decide +kernel
theorem dX2_tellOfThing_113 : decode cX2_tellOfThing 113 = .ok (.getfield 27, 3) := by decide +kernel
theorem dX2_tellOfThing_116 : decode cX2_tellOfThing 116 = .ok (.iload_n 1, 1) := by decide +kernel
theorem dX2_tellOfThing_117 : decode cX2_tellOfThing 117 = .ok (.iaload, 1) := by decide +kernel
theorem dX2_tellOfThing_118 : decode cX2_tellOfThing 118 = .ok (.goto 4, 3) := by decide +kernel
theorem dX2_tellOfThing_121 : decode cX2_tellOfThing 121 = .ok (.iconst 0, 1) := by decide +kernel
theorem dX2_tellOfThing_122 : decode cX2_tellOfThing 122 = .ok (.ireturn, 1) := by decide +kernel
theorem dX2_knowsOfAll_0 : decode cX2_knowsOfAll 0 = .ok (.iload_n 1, 1) := by decide +kernel
theorem dX2_knowsOfAll_1 : decode cX2_knowsOfAll 1 = .ok (.tableswitch 89 1 4 #[31, 45, 59, 74], 31) := by decide +kernel
theorem dX2_knowsOfAll_32 : decode cX2_knowsOfAll 32 = .ok (.aload_n 0, 1) := by decide +kernel
theorem dX2_knowsOfAll_33 : decode cX2_knowsOfAll 33 = .ok (.getfield 44, 3) := by decide +kernel
theorem dX2_knowsOfAll_36 : decode cX2_knowsOfAll 36 = .ok (.iconst 2, 1) := by decide +kernel
theorem dX2_knowsOfAll_37 : decode cX2_knowsOfAll 37 = .ok (.if_icmp .ne 7, 3) := by decide +kernel
theorem dX2_knowsOfAll_40 : decode cX2_knowsOfAll 40 = .ok (.iconst 1, 1) := by decide +kernel
theorem dX2_knowsOfAll_41 : decode cX2_knowsOfAll 41 = .ok (.goto 4, 3) := by decide +kernel
theorem dX2_knowsOfAll_44 : decode cX2_knowsOfAll 44 = .ok (.iconst 0, 1) := by decide +kernel
theorem dX2_knowsOfAll_45 : decode cX2_knowsOfAll 45 = .ok (.ireturn, 1) := by decide +kernel
theorem dX2_knowsOfAll_46 : decode cX2_knowsOfAll 46 = .ok (.aload_n 0, 1) := by decide +kernel
theorem dX2_knowsOfAll_47 : decode cX2_knowsOfAll 47 = .ok (.getfield 44, 3) := by decide +kernel
theorem dX2_knowsOfAll_50 : decode cX2_knowsOfAll 50 = .ok (.iconst 3, 1) := by decide +kernel
theorem dX2_knowsOfAll_51 : decode cX2_knowsOfAll 51 = .ok (.if_icmp .ne 7, 3) := by decide +kernel
theorem dX2_knowsOfAll_54 : decode cX2_knowsOfAll 54 = .ok (.iconst 1, 1) := by decide +kernel
theorem dX2_knowsOfAll_55 : decode cX2_knowsOfAll 55 = .ok (.goto 4, 3) := by decide +kernel
theorem dX2_knowsOfAll_58 : decode cX2_knowsOfAll 58 = .ok (.iconst 0, 1) := by decide +kernel
theorem dX2_knowsOfAll_59 : decode cX2_knowsOfAll 59 = .ok (.ireturn, 1) := by decide +kernel
theorem dX2_knowsOfAll_60 : decode cX2_knowsOfAll 60 = .ok (.aload_n 0, 1) := by decide +kernel
theorem dX2_knowsOfAll_61 : decode cX2_knowsOfAll 61 = .ok (.getfield 44, 3) := by decide +kernel
theorem dX2_knowsOfAll_64 : decode cX2_knowsOfAll 64 = .ok (.bipush 6, 2) := by decide +kernel
theorem dX2_knowsOfAll_66 : decode cX2_knowsOfAll 66 = .ok (.if_icmp .ne 7, 3) := by decide +kernel
theorem dX2_knowsOfAll_69 : decode cX2_knowsOfAll 69 = .ok (.iconst 1, 1) := by decide +kernel
theorem dX2_knowsOfAll_70 : decode cX2_knowsOfAll 70 = .ok (.goto 4, 3) := by decide +kernel
theorem dX2_knowsOfAll_73 : decode cX2_knowsOfAll 73 = .ok (.iconst 0, 1) := by decide +kernel
theorem dX2_knowsOfAll_74 : decode cX2_knowsOfAll 74 = .ok (.ireturn, 1) := by decide +kernel
theorem dX2_knowsOfAll_75 : decode cX2_knowsOfAll 75 = .ok (.aload_n 0, 1) := by decide +kernel
theorem dX2_knowsOfAll_76 : decode cX2_knowsOfAll 76 = .ok (.getfield 44, 3) := by decide +kernel
theorem dX2_knowsOfAll_79 : decode cX2_knowsOfAll 79 = .ok (.bipush 7, 2) := by decide +kernel
theorem dX2_knowsOfAll_81 : decode cX2_knowsOfAll 81 = .ok (.if_icmp .ne 7, 3) := by decide +kernel
theorem dX2_knowsOfAll_84 : decode cX2_knowsOfAll 84 = .ok (.iconst 1, 1) := by decide +kernel
theorem dX2_knowsOfAll_85 : decode cX2_knowsOfAll 85 = .ok (.goto 4, 3) := by decide +kernel
theorem dX2_knowsOfAll_88 : decode cX2_knowsOfAll 88 = .ok (.iconst 0, 1) := by decide +kernel
theorem dX2_knowsOfAll_89 : decode cX2_knowsOfAll 89 = .ok (.ireturn, 1) := by decide +kernel
theorem dX2_knowsOfAll_90 : decode cX2_knowsOfAll 90 = .ok (.iconst 1, 1) := by decide +kernel
theorem dX2_knowsOfAll_91 : decode cX2_knowsOfAll 91 = .ok (.ireturn, 1) := by decide +kernel
theorem dX2_tellOfAll_0 : decode cX2_tellOfAll 0 = .ok (.iload_n 1, 1) := by decide +kernel
theorem dX2_tellOfAll_1 : decode cX2_tellOfAll 1 = .ok (.tableswitch 51 1 4 #[31, 36, 41, 46], 31) := by decide +kernel
theorem dX2_tellOfAll_32 : decode cX2_tellOfAll 32 = .ok (.aload_n 0, 1) := by decide +kernel
theorem dX2_tellOfAll_33 : decode cX2_tellOfAll 33 = .ok (.getfield 59, 3) := by decide +kernel
theorem dX2_tellOfAll_36 : decode cX2_tellOfAll 36 = .ok (.ireturn, 1) := by decide +kernel
theorem dX2_tellOfAll_37 : decode cX2_tellOfAll 37 = .ok (.aload_n 0, 1) := by decide +kernel
theorem dX2_tellOfAll_38 : decode cX2_tellOfAll 38 = .ok (.getfield 62, 3) := by decide +kernel
theorem dX2_tellOfAll_41 : decode cX2_tellOfAll 41 = .ok (.ireturn, 1) := by decide +kernel
theorem dX2_tellOfAll_42 : decode cX2_tellOfAll 42 = .ok (.aload_n 0, 1) := by decide +kernel
theorem dX2_tellOfAll_43 : decode cX2_tellOfAll 43 = .ok (.getfield 65, 3) := by decide +kernel
theorem dX2_tellOfAll_46 : decode cX2_tellOfAll 46 = .ok (.ireturn, 1) := by decide +kernel
theorem dX2_tellOfAll_47 : decode cX2_tellOfAll 47 = .ok (.aload_n 0, 1) := by decide +kernel
theorem dX2_tellOfAll_48 : decode cX2_tellOfAll 48 = .ok (.getfield 68, 3) := by decide +kernel
theorem dX2_tellOfAll_51 : decode cX2_tellOfAll 51 = .ok (.ireturn, 1) := by decide +kernel
theorem dX2_tellOfAll_52 : decode cX2_tellOfAll 52 = .ok (.aload_n 0, 1) := by decide +kernel
theorem dX2_tellOfAll_53 : decode cX2_tellOfAll 53 = .ok (.invokevirtual 122, 3) := by decide +kernel
theorem dX2_tellOfAll_56 : decode cX2_tellOfAll 56 = .ok (.ireturn, 1) := by decide +kernel
end
section
theorem dX3_init_0 : decode cX3_init 0 = .ok (.aload_n 0, 1) := by decide +kernel
theorem dX3_init_1 : decode cX3_init 1 = .ok (.invokespecial 1, 3) := by decide +kernel
theorem dX3_init_4 : decode cX3_init 4 = .ok (.aload_n 0, 1) := by decide +kernel
theorem dX3_init_5 : decode cX3_init 5 = .ok (.new 7, 3) := by decide +kernel
theorem dX3_init_8 : decode cX3_init 8 = .ok (.dup, 1) := by decide +kernel
theorem dX3_init_9 : decode cX3_init 9 = .ok (.invokespecial 9, 3) := by decide +kernel
theorem dX3_init_12 : decode cX3_init 12 = .ok (.putfield 10, 3) := by decide +kernel
theorem dX3_init_15 : decode cX3_init 15 = .ok (.aload_n 0, 1) := by decide +kernel
theorem dX3_init_16 : decode cX3_init 16 = .ok (.new 16, 3) := by decide +kernel
theorem dX3_init_19 : decode cX3_init 19 = .ok (.dup, 1) := by decide +kernel
theorem dX3_init_20 : decode cX3_init 20 = .ok (.aload_n 0, 1) := by decide +kernel
theorem dX3_init_21 : decode cX3_init 21 = .ok (.getfield 10, 3) := by decide +kernel
theorem dX3_init_24 : decode cX3_init 24 = .ok (.invokespecial 18, 3) := by decide +kernel
theorem dX3_init_27 : decode cX3_init 27 = .ok (.putfield 21, 3) := by decide +kernel
theorem dX3_init_30 : decode cX3_init 30 = .ok (.aload_n 0, 1) := by decide +kernel
theorem dX3_init_31 : decode cX3_init 31 = .ok (.new 16, 3) := by decide +kernel
theorem dX3_init_34 : decode cX3_init 34 = .ok (.dup, 1) := by decide +kernel
theorem dX3_init_35 : decode cX3_init 35 = .ok (.aload_n 0, 1) := by decide +kernel
theorem dX3_init_36 : decode cX3_init 36 = .ok (.getfield 10, 3) := by decide +kernel
theorem dX3_init_39 : decode cX3_init 39 = .ok (.invokespecial 18, 3) := by decide +kernel
theorem dX3_init_42 : decode cX3_init 42 = .ok (.putfield 25, 3) := by decide +kernel
theorem dX3_init_45 : decode cX3_init 45 = .ok (.aload_n 0, 1) := by decide +kernel
theorem dX3_init_46 : decode cX3_init 46 = .ok (.new 28, 3) := by decide +kernel
theorem dX3_init_49 : decode cX3_init 49 = .ok (.dup, 1) := by decide +kernel
theorem dX3_init_50 : decode cX3_init 50 = .ok (.aload_n 0, 1) := by decide +kernel
theorem dX3_init_51 : decode cX3_init 51 = .ok (.getfield 10, 3) := by decide +kernel
theorem dX3_init_54 : decode cX3_init 54 = .ok (.invokespecial 30, 3) := by decide +kernel
theorem dX3_init_57 : decode cX3_init 57 = .ok (.putfield 31, 3) := by decide +kernel
theorem dX3_init_60 : decode cX3_init 60 = .ok (.aload_n 0, 1) := by decide +kernel
theorem dX3_init_61 : decode cX3_init 61 = .ok (.iconst 5, 1) := by decide +kernel
theorem dX3_init_62 : decode cX3_init 62 = .ok (.newarray .int, 2) := by decide +kernel
theorem dX3_init_64 : decode cX3_init 64 = .ok (.putfield 35, 3) := by decide +kernel
theorem dX3_init_67 : decode cX3_init 67 = .ok (.aload_n 0, 1) := by decide +kernel
theorem dX3_init_68 : decode cX3_init 68 = .ok (.sipush 300, 3) := by decide +kernel
theorem dX3_init_71 : decode cX3_init 71 = .ok (.newarray .int, 2) := by decide +kernel
theorem dX3_init_73 : decode cX3_init 73 = .ok (.putfield 39, 3) := by decide +kernel
theorem dX3_init_76 : decode cX3_init 76 = .ok (.aload_n 0, 1) := by decide +kernel
theorem dX3_init_77 : decode cX3_init 77 = .ok (.sipush 300, 3) := by decide +kernel
theorem dX3_init_80 : decode cX3_init 80 = .ok (.newarray .int, 2) := by decide +kernel
theorem dX3_init_82 : decode cX3_init 82 = .ok (.putfield 42, 3) := by decide +kernel
theorem dX3_init_85 : decode cX3_init 85 = .ok (.aload_n 0, 1) := by decide +kernel
theorem dX3_init_86 : decode cX3_init 86 = .ok (.sipush 300, 3) := by decide +kernel
theorem dX3_init_89 : decode cX3_init 89 = .ok (.newarray .int, 2) := by decide +kernel
theorem dX3_init_91 : decode cX3_init 91 = .ok (.putfield 45, 3) := by decide +kernel
theorem dX3_init_94 : decode cX3_init 94 = .ok (.aload_n 0, 1) := by decide +kernel
theorem dX3_init_95 : decode cX3_init 95 = .ok (.iconst 0, 1) := by decide +kernel
theorem dX3_init_96 : decode cX3_init 96 = .ok (.putfield 48, 3) := by decide +kernel
theorem dX3_init_99 : decode cX3_init 99 = .ok (.aload_n 0, 1) := by decide +kernel
theorem dX3_init_100 : decode cX3_init 100 = .ok (.iconst 0, 1) := by decide +kernel
theorem dX3_init_101 : decode cX3_init 101 = .ok (.putfield 52, 3) := by decide +kernel
theorem dX3_init_104 : decode cX3_init 104 = .ok (.return_, 1) := by decide +kernel
theorem dX3_price_0 : decode cX3_price 0 = .ok (.iload_n 1, 1) := by decide +kernel
theorem dX3_price_1 : decode cX3_price 1 = .ok (.invokestatic 56, 3) := by decide +kernel
theorem dX3_price_4 : decode cX3_price 4 = .ok (.ifCond .eq 15, 3) := by decide +kernel
theorem dX3_price_7 : decode cX3_price 7 = .ok (.iload_n 2, 1) := by decide +kernel
theorem dX3_price_8 : decode cX3_price 8 = .ok (.iconst 1, 1) := by decide +kernel
theorem dX3_price_9 : decode cX3_price 9 = .ok (.if_icmp .lt 10, 3) := by decide +kernel
theorem dX3_price_12 : decode cX3_price 12 = .ok (.iload_n 2, 1) := by decide +kernel
theorem dX3_price_13 : decode cX3_price 13 = .ok (.sipush 1000, 3) := by decide +kernel
theorem dX3_price_16 : decode cX3_price 16 = .ok (.if_icmp .le 5, 3) := by decide +kernel
theorem dX3_price_19 : decode cX3_price 19 = .ok (.iconst (-1), 1) := by decide +kernel
theorem dX3_price_20 : decode cX3_price 20 = .ok (.ireturn, 1) := by decide +kernel
theorem dX3_price_21 : decode cX3_price 21 = .ok (.aload_n 0, 1) := by decide +kernel
theorem dX3_price_22 : decode cX3_price 22 = .ok (.getfield 10, 3) := by decide +kernel
theorem dX3_price_25 : decode cX3_price 25 = .ok (.getfield 60, 3) := by decide +kernel
theorem dX3_price_28 : decode cX3_price 28 = .ok (.iload_n 1, 1) := by decide +kernel
theorem dX3_price_29 : decode cX3_price 29 = .ok (.iload_n 2, 1) := by decide +kernel
theorem dX3_price_30 : decode cX3_price 30 = .ok (.iastore, 1) := by decide +kernel
theorem dX3_price_31 : decode cX3_price 31 = .ok (.aload_n 0, 1) := by decide +kernel
theorem dX3_price_32 : decode cX3_price 32 = .ok (.invokevirtual 63, 3) := by decide +kernel
theorem dX3_price_35 : decode cX3_price 35 = .ok (.iconst 1, 1) := by decide +kernel
theorem dX3_price_36 : decode cX3_price 36 = .ok (.ireturn, 1) := by decide +kernel
theorem dX3_ask_0 : decode cX3_ask 0 = .ok (.aload_n 0, 1) := by decide +kernel
theorem dX3_ask_1 : decode cX3_ask 1 = .ok (.getfield 35, 3) := by decide +kernel
theorem dX3_ask_4 : decode cX3_ask 4 = .ok (.iconst 0, 1) := by decide +kernel
theorem dX3_ask_5 : decode cX3_ask 5 = .ok (.iload_n 1, 1) := by decide +kernel
theorem dX3_ask_6 : decode cX3_ask 6 = .ok (.iastore, 1) := by decide +kernel
theorem dX3_ask_7 : decode cX3_ask 7 = .ok (.aload_n 0, 1) := by decide +kernel
theorem dX3_ask_8 : decode cX3_ask 8 = .ok (.getfield 35, 3) := by decide +kernel
theorem dX3_ask_11 : decode cX3_ask 11 = .ok (.iconst 1, 1) := by decide +kernel
theorem dX3_ask_12 : decode cX3_ask 12 = .ok (.iload_n 2, 1) := by decide +kernel
theorem dX3_ask_13 : decode cX3_ask 13 = .ok (.iastore, 1) := by decide +kernel
theorem dX3_ask_14 : decode cX3_ask 14 = .ok (.aload_n 0, 1) := by decide +kernel
theorem dX3_ask_15 : decode cX3_ask 15 = .ok (.getfield 35, 3) := by decide +kernel
theorem dX3_ask_18 : decode cX3_ask 18 = .ok (.iconst 2, 1) := by decide +kernel
theorem dX3_ask_19 : decode cX3_ask 19 = .ok (.iload_n 3, 1) := by decide +kernel
theorem dX3_ask_20 : decode cX3_ask 20 = .ok (.iastore, 1) := by decide +kernel
theorem dX3_ask_21 : decode cX3_ask 21 = .ok (.aload_n 0, 1) := by decide +kernel
theorem dX3_ask_22 : decode cX3_ask 22 = .ok (.getfield 35, 3) := by decide +kernel
theorem dX3_ask_25 : decode cX3_ask 25 = .ok (.iconst 3, 1) := by decide +kernel
theorem dX3_ask_26 : decode cX3_ask 26 = .ok (.iload 4, 2) := by decide +kernel
theorem dX3_ask_28 : decode cX3_ask 28 = .ok (.iastore, 1) := by decide +kernel
theorem dX3_ask_29 : decode cX3_ask 29 = .ok (.aload_n 0, 1) := by decide +kernel
theorem dX3_ask_30 : decode cX3_ask 30 = .ok (.getfield 35, 3) := by decide +kernel
theorem dX3_ask_33 : decode cX3_ask 33 = .ok (.iconst 4, 1) := by decide +kernel
theorem dX3_ask_34 : decode cX3_ask 34 = .ok (.iload 5, 2) := by decide +kernel
theorem dX3_ask_36 : decode cX3_ask 36 = .ok (.iastore, 1) := by decide +kernel
theorem dX3_ask_37 : decode cX3_ask 37 = .ok (.iconst 0, 1) := by decide +kernel
theorem dX3_ask_38 : decode cX3_ask 38 = .ok (.istore 6, 2) := by decide +kernel
theorem dX3_ask_40 : decode cX3_ask 40 = .ok (.iload 6, 2) := by decide +kernel
theorem dX3_ask_42 : decode cX3_ask 42 = .ok (.aload_n 0, 1) := by decide +kernel
theorem dX3_ask_43 : decode cX3_ask 43 = .ok (.getfield 35, 3) := by decide +kernel
theorem dX3_ask_46 : decode cX3_ask 46 = .ok (.arraylength, 1) := by decide +kernel
theorem dX3_ask_47 : decode cX3_ask 47 = .ok (.if_icmp .ge 35, 3) := by decide +kernel
theorem dX3_ask_50 : decode cX3_ask 50 = .ok (.aload_n 0, 1) := by decide +kernel
theorem dX3_ask_51 : decode cX3_ask 51 = .ok (.getfield 35, 3) := by decide +kernel
theorem dX3_ask_54 : decode cX3_ask 54 = .ok (.iload 6, 2) := by decide +kernel
theorem dX3_ask_56 : decode cX3_ask 56 = .ok (.iaload, 1) := by decide +kernel
theorem dX3_ask_57 : decode cX3_ask 57 = .ok (.iconst (-1), 1) := by decide +kernel
theorem dX3_ask_58 : decode cX3_ask 58 = .ok (.if_icmp .eq 24, 3) := by decide +kernel
theorem dX3_ask_61 : decode cX3_ask 61 = .ok (.aload_n 0, 1) := by decide +kernel
theorem dX3_ask_62 : decode cX3_ask 62 = .ok (.getfield 35, 3) := by decide +kernel
theorem dX3_ask_65 : decode cX3_ask 65 = .ok (.iload 6, 2) := by decide +kernel
theorem dX3_ask_67 : decode cX3_ask 67 = .ok (.iaload, 1) := by decide +kernel
theorem dX3_ask_68 : decode cX3_ask 68 = .ok (.invokestatic 56, 3) := by decide +kernel
theorem dX3_ask_71 : decode cX3_ask 71 = .ok (.ifCond .ne 5, 3) := by decide +kernel
theorem dX3_ask_74 : decode cX3_ask 74 = .ok (.iconst (-1), 1) := by decide +kernel
theorem dX3_ask_75 : decode cX3_ask 75 = .ok (.ireturn, 1) := by decide +kernel
theorem dX3_ask_76 : decode cX3_ask 76 = .ok (.iinc 6 1, 3) := by decide +kernel
theorem dX3_ask_79 : decode cX3_ask 79 = .ok (.goto (-39), 3) := by decide +kernel
theorem dX3_ask_82 : decode cX3_ask 82 = .ok (.aload_n 0, 1) := by decide +kernel
theorem dX3_ask_83 : decode cX3_ask 83 = .ok (.getfield 10, 3) := by decide +kernel
theorem dX3_ask_86 : decode cX3_ask 86 = .ok (.getfield 66, 3) := by decide +kernel
theorem dX3_ask_89 : decode cX3_ask 89 = .ok (.iload 6, 2) := by decide +kernel
theorem dX3_ask_91 : decode cX3_ask 91 = .ok (.iadd, 1) := by decide +kernel
theorem dX3_ask_92 : decode cX3_ask 92 = .ok (.sipush 300, 3) := by decide +kernel
theorem dX3_ask_95 : decode cX3_ask 95 = .ok (.if_icmp .le 6, 3) := by decide +kernel
theorem dX3_ask_98 : decode cX3_ask 98 = .ok (.bipush (-2), 2) := by decide +kernel
theorem dX3_ask_100 : decode cX3_ask 100 = .ok (.ireturn, 1) := by decide +kernel
theorem dX3_ask_101 : decode cX3_ask 101 = .ok (.iconst 0, 1) := by decide +kernel
theorem dX3_ask_102 : decode cX3_ask 102 = .ok (.istore 7, 2) := by decide +kernel
theorem dX3_ask_104 : decode cX3_ask 104 = .ok (.iload 7, 2) := by decide +kernel
theorem dX3_ask_106 : decode cX3_ask 106 = .ok (.iload 6, 2) := by decide +kernel
theorem dX3_ask_108 : decode cX3_ask 108 = .ok (.if_icmp .ge 23, 3) := by decide +kernel
theorem dX3_ask_111 : decode cX3_ask 111 = .ok (.aload_n 0, 1) := by decide +kernel
theorem dX3_ask_112 : decode cX3_ask 112 = .ok (.getfield 10, 3) := by decide +kernel
theorem dX3_ask_115 : decode cX3_ask 115 = .ok (.aload_n 0, 1) := by decide +kernel
theorem dX3_ask_116 : decode cX3_ask 116 = .ok (.getfield 35, 3) := by decide +kernel
theorem dX3_ask_119 : decode cX3_ask 119 = .ok (.iload 7, 2) := by decide +kernel
theorem dX3_ask_121 : decode cX3_ask 121 = .ok (.iaload, 1) := by decide +kernel
theorem dX3_ask_122 : decode cX3_ask 122 = .ok (.invokevirtual 69, 3) := by decide +kernel
theorem dX3_ask_125 : decode cX3_ask 125 = .ok (.iinc 7 1, 3) := by decide +kernel
theorem dX3_ask_128 : decode cX3_ask 128 = .ok (.goto (-24), 3) := by decide +kernel
theorem dX3_ask_131 : decode cX3_ask 131 = .ok (.aload_n 0, 1) := by decide +kernel
theorem dX3_ask_132 : decode cX3_ask 132 = .ok (.invokevirtual 63, 3) := by decide +kernel
theorem dX3_ask_135 : decode cX3_ask 135 = .ok (.aload_n 0, 1) := by decide +kernel
theorem dX3_ask_136 : decode cX3_ask 136 = .ok (.getfield 10, 3) := by decide +kernel
theorem dX3_ask_139 : decode cX3_ask 139 = .ok (.getfield 66, 3) := by decide +kernel
theorem dX3_ask_142 : decode cX3_ask 142 = .ok (.ireturn, 1) := by decide +kernel
theorem dX3_draw_0 : decode cX3_draw 0 = .ok (.iload_n 1, 1) := by decide +kernel
theorem dX3_draw_1 : decode cX3_draw 1 = .ok (.ifCond .lt 21, 3) := by decide +kernel
theorem dX3_draw_4 : decode cX3_draw 4 = .ok (.iload_n 1, 1) := by decide +kernel
theorem dX3_draw_5 : decode cX3_draw 5 = .ok (.sipush 300, 3) := by decide +kernel
theorem dX3_draw_8 : decode cX3_draw 8 = .ok (.if_icmp .gt 14, 3) := by decide +kernel
theorem dX3_draw_11 : decode cX3_draw 11 = .ok (.iload_n 2, 1) := by decide +kernel
theorem dX3_draw_12 : decode cX3_draw 12 = .ok (.iconst 1, 1) := by decide +kernel
theorem dX3_draw_13 : decode cX3_draw 13 = .ok (.if_icmp .lt 9, 3) := by decide +kernel
theorem dX3_draw_16 : decode cX3_draw 16 = .ok (.iload_n 2, 1) := by decide +kernel
theorem dX3_draw_17 : decode cX3_draw 17 = .ok (.bipush 16, 2) := by decide +kernel
theorem dX3_draw_19 : decode cX3_draw 19 = .ok (.if_icmp .le 5, 3) := by decide +kernel
theorem dX3_draw_22 : decode cX3_draw 22 = .ok (.iconst (-1), 1) := by decide +kernel
theorem dX3_draw_23 : decode cX3_draw 23 = .ok (.ireturn, 1) := by decide +kernel
theorem dX3_draw_24 : decode cX3_draw 24 = .ok (.aload_n 0, 1) := by decide +kernel
theorem dX3_draw_25 : decode cX3_draw 25 = .ok (.getfield 10, 3) := by decide +kernel
theorem dX3_draw_28 : decode cX3_draw 28 = .ok (.getfield 66, 3) := by decide +kernel
theorem dX3_draw_31 : decode cX3_draw 31 = .ok (.iload_n 1, 1) := by decide +kernel
theorem dX3_draw_32 : decode cX3_draw 32 = .ok (.iadd, 1) := by decide +kernel
theorem dX3_draw_33 : decode cX3_draw 33 = .ok (.sipush 300, 3) := by decide +kernel
theorem dX3_draw_36 : decode cX3_draw 36 = .ok (.if_icmp .le 6, 3) := by decide +kernel
theorem dX3_draw_39 : decode cX3_draw 39 = .ok (.bipush (-2), 2) := by decide +kernel
theorem dX3_draw_41 : decode cX3_draw 41 = .ok (.ireturn, 1) := by decide +kernel
theorem dX3_draw_42 : decode cX3_draw 42 = .ok (.iload_n 3, 1) := by decide +kernel
theorem dX3_draw_43 : decode cX3_draw 43 = .ok (.istore 4, 2) := by decide +kernel
theorem dX3_draw_45 : decode cX3_draw 45 = .ok (.iconst 0, 1) := by decide +kernel
theorem dX3_draw_46 : decode cX3_draw 46 = .ok (.istore 5, 2) := by decide +kernel
theorem dX3_draw_48 : decode cX3_draw 48 = .ok (.iload 5, 2) := by decide +kernel
theorem dX3_draw_50 : decode cX3_draw 50 = .ok (.iload_n 1, 1) := by decide +kernel
theorem dX3_draw_51 : decode cX3_draw 51 = .ok (.if_icmp .ge 34, 3) := by decide +kernel
theorem dX3_draw_54 : decode cX3_draw 54 = .ok (.ldc 73, 2) := by decide +kernel
theorem dX3_draw_56 : decode cX3_draw 56 = .ok (.iload 4, 2) := by decide +kernel
theorem dX3_draw_58 : decode cX3_draw 58 = .ok (.imul, 1) := by decide +kernel
theorem dX3_draw_59 : decode cX3_draw 59 = .ok (.sipush 12345, 3) := by decide +kernel
theorem dX3_draw_62 : decode cX3_draw 62 = .ok (.iadd, 1) := by decide +kernel
theorem dX3_draw_63 : decode cX3_draw 63 = .ok (.istore 4, 2) := by decide +kernel
theorem dX3_draw_65 : decode cX3_draw 65 = .ok (.aload_n 0, 1) := by decide +kernel
theorem dX3_draw_66 : decode cX3_draw 66 = .ok (.getfield 10, 3) := by decide +kernel
theorem dX3_draw_69 : decode cX3_draw 69 = .ok (.iload 4, 2) := by decide +kernel
theorem dX3_draw_71 : decode cX3_draw 71 = .ok (.bipush 16, 2) := by decide +kernel
theorem dX3_draw_73 : decode cX3_draw 73 = .ok (.iushr, 1) := by decide +kernel
theorem dX3_draw_74 : decode cX3_draw 74 = .ok (.iload_n 2, 1) := by decide +kernel
theorem dX3_draw_75 : decode cX3_draw 75 = .ok (.irem, 1) := by decide +kernel
theorem dX3_draw_76 : decode cX3_draw 76 = .ok (.invokevirtual 69, 3) := by decide +kernel
theorem dX3_draw_79 : decode cX3_draw 79 = .ok (.iinc 5 1, 3) := by decide +kernel
theorem dX3_draw_82 : decode cX3_draw 82 = .ok (.goto (-34), 3) := by decide +kernel
theorem dX3_draw_85 : decode cX3_draw 85 = .ok (.aload_n 0, 1) := by decide +kernel
theorem dX3_draw_86 : decode cX3_draw 86 = .ok (.invokevirtual 63, 3) := by decide +kernel
theorem dX3_draw_89 : decode cX3_draw 89 = .ok (.aload_n 0, 1) := by decide +kernel
theorem dX3_draw_90 : decode cX3_draw 90 = .ok (.getfield 10, 3) := by decide +kernel
theorem dX3_draw_93 : decode cX3_draw 93 = .ok (.getfield 66, 3) := by decide +kernel
theorem dX3_draw_96 : decode cX3_draw 96 = .ok (.ireturn, 1) := by decide +kernel
theorem dX3_change_0 : decode cX3_change 0 = .ok (.aload_n 0, 1) := by decide +kernel
theorem dX3_change_1 : decode cX3_change 1 = .ok (.getfield 10, 3) := by decide +kernel
theorem dX3_change_4 : decode cX3_change 4 = .ok (.iload_n 1, 1) := by decide +kernel
theorem dX3_change_5 : decode cX3_change 5 = .ok (.invokevirtual 74, 3) := by decide +kernel
theorem dX3_change_8 : decode cX3_change 8 = .ok (.ifCond .eq 10, 3) := by decide +kernel
theorem dX3_change_11 : decode cX3_change 11 = .ok (.iload_n 2, 1) := by decide +kernel
theorem dX3_change_12 : decode cX3_change 12 = .ok (.invokestatic 56, 3) := by decide +kernel
theorem dX3_change_15 : decode cX3_change 15 = .ok (.ifCond .ne 5, 3) := by decide +kernel
theorem dX3_change_18 : decode cX3_change 18 = .ok (.iconst (-1), 1) := by decide +kernel
theorem dX3_change_19 : decode cX3_change 19 = .ok (.ireturn, 1) := by decide +kernel
theorem dX3_change_20 : decode cX3_change 20 = .ok (.aload_n 0, 1) := by decide +kernel
theorem dX3_change_21 : decode cX3_change 21 = .ok (.getfield 10, 3) := by decide +kernel
theorem dX3_change_24 : decode cX3_change 24 = .ok (.getfield 77, 3) := by decide +kernel
theorem dX3_change_27 : decode cX3_change 27 = .ok (.iload_n 1, 1) := by decide +kernel
theorem dX3_change_28 : decode cX3_change 28 = .ok (.iload_n 2, 1) := by decide +kernel
theorem dX3_change_29 : decode cX3_change 29 = .ok (.iastore, 1) := by decide +kernel
theorem dX3_change_30 : decode cX3_change 30 = .ok (.aload_n 0, 1) := by decide +kernel
theorem dX3_change_31 : decode cX3_change 31 = .ok (.invokevirtual 63, 3) := by decide +kernel
theorem dX3_change_34 : decode cX3_change 34 = .ok (.iconst 1, 1) := by decide +kernel
theorem dX3_change_35 : decode cX3_change 35 = .ok (.ireturn, 1) := by decide +kernel
theorem dX3_cut_0 : decode cX3_cut 0 = .ok (.iload_n 1, 1) := by decide +kernel
theorem dX3_cut_1 : decode cX3_cut 1 = .ok (.ifCond .lt 14, 3) := by decide +kernel
theorem dX3_cut_4 : decode cX3_cut 4 = .ok (.iload_n 1, 1) := by decide +kernel
theorem dX3_cut_5 : decode cX3_cut 5 = .ok (.aload_n 0, 1) := by decide +kernel
theorem dX3_cut_6 : decode cX3_cut 6 = .ok (.getfield 10, 3) := by decide +kernel
theorem dX3_cut_9 : decode cX3_cut 9 = .ok (.getfield 66, 3) := by decide +kernel
theorem dX3_cut_12 : decode cX3_cut 12 = .ok (.if_icmp .le 5, 3) := by decide +kernel
theorem dX3_cut_15 : decode cX3_cut 15 = .ok (.iconst (-1), 1) := by decide +kernel
theorem dX3_cut_16 : decode cX3_cut 16 = .ok (.ireturn, 1) := by decide +kernel
theorem dX3_cut_17 : decode cX3_cut 17 = .ok (.aload_n 0, 1) := by decide +kernel
theorem dX3_cut_18 : decode cX3_cut 18 = .ok (.getfield 10, 3) := by decide +kernel
theorem dX3_cut_21 : decode cX3_cut 21 = .ok (.iload_n 1, 1) := by decide +kernel
theorem dX3_cut_22 : decode cX3_cut 22 = .ok (.putfield 66, 3) := by decide +kernel
theorem dX3_cut_25 : decode cX3_cut 25 = .ok (.aload_n 0, 1) := by decide +kernel
theorem dX3_cut_26 : decode cX3_cut 26 = .ok (.invokevirtual 63, 3) := by decide +kernel
theorem dX3_cut_29 : decode cX3_cut 29 = .ok (.iload_n 1, 1) := by decide +kernel
theorem dX3_cut_30 : decode cX3_cut 30 = .ok (.ireturn, 1) := by decide +kernel
theorem dX3_asked_0 : decode cX3_asked 0 = .ok (.aload_n 0, 1) := by decide +kernel
theorem dX3_asked_1 : decode cX3_asked 1 = .ok (.getfield 10, 3) := by decide +kernel
theorem dX3_asked_4 : decode cX3_asked 4 = .ok (.iload_n 1, 1) := by decide +kernel
theorem dX3_asked_5 : decode cX3_asked 5 = .ok (.invokevirtual 74, 3) := by decide +kernel
theorem dX3_asked_8 : decode cX3_asked 8 = .ok (.ifCond .eq 15, 3) := by decide +kernel
theorem dX3_asked_11 : decode cX3_asked 11 = .ok (.aload_n 0, 1) := by decide +kernel
theorem dX3_asked_12 : decode cX3_asked 12 = .ok (.getfield 10, 3) := by decide +kernel
theorem dX3_asked_15 : decode cX3_asked 15 = .ok (.getfield 77, 3) := by decide +kernel
theorem dX3_asked_18 : decode cX3_asked 18 = .ok (.iload_n 1, 1) := by decide +kernel
theorem dX3_asked_19 : decode cX3_asked 19 = .ok (.iaload, 1) := by decide +kernel
theorem dX3_asked_20 : decode cX3_asked 20 = .ok (.goto 4, 3) := by decide +kernel
theorem dX3_asked_23 : decode cX3_asked 23 = .ok (.iconst (-1), 1) := by decide +kernel
theorem dX3_asked_24 : decode cX3_asked 24 = .ok (.ireturn, 1) := by decide +kernel
theorem dX3_many_0 : decode cX3_many 0 = .ok (.iload_n 1, 1) := by decide +kernel
theorem dX3_many_1 : decode cX3_many 1 = .ok (.tableswitch 60 0 3 #[31, 39, 47, 52], 31) := by decide +kernel
theorem dX3_many_32 : decode cX3_many 32 = .ok (.aload_n 0, 1) := by decide +kernel
theorem dX3_many_33 : decode cX3_many 33 = .ok (.getfield 10, 3) := by decide +kernel
theorem dX3_many_36 : decode cX3_many 36 = .ok (.getfield 66, 3) := by decide +kernel
theorem dX3_many_39 : decode cX3_many 39 = .ok (.ireturn, 1) := by decide +kernel
theorem dX3_many_40 : decode cX3_many 40 = .ok (.aload_n 0, 1) := by decide +kernel
theorem dX3_many_41 : decode cX3_many 41 = .ok (.getfield 10, 3) := by decide +kernel
theorem dX3_many_44 : decode cX3_many 44 = .ok (.invokevirtual 80, 3) := by decide +kernel
theorem dX3_many_47 : decode cX3_many 47 = .ok (.ireturn, 1) := by decide +kernel
theorem dX3_many_48 : decode cX3_many 48 = .ok (.aload_n 0, 1) := by decide +kernel
theorem dX3_many_49 : decode cX3_many 49 = .ok (.getfield 48, 3) := by decide +kernel
theorem dX3_many_52 : decode cX3_many 52 = .ok (.ireturn, 1) := by decide +kernel
theorem dX3_many_53 : decode cX3_many 53 = .ok (.aload_n 0, 1) := by decide +kernel
theorem dX3_many_54 : decode cX3_many 54 = .ok (.getfield 10, 3) := by decide +kernel
theorem dX3_many_57 : decode cX3_many 57 = .ok (.invokevirtual 84, 3) := by decide +kernel
theorem dX3_many_60 : decode cX3_many 60 = .ok (.ireturn, 1) := by decide +kernel
theorem dX3_many_61 : decode cX3_many 61 = .ok (.iconst (-1), 1) := by decide +kernel
theorem dX3_many_62 : decode cX3_many 62 = .ok (.ireturn, 1) := by decide +kernel
theorem dX3_serve_0 : decode cX3_serve 0 = .ok (.iload_n 1, 1) := by decide +kernel
theorem dX3_serve_1 : decode cX3_serve 1 = .ok (.invokestatic 87, 3) := by decide +kernel
theorem dX3_serve_4 : decode cX3_serve 4 = .ok (.ifCond .eq 10, 3) := by decide +kernel
theorem dX3_serve_7 : decode cX3_serve 7 = .ok (.iload_n 2, 1) := by decide +kernel
theorem dX3_serve_8 : decode cX3_serve 8 = .ok (.invokestatic 90, 3) := by decide +kernel
theorem dX3_serve_11 : decode cX3_serve 11 = .ok (.ifCond .ne 5, 3) := by decide +kernel
theorem dX3_serve_14 : decode cX3_serve 14 = .ok (.iconst (-1), 1) := by decide +kernel
theorem dX3_serve_15 : decode cX3_serve 15 = .ok (.ireturn, 1) := by decide +kernel
theorem dX3_serve_16 : decode cX3_serve 16 = .ok (.aload_n 0, 1) := by decide +kernel
theorem dX3_serve_17 : decode cX3_serve 17 = .ok (.getfield 21, 3) := by decide +kernel
theorem dX3_serve_20 : decode cX3_serve 20 = .ok (.iload_n 1, 1) := by decide +kernel
theorem dX3_serve_21 : decode cX3_serve 21 = .ok (.iload_n 2, 1) := by decide +kernel
theorem dX3_serve_22 : decode cX3_serve 22 = .ok (.invokevirtual 93, 3) := by decide +kernel
theorem dX3_serve_25 : decode cX3_serve 25 = .ok (.aload_n 0, 1) := by decide +kernel
theorem dX3_serve_26 : decode cX3_serve 26 = .ok (.iconst 0, 1) := by decide +kernel
theorem dX3_serve_27 : decode cX3_serve 27 = .ok (.putfield 97, 3) := by decide +kernel
theorem dX3_serve_30 : decode cX3_serve 30 = .ok (.aload_n 0, 1) := by decide +kernel
theorem dX3_serve_31 : decode cX3_serve 31 = .ok (.iconst 0, 1) := by decide +kernel
theorem dX3_serve_32 : decode cX3_serve 32 = .ok (.putfield 100, 3) := by decide +kernel
theorem dX3_serve_35 : decode cX3_serve 35 = .ok (.iconst 0, 1) := by decide +kernel
theorem dX3_serve_36 : decode cX3_serve 36 = .ok (.istore_n 3, 1) := by decide +kernel
theorem dX3_serve_37 : decode cX3_serve 37 = .ok (.iload_n 3, 1) := by decide +kernel
theorem dX3_serve_38 : decode cX3_serve 38 = .ok (.aload_n 0, 1) := by decide +kernel
theorem dX3_serve_39 : decode cX3_serve 39 = .ok (.getfield 10, 3) := by decide +kernel
theorem dX3_serve_42 : decode cX3_serve 42 = .ok (.getfield 66, 3) := by decide +kernel
theorem dX3_serve_45 : decode cX3_serve 45 = .ok (.if_icmp .ge 80, 3) := by decide +kernel
theorem dX3_serve_48 : decode cX3_serve 48 = .ok (.aload_n 0, 1) := by decide +kernel
theorem dX3_serve_49 : decode cX3_serve 49 = .ok (.getfield 45, 3) := by decide +kernel
theorem dX3_serve_52 : decode cX3_serve 52 = .ok (.iload_n 3, 1) := by decide +kernel
theorem dX3_serve_53 : decode cX3_serve 53 = .ok (.aload_n 0, 1) := by decide +kernel
theorem dX3_serve_54 : decode cX3_serve 54 = .ok (.getfield 21, 3) := by decide +kernel
theorem dX3_serve_57 : decode cX3_serve 57 = .ok (.invokevirtual 103, 3) := by decide +kernel
theorem dX3_serve_60 : decode cX3_serve 60 = .ok (.iastore, 1) := by decide +kernel
theorem dX3_serve_61 : decode cX3_serve 61 = .ok (.aload_n 0, 1) := by decide +kernel
theorem dX3_serve_62 : decode cX3_serve 62 = .ok (.getfield 42, 3) := by decide +kernel
theorem dX3_serve_65 : decode cX3_serve 65 = .ok (.iload_n 3, 1) := by decide +kernel
theorem dX3_serve_66 : decode cX3_serve 66 = .ok (.aload_n 0, 1) := by decide +kernel
theorem dX3_serve_67 : decode cX3_serve 67 = .ok (.getfield 21, 3) := by decide +kernel
theorem dX3_serve_70 : decode cX3_serve 70 = .ok (.getfield 106, 3) := by decide +kernel
theorem dX3_serve_73 : decode cX3_serve 73 = .ok (.ifCond .eq 7, 3) := by decide +kernel
theorem dX3_serve_76 : decode cX3_serve 76 = .ok (.iconst 1, 1) := by decide +kernel
theorem dX3_serve_77 : decode cX3_serve 77 = .ok (.goto 4, 3) := by decide +kernel
theorem dX3_serve_80 : decode cX3_serve 80 = .ok (.iconst 0, 1) := by decide +kernel
theorem dX3_serve_81 : decode cX3_serve 81 = .ok (.iastore, 1) := by decide +kernel
theorem dX3_serve_82 : decode cX3_serve 82 = .ok (.aload_n 0, 1) := by decide +kernel
theorem dX3_serve_83 : decode cX3_serve 83 = .ok (.getfield 21, 3) := by decide +kernel
theorem dX3_serve_86 : decode cX3_serve 86 = .ok (.getfield 106, 3) := by decide +kernel
theorem dX3_serve_89 : decode cX3_serve 89 = .ok (.ifCond .ne 30, 3) := by decide +kernel
theorem dX3_serve_92 : decode cX3_serve 92 = .ok (.aload_n 0, 1) := by decide +kernel
theorem dX3_serve_93 : decode cX3_serve 93 = .ok (.dup, 1) := by decide +kernel
theorem dX3_serve_94 : decode cX3_serve 94 = .ok (.getfield 97, 3) := by decide +kernel
theorem dX3_serve_97 : decode cX3_serve 97 = .ok (.iconst 1, 1) := by decide +kernel
theorem dX3_serve_98 : decode cX3_serve 98 = .ok (.iadd, 1) := by decide +kernel
theorem dX3_serve_99 : decode cX3_serve 99 = .ok (.putfield 97, 3) := by decide +kernel
theorem dX3_serve_102 : decode cX3_serve 102 = .ok (.aload_n 0, 1) := by decide +kernel
theorem dX3_serve_103 : decode cX3_serve 103 = .ok (.dup, 1) := by decide +kernel
theorem dX3_serve_104 : decode cX3_serve 104 = .ok (.getfield 100, 3) := by decide +kernel
theorem dX3_serve_107 : decode cX3_serve 107 = .ok (.aload_n 0, 1) := by decide +kernel
theorem dX3_serve_108 : decode cX3_serve 108 = .ok (.getfield 10, 3) := by decide +kernel
theorem dX3_serve_111 : decode cX3_serve 111 = .ok (.iload_n 3, 1) := by decide +kernel
theorem dX3_serve_112 : decode cX3_serve 112 = .ok (.invokevirtual 109, 3) := by decide +kernel
theorem dX3_serve_115 : decode cX3_serve 115 = .ok (.iadd, 1) := by decide +kernel
theorem dX3_serve_116 : decode cX3_serve 116 = .ok (.putfield 100, 3) := by decide +kernel
theorem dX3_serve_119 : decode cX3_serve 119 = .ok (.iinc 3 1, 3) := by decide +kernel
theorem dX3_serve_122 : decode cX3_serve 122 = .ok (.goto (-85), 3) := by decide +kernel
theorem dX3_serve_125 : decode cX3_serve 125 = .ok (.aload_n 0, 1) := by decide +kernel
theorem dX3_serve_126 : decode cX3_serve 126 = .ok (.iconst 1, 1) := by decide +kernel
theorem dX3_serve_127 : decode cX3_serve 127 = .ok (.putfield 52, 3) := by decide +kernel
theorem dX3_serve_130 : decode cX3_serve 130 = .ok (.aload_n 0, 1) := by decide +kernel
theorem dX3_serve_131 : decode cX3_serve 131 = .ok (.getfield 97, 3) := by decide +kernel
theorem dX3_serve_134 : decode cX3_serve 134 = .ok (.ireturn, 1) := by decide +kernel
theorem dX3_paid_0 : decode cX3_paid 0 = .ok (.aload_n 0, 1) := by decide +kernel
theorem dX3_paid_1 : decode cX3_paid 1 = .ok (.getfield 52, 3) := by decide +kernel
theorem dX3_paid_4 : decode cX3_paid 4 = .ok (.ifCond .eq 10, 3) := by decide +kernel
theorem dX3_paid_7 : decode cX3_paid 7 = .ok (.aload_n 0, 1) := by decide +kernel
theorem dX3_paid_8 : decode cX3_paid 8 = .ok (.getfield 100, 3) := by decide +kernel
theorem dX3_paid_11 : decode cX3_paid 11 = .ok (.goto 5, 3) := by decide +kernel
theorem dX3_paid_14 : decode cX3_paid 14 = .ok (.bipush (-3), 2) := by decide +kernel
theorem dX3_paid_16 : decode cX3_paid 16 = .ok (.ireturn, 1) := by decide +kernel
theorem dX3_hit_0 : decode cX3_hit 0 = .ok (.aload_n 0, 1) := by decide +kernel
theorem dX3_hit_1 : decode cX3_hit 1 = .ok (.getfield 52, 3) := by decide +kernel
theorem dX3_hit_4 : decode cX3_hit 4 = .ok (.ifCond .ne 6, 3) := by decide +kernel
theorem dX3_hit_7 : decode cX3_hit 7 = .ok (.bipush (-3), 2) := by decide +kernel
theorem dX3_hit_9 : decode cX3_hit 9 = .ok (.ireturn, 1) := by decide +kernel
theorem dX3_hit_10 : decode cX3_hit 10 = .ok (.aload_n 0, 1) := by decide +kernel
theorem dX3_hit_11 : decode cX3_hit 11 = .ok (.getfield 10, 3) := by decide +kernel
theorem dX3_hit_14 : decode cX3_hit 14 = .ok (.iload_n 1, 1) := by decide +kernel
theorem dX3_hit_15 : decode cX3_hit 15 = .ok (.invokevirtual 74, 3) := by decide +kernel
theorem dX3_hit_18 : decode cX3_hit 18 = .ok (.ifCond .eq 12, 3) := by decide +kernel
theorem dX3_hit_21 : decode cX3_hit 21 = .ok (.aload_n 0, 1) := by decide +kernel
theorem dX3_hit_22 : decode cX3_hit 22 = .ok (.getfield 42, 3) := by decide +kernel
theorem dX3_hit_25 : decode cX3_hit 25 = .ok (.iload_n 1, 1) := by decide +kernel
theorem dX3_hit_26 : decode cX3_hit 26 = .ok (.iaload, 1) := by decide +kernel
theorem dX3_hit_27 : decode cX3_hit 27 = .ok (.goto 4, 3) := by decide +kernel
theorem dX3_hit_30 : decode cX3_hit 30 = .ok (.iconst (-1), 1) := by decide +kernel
theorem dX3_hit_31 : decode cX3_hit 31 = .ok (.ireturn, 1) := by decide +kernel
theorem dX3_gone_0 : decode cX3_gone 0 = .ok (.aload_n 0, 1) := by decide +kernel
theorem dX3_gone_1 : decode cX3_gone 1 = .ok (.getfield 52, 3) := by decide +kernel
theorem dX3_gone_4 : decode cX3_gone 4 = .ok (.ifCond .eq 23, 3) := by decide +kernel
theorem dX3_gone_7 : decode cX3_gone 7 = .ok (.aload_n 0, 1) := by decide +kernel
theorem dX3_gone_8 : decode cX3_gone 8 = .ok (.getfield 10, 3) := by decide +kernel
theorem dX3_gone_11 : decode cX3_gone 11 = .ok (.iload_n 1, 1) := by decide +kernel
theorem dX3_gone_12 : decode cX3_gone 12 = .ok (.invokevirtual 74, 3) := by decide +kernel
theorem dX3_gone_15 : decode cX3_gone 15 = .ok (.ifCond .eq 12, 3) := by decide +kernel
theorem dX3_gone_18 : decode cX3_gone 18 = .ok (.aload_n 0, 1) := by decide +kernel
theorem dX3_gone_19 : decode cX3_gone 19 = .ok (.getfield 45, 3) := by decide +kernel
theorem dX3_gone_22 : decode cX3_gone 22 = .ok (.iload_n 1, 1) := by decide +kernel
theorem dX3_gone_23 : decode cX3_gone 23 = .ok (.iaload, 1) := by decide +kernel
theorem dX3_gone_24 : decode cX3_gone 24 = .ok (.goto 4, 3) := by decide +kernel
theorem dX3_gone_27 : decode cX3_gone 27 = .ok (.iconst (-1), 1) := by decide +kernel
theorem dX3_gone_28 : decode cX3_gone 28 = .ok (.ireturn, 1) := by decide +kernel
theorem dX3_look_0 : decode cX3_look 0 = .ok (.aload_n 0, 1) := by decide +kernel
theorem dX3_look_1 : decode cX3_look 1 = .ok (.getfield 52, 3) := by decide +kernel
theorem dX3_look_4 : decode cX3_look 4 = .ok (.ifCond .ne 6, 3) := by decide +kernel
theorem dX3_look_7 : decode cX3_look 7 = .ok (.bipush (-3), 2) := by decide +kernel
theorem dX3_look_9 : decode cX3_look 9 = .ok (.ireturn, 1) := by decide +kernel
theorem dX3_look_10 : decode cX3_look 10 = .ok (.aload_n 0, 1) := by decide +kernel
theorem dX3_look_11 : decode cX3_look 11 = .ok (.getfield 10, 3) := by decide +kernel
theorem dX3_look_14 : decode cX3_look 14 = .ok (.iload_n 1, 1) := by decide +kernel
theorem dX3_look_15 : decode cX3_look 15 = .ok (.invokevirtual 74, 3) := by decide +kernel
theorem dX3_look_18 : decode cX3_look 18 = .ok (.ifCond .eq 19, 3) := by decide +kernel
theorem dX3_look_21 : decode cX3_look 21 = .ok (.iload_n 2, 1) := by decide +kernel
theorem dX3_look_22 : decode cX3_look 22 = .ok (.invokestatic 56, 3) := by decide +kernel
theorem dX3_look_25 : decode cX3_look 25 = .ok (.ifCond .eq 12, 3) := by decide +kernel
theorem dX3_look_28 : decode cX3_look 28 = .ok (.iload_n 3, 1) := by decide +kernel
theorem dX3_look_29 : decode cX3_look 29 = .ok (.ifCond .lt 8, 3) := by decide +kernel
theorem dX3_look_32 : decode cX3_look 32 = .ok (.iload_n 3, 1) := by decide +kernel
theorem dX3_look_33 : decode cX3_look 33 = .ok (.iconst 5, 1) := by decide +kernel
theorem dX3_look_34 : decode cX3_look 34 = .ok (.if_icmp .le 6, 3) := by decide +kernel
theorem dX3_look_37 : decode cX3_look 37 = .ok (.ldc 113, 2) := by decide +kernel
theorem dX3_look_39 : decode cX3_look 39 = .ok (.ireturn, 1) := by decide +kernel
theorem dX3_look_40 : decode cX3_look 40 = .ok (.aload_n 0, 1) := by decide +kernel
theorem dX3_look_41 : decode cX3_look 41 = .ok (.getfield 21, 3) := by decide +kernel
theorem dX3_look_44 : decode cX3_look 44 = .ok (.iload_n 3, 1) := by decide +kernel
theorem dX3_look_45 : decode cX3_look 45 = .ok (.invokevirtual 114, 3) := by decide +kernel
theorem dX3_look_48 : decode cX3_look 48 = .ok (.ifCond .ne 6, 3) := by decide +kernel
theorem dX3_look_51 : decode cX3_look 51 = .ok (.ldc 117, 2) := by decide +kernel
theorem dX3_look_53 : decode cX3_look 53 = .ok (.ireturn, 1) := by decide +kernel
theorem dX3_look_54 : decode cX3_look 54 = .ok (.aload_n 0, 1) := by decide +kernel
theorem dX3_look_55 : decode cX3_look 55 = .ok (.getfield 21, 3) := by decide +kernel
theorem dX3_look_58 : decode cX3_look 58 = .ok (.iload_n 1, 1) := by decide +kernel
theorem dX3_look_59 : decode cX3_look 59 = .ok (.invokevirtual 118, 3) := by decide +kernel
theorem dX3_look_62 : decode cX3_look 62 = .ok (.aload_n 0, 1) := by decide +kernel
theorem dX3_look_63 : decode cX3_look 63 = .ok (.getfield 21, 3) := by decide +kernel
theorem dX3_look_66 : decode cX3_look 66 = .ok (.iload_n 2, 1) := by decide +kernel
theorem dX3_look_67 : decode cX3_look 67 = .ok (.iload_n 3, 1) := by decide +kernel
theorem dX3_look_68 : decode cX3_look 68 = .ok (.invokevirtual 121, 3) := by decide +kernel
theorem dX3_look_71 : decode cX3_look 71 = .ok (.ireturn, 1) := by decide +kernel
theorem dX3_level_0 : decode cX3_level 0 = .ok (.aload_n 0, 1) := by decide +kernel
theorem dX3_level_1 : decode cX3_level 1 = .ok (.getfield 52, 3) := by decide +kernel
theorem dX3_level_4 : decode cX3_level 4 = .ok (.ifCond .ne 6, 3) := by decide +kernel
theorem dX3_level_7 : decode cX3_level 7 = .ok (.bipush (-3), 2) := by decide +kernel
theorem dX3_level_9 : decode cX3_level 9 = .ok (.ireturn, 1) := by decide +kernel
theorem dX3_level_10 : decode cX3_level 10 = .ok (.aload_n 0, 1) := by decide +kernel
theorem dX3_level_11 : decode cX3_level 11 = .ok (.getfield 10, 3) := by decide +kernel
theorem dX3_level_14 : decode cX3_level 14 = .ok (.iload_n 1, 1) := by decide +kernel
theorem dX3_level_15 : decode cX3_level 15 = .ok (.invokevirtual 74, 3) := by decide +kernel
theorem dX3_level_18 : decode cX3_level 18 = .ok (.ifCond .eq 12, 3) := by decide +kernel
theorem dX3_level_21 : decode cX3_level 21 = .ok (.iload_n 2, 1) := by decide +kernel
theorem dX3_level_22 : decode cX3_level 22 = .ok (.ifCond .lt 8, 3) := by decide +kernel
theorem dX3_level_25 : decode cX3_level 25 = .ok (.iload_n 2, 1) := by decide +kernel
theorem dX3_level_26 : decode cX3_level 26 = .ok (.iconst 4, 1) := by decide +kernel
theorem dX3_level_27 : decode cX3_level 27 = .ok (.if_icmp .le 6, 3) := by decide +kernel
theorem dX3_level_30 : decode cX3_level 30 = .ok (.ldc 113, 2) := by decide +kernel
theorem dX3_level_32 : decode cX3_level 32 = .ok (.ireturn, 1) := by decide +kernel
theorem dX3_level_33 : decode cX3_level 33 = .ok (.aload_n 0, 1) := by decide +kernel
theorem dX3_level_34 : decode cX3_level 34 = .ok (.getfield 21, 3) := by decide +kernel
theorem dX3_level_37 : decode cX3_level 37 = .ok (.iload_n 2, 1) := by decide +kernel
theorem dX3_level_38 : decode cX3_level 38 = .ok (.invokevirtual 125, 3) := by decide +kernel
theorem dX3_level_41 : decode cX3_level 41 = .ok (.ifCond .ne 6, 3) := by decide +kernel
theorem dX3_level_44 : decode cX3_level 44 = .ok (.ldc 117, 2) := by decide +kernel
theorem dX3_level_46 : decode cX3_level 46 = .ok (.ireturn, 1) := by decide +kernel
theorem dX3_level_47 : decode cX3_level 47 = .ok (.aload_n 0, 1) := by decide +kernel
theorem dX3_level_48 : decode cX3_level 48 = .ok (.getfield 21, 3) := by decide +kernel
theorem dX3_level_51 : decode cX3_level 51 = .ok (.iload_n 1, 1) := by decide +kernel
theorem dX3_level_52 : decode cX3_level 52 = .ok (.invokevirtual 118, 3) := by decide +kernel
theorem dX3_level_55 : decode cX3_level 55 = .ok (.aload_n 0, 1) := by decide +kernel
theorem dX3_level_56 : decode cX3_level 56 = .ok (.getfield 21, 3) := by decide +kernel
theorem dX3_level_59 : decode cX3_level 59 = .ok (.iload_n 2, 1) := by decide +kernel
theorem dX3_level_60 : decode cX3_level 60 = .ok (.invokevirtual 128, 3) := by decide +kernel
theorem dX3_level_63 : decode cX3_level 63 = .ok (.ireturn, 1) := by decide +kernel
theorem dX3_fewest_0 : decode cX3_fewest 0 = .ok (.iload_n 1, 1) := by decide +kernel
theorem dX3_fewest_1 : decode cX3_fewest 1 = .ok (.invokestatic 90, 3) := by decide +kernel
theorem dX3_fewest_4 : decode cX3_fewest 4 = .ok (.ifCond .ne 5, 3) := by decide +kernel
theorem dX3_fewest_7 : decode cX3_fewest 7 = .ok (.iconst (-1), 1) := by decide +kernel
theorem dX3_fewest_8 : decode cX3_fewest 8 = .ok (.ireturn, 1) := by decide +kernel
theorem dX3_fewest_9 : decode cX3_fewest 9 = .ok (.iconst 0, 1) := by decide +kernel
theorem dX3_fewest_10 : decode cX3_fewest 10 = .ok (.istore_n 2, 1) := by decide +kernel
theorem dX3_fewest_11 : decode cX3_fewest 11 = .ok (.aload_n 0, 1) := by decide +kernel
theorem dX3_fewest_12 : decode cX3_fewest 12 = .ok (.getfield 25, 3) := by decide +kernel
theorem dX3_fewest_15 : decode cX3_fewest 15 = .ok (.iconst 0, 1) := by decide +kernel
theorem dX3_fewest_16 : decode cX3_fewest 16 = .ok (.iload_n 1, 1) := by decide +kernel
theorem dX3_fewest_17 : decode cX3_fewest 17 = .ok (.invokevirtual 131, 3) := by decide +kernel
theorem dX3_fewest_20 : decode cX3_fewest 20 = .ok (.istore_n 3, 1) := by decide +kernel
theorem dX3_fewest_21 : decode cX3_fewest 21 = .ok (.iconst 1, 1) := by decide +kernel
theorem dX3_fewest_22 : decode cX3_fewest 22 = .ok (.istore 4, 2) := by decide +kernel
theorem dX3_fewest_24 : decode cX3_fewest 24 = .ok (.iload 4, 2) := by decide +kernel
theorem dX3_fewest_26 : decode cX3_fewest 26 = .ok (.bipush 8, 2) := by decide +kernel
theorem dX3_fewest_28 : decode cX3_fewest 28 = .ok (.if_icmp .ge 33, 3) := by decide +kernel
theorem dX3_fewest_31 : decode cX3_fewest 31 = .ok (.aload_n 0, 1) := by decide +kernel
theorem dX3_fewest_32 : decode cX3_fewest 32 = .ok (.getfield 25, 3) := by decide +kernel
theorem dX3_fewest_35 : decode cX3_fewest 35 = .ok (.iload 4, 2) := by decide +kernel
theorem dX3_fewest_37 : decode cX3_fewest 37 = .ok (.iload_n 1, 1) := by decide +kernel
theorem dX3_fewest_38 : decode cX3_fewest 38 = .ok (.invokevirtual 131, 3) := by decide +kernel
theorem dX3_fewest_41 : decode cX3_fewest 41 = .ok (.istore 5, 2) := by decide +kernel
theorem dX3_fewest_43 : decode cX3_fewest 43 = .ok (.iload 5, 2) := by decide +kernel
theorem dX3_fewest_45 : decode cX3_fewest 45 = .ok (.iload_n 3, 1) := by decide +kernel
theorem dX3_fewest_46 : decode cX3_fewest 46 = .ok (.if_icmp .ge 9, 3) := by decide +kernel
theorem dX3_fewest_49 : decode cX3_fewest 49 = .ok (.iload 4, 2) := by decide +kernel
theorem dX3_fewest_51 : decode cX3_fewest 51 = .ok (.istore_n 2, 1) := by decide +kernel
theorem dX3_fewest_52 : decode cX3_fewest 52 = .ok (.iload 5, 2) := by decide +kernel
theorem dX3_fewest_54 : decode cX3_fewest 54 = .ok (.istore_n 3, 1) := by decide +kernel
theorem dX3_fewest_55 : decode cX3_fewest 55 = .ok (.iinc 4 1, 3) := by decide +kernel
theorem dX3_fewest_58 : decode cX3_fewest 58 = .ok (.goto (-34), 3) := by decide +kernel
theorem dX3_fewest_61 : decode cX3_fewest 61 = .ok (.iload_n 2, 1) := by decide +kernel
theorem dX3_fewest_62 : decode cX3_fewest 62 = .ok (.ireturn, 1) := by decide +kernel
theorem dX3_share_0 : decode cX3_share 0 = .ok (.aload_n 0, 1) := by decide +kernel
theorem dX3_share_1 : decode cX3_share 1 = .ok (.getfield 52, 3) := by decide +kernel
theorem dX3_share_4 : decode cX3_share 4 = .ok (.ifCond .ne 6, 3) := by decide +kernel
theorem dX3_share_7 : decode cX3_share 7 = .ok (.bipush (-3), 2) := by decide +kernel
theorem dX3_share_9 : decode cX3_share 9 = .ok (.ireturn, 1) := by decide +kernel
theorem dX3_share_10 : decode cX3_share 10 = .ok (.aload_n 0, 1) := by decide +kernel
theorem dX3_share_11 : decode cX3_share 11 = .ok (.getfield 10, 3) := by decide +kernel
theorem dX3_share_14 : decode cX3_share 14 = .ok (.getfield 66, 3) := by decide +kernel
theorem dX3_share_17 : decode cX3_share 17 = .ok (.iconst 1, 1) := by decide +kernel
theorem dX3_share_18 : decode cX3_share 18 = .ok (.if_icmp .ge 5, 3) := by decide +kernel
theorem dX3_share_21 : decode cX3_share 21 = .ok (.iconst (-1), 1) := by decide +kernel
theorem dX3_share_22 : decode cX3_share 22 = .ok (.ireturn, 1) := by decide +kernel
theorem dX3_share_23 : decode cX3_share 23 = .ok (.aload_n 0, 1) := by decide +kernel
theorem dX3_share_24 : decode cX3_share 24 = .ok (.getfield 10, 3) := by decide +kernel
theorem dX3_share_27 : decode cX3_share 27 = .ok (.getfield 66, 3) := by decide +kernel
theorem dX3_share_30 : decode cX3_share 30 = .ok (.aload_n 0, 1) := by decide +kernel
theorem dX3_share_31 : decode cX3_share 31 = .ok (.getfield 97, 3) := by decide +kernel
theorem dX3_share_34 : decode cX3_share 34 = .ok (.isub, 1) := by decide +kernel
theorem dX3_share_35 : decode cX3_share 35 = .ok (.istore_n 1, 1) := by decide +kernel
theorem dX3_share_36 : decode cX3_share 36 = .ok (.iload_n 1, 1) := by decide +kernel
theorem dX3_share_37 : decode cX3_share 37 = .ok (.i2f, 1) := by decide +kernel
theorem dX3_share_38 : decode cX3_share 38 = .ok (.aload_n 0, 1) := by decide +kernel
theorem dX3_share_39 : decode cX3_share 39 = .ok (.getfield 10, 3) := by decide +kernel
theorem dX3_share_42 : decode cX3_share 42 = .ok (.getfield 66, 3) := by decide +kernel
theorem dX3_share_45 : decode cX3_share 45 = .ok (.i2f, 1) := by decide +kernel
theorem dX3_share_46 : decode cX3_share 46 = .ok (.fdiv, 1) := by decide +kernel
theorem dX3_share_47 : decode cX3_share 47 = .ok (.fstore_n 2, 1) := by decide +kernel
theorem dX3_share_48 : decode cX3_share 48 = .ok (.fload_n 2, 1) := by decide +kernel
theorem dX3_share_49 : decode cX3_share 49 = .ok (.ldc 134, 2) := by decide +kernel
theorem dX3_share_51 : decode cX3_share 51 = .ok (.fmul, 1) := by decide +kernel
theorem dX3_share_52 : decode cX3_share 52 = .ok (.f2i, 1) := by decide +kernel
theorem dX3_share_53 : decode cX3_share 53 = .ok (.ireturn, 1) := by decide +kernel
theorem dX3_least_0 : decode cX3_least 0 = .ok (.iload_n 1, 1) := by decide +kernel
theorem dX3_least_1 : decode cX3_least 1 = .ok (.invokestatic 90, 3) := by decide +kernel
theorem dX3_least_4 : decode cX3_least 4 = .ok (.ifCond .ne 5, 3) := by decide +kernel
theorem dX3_least_7 : decode cX3_least 7 = .ok (.iconst (-1), 1) := by decide +kernel
theorem dX3_least_8 : decode cX3_least 8 = .ok (.ireturn, 1) := by decide +kernel
theorem dX3_least_9 : decode cX3_least 9 = .ok (.aload_n 0, 1) := by decide +kernel
theorem dX3_least_10 : decode cX3_least 10 = .ok (.getfield 10, 3) := by decide +kernel
theorem dX3_least_13 : decode cX3_least 13 = .ok (.invokevirtual 80, 3) := by decide +kernel
theorem dX3_least_16 : decode cX3_least 16 = .ok (.bipush 10, 2) := by decide +kernel
theorem dX3_least_18 : decode cX3_least 18 = .ok (.if_icmp .le 6, 3) := by decide +kernel
theorem dX3_least_21 : decode cX3_least 21 = .ok (.bipush (-5), 2) := by decide +kernel
theorem dX3_least_23 : decode cX3_least 23 = .ok (.ireturn, 1) := by decide +kernel
theorem dX3_least_24 : decode cX3_least 24 = .ok (.aload_n 0, 1) := by decide +kernel
theorem dX3_least_25 : decode cX3_least 25 = .ok (.getfield 31, 3) := by decide +kernel
theorem dX3_least_28 : decode cX3_least 28 = .ok (.iload_n 1, 1) := by decide +kernel
theorem dX3_least_29 : decode cX3_least 29 = .ok (.invokevirtual 135, 3) := by decide +kernel
theorem dX3_least_32 : decode cX3_least 32 = .ok (.aload_n 0, 1) := by decide +kernel
theorem dX3_least_33 : decode cX3_least 33 = .ok (.getfield 31, 3) := by decide +kernel
theorem dX3_least_36 : decode cX3_least 36 = .ok (.getfield 138, 3) := by decide +kernel
theorem dX3_least_39 : decode cX3_least 39 = .ok (.ireturn, 1) := by decide +kernel
theorem dX3_goes_0 : decode cX3_goes 0 = .ok (.aload_n 0, 1) := by decide +kernel
theorem dX3_goes_1 : decode cX3_goes 1 = .ok (.getfield 10, 3) := by decide +kernel
theorem dX3_goes_4 : decode cX3_goes 4 = .ok (.iload_n 2, 1) := by decide +kernel
theorem dX3_goes_5 : decode cX3_goes 5 = .ok (.invokevirtual 74, 3) := by decide +kernel
theorem dX3_goes_8 : decode cX3_goes 8 = .ok (.ifCond .eq 22, 3) := by decide +kernel
theorem dX3_goes_11 : decode cX3_goes 11 = .ok (.iload_n 1, 1) := by decide +kernel
theorem dX3_goes_12 : decode cX3_goes 12 = .ok (.invokestatic 90, 3) := by decide +kernel
theorem dX3_goes_15 : decode cX3_goes 15 = .ok (.ifCond .eq 15, 3) := by decide +kernel
theorem dX3_goes_18 : decode cX3_goes 18 = .ok (.aload_n 0, 1) := by decide +kernel
theorem dX3_goes_19 : decode cX3_goes 19 = .ok (.getfield 10, 3) := by decide +kernel
theorem dX3_goes_22 : decode cX3_goes 22 = .ok (.invokevirtual 80, 3) := by decide +kernel
theorem dX3_goes_25 : decode cX3_goes 25 = .ok (.bipush 10, 2) := by decide +kernel
theorem dX3_goes_27 : decode cX3_goes 27 = .ok (.if_icmp .le 5, 3) := by decide +kernel
theorem dX3_goes_30 : decode cX3_goes 30 = .ok (.iconst (-1), 1) := by decide +kernel
theorem dX3_goes_31 : decode cX3_goes 31 = .ok (.ireturn, 1) := by decide +kernel
theorem dX3_goes_32 : decode cX3_goes 32 = .ok (.aload_n 0, 1) := by decide +kernel
theorem dX3_goes_33 : decode cX3_goes 33 = .ok (.getfield 31, 3) := by decide +kernel
theorem dX3_goes_36 : decode cX3_goes 36 = .ok (.iload_n 1, 1) := by decide +kernel
theorem dX3_goes_37 : decode cX3_goes 37 = .ok (.invokevirtual 135, 3) := by decide +kernel
theorem dX3_goes_40 : decode cX3_goes 40 = .ok (.aload_n 0, 1) := by decide +kernel
theorem dX3_goes_41 : decode cX3_goes 41 = .ok (.getfield 31, 3) := by decide +kernel
theorem dX3_goes_44 : decode cX3_goes 44 = .ok (.getfield 141, 3) := by decide +kernel
theorem dX3_goes_47 : decode cX3_goes 47 = .ok (.iload_n 2, 1) := by decide +kernel
theorem dX3_goes_48 : decode cX3_goes 48 = .ok (.iaload, 1) := by decide +kernel
theorem dX3_goes_49 : decode cX3_goes 49 = .ok (.ireturn, 1) := by decide +kernel
theorem dX3_phases_0 : decode cX3_phases 0 = .ok (.iload_n 1, 1) := by decide +kernel
theorem dX3_phases_1 : decode cX3_phases 1 = .ok (.invokestatic 90, 3) := by decide +kernel
theorem dX3_phases_4 : decode cX3_phases 4 = .ok (.ifCond .ne 5, 3) := by decide +kernel
theorem dX3_phases_7 : decode cX3_phases 7 = .ok (.iconst (-1), 1) := by decide +kernel
theorem dX3_phases_8 : decode cX3_phases 8 = .ok (.ireturn, 1) := by decide +kernel
theorem dX3_phases_9 : decode cX3_phases 9 = .ok (.aload_n 0, 1) := by decide +kernel
theorem dX3_phases_10 : decode cX3_phases 10 = .ok (.getfield 10, 3) := by decide +kernel
theorem dX3_phases_13 : decode cX3_phases 13 = .ok (.getfield 66, 3) := by decide +kernel
theorem dX3_phases_16 : decode cX3_phases 16 = .ok (.iconst 1, 1) := by decide +kernel
theorem dX3_phases_17 : decode cX3_phases 17 = .ok (.if_icmp .ge 7, 3) := by decide +kernel
theorem dX3_phases_20 : decode cX3_phases 20 = .ok (.iconst 0, 1) := by decide +kernel
theorem dX3_phases_21 : decode cX3_phases 21 = .ok (.goto 22, 3) := by decide +kernel
theorem dX3_phases_24 : decode cX3_phases 24 = .ok (.aload_n 0, 1) := by decide +kernel
theorem dX3_phases_25 : decode cX3_phases 25 = .ok (.getfield 10, 3) := by decide +kernel
theorem dX3_phases_28 : decode cX3_phases 28 = .ok (.iload_n 1, 1) := by decide +kernel
theorem dX3_phases_29 : decode cX3_phases 29 = .ok (.aload_n 0, 1) := by decide +kernel
theorem dX3_phases_30 : decode cX3_phases 30 = .ok (.getfield 10, 3) := by decide +kernel
theorem dX3_phases_33 : decode cX3_phases 33 = .ok (.getfield 66, 3) := by decide +kernel
theorem dX3_phases_36 : decode cX3_phases 36 = .ok (.iconst 1, 1) := by decide +kernel
theorem dX3_phases_37 : decode cX3_phases 37 = .ok (.isub, 1) := by decide +kernel
theorem dX3_phases_38 : decode cX3_phases 38 = .ok (.invokevirtual 144, 3) := by decide +kernel
theorem dX3_phases_41 : decode cX3_phases 41 = .ok (.iconst 1, 1) := by decide +kernel
theorem dX3_phases_42 : decode cX3_phases 42 = .ok (.iadd, 1) := by decide +kernel
theorem dX3_phases_43 : decode cX3_phases 43 = .ok (.ireturn, 1) := by decide +kernel
theorem dX3_phase_0 : decode cX3_phase 0 = .ok (.aload_n 0, 1) := by decide +kernel
theorem dX3_phase_1 : decode cX3_phase 1 = .ok (.getfield 10, 3) := by decide +kernel
theorem dX3_phase_4 : decode cX3_phase 4 = .ok (.iload_n 2, 1) := by decide +kernel
theorem dX3_phase_5 : decode cX3_phase 5 = .ok (.invokevirtual 74, 3) := by decide +kernel
theorem dX3_phase_8 : decode cX3_phase 8 = .ok (.ifCond .eq 22, 3) := by decide +kernel
theorem dX3_phase_11 : decode cX3_phase 11 = .ok (.iload_n 1, 1) := by decide +kernel
theorem dX3_phase_12 : decode cX3_phase 12 = .ok (.invokestatic 90, 3) := by decide +kernel
theorem dX3_phase_15 : decode cX3_phase 15 = .ok (.ifCond .eq 15, 3) := by decide +kernel
theorem dX3_phase_18 : decode cX3_phase 18 = .ok (.aload_n 0, 1) := by decide +kernel
theorem dX3_phase_19 : decode cX3_phase 19 = .ok (.getfield 10, 3) := by decide +kernel
theorem dX3_phase_22 : decode cX3_phase 22 = .ok (.iload_n 1, 1) := by decide +kernel
theorem dX3_phase_23 : decode cX3_phase 23 = .ok (.iload_n 2, 1) := by decide +kernel
theorem dX3_phase_24 : decode cX3_phase 24 = .ok (.invokevirtual 144, 3) := by decide +kernel
theorem dX3_phase_27 : decode cX3_phase 27 = .ok (.goto 4, 3) := by decide +kernel
theorem dX3_phase_30 : decode cX3_phase 30 = .ok (.iconst (-1), 1) := by decide +kernel
theorem dX3_phase_31 : decode cX3_phase 31 = .ok (.ireturn, 1) := by decide +kernel
theorem dX3_distance_0 : decode cX3_distance 0 = .ok (.aload_n 0, 1) := by decide +kernel
theorem dX3_distance_1 : decode cX3_distance 1 = .ok (.getfield 10, 3) := by decide +kernel
theorem dX3_distance_4 : decode cX3_distance 4 = .ok (.iload_n 1, 1) := by decide +kernel
theorem dX3_distance_5 : decode cX3_distance 5 = .ok (.invokevirtual 74, 3) := by decide +kernel
theorem dX3_distance_8 : decode cX3_distance 8 = .ok (.ifCond .eq 14, 3) := by decide +kernel
theorem dX3_distance_11 : decode cX3_distance 11 = .ok (.aload_n 0, 1) := by decide +kernel
theorem dX3_distance_12 : decode cX3_distance 12 = .ok (.getfield 10, 3) := by decide +kernel
theorem dX3_distance_15 : decode cX3_distance 15 = .ok (.iload_n 1, 1) := by decide +kernel
theorem dX3_distance_16 : decode cX3_distance 16 = .ok (.invokevirtual 147, 3) := by decide +kernel
theorem dX3_distance_19 : decode cX3_distance 19 = .ok (.goto 4, 3) := by decide +kernel
theorem dX3_distance_22 : decode cX3_distance 22 = .ok (.iconst (-1), 1) := by decide +kernel
theorem dX3_distance_23 : decode cX3_distance 23 = .ok (.ireturn, 1) := by decide +kernel
theorem dX3_curve_0 : decode cX3_curve 0 = .ok (.iload_n 1, 1) := by decide +kernel
theorem dX3_curve_1 : decode cX3_curve 1 = .ok (.ifCond .ge 5, 3) := by decide +kernel
theorem dX3_curve_4 : decode cX3_curve 4 = .ok (.iconst (-1), 1) := by decide +kernel
theorem dX3_curve_5 : decode cX3_curve 5 = .ok (.ireturn, 1) := by decide +kernel
theorem dX3_curve_6 : decode cX3_curve 6 = .ok (.iconst 0, 1) := by decide +kernel
theorem dX3_curve_7 : decode cX3_curve 7 = .ok (.istore_n 2, 1) := by decide +kernel
theorem dX3_curve_8 : decode cX3_curve 8 = .ok (.iconst 0, 1) := by decide +kernel
theorem dX3_curve_9 : decode cX3_curve 9 = .ok (.istore_n 3, 1) := by decide +kernel
theorem dX3_curve_10 : decode cX3_curve 10 = .ok (.iload_n 3, 1) := by decide +kernel
theorem dX3_curve_11 : decode cX3_curve 11 = .ok (.aload_n 0, 1) := by decide +kernel
theorem dX3_curve_12 : decode cX3_curve 12 = .ok (.getfield 10, 3) := by decide +kernel
theorem dX3_curve_15 : decode cX3_curve 15 = .ok (.getfield 66, 3) := by decide +kernel
theorem dX3_curve_18 : decode cX3_curve 18 = .ok (.if_icmp .ge 33, 3) := by decide +kernel
theorem dX3_curve_21 : decode cX3_curve 21 = .ok (.aload_n 0, 1) := by decide +kernel
theorem dX3_curve_22 : decode cX3_curve 22 = .ok (.getfield 10, 3) := by decide +kernel
theorem dX3_curve_25 : decode cX3_curve 25 = .ok (.iload_n 3, 1) := by decide +kernel
theorem dX3_curve_26 : decode cX3_curve 26 = .ok (.invokevirtual 147, 3) := by decide +kernel
theorem dX3_curve_29 : decode cX3_curve 29 = .ok (.istore 4, 2) := by decide +kernel
theorem dX3_curve_31 : decode cX3_curve 31 = .ok (.iload 4, 2) := by decide +kernel
theorem dX3_curve_33 : decode cX3_curve 33 = .ok (.ifCond .eq 9, 3) := by decide +kernel
theorem dX3_curve_36 : decode cX3_curve 36 = .ok (.iload 4, 2) := by decide +kernel
theorem dX3_curve_38 : decode cX3_curve 38 = .ok (.iload_n 1, 1) := by decide +kernel
theorem dX3_curve_39 : decode cX3_curve 39 = .ok (.if_icmp .le 6, 3) := by decide +kernel
theorem dX3_curve_42 : decode cX3_curve 42 = .ok (.iinc 2 1, 3) := by decide +kernel
theorem dX3_curve_45 : decode cX3_curve 45 = .ok (.iinc 3 1, 3) := by decide +kernel
theorem dX3_curve_48 : decode cX3_curve 48 = .ok (.goto (-38), 3) := by decide +kernel
theorem dX3_curve_51 : decode cX3_curve 51 = .ok (.iload_n 2, 1) := by decide +kernel
theorem dX3_curve_52 : decode cX3_curve 52 = .ok (.ireturn, 1) := by decide +kernel
theorem dX3_hard_0 : decode cX3_hard 0 = .ok (.iload_n 1, 1) := by decide +kernel
theorem dX3_hard_1 : decode cX3_hard 1 = .ok (.invokestatic 87, 3) := by decide +kernel
theorem dX3_hard_4 : decode cX3_hard 4 = .ok (.ifCond .eq 21, 3) := by decide +kernel
theorem dX3_hard_7 : decode cX3_hard 7 = .ok (.iload_n 2, 1) := by decide +kernel
theorem dX3_hard_8 : decode cX3_hard 8 = .ok (.invokestatic 90, 3) := by decide +kernel
theorem dX3_hard_11 : decode cX3_hard 11 = .ok (.ifCond .eq 14, 3) := by decide +kernel
theorem dX3_hard_14 : decode cX3_hard 14 = .ok (.iload_n 3, 1) := by decide +kernel
theorem dX3_hard_15 : decode cX3_hard 15 = .ok (.ifCond .lt 10, 3) := by decide +kernel
theorem dX3_hard_18 : decode cX3_hard 18 = .ok (.iload_n 3, 1) := by decide +kernel
theorem dX3_hard_19 : decode cX3_hard 19 = .ok (.sipush 300, 3) := by decide +kernel
theorem dX3_hard_22 : decode cX3_hard 22 = .ok (.if_icmp .le 5, 3) := by decide +kernel
theorem dX3_hard_25 : decode cX3_hard 25 = .ok (.iconst (-1), 1) := by decide +kernel
theorem dX3_hard_26 : decode cX3_hard 26 = .ok (.ireturn, 1) := by decide +kernel
theorem dX3_hard_27 : decode cX3_hard 27 = .ok (.iload_n 1, 1) := by decide +kernel
theorem dX3_hard_28 : decode cX3_hard 28 = .ok (.bipush 8, 2) := by decide +kernel
theorem dX3_hard_30 : decode cX3_hard 30 = .ok (.if_icmp .ne 6, 3) := by decide +kernel
theorem dX3_hard_33 : decode cX3_hard 33 = .ok (.bipush (-4), 2) := by decide +kernel
theorem dX3_hard_35 : decode cX3_hard 35 = .ok (.ireturn, 1) := by decide +kernel
theorem dX3_hard_36 : decode cX3_hard 36 = .ok (.aload_n 0, 1) := by decide +kernel
theorem dX3_hard_37 : decode cX3_hard 37 = .ok (.getfield 10, 3) := by decide +kernel
theorem dX3_hard_40 : decode cX3_hard 40 = .ok (.iconst 0, 1) := by decide +kernel
theorem dX3_hard_41 : decode cX3_hard 41 = .ok (.putfield 66, 3) := by decide +kernel
theorem dX3_hard_44 : decode cX3_hard 44 = .ok (.aload_n 0, 1) := by decide +kernel
theorem dX3_hard_45 : decode cX3_hard 45 = .ok (.getfield 25, 3) := by decide +kernel
theorem dX3_hard_48 : decode cX3_hard 48 = .ok (.iload_n 1, 1) := by decide +kernel
theorem dX3_hard_49 : decode cX3_hard 49 = .ok (.iload_n 2, 1) := by decide +kernel
theorem dX3_hard_50 : decode cX3_hard 50 = .ok (.invokevirtual 93, 3) := by decide +kernel
theorem dX3_hard_53 : decode cX3_hard 53 = .ok (.iconst 0, 1) := by decide +kernel
theorem dX3_hard_54 : decode cX3_hard 54 = .ok (.istore 4, 2) := by decide +kernel
theorem dX3_hard_56 : decode cX3_hard 56 = .ok (.iload 4, 2) := by decide +kernel
theorem dX3_hard_58 : decode cX3_hard 58 = .ok (.iload_n 3, 1) := by decide +kernel
theorem dX3_hard_59 : decode cX3_hard 59 = .ok (.if_icmp .ge 31, 3) := by decide +kernel
theorem dX3_hard_62 : decode cX3_hard 62 = .ok (.aload_n 0, 1) := by decide +kernel
theorem dX3_hard_63 : decode cX3_hard 63 = .ok (.getfield 10, 3) := by decide +kernel
theorem dX3_hard_66 : decode cX3_hard 66 = .ok (.aload_n 0, 1) := by decide +kernel
theorem dX3_hard_67 : decode cX3_hard 67 = .ok (.getfield 25, 3) := by decide +kernel
theorem dX3_hard_70 : decode cX3_hard 70 = .ok (.invokevirtual 150, 3) := by decide +kernel
theorem dX3_hard_73 : decode cX3_hard 73 = .ok (.invokevirtual 69, 3) := by decide +kernel
theorem dX3_hard_76 : decode cX3_hard 76 = .ok (.aload_n 0, 1) := by decide +kernel
theorem dX3_hard_77 : decode cX3_hard 77 = .ok (.getfield 25, 3) := by decide +kernel
theorem dX3_hard_80 : decode cX3_hard 80 = .ok (.invokevirtual 103, 3) := by decide +kernel
theorem dX3_hard_83 : decode cX3_hard 83 = .ok (.pop, 1) := by decide +kernel
theorem dX3_hard_84 : decode cX3_hard 84 = .ok (.iinc 4 1, 3) := by decide +kernel
theorem dX3_hard_87 : decode cX3_hard 87 = .ok (.goto (-31), 3) := by decide +kernel
theorem dX3_hard_90 : decode cX3_hard 90 = .ok (.aload_n 0, 1) := by decide +kernel
theorem dX3_hard_91 : decode cX3_hard 91 = .ok (.invokevirtual 63, 3) := by decide +kernel
theorem dX3_hard_94 : decode cX3_hard 94 = .ok (.iload_n 3, 1) := by decide +kernel
theorem dX3_hard_95 : decode cX3_hard 95 = .ok (.ireturn, 1) := by decide +kernel
theorem dX3_claim_0 : decode cX3_claim 0 = .ok (.iload_n 1, 1) := by decide +kernel
theorem dX3_claim_1 : decode cX3_claim 1 = .ok (.iconst (-1), 1) := by decide +kernel
theorem dX3_claim_2 : decode cX3_claim 2 = .ok (.if_icmp .eq 12, 3) := by decide +kernel
theorem dX3_claim_5 : decode cX3_claim 5 = .ok (.iload_n 1, 1) := by decide +kernel
theorem dX3_claim_6 : decode cX3_claim 6 = .ok (.invokestatic 56, 3) := by decide +kernel
theorem dX3_claim_9 : decode cX3_claim 9 = .ok (.ifCond .ne 5, 3) := by decide +kernel
theorem dX3_claim_12 : decode cX3_claim 12 = .ok (.iconst (-1), 1) := by decide +kernel
theorem dX3_claim_13 : decode cX3_claim 13 = .ok (.ireturn, 1) := by decide +kernel
theorem dX3_claim_14 : decode cX3_claim 14 = .ok (.aload_n 0, 1) := by decide +kernel
theorem dX3_claim_15 : decode cX3_claim 15 = .ok (.getfield 48, 3) := by decide +kernel
theorem dX3_claim_18 : decode cX3_claim 18 = .ok (.sipush 300, 3) := by decide +kernel
theorem dX3_claim_21 : decode cX3_claim 21 = .ok (.if_icmp .lt 6, 3) := by decide +kernel
theorem dX3_claim_24 : decode cX3_claim 24 = .ok (.bipush (-2), 2) := by decide +kernel
theorem dX3_claim_26 : decode cX3_claim 26 = .ok (.ireturn, 1) := by decide +kernel
theorem dX3_claim_27 : decode cX3_claim 27 = .ok (.aload_n 0, 1) := by decide +kernel
theorem dX3_claim_28 : decode cX3_claim 28 = .ok (.getfield 39, 3) := by decide +kernel
theorem dX3_claim_31 : decode cX3_claim 31 = .ok (.aload_n 0, 1) := by decide +kernel
theorem dX3_claim_32 : decode cX3_claim 32 = .ok (.getfield 48, 3) := by decide +kernel
theorem dX3_claim_35 : decode cX3_claim 35 = .ok (.iload_n 1, 1) := by decide +kernel
theorem dX3_claim_36 : decode cX3_claim 36 = .ok (.iastore, 1) := by decide +kernel
theorem dX3_claim_37 : decode cX3_claim 37 = .ok (.aload_n 0, 1) := by decide +kernel
theorem dX3_claim_38 : decode cX3_claim 38 = .ok (.dup, 1) := by decide +kernel
theorem dX3_claim_39 : decode cX3_claim 39 = .ok (.getfield 48, 3) := by decide +kernel
theorem dX3_claim_42 : decode cX3_claim 42 = .ok (.iconst 1, 1) := by decide +kernel
theorem dX3_claim_43 : decode cX3_claim 43 = .ok (.iadd, 1) := by decide +kernel
theorem dX3_claim_44 : decode cX3_claim 44 = .ok (.putfield 48, 3) := by decide +kernel
theorem dX3_claim_47 : decode cX3_claim 47 = .ok (.aload_n 0, 1) := by decide +kernel
theorem dX3_claim_48 : decode cX3_claim 48 = .ok (.getfield 48, 3) := by decide +kernel
theorem dX3_claim_51 : decode cX3_claim 51 = .ok (.ireturn, 1) := by decide +kernel
theorem dX3_copy_0 : decode cX3_copy 0 = .ok (.aload_n 0, 1) := by decide +kernel
theorem dX3_copy_1 : decode cX3_copy 1 = .ok (.getfield 52, 3) := by decide +kernel
theorem dX3_copy_4 : decode cX3_copy 4 = .ok (.ifCond .ne 6, 3) := by decide +kernel
theorem dX3_copy_7 : decode cX3_copy 7 = .ok (.bipush (-3), 2) := by decide +kernel
theorem dX3_copy_9 : decode cX3_copy 9 = .ok (.ireturn, 1) := by decide +kernel
theorem dX3_copy_10 : decode cX3_copy 10 = .ok (.aload_n 0, 1) := by decide +kernel
theorem dX3_copy_11 : decode cX3_copy 11 = .ok (.getfield 45, 3) := by decide +kernel
theorem dX3_copy_14 : decode cX3_copy 14 = .ok (.iconst 0, 1) := by decide +kernel
theorem dX3_copy_15 : decode cX3_copy 15 = .ok (.aload_n 0, 1) := by decide +kernel
theorem dX3_copy_16 : decode cX3_copy 16 = .ok (.getfield 39, 3) := by decide +kernel
theorem dX3_copy_19 : decode cX3_copy 19 = .ok (.iconst 0, 1) := by decide +kernel
theorem dX3_copy_20 : decode cX3_copy 20 = .ok (.aload_n 0, 1) := by decide +kernel
theorem dX3_copy_21 : decode cX3_copy 21 = .ok (.getfield 10, 3) := by decide +kernel
theorem dX3_copy_24 : decode cX3_copy 24 = .ok (.getfield 66, 3) := by decide +kernel
theorem dX3_copy_27 : decode cX3_copy 27 = .ok (.invokestatic 153, 3) := by decide +kernel
theorem dX3_copy_30 : decode cX3_copy 30 = .ok (.aload_n 0, 1) := by decide +kernel
theorem dX3_copy_31 : decode cX3_copy 31 = .ok (.aload_n 0, 1) := by decide +kernel
theorem dX3_copy_32 : decode cX3_copy 32 = .ok (.getfield 10, 3) := by decide +kernel
theorem dX3_copy_35 : decode cX3_copy 35 = .ok (.getfield 66, 3) := by decide +kernel
theorem dX3_copy_38 : decode cX3_copy 38 = .ok (.putfield 48, 3) := by decide +kernel
theorem dX3_copy_41 : decode cX3_copy 41 = .ok (.aload_n 0, 1) := by decide +kernel
theorem dX3_copy_42 : decode cX3_copy 42 = .ok (.getfield 48, 3) := by decide +kernel
theorem dX3_copy_45 : decode cX3_copy 45 = .ok (.ireturn, 1) := by decide +kernel
theorem dX3_unclaim_0 : decode cX3_unclaim 0 = .ok (.aload_n 0, 1) := by decide +kernel
theorem dX3_unclaim_1 : decode cX3_unclaim 1 = .ok (.getfield 48, 3) := by decide +kernel
theorem dX3_unclaim_4 : decode cX3_unclaim 4 = .ok (.istore_n 1, 1) := by decide +kernel
theorem dX3_unclaim_5 : decode cX3_unclaim 5 = .ok (.aload_n 0, 1) := by decide +kernel
theorem dX3_unclaim_6 : decode cX3_unclaim 6 = .ok (.iconst 0, 1) := by decide +kernel
theorem dX3_unclaim_7 : decode cX3_unclaim 7 = .ok (.putfield 48, 3) := by decide +kernel
theorem dX3_unclaim_10 : decode cX3_unclaim 10 = .ok (.iload_n 1, 1) := by decide +kernel
theorem dX3_unclaim_11 : decode cX3_unclaim 11 = .ok (.ireturn, 1) := by decide +kernel
theorem dX3_cost_0 : decode cX3_cost 0 = .ok (.iload_n 1, 1) := by decide +kernel
theorem dX3_cost_1 : decode cX3_cost 1 = .ok (.invokestatic 90, 3) := by decide +kernel
theorem dX3_cost_4 : decode cX3_cost 4 = .ok (.ifCond .ne 5, 3) := by decide +kernel
theorem dX3_cost_7 : decode cX3_cost 7 = .ok (.iconst (-1), 1) := by decide +kernel
theorem dX3_cost_8 : decode cX3_cost 8 = .ok (.ireturn, 1) := by decide +kernel
theorem dX3_cost_9 : decode cX3_cost 9 = .ok (.iconst 0, 1) := by decide +kernel
theorem dX3_cost_10 : decode cX3_cost 10 = .ok (.istore_n 2, 1) := by decide +kernel
theorem dX3_cost_11 : decode cX3_cost 11 = .ok (.iconst 0, 1) := by decide +kernel
theorem dX3_cost_12 : decode cX3_cost 12 = .ok (.istore_n 3, 1) := by decide +kernel
theorem dX3_cost_13 : decode cX3_cost 13 = .ok (.iconst 0, 1) := by decide +kernel
theorem dX3_cost_14 : decode cX3_cost 14 = .ok (.istore 4, 2) := by decide +kernel
theorem dX3_cost_16 : decode cX3_cost 16 = .ok (.iload 4, 2) := by decide +kernel
theorem dX3_cost_18 : decode cX3_cost 18 = .ok (.aload_n 0, 1) := by decide +kernel
theorem dX3_cost_19 : decode cX3_cost 19 = .ok (.getfield 10, 3) := by decide +kernel
theorem dX3_cost_22 : decode cX3_cost 22 = .ok (.getfield 66, 3) := by decide +kernel
theorem dX3_cost_25 : decode cX3_cost 25 = .ok (.if_icmp .ge 104, 3) := by decide +kernel
theorem dX3_cost_28 : decode cX3_cost 28 = .ok (.iconst 1, 1) := by decide +kernel
theorem dX3_cost_29 : decode cX3_cost 29 = .ok (.aload_n 0, 1) := by decide +kernel
theorem dX3_cost_30 : decode cX3_cost 30 = .ok (.getfield 10, 3) := by decide +kernel
theorem dX3_cost_33 : decode cX3_cost 33 = .ok (.getfield 77, 3) := by decide +kernel
theorem dX3_cost_36 : decode cX3_cost 36 = .ok (.iload 4, 2) := by decide +kernel
theorem dX3_cost_38 : decode cX3_cost 38 = .ok (.iaload, 1) := by decide +kernel
theorem dX3_cost_39 : decode cX3_cost 39 = .ok (.ishl, 1) := by decide +kernel
theorem dX3_cost_40 : decode cX3_cost 40 = .ok (.istore 5, 2) := by decide +kernel
theorem dX3_cost_42 : decode cX3_cost 42 = .ok (.iload 4, 2) := by decide +kernel
theorem dX3_cost_44 : decode cX3_cost 44 = .ok (.aload_n 0, 1) := by decide +kernel
theorem dX3_cost_45 : decode cX3_cost 45 = .ok (.getfield 48, 3) := by decide +kernel
theorem dX3_cost_48 : decode cX3_cost 48 = .ok (.if_icmp .ge 20, 3) := by decide +kernel
theorem dX3_cost_51 : decode cX3_cost 51 = .ok (.aload_n 0, 1) := by decide +kernel
theorem dX3_cost_52 : decode cX3_cost 52 = .ok (.getfield 39, 3) := by decide +kernel
theorem dX3_cost_55 : decode cX3_cost 55 = .ok (.iload 4, 2) := by decide +kernel
theorem dX3_cost_57 : decode cX3_cost 57 = .ok (.iaload, 1) := by decide +kernel
theorem dX3_cost_58 : decode cX3_cost 58 = .ok (.iload_n 2, 1) := by decide +kernel
theorem dX3_cost_59 : decode cX3_cost 59 = .ok (.iload 5, 2) := by decide +kernel
theorem dX3_cost_61 : decode cX3_cost 61 = .ok (.iload_n 1, 1) := by decide +kernel
theorem dX3_cost_62 : decode cX3_cost 62 = .ok (.invokestatic 159, 3) := by decide +kernel
theorem dX3_cost_65 : decode cX3_cost 65 = .ok (.ifCond .ne 9, 3) := by decide +kernel
theorem dX3_cost_68 : decode cX3_cost 68 = .ok (.bipush (-2), 2) := by decide +kernel
theorem dX3_cost_70 : decode cX3_cost 70 = .ok (.iload 4, 2) := by decide +kernel
theorem dX3_cost_72 : decode cX3_cost 72 = .ok (.isub, 1) := by decide +kernel
theorem dX3_cost_73 : decode cX3_cost 73 = .ok (.ireturn, 1) := by decide +kernel
theorem dX3_cost_74 : decode cX3_cost 74 = .ok (.iload_n 2, 1) := by decide +kernel
theorem dX3_cost_75 : decode cX3_cost 75 = .ok (.iload 5, 2) := by decide +kernel
theorem dX3_cost_77 : decode cX3_cost 77 = .ok (.iand, 1) := by decide +kernel
theorem dX3_cost_78 : decode cX3_cost 78 = .ok (.ifCond .ne 15, 3) := by decide +kernel
theorem dX3_cost_81 : decode cX3_cost 81 = .ok (.iload_n 3, 1) := by decide +kernel
theorem dX3_cost_82 : decode cX3_cost 82 = .ok (.aload_n 0, 1) := by decide +kernel
theorem dX3_cost_83 : decode cX3_cost 83 = .ok (.getfield 10, 3) := by decide +kernel
theorem dX3_cost_86 : decode cX3_cost 86 = .ok (.iload 4, 2) := by decide +kernel
theorem dX3_cost_88 : decode cX3_cost 88 = .ok (.invokevirtual 109, 3) := by decide +kernel
theorem dX3_cost_91 : decode cX3_cost 91 = .ok (.iadd, 1) := by decide +kernel
theorem dX3_cost_92 : decode cX3_cost 92 = .ok (.istore_n 3, 1) := by decide +kernel
theorem dX3_cost_93 : decode cX3_cost 93 = .ok (.aload_n 0, 1) := by decide +kernel
theorem dX3_cost_94 : decode cX3_cost 94 = .ok (.getfield 39, 3) := by decide +kernel
theorem dX3_cost_97 : decode cX3_cost 97 = .ok (.iload 4, 2) := by decide +kernel
theorem dX3_cost_99 : decode cX3_cost 99 = .ok (.iaload, 1) := by decide +kernel
theorem dX3_cost_100 : decode cX3_cost 100 = .ok (.iconst (-1), 1) := by decide +kernel
theorem dX3_cost_101 : decode cX3_cost 101 = .ok (.if_icmp .eq 17, 3) := by decide +kernel
theorem dX3_cost_104 : decode cX3_cost 104 = .ok (.iload_n 2, 1) := by decide +kernel
theorem dX3_cost_105 : decode cX3_cost 105 = .ok (.iconst 1, 1) := by decide +kernel
theorem dX3_cost_106 : decode cX3_cost 106 = .ok (.aload_n 0, 1) := by decide +kernel
theorem dX3_cost_107 : decode cX3_cost 107 = .ok (.getfield 39, 3) := by decide +kernel
theorem dX3_cost_110 : decode cX3_cost 110 = .ok (.iload 4, 2) := by decide +kernel
theorem dX3_cost_112 : decode cX3_cost 112 = .ok (.iaload, 1) := by decide +kernel
theorem dX3_cost_113 : decode cX3_cost 113 = .ok (.ishl, 1) := by decide +kernel
theorem dX3_cost_114 : decode cX3_cost 114 = .ok (.iconst (-1), 1) := by decide +kernel
theorem dX3_cost_115 : decode cX3_cost 115 = .ok (.ixor, 1) := by decide +kernel
theorem dX3_cost_116 : decode cX3_cost 116 = .ok (.iand, 1) := by decide +kernel
theorem dX3_cost_117 : decode cX3_cost 117 = .ok (.istore_n 2, 1) := by decide +kernel
theorem dX3_cost_118 : decode cX3_cost 118 = .ok (.iload_n 2, 1) := by decide +kernel
theorem dX3_cost_119 : decode cX3_cost 119 = .ok (.iload 5, 2) := by decide +kernel
theorem dX3_cost_121 : decode cX3_cost 121 = .ok (.ior, 1) := by decide +kernel
theorem dX3_cost_122 : decode cX3_cost 122 = .ok (.istore_n 2, 1) := by decide +kernel
theorem dX3_cost_123 : decode cX3_cost 123 = .ok (.iinc 4 1, 3) := by decide +kernel
theorem dX3_cost_126 : decode cX3_cost 126 = .ok (.goto (-110), 3) := by decide +kernel
theorem dX3_cost_129 : decode cX3_cost 129 = .ok (.aload_n 0, 1) := by decide +kernel
theorem dX3_cost_130 : decode cX3_cost 130 = .ok (.getfield 48, 3) := by decide +kernel
theorem dX3_cost_133 : decode cX3_cost 133 = .ok (.aload_n 0, 1) := by decide +kernel
theorem dX3_cost_134 : decode cX3_cost 134 = .ok (.getfield 10, 3) := by decide +kernel
theorem dX3_cost_137 : decode cX3_cost 137 = .ok (.getfield 66, 3) := by decide +kernel
theorem dX3_cost_140 : decode cX3_cost 140 = .ok (.if_icmp .le 16, 3) := by decide +kernel
theorem dX3_cost_143 : decode cX3_cost 143 = .ok (.bipush (-2), 2) := by decide +kernel
theorem dX3_cost_145 : decode cX3_cost 145 = .ok (.aload_n 0, 1) := by decide +kernel
theorem dX3_cost_146 : decode cX3_cost 146 = .ok (.getfield 10, 3) := by decide +kernel
theorem dX3_cost_149 : decode cX3_cost 149 = .ok (.getfield 66, 3) := by decide +kernel
theorem dX3_cost_152 : decode cX3_cost 152 = .ok (.isub, 1) := by decide +kernel
theorem dX3_cost_153 : decode cX3_cost 153 = .ok (.goto 4, 3) := by decide +kernel
theorem dX3_cost_156 : decode cX3_cost 156 = .ok (.iload_n 3, 1) := by decide +kernel
theorem dX3_cost_157 : decode cX3_cost 157 = .ok (.ireturn, 1) := by decide +kernel
theorem dX3_check_0 : decode cX3_check 0 = .ok (.iload_n 1, 1) := by decide +kernel
theorem dX3_check_1 : decode cX3_check 1 = .ok (.invokestatic 87, 3) := by decide +kernel
theorem dX3_check_4 : decode cX3_check 4 = .ok (.ifCond .eq 10, 3) := by decide +kernel
theorem dX3_check_7 : decode cX3_check 7 = .ok (.iload_n 2, 1) := by decide +kernel
theorem dX3_check_8 : decode cX3_check 8 = .ok (.invokestatic 90, 3) := by decide +kernel
theorem dX3_check_11 : decode cX3_check 11 = .ok (.ifCond .ne 6, 3) := by decide +kernel
theorem dX3_check_14 : decode cX3_check 14 = .ok (.bipush (-2), 2) := by decide +kernel
theorem dX3_check_16 : decode cX3_check 16 = .ok (.ireturn, 1) := by decide +kernel
theorem dX3_check_17 : decode cX3_check 17 = .ok (.aload_n 0, 1) := by decide +kernel
theorem dX3_check_18 : decode cX3_check 18 = .ok (.getfield 25, 3) := by decide +kernel
theorem dX3_check_21 : decode cX3_check 21 = .ok (.iload_n 1, 1) := by decide +kernel
theorem dX3_check_22 : decode cX3_check 22 = .ok (.iload_n 2, 1) := by decide +kernel
theorem dX3_check_23 : decode cX3_check 23 = .ok (.invokevirtual 93, 3) := by decide +kernel
theorem dX3_check_26 : decode cX3_check 26 = .ok (.iconst 0, 1) := by decide +kernel
theorem dX3_check_27 : decode cX3_check 27 = .ok (.istore_n 3, 1) := by decide +kernel
theorem dX3_check_28 : decode cX3_check 28 = .ok (.iload_n 3, 1) := by decide +kernel
theorem dX3_check_29 : decode cX3_check 29 = .ok (.aload_n 0, 1) := by decide +kernel
theorem dX3_check_30 : decode cX3_check 30 = .ok (.getfield 10, 3) := by decide +kernel
theorem dX3_check_33 : decode cX3_check 33 = .ok (.getfield 66, 3) := by decide +kernel
theorem dX3_check_36 : decode cX3_check 36 = .ok (.if_icmp .ge 35, 3) := by decide +kernel
theorem dX3_check_39 : decode cX3_check 39 = .ok (.iload_n 3, 1) := by decide +kernel
theorem dX3_check_40 : decode cX3_check 40 = .ok (.aload_n 0, 1) := by decide +kernel
theorem dX3_check_41 : decode cX3_check 41 = .ok (.getfield 48, 3) := by decide +kernel
theorem dX3_check_44 : decode cX3_check 44 = .ok (.if_icmp .ge 19, 3) := by decide +kernel
theorem dX3_check_47 : decode cX3_check 47 = .ok (.aload_n 0, 1) := by decide +kernel
theorem dX3_check_48 : decode cX3_check 48 = .ok (.getfield 39, 3) := by decide +kernel
theorem dX3_check_51 : decode cX3_check 51 = .ok (.iload_n 3, 1) := by decide +kernel
theorem dX3_check_52 : decode cX3_check 52 = .ok (.iaload, 1) := by decide +kernel
theorem dX3_check_53 : decode cX3_check 53 = .ok (.aload_n 0, 1) := by decide +kernel
theorem dX3_check_54 : decode cX3_check 54 = .ok (.getfield 25, 3) := by decide +kernel
theorem dX3_check_57 : decode cX3_check 57 = .ok (.invokevirtual 103, 3) := by decide +kernel
theorem dX3_check_60 : decode cX3_check 60 = .ok (.if_icmp .eq 5, 3) := by decide +kernel
theorem dX3_check_63 : decode cX3_check 63 = .ok (.iload_n 3, 1) := by decide +kernel
theorem dX3_check_64 : decode cX3_check 64 = .ok (.ireturn, 1) := by decide +kernel
theorem dX3_check_65 : decode cX3_check 65 = .ok (.iinc 3 1, 3) := by decide +kernel
theorem dX3_check_68 : decode cX3_check 68 = .ok (.goto (-40), 3) := by decide +kernel
theorem dX3_check_71 : decode cX3_check 71 = .ok (.aload_n 0, 1) := by decide +kernel
theorem dX3_check_72 : decode cX3_check 72 = .ok (.getfield 48, 3) := by decide +kernel
theorem dX3_check_75 : decode cX3_check 75 = .ok (.aload_n 0, 1) := by decide +kernel
theorem dX3_check_76 : decode cX3_check 76 = .ok (.getfield 10, 3) := by decide +kernel
theorem dX3_check_79 : decode cX3_check 79 = .ok (.getfield 66, 3) := by decide +kernel
theorem dX3_check_82 : decode cX3_check 82 = .ok (.if_icmp .le 13, 3) := by decide +kernel
theorem dX3_check_85 : decode cX3_check 85 = .ok (.aload_n 0, 1) := by decide +kernel
theorem dX3_check_86 : decode cX3_check 86 = .ok (.getfield 10, 3) := by decide +kernel
theorem dX3_check_89 : decode cX3_check 89 = .ok (.getfield 66, 3) := by decide +kernel
theorem dX3_check_92 : decode cX3_check 92 = .ok (.goto 4, 3) := by decide +kernel
theorem dX3_check_95 : decode cX3_check 95 = .ok (.iconst (-1), 1) := by decide +kernel
theorem dX3_check_96 : decode cX3_check 96 = .ok (.ireturn, 1) := by decide +kernel
theorem dX3_forget_0 : decode cX3_forget 0 = .ok (.aload_n 0, 1) := by decide +kernel
theorem dX3_forget_1 : decode cX3_forget 1 = .ok (.iconst 0, 1) := by decide +kernel
theorem dX3_forget_2 : decode cX3_forget 2 = .ok (.putfield 52, 3) := by decide +kernel
theorem dX3_forget_5 : decode cX3_forget 5 = .ok (.aload_n 0, 1) := by decide +kernel
theorem dX3_forget_6 : decode cX3_forget 6 = .ok (.getfield 31, 3) := by decide +kernel
theorem dX3_forget_9 : decode cX3_forget 9 = .ok (.iconst 0, 1) := by decide +kernel
theorem dX3_forget_10 : decode cX3_forget 10 = .ok (.putfield 163, 3) := by decide +kernel
theorem dX3_forget_13 : decode cX3_forget 13 = .ok (.return_, 1) := by decide +kernel
theorem dX3_isThing_0 : decode cX3_isThing 0 = .ok (.iload_n 0, 1) := by decide +kernel
theorem dX3_isThing_1 : decode cX3_isThing 1 = .ok (.ifCond .lt 13, 3) := by decide +kernel
theorem dX3_isThing_4 : decode cX3_isThing 4 = .ok (.iload_n 0, 1) := by decide +kernel
theorem dX3_isThing_5 : decode cX3_isThing 5 = .ok (.bipush 16, 2) := by decide +kernel
theorem dX3_isThing_7 : decode cX3_isThing 7 = .ok (.if_icmp .ge 7, 3) := by decide +kernel
theorem dX3_isThing_10 : decode cX3_isThing 10 = .ok (.iconst 1, 1) := by decide +kernel
theorem dX3_isThing_11 : decode cX3_isThing 11 = .ok (.goto 4, 3) := by decide +kernel
theorem dX3_isThing_14 : decode cX3_isThing 14 = .ok (.iconst 0, 1) := by decide +kernel
theorem dX3_isThing_15 : decode cX3_isThing 15 = .ok (.ireturn, 1) := by decide +kernel
theorem dX3_isWay_0 : decode cX3_isWay 0 = .ok (.iload_n 0, 1) := by decide +kernel
theorem dX3_isWay_1 : decode cX3_isWay 1 = .ok (.ifCond .lt 13, 3) := by decide +kernel
theorem dX3_isWay_4 : decode cX3_isWay 4 = .ok (.iload_n 0, 1) := by decide +kernel
theorem dX3_isWay_5 : decode cX3_isWay 5 = .ok (.bipush 8, 2) := by decide +kernel
theorem dX3_isWay_7 : decode cX3_isWay 7 = .ok (.if_icmp .gt 7, 3) := by decide +kernel
theorem dX3_isWay_10 : decode cX3_isWay 10 = .ok (.iconst 1, 1) := by decide +kernel
theorem dX3_isWay_11 : decode cX3_isWay 11 = .ok (.goto 4, 3) := by decide +kernel
theorem dX3_isWay_14 : decode cX3_isWay 14 = .ok (.iconst 0, 1) := by decide +kernel
theorem dX3_isWay_15 : decode cX3_isWay 15 = .ok (.ireturn, 1) := by decide +kernel
theorem dX3_isPlaces_0 : decode cX3_isPlaces 0 = .ok (.iload_n 0, 1) := by decide +kernel
theorem dX3_isPlaces_1 : decode cX3_isPlaces 1 = .ok (.iconst 1, 1) := by decide +kernel
theorem dX3_isPlaces_2 : decode cX3_isPlaces 2 = .ok (.if_icmp .lt 13, 3) := by decide +kernel
theorem dX3_isPlaces_5 : decode cX3_isPlaces 5 = .ok (.iload_n 0, 1) := by decide +kernel
theorem dX3_isPlaces_6 : decode cX3_isPlaces 6 = .ok (.bipush 8, 2) := by decide +kernel
theorem dX3_isPlaces_8 : decode cX3_isPlaces 8 = .ok (.if_icmp .gt 7, 3) := by decide +kernel
theorem dX3_isPlaces_11 : decode cX3_isPlaces 11 = .ok (.iconst 1, 1) := by decide +kernel
theorem dX3_isPlaces_12 : decode cX3_isPlaces 12 = .ok (.goto 4, 3) := by decide +kernel
theorem dX3_isPlaces_15 : decode cX3_isPlaces 15 = .ok (.iconst 0, 1) := by decide +kernel
theorem dX3_isPlaces_16 : decode cX3_isPlaces 16 = .ok (.ireturn, 1) := by decide +kernel
theorem dX3_canGo_0 : decode cX3_canGo 0 = .ok (.iload_n 1, 1) := by decide +kernel
theorem dX3_canGo_1 : decode cX3_canGo 1 = .ok (.iload_n 2, 1) := by decide +kernel
theorem dX3_canGo_2 : decode cX3_canGo 2 = .ok (.iand, 1) := by decide +kernel
theorem dX3_canGo_3 : decode cX3_canGo 3 = .ok (.ifCond .ne 15, 3) := by decide +kernel
theorem dX3_canGo_6 : decode cX3_canGo 6 = .ok (.iload_n 1, 1) := by decide +kernel
theorem dX3_canGo_7 : decode cX3_canGo 7 = .ok (.invokestatic 166, 3) := by decide +kernel
theorem dX3_canGo_10 : decode cX3_canGo 10 = .ok (.iload_n 3, 1) := by decide +kernel
theorem dX3_canGo_11 : decode cX3_canGo 11 = .ok (.if_icmp .lt 7, 3) := by decide +kernel
theorem dX3_canGo_14 : decode cX3_canGo 14 = .ok (.iconst 1, 1) := by decide +kernel
theorem dX3_canGo_15 : decode cX3_canGo 15 = .ok (.goto 4, 3) := by decide +kernel
theorem dX3_canGo_18 : decode cX3_canGo 18 = .ok (.iconst 0, 1) := by decide +kernel
theorem dX3_canGo_19 : decode cX3_canGo 19 = .ok (.istore 4, 2) := by decide +kernel
theorem dX3_canGo_21 : decode cX3_canGo 21 = .ok (.iload 4, 2) := by decide +kernel
theorem dX3_canGo_23 : decode cX3_canGo 23 = .ok (.ifCond .ne 14, 3) := by decide +kernel
theorem dX3_canGo_26 : decode cX3_canGo 26 = .ok (.iload_n 0, 1) := by decide +kernel
theorem dX3_canGo_27 : decode cX3_canGo 27 = .ok (.iconst (-1), 1) := by decide +kernel
theorem dX3_canGo_28 : decode cX3_canGo 28 = .ok (.if_icmp .ne 7, 3) := by decide +kernel
theorem dX3_canGo_31 : decode cX3_canGo 31 = .ok (.iconst 1, 1) := by decide +kernel
theorem dX3_canGo_32 : decode cX3_canGo 32 = .ok (.goto 4, 3) := by decide +kernel
theorem dX3_canGo_35 : decode cX3_canGo 35 = .ok (.iconst 0, 1) := by decide +kernel
theorem dX3_canGo_36 : decode cX3_canGo 36 = .ok (.ireturn, 1) := by decide +kernel
theorem dX3_canGo_37 : decode cX3_canGo 37 = .ok (.iload_n 0, 1) := by decide +kernel
theorem dX3_canGo_38 : decode cX3_canGo 38 = .ok (.invokestatic 56, 3) := by decide +kernel
theorem dX3_canGo_41 : decode cX3_canGo 41 = .ok (.ifCond .eq 15, 3) := by decide +kernel
theorem dX3_canGo_44 : decode cX3_canGo 44 = .ok (.iload_n 1, 1) := by decide +kernel
theorem dX3_canGo_45 : decode cX3_canGo 45 = .ok (.iconst 1, 1) := by decide +kernel
theorem dX3_canGo_46 : decode cX3_canGo 46 = .ok (.iload_n 0, 1) := by decide +kernel
theorem dX3_canGo_47 : decode cX3_canGo 47 = .ok (.ishl, 1) := by decide +kernel
theorem dX3_canGo_48 : decode cX3_canGo 48 = .ok (.iand, 1) := by decide +kernel
theorem dX3_canGo_49 : decode cX3_canGo 49 = .ok (.ifCond .eq 7, 3) := by decide +kernel
theorem dX3_canGo_52 : decode cX3_canGo 52 = .ok (.iconst 1, 1) := by decide +kernel
theorem dX3_canGo_53 : decode cX3_canGo 53 = .ok (.goto 4, 3) := by decide +kernel
theorem dX3_canGo_56 : decode cX3_canGo 56 = .ok (.iconst 0, 1) := by decide +kernel
theorem dX3_canGo_57 : decode cX3_canGo 57 = .ok (.ireturn, 1) := by decide +kernel
end
section
theorem dX4_init_0 : decode cX4_init 0 = .ok (.aload_n 0, 1) := by decide +kernel
theorem dX4_init_1 : decode cX4_init 1 = .ok (.invokespecial 1, 3) := by decide +kernel
theorem dX4_init_4 : decode cX4_init 4 = .ok (.aload_n 0, 1) := by decide +kernel
theorem dX4_init_5 : decode cX4_init 5 = .ok (.bipush 16, 2) := by decide +kernel
theorem dX4_init_7 : decode cX4_init 7 = .ok (.newarray .int, 2) := by decide +kernel
theorem dX4_init_9 : decode cX4_init 9 = .ok (.putfield 7, 3) := by decide +kernel
theorem dX4_init_12 : decode cX4_init 12 = .ok (.aload_n 0, 1) := by decide +kernel
theorem dX4_init_13 : decode cX4_init 13 = .ok (.sipush 300, 3) := by decide +kernel
theorem dX4_init_16 : decode cX4_init 16 = .ok (.newarray .int, 2) := by decide +kernel
theorem dX4_init_18 : decode cX4_init 18 = .ok (.putfield 13, 3) := by decide +kernel
theorem dX4_init_21 : decode cX4_init 21 = .ok (.aload_n 0, 1) := by decide +kernel
theorem dX4_init_22 : decode cX4_init 22 = .ok (.sipush 300, 3) := by decide +kernel
theorem dX4_init_25 : decode cX4_init 25 = .ok (.newarray .int, 2) := by decide +kernel
theorem dX4_init_27 : decode cX4_init 27 = .ok (.putfield 16, 3) := by decide +kernel
theorem dX4_init_30 : decode cX4_init 30 = .ok (.aload_n 0, 1) := by decide +kernel
theorem dX4_init_31 : decode cX4_init 31 = .ok (.sipush 300, 3) := by decide +kernel
theorem dX4_init_34 : decode cX4_init 34 = .ok (.newarray .int, 2) := by decide +kernel
theorem dX4_init_36 : decode cX4_init 36 = .ok (.putfield 19, 3) := by decide +kernel
theorem dX4_init_39 : decode cX4_init 39 = .ok (.aload_n 0, 1) := by decide +kernel
theorem dX4_init_40 : decode cX4_init 40 = .ok (.sipush 300, 3) := by decide +kernel
theorem dX4_init_43 : decode cX4_init 43 = .ok (.newarray .int, 2) := by decide +kernel
theorem dX4_init_45 : decode cX4_init 45 = .ok (.putfield 22, 3) := by decide +kernel
theorem dX4_init_48 : decode cX4_init 48 = .ok (.aload_n 0, 1) := by decide +kernel
theorem dX4_init_49 : decode cX4_init 49 = .ok (.iconst 5, 1) := by decide +kernel
theorem dX4_init_50 : decode cX4_init 50 = .ok (.newarray .int, 2) := by decide +kernel
theorem dX4_init_52 : decode cX4_init 52 = .ok (.putfield 25, 3) := by decide +kernel
theorem dX4_init_55 : decode cX4_init 55 = .ok (.aload_n 0, 1) := by decide +kernel
theorem dX4_init_56 : decode cX4_init 56 = .ok (.bipush 16, 2) := by decide +kernel
theorem dX4_init_58 : decode cX4_init 58 = .ok (.newarray .boolean, 2) := by decide +kernel
theorem dX4_init_60 : decode cX4_init 60 = .ok (.putfield 28, 3) := by decide +kernel
theorem dX4_init_63 : decode cX4_init 63 = .ok (.aload_n 0, 1) := by decide +kernel
theorem dX4_init_64 : decode cX4_init 64 = .ok (.bipush 16, 2) := by decide +kernel
theorem dX4_init_66 : decode cX4_init 66 = .ok (.newarray .int, 2) := by decide +kernel
theorem dX4_init_68 : decode cX4_init 68 = .ok (.putfield 32, 3) := by decide +kernel
theorem dX4_init_71 : decode cX4_init 71 = .ok (.aload_n 0, 1) := by decide +kernel
theorem dX4_init_72 : decode cX4_init 72 = .ok (.bipush 16, 2) := by decide +kernel
theorem dX4_init_74 : decode cX4_init 74 = .ok (.newarray .int, 2) := by decide +kernel
theorem dX4_init_76 : decode cX4_init 76 = .ok (.putfield 35, 3) := by decide +kernel
theorem dX4_init_79 : decode cX4_init 79 = .ok (.aload_n 0, 1) := by decide +kernel
theorem dX4_init_80 : decode cX4_init 80 = .ok (.bipush 16, 2) := by decide +kernel
theorem dX4_init_82 : decode cX4_init 82 = .ok (.newarray .int, 2) := by decide +kernel
theorem dX4_init_84 : decode cX4_init 84 = .ok (.putfield 38, 3) := by decide +kernel
theorem dX4_init_87 : decode cX4_init 87 = .ok (.aload_n 0, 1) := by decide +kernel
theorem dX4_init_88 : decode cX4_init 88 = .ok (.bipush 16, 2) := by decide +kernel
theorem dX4_init_90 : decode cX4_init 90 = .ok (.newarray .boolean, 2) := by decide +kernel
theorem dX4_init_92 : decode cX4_init 92 = .ok (.putfield 41, 3) := by decide +kernel
theorem dX4_init_95 : decode cX4_init 95 = .ok (.aload_n 0, 1) := by decide +kernel
theorem dX4_init_96 : decode cX4_init 96 = .ok (.bipush 16, 2) := by decide +kernel
theorem dX4_init_98 : decode cX4_init 98 = .ok (.newarray .int, 2) := by decide +kernel
theorem dX4_init_100 : decode cX4_init 100 = .ok (.putfield 44, 3) := by decide +kernel
theorem dX4_init_103 : decode cX4_init 103 = .ok (.aload_n 0, 1) := by decide +kernel
theorem dX4_init_104 : decode cX4_init 104 = .ok (.bipush 16, 2) := by decide +kernel
theorem dX4_init_106 : decode cX4_init 106 = .ok (.newarray .int, 2) := by decide +kernel
theorem dX4_init_108 : decode cX4_init 108 = .ok (.putfield 47, 3) := by decide +kernel
theorem dX4_init_111 : decode cX4_init 111 = .ok (.aload_n 0, 1) := by decide +kernel
theorem dX4_init_112 : decode cX4_init 112 = .ok (.bipush 16, 2) := by decide +kernel
theorem dX4_init_114 : decode cX4_init 114 = .ok (.newarray .int, 2) := by decide +kernel
theorem dX4_init_116 : decode cX4_init 116 = .ok (.putfield 50, 3) := by decide +kernel
theorem dX4_init_119 : decode cX4_init 119 = .ok (.aload_n 0, 1) := by decide +kernel
theorem dX4_init_120 : decode cX4_init 120 = .ok (.bipush 16, 2) := by decide +kernel
theorem dX4_init_122 : decode cX4_init 122 = .ok (.newarray .int, 2) := by decide +kernel
theorem dX4_init_124 : decode cX4_init 124 = .ok (.putfield 53, 3) := by decide +kernel
theorem dX4_init_127 : decode cX4_init 127 = .ok (.aload_n 0, 1) := by decide +kernel
theorem dX4_init_128 : decode cX4_init 128 = .ok (.bipush 16, 2) := by decide +kernel
theorem dX4_init_130 : decode cX4_init 130 = .ok (.newarray .int, 2) := by decide +kernel
theorem dX4_init_132 : decode cX4_init 132 = .ok (.putfield 56, 3) := by decide +kernel
theorem dX4_init_135 : decode cX4_init 135 = .ok (.aload_n 0, 1) := by decide +kernel
theorem dX4_init_136 : decode cX4_init 136 = .ok (.ldc 59, 2) := by decide +kernel
theorem dX4_init_138 : decode cX4_init 138 = .ok (.newarray .int, 2) := by decide +kernel
theorem dX4_init_140 : decode cX4_init 140 = .ok (.putfield 60, 3) := by decide +kernel
theorem dX4_init_143 : decode cX4_init 143 = .ok (.aload_n 0, 1) := by decide +kernel
theorem dX4_init_144 : decode cX4_init 144 = .ok (.bipush 16, 2) := by decide +kernel
theorem dX4_init_146 : decode cX4_init 146 = .ok (.newarray .boolean, 2) := by decide +kernel
theorem dX4_init_148 : decode cX4_init 148 = .ok (.putfield 63, 3) := by decide +kernel
theorem dX4_init_151 : decode cX4_init 151 = .ok (.aload_n 0, 1) := by decide +kernel
theorem dX4_init_152 : decode cX4_init 152 = .ok (.bipush 16, 2) := by decide +kernel
theorem dX4_init_154 : decode cX4_init 154 = .ok (.newarray .boolean, 2) := by decide +kernel
theorem dX4_init_156 : decode cX4_init 156 = .ok (.putfield 66, 3) := by decide +kernel
theorem dX4_init_159 : decode cX4_init 159 = .ok (.iconst 0, 1) := by decide +kernel
theorem dX4_init_160 : decode cX4_init 160 = .ok (.istore_n 1, 1) := by decide +kernel
theorem dX4_init_161 : decode cX4_init 161 = .ok (.iload_n 1, 1) := by decide +kernel
theorem dX4_init_162 : decode cX4_init 162 = .ok (.bipush 16, 2) := by decide +kernel
theorem dX4_init_164 : decode cX4_init 164 = .ok (.if_icmp .ge 16, 3) := by decide +kernel
theorem dX4_init_167 : decode cX4_init 167 = .ok (.aload_n 0, 1) := by decide +kernel
theorem dX4_init_168 : decode cX4_init 168 = .ok (.getfield 7, 3) := by decide +kernel
theorem dX4_init_171 : decode cX4_init 171 = .ok (.iload_n 1, 1) := by decide +kernel
theorem dX4_init_172 : decode cX4_init 172 = .ok (.iconst 1, 1) := by decide +kernel
theorem dX4_init_173 : decode cX4_init 173 = .ok (.iastore, 1) := by decide +kernel
theorem dX4_init_174 : decode cX4_init 174 = .ok (.iinc 1 1, 3) := by decide +kernel
theorem dX4_init_177 : decode cX4_init 177 = .ok (.goto (-16), 3) := by decide +kernel
theorem dX4_init_180 : decode cX4_init 180 = .ok (.return_, 1) := by decide +kernel
theorem dX4_in_0 : decode cX4_in 0 = .ok (.iload_n 0, 1) := by decide +kernel
theorem dX4_in_1 : decode cX4_in 1 = .ok (.iload_n 1, 1) := by decide +kernel
theorem dX4_in_2 : decode cX4_in 2 = .ok (.if_icmp .lt 12, 3) := by decide +kernel
theorem dX4_in_5 : decode cX4_in 5 = .ok (.iload_n 0, 1) := by decide +kernel
theorem dX4_in_6 : decode cX4_in 6 = .ok (.iload_n 2, 1) := by decide +kernel
theorem dX4_in_7 : decode cX4_in 7 = .ok (.if_icmp .gt 7, 3) := by decide +kernel
theorem dX4_in_10 : decode cX4_in 10 = .ok (.iconst 1, 1) := by decide +kernel
theorem dX4_in_11 : decode cX4_in 11 = .ok (.goto 4, 3) := by decide +kernel
theorem dX4_in_14 : decode cX4_in 14 = .ok (.iconst 0, 1) := by decide +kernel
theorem dX4_in_15 : decode cX4_in 15 = .ok (.ireturn, 1) := by decide +kernel
theorem dX4_isThing_0 : decode cX4_isThing 0 = .ok (.iload_n 0, 1) := by decide +kernel
theorem dX4_isThing_1 : decode cX4_isThing 1 = .ok (.iconst 0, 1) := by decide +kernel
theorem dX4_isThing_2 : decode cX4_isThing 2 = .ok (.bipush 15, 2) := by decide +kernel
theorem dX4_isThing_4 : decode cX4_isThing 4 = .ok (.invokestatic 69, 3) := by decide +kernel
theorem dX4_isThing_7 : decode cX4_isThing 7 = .ok (.ireturn, 1) := by decide +kernel
theorem dX4_isAsking_0 : decode cX4_isAsking 0 = .ok (.iload_n 1, 1) := by decide +kernel
theorem dX4_isAsking_1 : decode cX4_isAsking 1 = .ok (.iconst 0, 1) := by decide +kernel
theorem dX4_isAsking_2 : decode cX4_isAsking 2 = .ok (.aload_n 0, 1) := by decide +kernel
theorem dX4_isAsking_3 : decode cX4_isAsking 3 = .ok (.getfield 73, 3) := by decide +kernel
theorem dX4_isAsking_6 : decode cX4_isAsking 6 = .ok (.iconst 1, 1) := by decide +kernel
theorem dX4_isAsking_7 : decode cX4_isAsking 7 = .ok (.isub, 1) := by decide +kernel
theorem dX4_isAsking_8 : decode cX4_isAsking 8 = .ok (.invokestatic 69, 3) := by decide +kernel
theorem dX4_isAsking_11 : decode cX4_isAsking 11 = .ok (.ireturn, 1) := by decide +kernel
theorem dX4_price_0 : decode cX4_price 0 = .ok (.iload_n 1, 1) := by decide +kernel
theorem dX4_price_1 : decode cX4_price 1 = .ok (.invokestatic 77, 3) := by decide +kernel
theorem dX4_price_4 : decode cX4_price 4 = .ok (.ifCond .eq 14, 3) := by decide +kernel
theorem dX4_price_7 : decode cX4_price 7 = .ok (.iload_n 2, 1) := by decide +kernel
theorem dX4_price_8 : decode cX4_price 8 = .ok (.iconst 1, 1) := by decide +kernel
theorem dX4_price_9 : decode cX4_price 9 = .ok (.sipush 1000, 3) := by decide +kernel
theorem dX4_price_12 : decode cX4_price 12 = .ok (.invokestatic 69, 3) := by decide +kernel
theorem dX4_price_15 : decode cX4_price 15 = .ok (.ifCond .ne 5, 3) := by decide +kernel
theorem dX4_price_18 : decode cX4_price 18 = .ok (.iconst (-1), 1) := by decide +kernel
theorem dX4_price_19 : decode cX4_price 19 = .ok (.ireturn, 1) := by decide +kernel
theorem dX4_price_20 : decode cX4_price 20 = .ok (.aload_n 0, 1) := by decide +kernel
theorem dX4_price_21 : decode cX4_price 21 = .ok (.iconst 0, 1) := by decide +kernel
theorem dX4_price_22 : decode cX4_price 22 = .ok (.putfield 81, 3) := by decide +kernel
theorem dX4_price_25 : decode cX4_price 25 = .ok (.aload_n 0, 1) := by decide +kernel
theorem dX4_price_26 : decode cX4_price 26 = .ok (.getfield 7, 3) := by decide +kernel
theorem dX4_price_29 : decode cX4_price 29 = .ok (.iload_n 1, 1) := by decide +kernel
theorem dX4_price_30 : decode cX4_price 30 = .ok (.iload_n 2, 1) := by decide +kernel
theorem dX4_price_31 : decode cX4_price 31 = .ok (.iastore, 1) := by decide +kernel
theorem dX4_price_32 : decode cX4_price 32 = .ok (.iconst 1, 1) := by decide +kernel
theorem dX4_price_33 : decode cX4_price 33 = .ok (.ireturn, 1) := by decide +kernel
theorem dX4_add_0 : decode cX4_add 0 = .ok (.aload_n 0, 1) := by decide +kernel
theorem dX4_add_1 : decode cX4_add 1 = .ok (.getfield 13, 3) := by decide +kernel
theorem dX4_add_4 : decode cX4_add 4 = .ok (.aload_n 0, 1) := by decide +kernel
theorem dX4_add_5 : decode cX4_add 5 = .ok (.getfield 73, 3) := by decide +kernel
theorem dX4_add_8 : decode cX4_add 8 = .ok (.iload_n 1, 1) := by decide +kernel
theorem dX4_add_9 : decode cX4_add 9 = .ok (.iastore, 1) := by decide +kernel
theorem dX4_add_10 : decode cX4_add 10 = .ok (.aload_n 0, 1) := by decide +kernel
theorem dX4_add_11 : decode cX4_add 11 = .ok (.dup, 1) := by decide +kernel
theorem dX4_add_12 : decode cX4_add 12 = .ok (.getfield 73, 3) := by decide +kernel
theorem dX4_add_15 : decode cX4_add 15 = .ok (.iconst 1, 1) := by decide +kernel
theorem dX4_add_16 : decode cX4_add 16 = .ok (.iadd, 1) := by decide +kernel
theorem dX4_add_17 : decode cX4_add 17 = .ok (.putfield 73, 3) := by decide +kernel
theorem dX4_add_20 : decode cX4_add 20 = .ok (.return_, 1) := by decide +kernel
theorem dX4_ask_0 : decode cX4_ask 0 = .ok (.aload_n 0, 1) := by decide +kernel
theorem dX4_ask_1 : decode cX4_ask 1 = .ok (.getfield 25, 3) := by decide +kernel
theorem dX4_ask_4 : decode cX4_ask 4 = .ok (.iconst 0, 1) := by decide +kernel
theorem dX4_ask_5 : decode cX4_ask 5 = .ok (.iload_n 1, 1) := by decide +kernel
theorem dX4_ask_6 : decode cX4_ask 6 = .ok (.iastore, 1) := by decide +kernel
theorem dX4_ask_7 : decode cX4_ask 7 = .ok (.aload_n 0, 1) := by decide +kernel
theorem dX4_ask_8 : decode cX4_ask 8 = .ok (.getfield 25, 3) := by decide +kernel
theorem dX4_ask_11 : decode cX4_ask 11 = .ok (.iconst 1, 1) := by decide +kernel
theorem dX4_ask_12 : decode cX4_ask 12 = .ok (.iload_n 2, 1) := by decide +kernel
theorem dX4_ask_13 : decode cX4_ask 13 = .ok (.iastore, 1) := by decide +kernel
theorem dX4_ask_14 : decode cX4_ask 14 = .ok (.aload_n 0, 1) := by decide +kernel
theorem dX4_ask_15 : decode cX4_ask 15 = .ok (.getfield 25, 3) := by decide +kernel
theorem dX4_ask_18 : decode cX4_ask 18 = .ok (.iconst 2, 1) := by decide +kernel
theorem dX4_ask_19 : decode cX4_ask 19 = .ok (.iload_n 3, 1) := by decide +kernel
theorem dX4_ask_20 : decode cX4_ask 20 = .ok (.iastore, 1) := by decide +kernel
theorem dX4_ask_21 : decode cX4_ask 21 = .ok (.aload_n 0, 1) := by decide +kernel
theorem dX4_ask_22 : decode cX4_ask 22 = .ok (.getfield 25, 3) := by decide +kernel
theorem dX4_ask_25 : decode cX4_ask 25 = .ok (.iconst 3, 1) := by decide +kernel
theorem dX4_ask_26 : decode cX4_ask 26 = .ok (.iload 4, 2) := by decide +kernel
theorem dX4_ask_28 : decode cX4_ask 28 = .ok (.iastore, 1) := by decide +kernel
theorem dX4_ask_29 : decode cX4_ask 29 = .ok (.aload_n 0, 1) := by decide +kernel
theorem dX4_ask_30 : decode cX4_ask 30 = .ok (.getfield 25, 3) := by decide +kernel
theorem dX4_ask_33 : decode cX4_ask 33 = .ok (.iconst 4, 1) := by decide +kernel
theorem dX4_ask_34 : decode cX4_ask 34 = .ok (.iload 5, 2) := by decide +kernel
theorem dX4_ask_36 : decode cX4_ask 36 = .ok (.iastore, 1) := by decide +kernel
theorem dX4_ask_37 : decode cX4_ask 37 = .ok (.iconst 0, 1) := by decide +kernel
theorem dX4_ask_38 : decode cX4_ask 38 = .ok (.istore 6, 2) := by decide +kernel
theorem dX4_ask_40 : decode cX4_ask 40 = .ok (.iload 6, 2) := by decide +kernel
theorem dX4_ask_42 : decode cX4_ask 42 = .ok (.iconst 5, 1) := by decide +kernel
theorem dX4_ask_43 : decode cX4_ask 43 = .ok (.if_icmp .ge 35, 3) := by decide +kernel
theorem dX4_ask_46 : decode cX4_ask 46 = .ok (.aload_n 0, 1) := by decide +kernel
theorem dX4_ask_47 : decode cX4_ask 47 = .ok (.getfield 25, 3) := by decide +kernel
theorem dX4_ask_50 : decode cX4_ask 50 = .ok (.iload 6, 2) := by decide +kernel
theorem dX4_ask_52 : decode cX4_ask 52 = .ok (.iaload, 1) := by decide +kernel
theorem dX4_ask_53 : decode cX4_ask 53 = .ok (.iconst (-1), 1) := by decide +kernel
theorem dX4_ask_54 : decode cX4_ask 54 = .ok (.if_icmp .eq 24, 3) := by decide +kernel
theorem dX4_ask_57 : decode cX4_ask 57 = .ok (.aload_n 0, 1) := by decide +kernel
theorem dX4_ask_58 : decode cX4_ask 58 = .ok (.getfield 25, 3) := by decide +kernel
theorem dX4_ask_61 : decode cX4_ask 61 = .ok (.iload 6, 2) := by decide +kernel
theorem dX4_ask_63 : decode cX4_ask 63 = .ok (.iaload, 1) := by decide +kernel
theorem dX4_ask_64 : decode cX4_ask 64 = .ok (.invokestatic 77, 3) := by decide +kernel
theorem dX4_ask_67 : decode cX4_ask 67 = .ok (.ifCond .ne 5, 3) := by decide +kernel
theorem dX4_ask_70 : decode cX4_ask 70 = .ok (.iconst (-1), 1) := by decide +kernel
theorem dX4_ask_71 : decode cX4_ask 71 = .ok (.ireturn, 1) := by decide +kernel
theorem dX4_ask_72 : decode cX4_ask 72 = .ok (.iinc 6 1, 3) := by decide +kernel
theorem dX4_ask_75 : decode cX4_ask 75 = .ok (.goto (-35), 3) := by decide +kernel
theorem dX4_ask_78 : decode cX4_ask 78 = .ok (.aload_n 0, 1) := by decide +kernel
theorem dX4_ask_79 : decode cX4_ask 79 = .ok (.getfield 73, 3) := by decide +kernel
theorem dX4_ask_82 : decode cX4_ask 82 = .ok (.iload 6, 2) := by decide +kernel
theorem dX4_ask_84 : decode cX4_ask 84 = .ok (.iadd, 1) := by decide +kernel
theorem dX4_ask_85 : decode cX4_ask 85 = .ok (.sipush 300, 3) := by decide +kernel
theorem dX4_ask_88 : decode cX4_ask 88 = .ok (.if_icmp .le 6, 3) := by decide +kernel
theorem dX4_ask_91 : decode cX4_ask 91 = .ok (.bipush (-2), 2) := by decide +kernel
theorem dX4_ask_93 : decode cX4_ask 93 = .ok (.ireturn, 1) := by decide +kernel
theorem dX4_ask_94 : decode cX4_ask 94 = .ok (.aload_n 0, 1) := by decide +kernel
theorem dX4_ask_95 : decode cX4_ask 95 = .ok (.iconst 0, 1) := by decide +kernel
theorem dX4_ask_96 : decode cX4_ask 96 = .ok (.putfield 81, 3) := by decide +kernel
theorem dX4_ask_99 : decode cX4_ask 99 = .ok (.iconst 0, 1) := by decide +kernel
theorem dX4_ask_100 : decode cX4_ask 100 = .ok (.istore 7, 2) := by decide +kernel
theorem dX4_ask_102 : decode cX4_ask 102 = .ok (.iload 7, 2) := by decide +kernel
theorem dX4_ask_104 : decode cX4_ask 104 = .ok (.iload 6, 2) := by decide +kernel
theorem dX4_ask_106 : decode cX4_ask 106 = .ok (.if_icmp .ge 20, 3) := by decide +kernel
theorem dX4_ask_109 : decode cX4_ask 109 = .ok (.aload_n 0, 1) := by decide +kernel
theorem dX4_ask_110 : decode cX4_ask 110 = .ok (.aload_n 0, 1) := by decide +kernel
theorem dX4_ask_111 : decode cX4_ask 111 = .ok (.getfield 25, 3) := by decide +kernel
theorem dX4_ask_114 : decode cX4_ask 114 = .ok (.iload 7, 2) := by decide +kernel
theorem dX4_ask_116 : decode cX4_ask 116 = .ok (.iaload, 1) := by decide +kernel
theorem dX4_ask_117 : decode cX4_ask 117 = .ok (.invokevirtual 85, 3) := by decide +kernel
theorem dX4_ask_120 : decode cX4_ask 120 = .ok (.iinc 7 1, 3) := by decide +kernel
theorem dX4_ask_123 : decode cX4_ask 123 = .ok (.goto (-21), 3) := by decide +kernel
theorem dX4_ask_126 : decode cX4_ask 126 = .ok (.aload_n 0, 1) := by decide +kernel
theorem dX4_ask_127 : decode cX4_ask 127 = .ok (.getfield 73, 3) := by decide +kernel
theorem dX4_ask_130 : decode cX4_ask 130 = .ok (.ireturn, 1) := by decide +kernel
theorem dX4_draw_0 : decode cX4_draw 0 = .ok (.iload_n 1, 1) := by decide +kernel
theorem dX4_draw_1 : decode cX4_draw 1 = .ok (.iconst 0, 1) := by decide +kernel
theorem dX4_draw_2 : decode cX4_draw 2 = .ok (.sipush 300, 3) := by decide +kernel
theorem dX4_draw_5 : decode cX4_draw 5 = .ok (.invokestatic 69, 3) := by decide +kernel
theorem dX4_draw_8 : decode cX4_draw 8 = .ok (.ifCond .eq 13, 3) := by decide +kernel
theorem dX4_draw_11 : decode cX4_draw 11 = .ok (.iload_n 2, 1) := by decide +kernel
theorem dX4_draw_12 : decode cX4_draw 12 = .ok (.iconst 1, 1) := by decide +kernel
theorem dX4_draw_13 : decode cX4_draw 13 = .ok (.bipush 16, 2) := by decide +kernel
theorem dX4_draw_15 : decode cX4_draw 15 = .ok (.invokestatic 69, 3) := by decide +kernel
theorem dX4_draw_18 : decode cX4_draw 18 = .ok (.ifCond .ne 5, 3) := by decide +kernel
theorem dX4_draw_21 : decode cX4_draw 21 = .ok (.iconst (-1), 1) := by decide +kernel
theorem dX4_draw_22 : decode cX4_draw 22 = .ok (.ireturn, 1) := by decide +kernel
theorem dX4_draw_23 : decode cX4_draw 23 = .ok (.aload_n 0, 1) := by decide +kernel
theorem dX4_draw_24 : decode cX4_draw 24 = .ok (.getfield 73, 3) := by decide +kernel
theorem dX4_draw_27 : decode cX4_draw 27 = .ok (.iload_n 1, 1) := by decide +kernel
theorem dX4_draw_28 : decode cX4_draw 28 = .ok (.iadd, 1) := by decide +kernel
theorem dX4_draw_29 : decode cX4_draw 29 = .ok (.sipush 300, 3) := by decide +kernel
theorem dX4_draw_32 : decode cX4_draw 32 = .ok (.if_icmp .le 6, 3) := by decide +kernel
theorem dX4_draw_35 : decode cX4_draw 35 = .ok (.bipush (-2), 2) := by decide +kernel
theorem dX4_draw_37 : decode cX4_draw 37 = .ok (.ireturn, 1) := by decide +kernel
theorem dX4_draw_38 : decode cX4_draw 38 = .ok (.iload_n 3, 1) := by decide +kernel
theorem dX4_draw_39 : decode cX4_draw 39 = .ok (.istore 4, 2) := by decide +kernel
theorem dX4_draw_41 : decode cX4_draw 41 = .ok (.aload_n 0, 1) := by decide +kernel
theorem dX4_draw_42 : decode cX4_draw 42 = .ok (.iconst 0, 1) := by decide +kernel
theorem dX4_draw_43 : decode cX4_draw 43 = .ok (.putfield 81, 3) := by decide +kernel
theorem dX4_draw_46 : decode cX4_draw 46 = .ok (.iconst 0, 1) := by decide +kernel
theorem dX4_draw_47 : decode cX4_draw 47 = .ok (.istore 5, 2) := by decide +kernel
theorem dX4_draw_49 : decode cX4_draw 49 = .ok (.iload 5, 2) := by decide +kernel
theorem dX4_draw_51 : decode cX4_draw 51 = .ok (.iload_n 1, 1) := by decide +kernel
theorem dX4_draw_52 : decode cX4_draw 52 = .ok (.if_icmp .ge 31, 3) := by decide +kernel
theorem dX4_draw_55 : decode cX4_draw 55 = .ok (.ldc 89, 2) := by decide +kernel
theorem dX4_draw_57 : decode cX4_draw 57 = .ok (.iload 4, 2) := by decide +kernel
theorem dX4_draw_59 : decode cX4_draw 59 = .ok (.imul, 1) := by decide +kernel
theorem dX4_draw_60 : decode cX4_draw 60 = .ok (.sipush 12345, 3) := by decide +kernel
theorem dX4_draw_63 : decode cX4_draw 63 = .ok (.iadd, 1) := by decide +kernel
theorem dX4_draw_64 : decode cX4_draw 64 = .ok (.istore 4, 2) := by decide +kernel
theorem dX4_draw_66 : decode cX4_draw 66 = .ok (.aload_n 0, 1) := by decide +kernel
theorem dX4_draw_67 : decode cX4_draw 67 = .ok (.iload 4, 2) := by decide +kernel
theorem dX4_draw_69 : decode cX4_draw 69 = .ok (.bipush 16, 2) := by decide +kernel
theorem dX4_draw_71 : decode cX4_draw 71 = .ok (.iushr, 1) := by decide +kernel
theorem dX4_draw_72 : decode cX4_draw 72 = .ok (.iload_n 2, 1) := by decide +kernel
theorem dX4_draw_73 : decode cX4_draw 73 = .ok (.irem, 1) := by decide +kernel
theorem dX4_draw_74 : decode cX4_draw 74 = .ok (.invokevirtual 85, 3) := by decide +kernel
theorem dX4_draw_77 : decode cX4_draw 77 = .ok (.iinc 5 1, 3) := by decide +kernel
theorem dX4_draw_80 : decode cX4_draw 80 = .ok (.goto (-31), 3) := by decide +kernel
theorem dX4_draw_83 : decode cX4_draw 83 = .ok (.aload_n 0, 1) := by decide +kernel
theorem dX4_draw_84 : decode cX4_draw 84 = .ok (.getfield 73, 3) := by decide +kernel
theorem dX4_draw_87 : decode cX4_draw 87 = .ok (.ireturn, 1) := by decide +kernel
theorem dX4_change_0 : decode cX4_change 0 = .ok (.aload_n 0, 1) := by decide +kernel
theorem dX4_change_1 : decode cX4_change 1 = .ok (.iload_n 1, 1) := by decide +kernel
theorem dX4_change_2 : decode cX4_change 2 = .ok (.invokevirtual 90, 3) := by decide +kernel
theorem dX4_change_5 : decode cX4_change 5 = .ok (.ifCond .eq 10, 3) := by decide +kernel
theorem dX4_change_8 : decode cX4_change 8 = .ok (.iload_n 2, 1) := by decide +kernel
theorem dX4_change_9 : decode cX4_change 9 = .ok (.invokestatic 77, 3) := by decide +kernel
theorem dX4_change_12 : decode cX4_change 12 = .ok (.ifCond .ne 5, 3) := by decide +kernel
theorem dX4_change_15 : decode cX4_change 15 = .ok (.iconst (-1), 1) := by decide +kernel
theorem dX4_change_16 : decode cX4_change 16 = .ok (.ireturn, 1) := by decide +kernel
theorem dX4_change_17 : decode cX4_change 17 = .ok (.aload_n 0, 1) := by decide +kernel
theorem dX4_change_18 : decode cX4_change 18 = .ok (.iconst 0, 1) := by decide +kernel
theorem dX4_change_19 : decode cX4_change 19 = .ok (.putfield 81, 3) := by decide +kernel
theorem dX4_change_22 : decode cX4_change 22 = .ok (.aload_n 0, 1) := by decide +kernel
theorem dX4_change_23 : decode cX4_change 23 = .ok (.getfield 13, 3) := by decide +kernel
theorem dX4_change_26 : decode cX4_change 26 = .ok (.iload_n 1, 1) := by decide +kernel
theorem dX4_change_27 : decode cX4_change 27 = .ok (.iload_n 2, 1) := by decide +kernel
theorem dX4_change_28 : decode cX4_change 28 = .ok (.iastore, 1) := by decide +kernel
theorem dX4_change_29 : decode cX4_change 29 = .ok (.iconst 1, 1) := by decide +kernel
theorem dX4_change_30 : decode cX4_change 30 = .ok (.ireturn, 1) := by decide +kernel
theorem dX4_cut_0 : decode cX4_cut 0 = .ok (.iload_n 1, 1) := by decide +kernel
theorem dX4_cut_1 : decode cX4_cut 1 = .ok (.iconst 0, 1) := by decide +kernel
theorem dX4_cut_2 : decode cX4_cut 2 = .ok (.aload_n 0, 1) := by decide +kernel
theorem dX4_cut_3 : decode cX4_cut 3 = .ok (.getfield 73, 3) := by decide +kernel
theorem dX4_cut_6 : decode cX4_cut 6 = .ok (.invokestatic 69, 3) := by decide +kernel
theorem dX4_cut_9 : decode cX4_cut 9 = .ok (.ifCond .ne 5, 3) := by decide +kernel
theorem dX4_cut_12 : decode cX4_cut 12 = .ok (.iconst (-1), 1) := by decide +kernel
theorem dX4_cut_13 : decode cX4_cut 13 = .ok (.ireturn, 1) := by decide +kernel
theorem dX4_cut_14 : decode cX4_cut 14 = .ok (.aload_n 0, 1) := by decide +kernel
theorem dX4_cut_15 : decode cX4_cut 15 = .ok (.iconst 0, 1) := by decide +kernel
theorem dX4_cut_16 : decode cX4_cut 16 = .ok (.putfield 81, 3) := by decide +kernel
theorem dX4_cut_19 : decode cX4_cut 19 = .ok (.aload_n 0, 1) := by decide +kernel
theorem dX4_cut_20 : decode cX4_cut 20 = .ok (.iload_n 1, 1) := by decide +kernel
theorem dX4_cut_21 : decode cX4_cut 21 = .ok (.putfield 73, 3) := by decide +kernel
theorem dX4_cut_24 : decode cX4_cut 24 = .ok (.iload_n 1, 1) := by decide +kernel
theorem dX4_cut_25 : decode cX4_cut 25 = .ok (.ireturn, 1) := by decide +kernel
theorem dX4_asked_0 : decode cX4_asked 0 = .ok (.aload_n 0, 1) := by decide +kernel
theorem dX4_asked_1 : decode cX4_asked 1 = .ok (.iload_n 1, 1) := by decide +kernel
theorem dX4_asked_2 : decode cX4_asked 2 = .ok (.invokevirtual 90, 3) := by decide +kernel
theorem dX4_asked_5 : decode cX4_asked 5 = .ok (.ifCond .eq 12, 3) := by decide +kernel
theorem dX4_asked_8 : decode cX4_asked 8 = .ok (.aload_n 0, 1) := by decide +kernel
theorem dX4_asked_9 : decode cX4_asked 9 = .ok (.getfield 13, 3) := by decide +kernel
theorem dX4_asked_12 : decode cX4_asked 12 = .ok (.iload_n 1, 1) := by decide +kernel
theorem dX4_asked_13 : decode cX4_asked 13 = .ok (.iaload, 1) := by decide +kernel
theorem dX4_asked_14 : decode cX4_asked 14 = .ok (.goto 4, 3) := by decide +kernel
theorem dX4_asked_17 : decode cX4_asked 17 = .ok (.iconst (-1), 1) := by decide +kernel
theorem dX4_asked_18 : decode cX4_asked 18 = .ok (.ireturn, 1) := by decide +kernel
theorem dX4_unlike_0 : decode cX4_unlike 0 = .ok (.iconst 0, 1) := by decide +kernel
theorem dX4_unlike_1 : decode cX4_unlike 1 = .ok (.istore_n 1, 1) := by decide +kernel
theorem dX4_unlike_2 : decode cX4_unlike 2 = .ok (.iconst 0, 1) := by decide +kernel
theorem dX4_unlike_3 : decode cX4_unlike 3 = .ok (.istore_n 2, 1) := by decide +kernel
theorem dX4_unlike_4 : decode cX4_unlike 4 = .ok (.iload_n 2, 1) := by decide +kernel
theorem dX4_unlike_5 : decode cX4_unlike 5 = .ok (.bipush 16, 2) := by decide +kernel
theorem dX4_unlike_7 : decode cX4_unlike 7 = .ok (.if_icmp .ge 62, 3) := by decide +kernel
theorem dX4_unlike_10 : decode cX4_unlike 10 = .ok (.iconst 0, 1) := by decide +kernel
theorem dX4_unlike_11 : decode cX4_unlike 11 = .ok (.istore_n 3, 1) := by decide +kernel
theorem dX4_unlike_12 : decode cX4_unlike 12 = .ok (.iconst 0, 1) := by decide +kernel
theorem dX4_unlike_13 : decode cX4_unlike 13 = .ok (.istore 4, 2) := by decide +kernel
theorem dX4_unlike_15 : decode cX4_unlike 15 = .ok (.iload 4, 2) := by decide +kernel
theorem dX4_unlike_17 : decode cX4_unlike 17 = .ok (.aload_n 0, 1) := by decide +kernel
theorem dX4_unlike_18 : decode cX4_unlike 18 = .ok (.getfield 73, 3) := by decide +kernel
theorem dX4_unlike_21 : decode cX4_unlike 21 = .ok (.if_icmp .ge 30, 3) := by decide +kernel
theorem dX4_unlike_24 : decode cX4_unlike 24 = .ok (.iload_n 3, 1) := by decide +kernel
theorem dX4_unlike_25 : decode cX4_unlike 25 = .ok (.ifCond .ne 14, 3) := by decide +kernel
theorem dX4_unlike_28 : decode cX4_unlike 28 = .ok (.aload_n 0, 1) := by decide +kernel
theorem dX4_unlike_29 : decode cX4_unlike 29 = .ok (.getfield 13, 3) := by decide +kernel
theorem dX4_unlike_32 : decode cX4_unlike 32 = .ok (.iload 4, 2) := by decide +kernel
theorem dX4_unlike_34 : decode cX4_unlike 34 = .ok (.iaload, 1) := by decide +kernel
theorem dX4_unlike_35 : decode cX4_unlike 35 = .ok (.iload_n 2, 1) := by decide +kernel
theorem dX4_unlike_36 : decode cX4_unlike 36 = .ok (.if_icmp .ne 7, 3) := by decide +kernel
theorem dX4_unlike_39 : decode cX4_unlike 39 = .ok (.iconst 1, 1) := by decide +kernel
theorem dX4_unlike_40 : decode cX4_unlike 40 = .ok (.goto 4, 3) := by decide +kernel
theorem dX4_unlike_43 : decode cX4_unlike 43 = .ok (.iconst 0, 1) := by decide +kernel
theorem dX4_unlike_44 : decode cX4_unlike 44 = .ok (.istore_n 3, 1) := by decide +kernel
theorem dX4_unlike_45 : decode cX4_unlike 45 = .ok (.iinc 4 1, 3) := by decide +kernel
theorem dX4_unlike_48 : decode cX4_unlike 48 = .ok (.goto (-33), 3) := by decide +kernel
theorem dX4_unlike_51 : decode cX4_unlike 51 = .ok (.iload_n 1, 1) := by decide +kernel
theorem dX4_unlike_52 : decode cX4_unlike 52 = .ok (.iload_n 3, 1) := by decide +kernel
theorem dX4_unlike_53 : decode cX4_unlike 53 = .ok (.ifCond .eq 7, 3) := by decide +kernel
theorem dX4_unlike_56 : decode cX4_unlike 56 = .ok (.iconst 1, 1) := by decide +kernel
theorem dX4_unlike_57 : decode cX4_unlike 57 = .ok (.goto 4, 3) := by decide +kernel
theorem dX4_unlike_60 : decode cX4_unlike 60 = .ok (.iconst 0, 1) := by decide +kernel
theorem dX4_unlike_61 : decode cX4_unlike 61 = .ok (.iadd, 1) := by decide +kernel
theorem dX4_unlike_62 : decode cX4_unlike 62 = .ok (.istore_n 1, 1) := by decide +kernel
theorem dX4_unlike_63 : decode cX4_unlike 63 = .ok (.iinc 2 1, 3) := by decide +kernel
theorem dX4_unlike_66 : decode cX4_unlike 66 = .ok (.goto (-62), 3) := by decide +kernel
theorem dX4_unlike_69 : decode cX4_unlike 69 = .ok (.iload_n 1, 1) := by decide +kernel
theorem dX4_unlike_70 : decode cX4_unlike 70 = .ok (.ireturn, 1) := by decide +kernel
theorem dX4_allPrices_0 : decode cX4_allPrices 0 = .ok (.iconst 0, 1) := by decide +kernel
theorem dX4_allPrices_1 : decode cX4_allPrices 1 = .ok (.istore_n 1, 1) := by decide +kernel
theorem dX4_allPrices_2 : decode cX4_allPrices 2 = .ok (.iconst 0, 1) := by decide +kernel
theorem dX4_allPrices_3 : decode cX4_allPrices 3 = .ok (.istore_n 2, 1) := by decide +kernel
theorem dX4_allPrices_4 : decode cX4_allPrices 4 = .ok (.iload_n 2, 1) := by decide +kernel
theorem dX4_allPrices_5 : decode cX4_allPrices 5 = .ok (.aload_n 0, 1) := by decide +kernel
theorem dX4_allPrices_6 : decode cX4_allPrices 6 = .ok (.getfield 73, 3) := by decide +kernel
theorem dX4_allPrices_9 : decode cX4_allPrices 9 = .ok (.if_icmp .ge 23, 3) := by decide +kernel
theorem dX4_allPrices_12 : decode cX4_allPrices 12 = .ok (.iload_n 1, 1) := by decide +kernel
theorem dX4_allPrices_13 : decode cX4_allPrices 13 = .ok (.aload_n 0, 1) := by decide +kernel
theorem dX4_allPrices_14 : decode cX4_allPrices 14 = .ok (.getfield 7, 3) := by decide +kernel
theorem dX4_allPrices_17 : decode cX4_allPrices 17 = .ok (.aload_n 0, 1) := by decide +kernel
theorem dX4_allPrices_18 : decode cX4_allPrices 18 = .ok (.getfield 13, 3) := by decide +kernel
theorem dX4_allPrices_21 : decode cX4_allPrices 21 = .ok (.iload_n 2, 1) := by decide +kernel
theorem dX4_allPrices_22 : decode cX4_allPrices 22 = .ok (.iaload, 1) := by decide +kernel
theorem dX4_allPrices_23 : decode cX4_allPrices 23 = .ok (.iaload, 1) := by decide +kernel
theorem dX4_allPrices_24 : decode cX4_allPrices 24 = .ok (.iadd, 1) := by decide +kernel
theorem dX4_allPrices_25 : decode cX4_allPrices 25 = .ok (.istore_n 1, 1) := by decide +kernel
theorem dX4_allPrices_26 : decode cX4_allPrices 26 = .ok (.iinc 2 1, 3) := by decide +kernel
theorem dX4_allPrices_29 : decode cX4_allPrices 29 = .ok (.goto (-25), 3) := by decide +kernel
theorem dX4_allPrices_32 : decode cX4_allPrices 32 = .ok (.iload_n 1, 1) := by decide +kernel
theorem dX4_allPrices_33 : decode cX4_allPrices 33 = .ok (.ireturn, 1) := by decide +kernel
theorem dX4_many_0 : decode cX4_many 0 = .ok (.iload_n 1, 1) := by decide +kernel
theorem dX4_many_1 : decode cX4_many 1 = .ok (.tableswitch 51 0 3 #[31, 36, 41, 46], 31) := by decide +kernel
theorem dX4_many_32 : decode cX4_many 32 = .ok (.aload_n 0, 1) := by decide +kernel
theorem dX4_many_33 : decode cX4_many 33 = .ok (.getfield 73, 3) := by decide +kernel
theorem dX4_many_36 : decode cX4_many 36 = .ok (.ireturn, 1) := by decide +kernel
theorem dX4_many_37 : decode cX4_many 37 = .ok (.aload_n 0, 1) := by decide +kernel
theorem dX4_many_38 : decode cX4_many 38 = .ok (.invokevirtual 93, 3) := by decide +kernel
theorem dX4_many_41 : decode cX4_many 41 = .ok (.ireturn, 1) := by decide +kernel
theorem dX4_many_42 : decode cX4_many 42 = .ok (.aload_n 0, 1) := by decide +kernel
theorem dX4_many_43 : decode cX4_many 43 = .ok (.getfield 97, 3) := by decide +kernel
theorem dX4_many_46 : decode cX4_many 46 = .ok (.ireturn, 1) := by decide +kernel
theorem dX4_many_47 : decode cX4_many 47 = .ok (.aload_n 0, 1) := by decide +kernel
theorem dX4_many_48 : decode cX4_many 48 = .ok (.invokevirtual 100, 3) := by decide +kernel
theorem dX4_many_51 : decode cX4_many 51 = .ok (.ireturn, 1) := by decide +kernel
theorem dX4_many_52 : decode cX4_many 52 = .ok (.iconst (-1), 1) := by decide +kernel
theorem dX4_many_53 : decode cX4_many 53 = .ok (.ireturn, 1) := by decide +kernel
theorem dX4_begin_0 : decode cX4_begin 0 = .ok (.aload_n 0, 1) := by decide +kernel
theorem dX4_begin_1 : decode cX4_begin 1 = .ok (.iload_n 1, 1) := by decide +kernel
theorem dX4_begin_2 : decode cX4_begin 2 = .ok (.putfield 103, 3) := by decide +kernel
theorem dX4_begin_5 : decode cX4_begin 5 = .ok (.aload_n 0, 1) := by decide +kernel
theorem dX4_begin_6 : decode cX4_begin 6 = .ok (.iload_n 2, 1) := by decide +kernel
theorem dX4_begin_7 : decode cX4_begin 7 = .ok (.putfield 106, 3) := by decide +kernel
theorem dX4_begin_10 : decode cX4_begin 10 = .ok (.aload_n 0, 1) := by decide +kernel
theorem dX4_begin_11 : decode cX4_begin 11 = .ok (.iconst 0, 1) := by decide +kernel
theorem dX4_begin_12 : decode cX4_begin 12 = .ok (.putfield 109, 3) := by decide +kernel
theorem dX4_begin_15 : decode cX4_begin 15 = .ok (.aload_n 0, 1) := by decide +kernel
theorem dX4_begin_16 : decode cX4_begin 16 = .ok (.iconst 0, 1) := by decide +kernel
theorem dX4_begin_17 : decode cX4_begin 17 = .ok (.putfield 112, 3) := by decide +kernel
theorem dX4_begin_20 : decode cX4_begin 20 = .ok (.aload_n 0, 1) := by decide +kernel
theorem dX4_begin_21 : decode cX4_begin 21 = .ok (.iconst 0, 1) := by decide +kernel
theorem dX4_begin_22 : decode cX4_begin 22 = .ok (.putfield 115, 3) := by decide +kernel
theorem dX4_begin_25 : decode cX4_begin 25 = .ok (.aload_n 0, 1) := by decide +kernel
theorem dX4_begin_26 : decode cX4_begin 26 = .ok (.iconst 0, 1) := by decide +kernel
theorem dX4_begin_27 : decode cX4_begin 27 = .ok (.putfield 118, 3) := by decide +kernel
theorem dX4_begin_30 : decode cX4_begin 30 = .ok (.aload_n 0, 1) := by decide +kernel
theorem dX4_begin_31 : decode cX4_begin 31 = .ok (.iconst 0, 1) := by decide +kernel
theorem dX4_begin_32 : decode cX4_begin 32 = .ok (.putfield 121, 3) := by decide +kernel
theorem dX4_begin_35 : decode cX4_begin 35 = .ok (.iconst 0, 1) := by decide +kernel
theorem dX4_begin_36 : decode cX4_begin 36 = .ok (.istore_n 3, 1) := by decide +kernel
theorem dX4_begin_37 : decode cX4_begin 37 = .ok (.iload_n 3, 1) := by decide +kernel
theorem dX4_begin_38 : decode cX4_begin 38 = .ok (.bipush 16, 2) := by decide +kernel
theorem dX4_begin_40 : decode cX4_begin 40 = .ok (.if_icmp .ge 51, 3) := by decide +kernel
theorem dX4_begin_43 : decode cX4_begin 43 = .ok (.aload_n 0, 1) := by decide +kernel
theorem dX4_begin_44 : decode cX4_begin 44 = .ok (.getfield 28, 3) := by decide +kernel
theorem dX4_begin_47 : decode cX4_begin 47 = .ok (.iload_n 3, 1) := by decide +kernel
theorem dX4_begin_48 : decode cX4_begin 48 = .ok (.iconst 0, 1) := by decide +kernel
theorem dX4_begin_49 : decode cX4_begin 49 = .ok (.bastore, 1) := by decide +kernel
theorem dX4_begin_50 : decode cX4_begin 50 = .ok (.aload_n 0, 1) := by decide +kernel
theorem dX4_begin_51 : decode cX4_begin 51 = .ok (.getfield 41, 3) := by decide +kernel
theorem dX4_begin_54 : decode cX4_begin 54 = .ok (.iload_n 3, 1) := by decide +kernel
theorem dX4_begin_55 : decode cX4_begin 55 = .ok (.iconst 0, 1) := by decide +kernel
theorem dX4_begin_56 : decode cX4_begin 56 = .ok (.bastore, 1) := by decide +kernel
theorem dX4_begin_57 : decode cX4_begin 57 = .ok (.aload_n 0, 1) := by decide +kernel
theorem dX4_begin_58 : decode cX4_begin 58 = .ok (.getfield 47, 3) := by decide +kernel
theorem dX4_begin_61 : decode cX4_begin 61 = .ok (.iload_n 3, 1) := by decide +kernel
theorem dX4_begin_62 : decode cX4_begin 62 = .ok (.iconst 0, 1) := by decide +kernel
theorem dX4_begin_63 : decode cX4_begin 63 = .ok (.iastore, 1) := by decide +kernel
theorem dX4_begin_64 : decode cX4_begin 64 = .ok (.aload_n 0, 1) := by decide +kernel
theorem dX4_begin_65 : decode cX4_begin 65 = .ok (.getfield 38, 3) := by decide +kernel
theorem dX4_begin_68 : decode cX4_begin 68 = .ok (.iload_n 3, 1) := by decide +kernel
theorem dX4_begin_69 : decode cX4_begin 69 = .ok (.iconst 0, 1) := by decide +kernel
theorem dX4_begin_70 : decode cX4_begin 70 = .ok (.iastore, 1) := by decide +kernel
theorem dX4_begin_71 : decode cX4_begin 71 = .ok (.aload_n 0, 1) := by decide +kernel
theorem dX4_begin_72 : decode cX4_begin 72 = .ok (.getfield 53, 3) := by decide +kernel
theorem dX4_begin_75 : decode cX4_begin 75 = .ok (.iload_n 3, 1) := by decide +kernel
theorem dX4_begin_76 : decode cX4_begin 76 = .ok (.iconst 0, 1) := by decide +kernel
theorem dX4_begin_77 : decode cX4_begin 77 = .ok (.iastore, 1) := by decide +kernel
theorem dX4_begin_78 : decode cX4_begin 78 = .ok (.aload_n 0, 1) := by decide +kernel
theorem dX4_begin_79 : decode cX4_begin 79 = .ok (.getfield 44, 3) := by decide +kernel
theorem dX4_begin_82 : decode cX4_begin 82 = .ok (.iload_n 3, 1) := by decide +kernel
theorem dX4_begin_83 : decode cX4_begin 83 = .ok (.iconst (-1), 1) := by decide +kernel
theorem dX4_begin_84 : decode cX4_begin 84 = .ok (.iastore, 1) := by decide +kernel
theorem dX4_begin_85 : decode cX4_begin 85 = .ok (.iinc 3 1, 3) := by decide +kernel
theorem dX4_begin_88 : decode cX4_begin 88 = .ok (.goto (-51), 3) := by decide +kernel
theorem dX4_begin_91 : decode cX4_begin 91 = .ok (.return_, 1) := by decide +kernel
theorem dX4_partSize_0 : decode cX4_partSize 0 = .ok (.iconst 0, 1) := by decide +kernel
theorem dX4_partSize_1 : decode cX4_partSize 1 = .ok (.istore_n 2, 1) := by decide +kernel
theorem dX4_partSize_2 : decode cX4_partSize 2 = .ok (.iconst 0, 1) := by decide +kernel
theorem dX4_partSize_3 : decode cX4_partSize 3 = .ok (.istore_n 3, 1) := by decide +kernel
theorem dX4_partSize_4 : decode cX4_partSize 4 = .ok (.iload_n 3, 1) := by decide +kernel
theorem dX4_partSize_5 : decode cX4_partSize 5 = .ok (.bipush 16, 2) := by decide +kernel
theorem dX4_partSize_7 : decode cX4_partSize 7 = .ok (.if_icmp .ge 27, 3) := by decide +kernel
theorem dX4_partSize_10 : decode cX4_partSize 10 = .ok (.iload_n 2, 1) := by decide +kernel
theorem dX4_partSize_11 : decode cX4_partSize 11 = .ok (.aload_n 0, 1) := by decide +kernel
theorem dX4_partSize_12 : decode cX4_partSize 12 = .ok (.getfield 47, 3) := by decide +kernel
theorem dX4_partSize_15 : decode cX4_partSize 15 = .ok (.iload_n 3, 1) := by decide +kernel
theorem dX4_partSize_16 : decode cX4_partSize 16 = .ok (.iaload, 1) := by decide +kernel
theorem dX4_partSize_17 : decode cX4_partSize 17 = .ok (.iload_n 1, 1) := by decide +kernel
theorem dX4_partSize_18 : decode cX4_partSize 18 = .ok (.if_icmp .ne 7, 3) := by decide +kernel
theorem dX4_partSize_21 : decode cX4_partSize 21 = .ok (.iconst 1, 1) := by decide +kernel
theorem dX4_partSize_22 : decode cX4_partSize 22 = .ok (.goto 4, 3) := by decide +kernel
theorem dX4_partSize_25 : decode cX4_partSize 25 = .ok (.iconst 0, 1) := by decide +kernel
theorem dX4_partSize_26 : decode cX4_partSize 26 = .ok (.iadd, 1) := by decide +kernel
theorem dX4_partSize_27 : decode cX4_partSize 27 = .ok (.istore_n 2, 1) := by decide +kernel
theorem dX4_partSize_28 : decode cX4_partSize 28 = .ok (.iinc 3 1, 3) := by decide +kernel
theorem dX4_partSize_31 : decode cX4_partSize 31 = .ok (.goto (-27), 3) := by decide +kernel
theorem dX4_partSize_34 : decode cX4_partSize 34 = .ok (.iload_n 2, 1) := by decide +kernel
theorem dX4_partSize_35 : decode cX4_partSize 35 = .ok (.ireturn, 1) := by decide +kernel
theorem dX4_firstIn_0 : decode cX4_firstIn 0 = .ok (.iconst (-1), 1) := by decide +kernel
theorem dX4_firstIn_1 : decode cX4_firstIn 1 = .ok (.istore_n 2, 1) := by decide +kernel
theorem dX4_firstIn_2 : decode cX4_firstIn 2 = .ok (.iconst 0, 1) := by decide +kernel
theorem dX4_firstIn_3 : decode cX4_firstIn 3 = .ok (.istore_n 3, 1) := by decide +kernel
theorem dX4_firstIn_4 : decode cX4_firstIn 4 = .ok (.iload_n 3, 1) := by decide +kernel
theorem dX4_firstIn_5 : decode cX4_firstIn 5 = .ok (.bipush 16, 2) := by decide +kernel
theorem dX4_firstIn_7 : decode cX4_firstIn 7 = .ok (.if_icmp .ge 44, 3) := by decide +kernel
theorem dX4_firstIn_10 : decode cX4_firstIn 10 = .ok (.aload_n 0, 1) := by decide +kernel
theorem dX4_firstIn_11 : decode cX4_firstIn 11 = .ok (.getfield 47, 3) := by decide +kernel
theorem dX4_firstIn_14 : decode cX4_firstIn 14 = .ok (.iload_n 3, 1) := by decide +kernel
theorem dX4_firstIn_15 : decode cX4_firstIn 15 = .ok (.iaload, 1) := by decide +kernel
theorem dX4_firstIn_16 : decode cX4_firstIn 16 = .ok (.iload_n 1, 1) := by decide +kernel
theorem dX4_firstIn_17 : decode cX4_firstIn 17 = .ok (.if_icmp .ne 26, 3) := by decide +kernel
theorem dX4_firstIn_20 : decode cX4_firstIn 20 = .ok (.iload_n 2, 1) := by decide +kernel
theorem dX4_firstIn_21 : decode cX4_firstIn 21 = .ok (.ifCond .lt 18, 3) := by decide +kernel
theorem dX4_firstIn_24 : decode cX4_firstIn 24 = .ok (.aload_n 0, 1) := by decide +kernel
theorem dX4_firstIn_25 : decode cX4_firstIn 25 = .ok (.getfield 50, 3) := by decide +kernel
theorem dX4_firstIn_28 : decode cX4_firstIn 28 = .ok (.iload_n 3, 1) := by decide +kernel
theorem dX4_firstIn_29 : decode cX4_firstIn 29 = .ok (.iaload, 1) := by decide +kernel
theorem dX4_firstIn_30 : decode cX4_firstIn 30 = .ok (.aload_n 0, 1) := by decide +kernel
theorem dX4_firstIn_31 : decode cX4_firstIn 31 = .ok (.getfield 50, 3) := by decide +kernel
theorem dX4_firstIn_34 : decode cX4_firstIn 34 = .ok (.iload_n 2, 1) := by decide +kernel
theorem dX4_firstIn_35 : decode cX4_firstIn 35 = .ok (.iaload, 1) := by decide +kernel
theorem dX4_firstIn_36 : decode cX4_firstIn 36 = .ok (.if_icmp .ge 7, 3) := by decide +kernel
theorem dX4_firstIn_39 : decode cX4_firstIn 39 = .ok (.iload_n 3, 1) := by decide +kernel
theorem dX4_firstIn_40 : decode cX4_firstIn 40 = .ok (.goto 4, 3) := by decide +kernel
theorem dX4_firstIn_43 : decode cX4_firstIn 43 = .ok (.iload_n 2, 1) := by decide +kernel
theorem dX4_firstIn_44 : decode cX4_firstIn 44 = .ok (.istore_n 2, 1) := by decide +kernel
theorem dX4_firstIn_45 : decode cX4_firstIn 45 = .ok (.iinc 3 1, 3) := by decide +kernel
theorem dX4_firstIn_48 : decode cX4_firstIn 48 = .ok (.goto (-44), 3) := by decide +kernel
theorem dX4_firstIn_51 : decode cX4_firstIn 51 = .ok (.iload_n 2, 1) := by decide +kernel
theorem dX4_firstIn_52 : decode cX4_firstIn 52 = .ok (.ireturn, 1) := by decide +kernel
theorem dX4_resting_0 : decode cX4_resting 0 = .ok (.iconst (-1), 1) := by decide +kernel
theorem dX4_resting_1 : decode cX4_resting 1 = .ok (.istore_n 3, 1) := by decide +kernel
theorem dX4_resting_2 : decode cX4_resting 2 = .ok (.iconst 0, 1) := by decide +kernel
theorem dX4_resting_3 : decode cX4_resting 3 = .ok (.istore 4, 2) := by decide +kernel
theorem dX4_resting_5 : decode cX4_resting 5 = .ok (.iload 4, 2) := by decide +kernel
theorem dX4_resting_7 : decode cX4_resting 7 = .ok (.bipush 16, 2) := by decide +kernel
theorem dX4_resting_9 : decode cX4_resting 9 = .ok (.if_icmp .ge 87, 3) := by decide +kernel
theorem dX4_resting_12 : decode cX4_resting 12 = .ok (.aload_n 0, 1) := by decide +kernel
theorem dX4_resting_13 : decode cX4_resting 13 = .ok (.getfield 28, 3) := by decide +kernel
theorem dX4_resting_16 : decode cX4_resting 16 = .ok (.iload 4, 2) := by decide +kernel
theorem dX4_resting_18 : decode cX4_resting 18 = .ok (.baload, 1) := by decide +kernel
theorem dX4_resting_19 : decode cX4_resting 19 = .ok (.ifCond .eq 36, 3) := by decide +kernel
theorem dX4_resting_22 : decode cX4_resting 22 = .ok (.iload_n 1, 1) := by decide +kernel
theorem dX4_resting_23 : decode cX4_resting 23 = .ok (.ifCond .eq 14, 3) := by decide +kernel
theorem dX4_resting_26 : decode cX4_resting 26 = .ok (.aload_n 0, 1) := by decide +kernel
theorem dX4_resting_27 : decode cX4_resting 27 = .ok (.getfield 47, 3) := by decide +kernel
theorem dX4_resting_30 : decode cX4_resting 30 = .ok (.iload 4, 2) := by decide +kernel
theorem dX4_resting_32 : decode cX4_resting 32 = .ok (.iaload, 1) := by decide +kernel
theorem dX4_resting_33 : decode cX4_resting 33 = .ok (.iload_n 1, 1) := by decide +kernel
theorem dX4_resting_34 : decode cX4_resting 34 = .ok (.if_icmp .ne 21, 3) := by decide +kernel
theorem dX4_resting_37 : decode cX4_resting 37 = .ok (.iload_n 2, 1) := by decide +kernel
theorem dX4_resting_38 : decode cX4_resting 38 = .ok (.ifCond .eq 13, 3) := by decide +kernel
theorem dX4_resting_41 : decode cX4_resting 41 = .ok (.aload_n 0, 1) := by decide +kernel
theorem dX4_resting_42 : decode cX4_resting 42 = .ok (.getfield 41, 3) := by decide +kernel
theorem dX4_resting_45 : decode cX4_resting 45 = .ok (.iload 4, 2) := by decide +kernel
theorem dX4_resting_47 : decode cX4_resting 47 = .ok (.baload, 1) := by decide +kernel
theorem dX4_resting_48 : decode cX4_resting 48 = .ok (.ifCond .ne 7, 3) := by decide +kernel
theorem dX4_resting_51 : decode cX4_resting 51 = .ok (.iconst 1, 1) := by decide +kernel
theorem dX4_resting_52 : decode cX4_resting 52 = .ok (.goto 4, 3) := by decide +kernel
theorem dX4_resting_55 : decode cX4_resting 55 = .ok (.iconst 0, 1) := by decide +kernel
theorem dX4_resting_56 : decode cX4_resting 56 = .ok (.istore 5, 2) := by decide +kernel
theorem dX4_resting_58 : decode cX4_resting 58 = .ok (.iload 5, 2) := by decide +kernel
theorem dX4_resting_60 : decode cX4_resting 60 = .ok (.ifCond .eq 28, 3) := by decide +kernel
theorem dX4_resting_63 : decode cX4_resting 63 = .ok (.iload_n 3, 1) := by decide +kernel
theorem dX4_resting_64 : decode cX4_resting 64 = .ok (.ifCond .lt 19, 3) := by decide +kernel
theorem dX4_resting_67 : decode cX4_resting 67 = .ok (.aload_n 0, 1) := by decide +kernel
theorem dX4_resting_68 : decode cX4_resting 68 = .ok (.getfield 35, 3) := by decide +kernel
theorem dX4_resting_71 : decode cX4_resting 71 = .ok (.iload 4, 2) := by decide +kernel
theorem dX4_resting_73 : decode cX4_resting 73 = .ok (.iaload, 1) := by decide +kernel
theorem dX4_resting_74 : decode cX4_resting 74 = .ok (.aload_n 0, 1) := by decide +kernel
theorem dX4_resting_75 : decode cX4_resting 75 = .ok (.getfield 35, 3) := by decide +kernel
theorem dX4_resting_78 : decode cX4_resting 78 = .ok (.iload_n 3, 1) := by decide +kernel
theorem dX4_resting_79 : decode cX4_resting 79 = .ok (.iaload, 1) := by decide +kernel
theorem dX4_resting_80 : decode cX4_resting 80 = .ok (.if_icmp .ge 8, 3) := by decide +kernel
theorem dX4_resting_83 : decode cX4_resting 83 = .ok (.iload 4, 2) := by decide +kernel
theorem dX4_resting_85 : decode cX4_resting 85 = .ok (.goto 4, 3) := by decide +kernel
theorem dX4_resting_88 : decode cX4_resting 88 = .ok (.iload_n 3, 1) := by decide +kernel
theorem dX4_resting_89 : decode cX4_resting 89 = .ok (.istore_n 3, 1) := by decide +kernel
theorem dX4_resting_90 : decode cX4_resting 90 = .ok (.iinc 4 1, 3) := by decide +kernel
theorem dX4_resting_93 : decode cX4_resting 93 = .ok (.goto (-88), 3) := by decide +kernel
theorem dX4_resting_96 : decode cX4_resting 96 = .ok (.iload_n 3, 1) := by decide +kernel
theorem dX4_resting_97 : decode cX4_resting 97 = .ok (.ireturn, 1) := by decide +kernel
theorem dX4_oldest_0 : decode cX4_oldest 0 = .ok (.iconst (-1), 1) := by decide +kernel
theorem dX4_oldest_1 : decode cX4_oldest 1 = .ok (.istore_n 1, 1) := by decide +kernel
theorem dX4_oldest_2 : decode cX4_oldest 2 = .ok (.iconst 0, 1) := by decide +kernel
theorem dX4_oldest_3 : decode cX4_oldest 3 = .ok (.istore_n 2, 1) := by decide +kernel
theorem dX4_oldest_4 : decode cX4_oldest 4 = .ok (.iload_n 2, 1) := by decide +kernel
theorem dX4_oldest_5 : decode cX4_oldest 5 = .ok (.bipush 16, 2) := by decide +kernel
theorem dX4_oldest_7 : decode cX4_oldest 7 = .ok (.if_icmp .ge 43, 3) := by decide +kernel
theorem dX4_oldest_10 : decode cX4_oldest 10 = .ok (.aload_n 0, 1) := by decide +kernel
theorem dX4_oldest_11 : decode cX4_oldest 11 = .ok (.getfield 28, 3) := by decide +kernel
theorem dX4_oldest_14 : decode cX4_oldest 14 = .ok (.iload_n 2, 1) := by decide +kernel
theorem dX4_oldest_15 : decode cX4_oldest 15 = .ok (.baload, 1) := by decide +kernel
theorem dX4_oldest_16 : decode cX4_oldest 16 = .ok (.ifCond .eq 26, 3) := by decide +kernel
theorem dX4_oldest_19 : decode cX4_oldest 19 = .ok (.iload_n 1, 1) := by decide +kernel
theorem dX4_oldest_20 : decode cX4_oldest 20 = .ok (.ifCond .lt 18, 3) := by decide +kernel
theorem dX4_oldest_23 : decode cX4_oldest 23 = .ok (.aload_n 0, 1) := by decide +kernel
theorem dX4_oldest_24 : decode cX4_oldest 24 = .ok (.getfield 32, 3) := by decide +kernel
theorem dX4_oldest_27 : decode cX4_oldest 27 = .ok (.iload_n 2, 1) := by decide +kernel
theorem dX4_oldest_28 : decode cX4_oldest 28 = .ok (.iaload, 1) := by decide +kernel
theorem dX4_oldest_29 : decode cX4_oldest 29 = .ok (.aload_n 0, 1) := by decide +kernel
theorem dX4_oldest_30 : decode cX4_oldest 30 = .ok (.getfield 32, 3) := by decide +kernel
theorem dX4_oldest_33 : decode cX4_oldest 33 = .ok (.iload_n 1, 1) := by decide +kernel
theorem dX4_oldest_34 : decode cX4_oldest 34 = .ok (.iaload, 1) := by decide +kernel
theorem dX4_oldest_35 : decode cX4_oldest 35 = .ok (.if_icmp .ge 7, 3) := by decide +kernel
theorem dX4_oldest_38 : decode cX4_oldest 38 = .ok (.iload_n 2, 1) := by decide +kernel
theorem dX4_oldest_39 : decode cX4_oldest 39 = .ok (.goto 4, 3) := by decide +kernel
theorem dX4_oldest_42 : decode cX4_oldest 42 = .ok (.iload_n 1, 1) := by decide +kernel
theorem dX4_oldest_43 : decode cX4_oldest 43 = .ok (.istore_n 1, 1) := by decide +kernel
theorem dX4_oldest_44 : decode cX4_oldest 44 = .ok (.iinc 2 1, 3) := by decide +kernel
theorem dX4_oldest_47 : decode cX4_oldest 47 = .ok (.goto (-43), 3) := by decide +kernel
theorem dX4_oldest_50 : decode cX4_oldest 50 = .ok (.iload_n 1, 1) := by decide +kernel
theorem dX4_oldest_51 : decode cX4_oldest 51 = .ok (.ireturn, 1) := by decide +kernel
theorem dX4_unmarked_0 : decode cX4_unmarked 0 = .ok (.aload_n 0, 1) := by decide +kernel
theorem dX4_unmarked_1 : decode cX4_unmarked 1 = .ok (.iconst 0, 1) := by decide +kernel
theorem dX4_unmarked_2 : decode cX4_unmarked 2 = .ok (.iconst 1, 1) := by decide +kernel
theorem dX4_unmarked_3 : decode cX4_unmarked 3 = .ok (.invokevirtual 124, 3) := by decide +kernel
theorem dX4_unmarked_6 : decode cX4_unmarked 6 = .ok (.istore_n 1, 1) := by decide +kernel
theorem dX4_unmarked_7 : decode cX4_unmarked 7 = .ok (.iload_n 1, 1) := by decide +kernel
theorem dX4_unmarked_8 : decode cX4_unmarked 8 = .ok (.ifCond .ge 41, 3) := by decide +kernel
theorem dX4_unmarked_11 : decode cX4_unmarked 11 = .ok (.iconst 0, 1) := by decide +kernel
theorem dX4_unmarked_12 : decode cX4_unmarked 12 = .ok (.istore_n 2, 1) := by decide +kernel
theorem dX4_unmarked_13 : decode cX4_unmarked 13 = .ok (.iload_n 2, 1) := by decide +kernel
theorem dX4_unmarked_14 : decode cX4_unmarked 14 = .ok (.bipush 16, 2) := by decide +kernel
theorem dX4_unmarked_16 : decode cX4_unmarked 16 = .ok (.if_icmp .ge 16, 3) := by decide +kernel
theorem dX4_unmarked_19 : decode cX4_unmarked 19 = .ok (.aload_n 0, 1) := by decide +kernel
theorem dX4_unmarked_20 : decode cX4_unmarked 20 = .ok (.getfield 41, 3) := by decide +kernel
theorem dX4_unmarked_23 : decode cX4_unmarked 23 = .ok (.iload_n 2, 1) := by decide +kernel
theorem dX4_unmarked_24 : decode cX4_unmarked 24 = .ok (.iconst 0, 1) := by decide +kernel
theorem dX4_unmarked_25 : decode cX4_unmarked 25 = .ok (.bastore, 1) := by decide +kernel
theorem dX4_unmarked_26 : decode cX4_unmarked 26 = .ok (.iinc 2 1, 3) := by decide +kernel
theorem dX4_unmarked_29 : decode cX4_unmarked 29 = .ok (.goto (-16), 3) := by decide +kernel
theorem dX4_unmarked_32 : decode cX4_unmarked 32 = .ok (.aload_n 0, 1) := by decide +kernel
theorem dX4_unmarked_33 : decode cX4_unmarked 33 = .ok (.dup, 1) := by decide +kernel
theorem dX4_unmarked_34 : decode cX4_unmarked 34 = .ok (.getfield 112, 3) := by decide +kernel
theorem dX4_unmarked_37 : decode cX4_unmarked 37 = .ok (.iconst 1, 1) := by decide +kernel
theorem dX4_unmarked_38 : decode cX4_unmarked 38 = .ok (.iadd, 1) := by decide +kernel
theorem dX4_unmarked_39 : decode cX4_unmarked 39 = .ok (.putfield 112, 3) := by decide +kernel
theorem dX4_unmarked_42 : decode cX4_unmarked 42 = .ok (.aload_n 0, 1) := by decide +kernel
theorem dX4_unmarked_43 : decode cX4_unmarked 43 = .ok (.iconst 0, 1) := by decide +kernel
theorem dX4_unmarked_44 : decode cX4_unmarked 44 = .ok (.iconst 1, 1) := by decide +kernel
theorem dX4_unmarked_45 : decode cX4_unmarked 45 = .ok (.invokevirtual 124, 3) := by decide +kernel
theorem dX4_unmarked_48 : decode cX4_unmarked 48 = .ok (.istore_n 1, 1) := by decide +kernel
theorem dX4_unmarked_49 : decode cX4_unmarked 49 = .ok (.iload_n 1, 1) := by decide +kernel
theorem dX4_unmarked_50 : decode cX4_unmarked 50 = .ok (.ireturn, 1) := by decide +kernel
theorem dX4_atPlace_0 : decode cX4_atPlace 0 = .ok (.iconst (-1), 1) := by decide +kernel
theorem dX4_atPlace_1 : decode cX4_atPlace 1 = .ok (.istore_n 2, 1) := by decide +kernel
theorem dX4_atPlace_2 : decode cX4_atPlace 2 = .ok (.iconst 0, 1) := by decide +kernel
theorem dX4_atPlace_3 : decode cX4_atPlace 3 = .ok (.istore_n 3, 1) := by decide +kernel
theorem dX4_atPlace_4 : decode cX4_atPlace 4 = .ok (.iload_n 3, 1) := by decide +kernel
theorem dX4_atPlace_5 : decode cX4_atPlace 5 = .ok (.bipush 16, 2) := by decide +kernel
theorem dX4_atPlace_7 : decode cX4_atPlace 7 = .ok (.if_icmp .ge 34, 3) := by decide +kernel
theorem dX4_atPlace_10 : decode cX4_atPlace 10 = .ok (.aload_n 0, 1) := by decide +kernel
theorem dX4_atPlace_11 : decode cX4_atPlace 11 = .ok (.getfield 28, 3) := by decide +kernel
theorem dX4_atPlace_14 : decode cX4_atPlace 14 = .ok (.iload_n 3, 1) := by decide +kernel
theorem dX4_atPlace_15 : decode cX4_atPlace 15 = .ok (.baload, 1) := by decide +kernel
theorem dX4_atPlace_16 : decode cX4_atPlace 16 = .ok (.ifCond .eq 17, 3) := by decide +kernel
theorem dX4_atPlace_19 : decode cX4_atPlace 19 = .ok (.aload_n 0, 1) := by decide +kernel
theorem dX4_atPlace_20 : decode cX4_atPlace 20 = .ok (.getfield 44, 3) := by decide +kernel
theorem dX4_atPlace_23 : decode cX4_atPlace 23 = .ok (.iload_n 3, 1) := by decide +kernel
theorem dX4_atPlace_24 : decode cX4_atPlace 24 = .ok (.iaload, 1) := by decide +kernel
theorem dX4_atPlace_25 : decode cX4_atPlace 25 = .ok (.iload_n 1, 1) := by decide +kernel
theorem dX4_atPlace_26 : decode cX4_atPlace 26 = .ok (.if_icmp .ne 7, 3) := by decide +kernel
theorem dX4_atPlace_29 : decode cX4_atPlace 29 = .ok (.iload_n 3, 1) := by decide +kernel
theorem dX4_atPlace_30 : decode cX4_atPlace 30 = .ok (.goto 4, 3) := by decide +kernel
theorem dX4_atPlace_33 : decode cX4_atPlace 33 = .ok (.iload_n 2, 1) := by decide +kernel
theorem dX4_atPlace_34 : decode cX4_atPlace 34 = .ok (.istore_n 2, 1) := by decide +kernel
theorem dX4_atPlace_35 : decode cX4_atPlace 35 = .ok (.iinc 3 1, 3) := by decide +kernel
theorem dX4_atPlace_38 : decode cX4_atPlace 38 = .ok (.goto (-34), 3) := by decide +kernel
theorem dX4_atPlace_41 : decode cX4_atPlace 41 = .ok (.iload_n 2, 1) := by decide +kernel
theorem dX4_atPlace_42 : decode cX4_atPlace 42 = .ok (.ireturn, 1) := by decide +kernel
theorem dX4_atHand_0 : decode cX4_atHand 0 = .ok (.aload_n 0, 1) := by decide +kernel
theorem dX4_atHand_1 : decode cX4_atHand 1 = .ok (.aload_n 0, 1) := by decide +kernel
theorem dX4_atHand_2 : decode cX4_atHand 2 = .ok (.getfield 115, 3) := by decide +kernel
theorem dX4_atHand_5 : decode cX4_atHand 5 = .ok (.invokevirtual 128, 3) := by decide +kernel
theorem dX4_atHand_8 : decode cX4_atHand 8 = .ok (.istore_n 1, 1) := by decide +kernel
theorem dX4_atHand_9 : decode cX4_atHand 9 = .ok (.aload_n 0, 1) := by decide +kernel
theorem dX4_atHand_10 : decode cX4_atHand 10 = .ok (.getfield 41, 3) := by decide +kernel
theorem dX4_atHand_13 : decode cX4_atHand 13 = .ok (.iload_n 1, 1) := by decide +kernel
theorem dX4_atHand_14 : decode cX4_atHand 14 = .ok (.baload, 1) := by decide +kernel
theorem dX4_atHand_15 : decode cX4_atHand 15 = .ok (.ifCond .eq 37, 3) := by decide +kernel
theorem dX4_atHand_18 : decode cX4_atHand 18 = .ok (.aload_n 0, 1) := by decide +kernel
theorem dX4_atHand_19 : decode cX4_atHand 19 = .ok (.getfield 41, 3) := by decide +kernel
theorem dX4_atHand_22 : decode cX4_atHand 22 = .ok (.iload_n 1, 1) := by decide +kernel
theorem dX4_atHand_23 : decode cX4_atHand 23 = .ok (.iconst 0, 1) := by decide +kernel
theorem dX4_atHand_24 : decode cX4_atHand 24 = .ok (.bastore, 1) := by decide +kernel
theorem dX4_atHand_25 : decode cX4_atHand 25 = .ok (.aload_n 0, 1) := by decide +kernel
theorem dX4_atHand_26 : decode cX4_atHand 26 = .ok (.aload_n 0, 1) := by decide +kernel
theorem dX4_atHand_27 : decode cX4_atHand 27 = .ok (.getfield 115, 3) := by decide +kernel
theorem dX4_atHand_30 : decode cX4_atHand 30 = .ok (.iconst 1, 1) := by decide +kernel
theorem dX4_atHand_31 : decode cX4_atHand 31 = .ok (.iadd, 1) := by decide +kernel
theorem dX4_atHand_32 : decode cX4_atHand 32 = .ok (.aload_n 0, 1) := by decide +kernel
theorem dX4_atHand_33 : decode cX4_atHand 33 = .ok (.getfield 106, 3) := by decide +kernel
theorem dX4_atHand_36 : decode cX4_atHand 36 = .ok (.irem, 1) := by decide +kernel
theorem dX4_atHand_37 : decode cX4_atHand 37 = .ok (.putfield 115, 3) := by decide +kernel
theorem dX4_atHand_40 : decode cX4_atHand 40 = .ok (.aload_n 0, 1) := by decide +kernel
theorem dX4_atHand_41 : decode cX4_atHand 41 = .ok (.aload_n 0, 1) := by decide +kernel
theorem dX4_atHand_42 : decode cX4_atHand 42 = .ok (.getfield 115, 3) := by decide +kernel
theorem dX4_atHand_45 : decode cX4_atHand 45 = .ok (.invokevirtual 128, 3) := by decide +kernel
theorem dX4_atHand_48 : decode cX4_atHand 48 = .ok (.istore_n 1, 1) := by decide +kernel
theorem dX4_atHand_49 : decode cX4_atHand 49 = .ok (.goto (-40), 3) := by decide +kernel
theorem dX4_atHand_52 : decode cX4_atHand 52 = .ok (.iload_n 1, 1) := by decide +kernel
theorem dX4_atHand_53 : decode cX4_atHand 53 = .ok (.ireturn, 1) := by decide +kernel
theorem dX4_least_0 : decode cX4_least 0 = .ok (.iconst (-1), 1) := by decide +kernel
theorem dX4_least_1 : decode cX4_least 1 = .ok (.istore_n 2, 1) := by decide +kernel
theorem dX4_least_2 : decode cX4_least 2 = .ok (.iconst 0, 1) := by decide +kernel
theorem dX4_least_3 : decode cX4_least 3 = .ok (.istore_n 3, 1) := by decide +kernel
theorem dX4_least_4 : decode cX4_least 4 = .ok (.iload_n 3, 1) := by decide +kernel
theorem dX4_least_5 : decode cX4_least 5 = .ok (.bipush 16, 2) := by decide +kernel
theorem dX4_least_7 : decode cX4_least 7 = .ok (.if_icmp .ge 73, 3) := by decide +kernel
theorem dX4_least_10 : decode cX4_least 10 = .ok (.aload_n 0, 1) := by decide +kernel
theorem dX4_least_11 : decode cX4_least 11 = .ok (.getfield 28, 3) := by decide +kernel
theorem dX4_least_14 : decode cX4_least 14 = .ok (.iload_n 3, 1) := by decide +kernel
theorem dX4_least_15 : decode cX4_least 15 = .ok (.baload, 1) := by decide +kernel
theorem dX4_least_16 : decode cX4_least 16 = .ok (.ifCond .eq 44, 3) := by decide +kernel
theorem dX4_least_19 : decode cX4_least 19 = .ok (.iload_n 2, 1) := by decide +kernel
theorem dX4_least_20 : decode cX4_least 20 = .ok (.ifCond .lt 36, 3) := by decide +kernel
theorem dX4_least_23 : decode cX4_least 23 = .ok (.aload_n 1, 1) := by decide +kernel
theorem dX4_least_24 : decode cX4_least 24 = .ok (.iload_n 3, 1) := by decide +kernel
theorem dX4_least_25 : decode cX4_least 25 = .ok (.iaload, 1) := by decide +kernel
theorem dX4_least_26 : decode cX4_least 26 = .ok (.aload_n 1, 1) := by decide +kernel
theorem dX4_least_27 : decode cX4_least 27 = .ok (.iload_n 2, 1) := by decide +kernel
theorem dX4_least_28 : decode cX4_least 28 = .ok (.iaload, 1) := by decide +kernel
theorem dX4_least_29 : decode cX4_least 29 = .ok (.if_icmp .lt 27, 3) := by decide +kernel
theorem dX4_least_32 : decode cX4_least 32 = .ok (.aload_n 1, 1) := by decide +kernel
theorem dX4_least_33 : decode cX4_least 33 = .ok (.iload_n 3, 1) := by decide +kernel
theorem dX4_least_34 : decode cX4_least 34 = .ok (.iaload, 1) := by decide +kernel
theorem dX4_least_35 : decode cX4_least 35 = .ok (.aload_n 1, 1) := by decide +kernel
theorem dX4_least_36 : decode cX4_least 36 = .ok (.iload_n 2, 1) := by decide +kernel
theorem dX4_least_37 : decode cX4_least 37 = .ok (.iaload, 1) := by decide +kernel
theorem dX4_least_38 : decode cX4_least 38 = .ok (.if_icmp .ne 22, 3) := by decide +kernel
theorem dX4_least_41 : decode cX4_least 41 = .ok (.aload_n 0, 1) := by decide +kernel
theorem dX4_least_42 : decode cX4_least 42 = .ok (.getfield 35, 3) := by decide +kernel
theorem dX4_least_45 : decode cX4_least 45 = .ok (.iload_n 3, 1) := by decide +kernel
theorem dX4_least_46 : decode cX4_least 46 = .ok (.iaload, 1) := by decide +kernel
theorem dX4_least_47 : decode cX4_least 47 = .ok (.aload_n 0, 1) := by decide +kernel
theorem dX4_least_48 : decode cX4_least 48 = .ok (.getfield 35, 3) := by decide +kernel
theorem dX4_least_51 : decode cX4_least 51 = .ok (.iload_n 2, 1) := by decide +kernel
theorem dX4_least_52 : decode cX4_least 52 = .ok (.iaload, 1) := by decide +kernel
theorem dX4_least_53 : decode cX4_least 53 = .ok (.if_icmp .ge 7, 3) := by decide +kernel
theorem dX4_least_56 : decode cX4_least 56 = .ok (.iconst 1, 1) := by decide +kernel
theorem dX4_least_57 : decode cX4_least 57 = .ok (.goto 4, 3) := by decide +kernel
theorem dX4_least_60 : decode cX4_least 60 = .ok (.iconst 0, 1) := by decide +kernel
theorem dX4_least_61 : decode cX4_least 61 = .ok (.istore 4, 2) := by decide +kernel
theorem dX4_least_63 : decode cX4_least 63 = .ok (.iload 4, 2) := by decide +kernel
theorem dX4_least_65 : decode cX4_least 65 = .ok (.ifCond .eq 7, 3) := by decide +kernel
theorem dX4_least_68 : decode cX4_least 68 = .ok (.iload_n 3, 1) := by decide +kernel
theorem dX4_least_69 : decode cX4_least 69 = .ok (.goto 4, 3) := by decide +kernel
theorem dX4_least_72 : decode cX4_least 72 = .ok (.iload_n 2, 1) := by decide +kernel
theorem dX4_least_73 : decode cX4_least 73 = .ok (.istore_n 2, 1) := by decide +kernel
theorem dX4_least_74 : decode cX4_least 74 = .ok (.iinc 3 1, 3) := by decide +kernel
theorem dX4_least_77 : decode cX4_least 77 = .ok (.goto (-73), 3) := by decide +kernel
theorem dX4_least_80 : decode cX4_least 80 = .ok (.iload_n 2, 1) := by decide +kernel
theorem dX4_least_81 : decode cX4_least 81 = .ok (.ireturn, 1) := by decide +kernel
theorem dX4_toBook_0 : decode cX4_toBook 0 = .ok (.aload_n 0, 1) := by decide +kernel
theorem dX4_toBook_1 : decode cX4_toBook 1 = .ok (.iload_n 2, 1) := by decide +kernel
theorem dX4_toBook_2 : decode cX4_toBook 2 = .ok (.invokevirtual 132, 3) := by decide +kernel
theorem dX4_toBook_5 : decode cX4_toBook 5 = .ok (.aload_n 0, 1) := by decide +kernel
theorem dX4_toBook_6 : decode cX4_toBook 6 = .ok (.getfield 106, 3) := by decide +kernel
theorem dX4_toBook_9 : decode cX4_toBook 9 = .ok (.if_icmp .ne 14, 3) := by decide +kernel
theorem dX4_toBook_12 : decode cX4_toBook 12 = .ok (.aload_n 0, 1) := by decide +kernel
theorem dX4_toBook_13 : decode cX4_toBook 13 = .ok (.getfield 47, 3) := by decide +kernel
theorem dX4_toBook_16 : decode cX4_toBook 16 = .ok (.aload_n 0, 1) := by decide +kernel
theorem dX4_toBook_17 : decode cX4_toBook 17 = .ok (.iload_n 2, 1) := by decide +kernel
theorem dX4_toBook_18 : decode cX4_toBook 18 = .ok (.invokevirtual 135, 3) := by decide +kernel
theorem dX4_toBook_21 : decode cX4_toBook 21 = .ok (.iconst 0, 1) := by decide +kernel
theorem dX4_toBook_22 : decode cX4_toBook 22 = .ok (.iastore, 1) := by decide +kernel
theorem dX4_toBook_23 : decode cX4_toBook 23 = .ok (.aload_n 0, 1) := by decide +kernel
theorem dX4_toBook_24 : decode cX4_toBook 24 = .ok (.getfield 47, 3) := by decide +kernel
theorem dX4_toBook_27 : decode cX4_toBook 27 = .ok (.iload_n 1, 1) := by decide +kernel
theorem dX4_toBook_28 : decode cX4_toBook 28 = .ok (.iload_n 2, 1) := by decide +kernel
theorem dX4_toBook_29 : decode cX4_toBook 29 = .ok (.iastore, 1) := by decide +kernel
theorem dX4_toBook_30 : decode cX4_toBook 30 = .ok (.aload_n 0, 1) := by decide +kernel
theorem dX4_toBook_31 : decode cX4_toBook 31 = .ok (.getfield 50, 3) := by decide +kernel
theorem dX4_toBook_34 : decode cX4_toBook 34 = .ok (.iload_n 1, 1) := by decide +kernel
theorem dX4_toBook_35 : decode cX4_toBook 35 = .ok (.iload_n 3, 1) := by decide +kernel
theorem dX4_toBook_36 : decode cX4_toBook 36 = .ok (.iastore, 1) := by decide +kernel
theorem dX4_toBook_37 : decode cX4_toBook 37 = .ok (.return_, 1) := by decide +kernel
theorem dX4_ofTwoParts_0 : decode cX4_ofTwoParts 0 = .ok (.aload_n 0, 1) := by decide +kernel
theorem dX4_ofTwoParts_1 : decode cX4_ofTwoParts 1 = .ok (.getfield 103, 3) := by decide +kernel
theorem dX4_ofTwoParts_4 : decode cX4_ofTwoParts 4 = .ok (.iconst 5, 1) := by decide +kernel
theorem dX4_ofTwoParts_5 : decode cX4_ofTwoParts 5 = .ok (.if_icmp .ne 12, 3) := by decide +kernel
theorem dX4_ofTwoParts_8 : decode cX4_ofTwoParts 8 = .ok (.aload_n 0, 1) := by decide +kernel
theorem dX4_ofTwoParts_9 : decode cX4_ofTwoParts 9 = .ok (.getfield 106, 3) := by decide +kernel
theorem dX4_ofTwoParts_12 : decode cX4_ofTwoParts 12 = .ok (.iconst 4, 1) := by decide +kernel
theorem dX4_ofTwoParts_13 : decode cX4_ofTwoParts 13 = .ok (.idiv, 1) := by decide +kernel
theorem dX4_ofTwoParts_14 : decode cX4_ofTwoParts 14 = .ok (.goto 7, 3) := by decide +kernel
theorem dX4_ofTwoParts_17 : decode cX4_ofTwoParts 17 = .ok (.aload_n 0, 1) := by decide +kernel
theorem dX4_ofTwoParts_18 : decode cX4_ofTwoParts 18 = .ok (.getfield 118, 3) := by decide +kernel
theorem dX4_ofTwoParts_21 : decode cX4_ofTwoParts 21 = .ok (.istore_n 2, 1) := by decide +kernel
theorem dX4_ofTwoParts_22 : decode cX4_ofTwoParts 22 = .ok (.aload_n 0, 1) := by decide +kernel
theorem dX4_ofTwoParts_23 : decode cX4_ofTwoParts 23 = .ok (.iconst 1, 1) := by decide +kernel
theorem dX4_ofTwoParts_24 : decode cX4_ofTwoParts 24 = .ok (.invokevirtual 132, 3) := by decide +kernel
theorem dX4_ofTwoParts_27 : decode cX4_ofTwoParts 27 = .ok (.istore_n 3, 1) := by decide +kernel
theorem dX4_ofTwoParts_28 : decode cX4_ofTwoParts 28 = .ok (.iload_n 3, 1) := by decide +kernel
theorem dX4_ofTwoParts_29 : decode cX4_ofTwoParts 29 = .ok (.ifCond .le 20, 3) := by decide +kernel
theorem dX4_ofTwoParts_32 : decode cX4_ofTwoParts 32 = .ok (.iload_n 3, 1) := by decide +kernel
theorem dX4_ofTwoParts_33 : decode cX4_ofTwoParts 33 = .ok (.iload_n 2, 1) := by decide +kernel
theorem dX4_ofTwoParts_34 : decode cX4_ofTwoParts 34 = .ok (.if_icmp .gt 11, 3) := by decide +kernel
theorem dX4_ofTwoParts_37 : decode cX4_ofTwoParts 37 = .ok (.aload_n 0, 1) := by decide +kernel
theorem dX4_ofTwoParts_38 : decode cX4_ofTwoParts 38 = .ok (.iconst 2, 1) := by decide +kernel
theorem dX4_ofTwoParts_39 : decode cX4_ofTwoParts 39 = .ok (.invokevirtual 132, 3) := by decide +kernel
theorem dX4_ofTwoParts_42 : decode cX4_ofTwoParts 42 = .ok (.ifCond .ne 7, 3) := by decide +kernel
theorem dX4_ofTwoParts_45 : decode cX4_ofTwoParts 45 = .ok (.iconst 1, 1) := by decide +kernel
theorem dX4_ofTwoParts_46 : decode cX4_ofTwoParts 46 = .ok (.goto 4, 3) := by decide +kernel
theorem dX4_ofTwoParts_49 : decode cX4_ofTwoParts 49 = .ok (.iconst 0, 1) := by decide +kernel
theorem dX4_ofTwoParts_50 : decode cX4_ofTwoParts 50 = .ok (.istore 4, 2) := by decide +kernel
theorem dX4_ofTwoParts_52 : decode cX4_ofTwoParts 52 = .ok (.iload 4, 2) := by decide +kernel
theorem dX4_ofTwoParts_54 : decode cX4_ofTwoParts 54 = .ok (.ifCond .eq 11, 3) := by decide +kernel
theorem dX4_ofTwoParts_57 : decode cX4_ofTwoParts 57 = .ok (.aload_n 0, 1) := by decide +kernel
theorem dX4_ofTwoParts_58 : decode cX4_ofTwoParts 58 = .ok (.iconst 1, 1) := by decide +kernel
theorem dX4_ofTwoParts_59 : decode cX4_ofTwoParts 59 = .ok (.invokevirtual 135, 3) := by decide +kernel
theorem dX4_ofTwoParts_62 : decode cX4_ofTwoParts 62 = .ok (.goto 9, 3) := by decide +kernel
theorem dX4_ofTwoParts_65 : decode cX4_ofTwoParts 65 = .ok (.aload_n 0, 1) := by decide +kernel
theorem dX4_ofTwoParts_66 : decode cX4_ofTwoParts 66 = .ok (.iconst 2, 1) := by decide +kernel
theorem dX4_ofTwoParts_67 : decode cX4_ofTwoParts 67 = .ok (.iconst 0, 1) := by decide +kernel
theorem dX4_ofTwoParts_68 : decode cX4_ofTwoParts 68 = .ok (.invokevirtual 124, 3) := by decide +kernel
theorem dX4_ofTwoParts_71 : decode cX4_ofTwoParts 71 = .ok (.istore 5, 2) := by decide +kernel
theorem dX4_ofTwoParts_73 : decode cX4_ofTwoParts 73 = .ok (.aload_n 0, 1) := by decide +kernel
theorem dX4_ofTwoParts_74 : decode cX4_ofTwoParts 74 = .ok (.getfield 47, 3) := by decide +kernel
theorem dX4_ofTwoParts_77 : decode cX4_ofTwoParts 77 = .ok (.iload 5, 2) := by decide +kernel
theorem dX4_ofTwoParts_79 : decode cX4_ofTwoParts 79 = .ok (.iconst 0, 1) := by decide +kernel
theorem dX4_ofTwoParts_80 : decode cX4_ofTwoParts 80 = .ok (.iastore, 1) := by decide +kernel
theorem dX4_ofTwoParts_81 : decode cX4_ofTwoParts 81 = .ok (.iload 4, 2) := by decide +kernel
theorem dX4_ofTwoParts_83 : decode cX4_ofTwoParts 83 = .ok (.ifCond .eq 14, 3) := by decide +kernel
theorem dX4_ofTwoParts_86 : decode cX4_ofTwoParts 86 = .ok (.aload_n 0, 1) := by decide +kernel
theorem dX4_ofTwoParts_87 : decode cX4_ofTwoParts 87 = .ok (.iload 5, 2) := by decide +kernel
theorem dX4_ofTwoParts_89 : decode cX4_ofTwoParts 89 = .ok (.iconst 3, 1) := by decide +kernel
theorem dX4_ofTwoParts_90 : decode cX4_ofTwoParts 90 = .ok (.iload_n 1, 1) := by decide +kernel
theorem dX4_ofTwoParts_91 : decode cX4_ofTwoParts 91 = .ok (.invokevirtual 138, 3) := by decide +kernel
theorem dX4_ofTwoParts_94 : decode cX4_ofTwoParts 94 = .ok (.goto 20, 3) := by decide +kernel
theorem dX4_ofTwoParts_97 : decode cX4_ofTwoParts 97 = .ok (.aload_n 0, 1) := by decide +kernel
theorem dX4_ofTwoParts_98 : decode cX4_ofTwoParts 98 = .ok (.getfield 103, 3) := by decide +kernel
theorem dX4_ofTwoParts_101 : decode cX4_ofTwoParts 101 = .ok (.bipush 6, 2) := by decide +kernel
theorem dX4_ofTwoParts_103 : decode cX4_ofTwoParts 103 = .ok (.if_icmp .ne 11, 3) := by decide +kernel
theorem dX4_ofTwoParts_106 : decode cX4_ofTwoParts 106 = .ok (.aload_n 0, 1) := by decide +kernel
theorem dX4_ofTwoParts_107 : decode cX4_ofTwoParts 107 = .ok (.iload 5, 2) := by decide +kernel
theorem dX4_ofTwoParts_109 : decode cX4_ofTwoParts 109 = .ok (.iconst 4, 1) := by decide +kernel
theorem dX4_ofTwoParts_110 : decode cX4_ofTwoParts 110 = .ok (.iload_n 1, 1) := by decide +kernel
theorem dX4_ofTwoParts_111 : decode cX4_ofTwoParts 111 = .ok (.invokevirtual 138, 3) := by decide +kernel
theorem dX4_ofTwoParts_114 : decode cX4_ofTwoParts 114 = .ok (.iload 5, 2) := by decide +kernel
theorem dX4_ofTwoParts_116 : decode cX4_ofTwoParts 116 = .ok (.ireturn, 1) := by decide +kernel
theorem dX4_askedNext_0 : decode cX4_askedNext 0 = .ok (.iload_n 2, 1) := by decide +kernel
theorem dX4_askedNext_1 : decode cX4_askedNext 1 = .ok (.iconst 1, 1) := by decide +kernel
theorem dX4_askedNext_2 : decode cX4_askedNext 2 = .ok (.iadd, 1) := by decide +kernel
theorem dX4_askedNext_3 : decode cX4_askedNext 3 = .ok (.istore_n 3, 1) := by decide +kernel
theorem dX4_askedNext_4 : decode cX4_askedNext 4 = .ok (.iload_n 3, 1) := by decide +kernel
theorem dX4_askedNext_5 : decode cX4_askedNext 5 = .ok (.aload_n 0, 1) := by decide +kernel
theorem dX4_askedNext_6 : decode cX4_askedNext 6 = .ok (.getfield 73, 3) := by decide +kernel
theorem dX4_askedNext_9 : decode cX4_askedNext 9 = .ok (.if_icmp .ge 19, 3) := by decide +kernel
theorem dX4_askedNext_12 : decode cX4_askedNext 12 = .ok (.aload_n 0, 1) := by decide +kernel
theorem dX4_askedNext_13 : decode cX4_askedNext 13 = .ok (.getfield 13, 3) := by decide +kernel
theorem dX4_askedNext_16 : decode cX4_askedNext 16 = .ok (.iload_n 3, 1) := by decide +kernel
theorem dX4_askedNext_17 : decode cX4_askedNext 17 = .ok (.iaload, 1) := by decide +kernel
theorem dX4_askedNext_18 : decode cX4_askedNext 18 = .ok (.iload_n 1, 1) := by decide +kernel
theorem dX4_askedNext_19 : decode cX4_askedNext 19 = .ok (.if_icmp .eq 9, 3) := by decide +kernel
theorem dX4_askedNext_22 : decode cX4_askedNext 22 = .ok (.iinc 3 1, 3) := by decide +kernel
theorem dX4_askedNext_25 : decode cX4_askedNext 25 = .ok (.goto (-21), 3) := by decide +kernel
theorem dX4_askedNext_28 : decode cX4_askedNext 28 = .ok (.iload_n 3, 1) := by decide +kernel
theorem dX4_askedNext_29 : decode cX4_askedNext 29 = .ok (.ireturn, 1) := by decide +kernel
theorem dX4_latestAhead_0 : decode cX4_latestAhead 0 = .ok (.iconst (-1), 1) := by decide +kernel
theorem dX4_latestAhead_1 : decode cX4_latestAhead 1 = .ok (.istore_n 2, 1) := by decide +kernel
theorem dX4_latestAhead_2 : decode cX4_latestAhead 2 = .ok (.iconst (-1), 1) := by decide +kernel
theorem dX4_latestAhead_3 : decode cX4_latestAhead 3 = .ok (.istore_n 3, 1) := by decide +kernel
theorem dX4_latestAhead_4 : decode cX4_latestAhead 4 = .ok (.iconst 0, 1) := by decide +kernel
theorem dX4_latestAhead_5 : decode cX4_latestAhead 5 = .ok (.istore 4, 2) := by decide +kernel
theorem dX4_latestAhead_7 : decode cX4_latestAhead 7 = .ok (.iload 4, 2) := by decide +kernel
theorem dX4_latestAhead_9 : decode cX4_latestAhead 9 = .ok (.bipush 16, 2) := by decide +kernel
theorem dX4_latestAhead_11 : decode cX4_latestAhead 11 = .ok (.if_icmp .ge 54, 3) := by decide +kernel
theorem dX4_latestAhead_14 : decode cX4_latestAhead 14 = .ok (.aload_n 0, 1) := by decide +kernel
theorem dX4_latestAhead_15 : decode cX4_latestAhead 15 = .ok (.getfield 28, 3) := by decide +kernel
theorem dX4_latestAhead_18 : decode cX4_latestAhead 18 = .ok (.iload 4, 2) := by decide +kernel
theorem dX4_latestAhead_20 : decode cX4_latestAhead 20 = .ok (.baload, 1) := by decide +kernel
theorem dX4_latestAhead_21 : decode cX4_latestAhead 21 = .ok (.ifCond .eq 38, 3) := by decide +kernel
theorem dX4_latestAhead_24 : decode cX4_latestAhead 24 = .ok (.aload_n 0, 1) := by decide +kernel
theorem dX4_latestAhead_25 : decode cX4_latestAhead 25 = .ok (.iload 4, 2) := by decide +kernel
theorem dX4_latestAhead_27 : decode cX4_latestAhead 27 = .ok (.iload_n 1, 1) := by decide +kernel
theorem dX4_latestAhead_28 : decode cX4_latestAhead 28 = .ok (.invokevirtual 142, 3) := by decide +kernel
theorem dX4_latestAhead_31 : decode cX4_latestAhead 31 = .ok (.istore 5, 2) := by decide +kernel
theorem dX4_latestAhead_33 : decode cX4_latestAhead 33 = .ok (.iload 5, 2) := by decide +kernel
theorem dX4_latestAhead_35 : decode cX4_latestAhead 35 = .ok (.iload_n 3, 1) := by decide +kernel
theorem dX4_latestAhead_36 : decode cX4_latestAhead 36 = .ok (.if_icmp .le 8, 3) := by decide +kernel
theorem dX4_latestAhead_39 : decode cX4_latestAhead 39 = .ok (.iload 4, 2) := by decide +kernel
theorem dX4_latestAhead_41 : decode cX4_latestAhead 41 = .ok (.goto 4, 3) := by decide +kernel
theorem dX4_latestAhead_44 : decode cX4_latestAhead 44 = .ok (.iload_n 2, 1) := by decide +kernel
theorem dX4_latestAhead_45 : decode cX4_latestAhead 45 = .ok (.istore_n 2, 1) := by decide +kernel
theorem dX4_latestAhead_46 : decode cX4_latestAhead 46 = .ok (.iload 5, 2) := by decide +kernel
theorem dX4_latestAhead_48 : decode cX4_latestAhead 48 = .ok (.iload_n 3, 1) := by decide +kernel
theorem dX4_latestAhead_49 : decode cX4_latestAhead 49 = .ok (.if_icmp .le 8, 3) := by decide +kernel
theorem dX4_latestAhead_52 : decode cX4_latestAhead 52 = .ok (.iload 5, 2) := by decide +kernel
theorem dX4_latestAhead_54 : decode cX4_latestAhead 54 = .ok (.goto 4, 3) := by decide +kernel
theorem dX4_latestAhead_57 : decode cX4_latestAhead 57 = .ok (.iload_n 3, 1) := by decide +kernel
theorem dX4_latestAhead_58 : decode cX4_latestAhead 58 = .ok (.istore_n 3, 1) := by decide +kernel
theorem dX4_latestAhead_59 : decode cX4_latestAhead 59 = .ok (.iinc 4 1, 3) := by decide +kernel
theorem dX4_latestAhead_62 : decode cX4_latestAhead 62 = .ok (.goto (-55), 3) := by decide +kernel
theorem dX4_latestAhead_65 : decode cX4_latestAhead 65 = .ok (.iload_n 2, 1) := by decide +kernel
theorem dX4_latestAhead_66 : decode cX4_latestAhead 66 = .ok (.ireturn, 1) := by decide +kernel
theorem dX4_chosen_0 : decode cX4_chosen 0 = .ok (.aload_n 0, 1) := by decide +kernel
theorem dX4_chosen_1 : decode cX4_chosen 1 = .ok (.getfield 103, 3) := by decide +kernel
theorem dX4_chosen_4 : decode cX4_chosen 4 = .ok (.tableswitch 94 0 7 #[48, 53, 60, 65, 70, 79, 79, 85], 48) := by decide +kernel
theorem dX4_chosen_52 : decode cX4_chosen 52 = .ok (.aload_n 0, 1) := by decide +kernel
theorem dX4_chosen_53 : decode cX4_chosen 53 = .ok (.invokevirtual 146, 3) := by decide +kernel
theorem dX4_chosen_56 : decode cX4_chosen 56 = .ok (.ireturn, 1) := by decide +kernel
theorem dX4_chosen_57 : decode cX4_chosen 57 = .ok (.aload_n 0, 1) := by decide +kernel
theorem dX4_chosen_58 : decode cX4_chosen 58 = .ok (.iconst 0, 1) := by decide +kernel
theorem dX4_chosen_59 : decode cX4_chosen 59 = .ok (.iconst 0, 1) := by decide +kernel
theorem dX4_chosen_60 : decode cX4_chosen 60 = .ok (.invokevirtual 124, 3) := by decide +kernel
theorem dX4_chosen_63 : decode cX4_chosen 63 = .ok (.ireturn, 1) := by decide +kernel
theorem dX4_chosen_64 : decode cX4_chosen 64 = .ok (.aload_n 0, 1) := by decide +kernel
theorem dX4_chosen_65 : decode cX4_chosen 65 = .ok (.invokevirtual 149, 3) := by decide +kernel
theorem dX4_chosen_68 : decode cX4_chosen 68 = .ok (.ireturn, 1) := by decide +kernel
theorem dX4_chosen_69 : decode cX4_chosen 69 = .ok (.aload_n 0, 1) := by decide +kernel
theorem dX4_chosen_70 : decode cX4_chosen 70 = .ok (.invokevirtual 152, 3) := by decide +kernel
theorem dX4_chosen_73 : decode cX4_chosen 73 = .ok (.ireturn, 1) := by decide +kernel
theorem dX4_chosen_74 : decode cX4_chosen 74 = .ok (.aload_n 0, 1) := by decide +kernel
theorem dX4_chosen_75 : decode cX4_chosen 75 = .ok (.aload_n 0, 1) := by decide +kernel
theorem dX4_chosen_76 : decode cX4_chosen 76 = .ok (.getfield 38, 3) := by decide +kernel
theorem dX4_chosen_79 : decode cX4_chosen 79 = .ok (.invokevirtual 155, 3) := by decide +kernel
theorem dX4_chosen_82 : decode cX4_chosen 82 = .ok (.ireturn, 1) := by decide +kernel
theorem dX4_chosen_83 : decode cX4_chosen 83 = .ok (.aload_n 0, 1) := by decide +kernel
theorem dX4_chosen_84 : decode cX4_chosen 84 = .ok (.iload_n 1, 1) := by decide +kernel
theorem dX4_chosen_85 : decode cX4_chosen 85 = .ok (.invokevirtual 159, 3) := by decide +kernel
theorem dX4_chosen_88 : decode cX4_chosen 88 = .ok (.ireturn, 1) := by decide +kernel
theorem dX4_chosen_89 : decode cX4_chosen 89 = .ok (.aload_n 0, 1) := by decide +kernel
theorem dX4_chosen_90 : decode cX4_chosen 90 = .ok (.aload_n 0, 1) := by decide +kernel
theorem dX4_chosen_91 : decode cX4_chosen 91 = .ok (.getfield 53, 3) := by decide +kernel
theorem dX4_chosen_94 : decode cX4_chosen 94 = .ok (.invokevirtual 155, 3) := by decide +kernel
theorem dX4_chosen_97 : decode cX4_chosen 97 = .ok (.ireturn, 1) := by decide +kernel
theorem dX4_chosen_98 : decode cX4_chosen 98 = .ok (.aload_n 0, 1) := by decide +kernel
theorem dX4_chosen_99 : decode cX4_chosen 99 = .ok (.iload_n 1, 1) := by decide +kernel
theorem dX4_chosen_100 : decode cX4_chosen 100 = .ok (.invokevirtual 162, 3) := by decide +kernel
theorem dX4_chosen_103 : decode cX4_chosen 103 = .ok (.ireturn, 1) := by decide +kernel
theorem dX4_hit_0 : decode cX4_hit 0 = .ok (.aload_n 0, 1) := by decide +kernel
theorem dX4_hit_1 : decode cX4_hit 1 = .ok (.getfield 38, 3) := by decide +kernel
theorem dX4_hit_4 : decode cX4_hit 4 = .ok (.iload_n 1, 1) := by decide +kernel
theorem dX4_hit_5 : decode cX4_hit 5 = .ok (.dup2, 1) := by decide +kernel
theorem dX4_hit_6 : decode cX4_hit 6 = .ok (.iaload, 1) := by decide +kernel
theorem dX4_hit_7 : decode cX4_hit 7 = .ok (.iconst 1, 1) := by decide +kernel
theorem dX4_hit_8 : decode cX4_hit 8 = .ok (.iadd, 1) := by decide +kernel
theorem dX4_hit_9 : decode cX4_hit 9 = .ok (.iastore, 1) := by decide +kernel
theorem dX4_hit_10 : decode cX4_hit 10 = .ok (.aload_n 0, 1) := by decide +kernel
theorem dX4_hit_11 : decode cX4_hit 11 = .ok (.getfield 41, 3) := by decide +kernel
theorem dX4_hit_14 : decode cX4_hit 14 = .ok (.iload_n 1, 1) := by decide +kernel
theorem dX4_hit_15 : decode cX4_hit 15 = .ok (.aload_n 0, 1) := by decide +kernel
theorem dX4_hit_16 : decode cX4_hit 16 = .ok (.getfield 103, 3) := by decide +kernel
theorem dX4_hit_19 : decode cX4_hit 19 = .ok (.iconst 2, 1) := by decide +kernel
theorem dX4_hit_20 : decode cX4_hit 20 = .ok (.if_icmp .eq 11, 3) := by decide +kernel
theorem dX4_hit_23 : decode cX4_hit 23 = .ok (.aload_n 0, 1) := by decide +kernel
theorem dX4_hit_24 : decode cX4_hit 24 = .ok (.getfield 103, 3) := by decide +kernel
theorem dX4_hit_27 : decode cX4_hit 27 = .ok (.iconst 3, 1) := by decide +kernel
theorem dX4_hit_28 : decode cX4_hit 28 = .ok (.if_icmp .ne 7, 3) := by decide +kernel
theorem dX4_hit_31 : decode cX4_hit 31 = .ok (.iconst 1, 1) := by decide +kernel
theorem dX4_hit_32 : decode cX4_hit 32 = .ok (.goto 4, 3) := by decide +kernel
theorem dX4_hit_35 : decode cX4_hit 35 = .ok (.iconst 0, 1) := by decide +kernel
theorem dX4_hit_36 : decode cX4_hit 36 = .ok (.bastore, 1) := by decide +kernel
theorem dX4_hit_37 : decode cX4_hit 37 = .ok (.aload_n 0, 1) := by decide +kernel
theorem dX4_hit_38 : decode cX4_hit 38 = .ok (.getfield 47, 3) := by decide +kernel
theorem dX4_hit_41 : decode cX4_hit 41 = .ok (.iload_n 1, 1) := by decide +kernel
theorem dX4_hit_42 : decode cX4_hit 42 = .ok (.iaload, 1) := by decide +kernel
theorem dX4_hit_43 : decode cX4_hit 43 = .ok (.iconst 2, 1) := by decide +kernel
theorem dX4_hit_44 : decode cX4_hit 44 = .ok (.if_icmp .eq 17, 3) := by decide +kernel
theorem dX4_hit_47 : decode cX4_hit 47 = .ok (.aload_n 0, 1) := by decide +kernel
theorem dX4_hit_48 : decode cX4_hit 48 = .ok (.getfield 47, 3) := by decide +kernel
theorem dX4_hit_51 : decode cX4_hit 51 = .ok (.iload_n 1, 1) := by decide +kernel
theorem dX4_hit_52 : decode cX4_hit 52 = .ok (.iconst 2, 1) := by decide +kernel
theorem dX4_hit_53 : decode cX4_hit 53 = .ok (.iastore, 1) := by decide +kernel
theorem dX4_hit_54 : decode cX4_hit 54 = .ok (.aload_n 0, 1) := by decide +kernel
theorem dX4_hit_55 : decode cX4_hit 55 = .ok (.getfield 50, 3) := by decide +kernel
theorem dX4_hit_58 : decode cX4_hit 58 = .ok (.iload_n 1, 1) := by decide +kernel
theorem dX4_hit_59 : decode cX4_hit 59 = .ok (.iload_n 2, 1) := by decide +kernel
theorem dX4_hit_60 : decode cX4_hit 60 = .ok (.iastore, 1) := by decide +kernel
theorem dX4_hit_61 : decode cX4_hit 61 = .ok (.aload_n 0, 1) := by decide +kernel
theorem dX4_hit_62 : decode cX4_hit 62 = .ok (.getfield 53, 3) := by decide +kernel
theorem dX4_hit_65 : decode cX4_hit 65 = .ok (.iload_n 1, 1) := by decide +kernel
theorem dX4_hit_66 : decode cX4_hit 66 = .ok (.aload_n 0, 1) := by decide +kernel
theorem dX4_hit_67 : decode cX4_hit 67 = .ok (.getfield 121, 3) := by decide +kernel
theorem dX4_hit_70 : decode cX4_hit 70 = .ok (.aload_n 0, 1) := by decide +kernel
theorem dX4_hit_71 : decode cX4_hit 71 = .ok (.getfield 7, 3) := by decide +kernel
theorem dX4_hit_74 : decode cX4_hit 74 = .ok (.iload_n 1, 1) := by decide +kernel
theorem dX4_hit_75 : decode cX4_hit 75 = .ok (.iaload, 1) := by decide +kernel
theorem dX4_hit_76 : decode cX4_hit 76 = .ok (.iadd, 1) := by decide +kernel
theorem dX4_hit_77 : decode cX4_hit 77 = .ok (.iastore, 1) := by decide +kernel
theorem dX4_hit_78 : decode cX4_hit 78 = .ok (.return_, 1) := by decide +kernel
theorem dX4_fromBook_0 : decode cX4_fromBook 0 = .ok (.aload_n 0, 1) := by decide +kernel
theorem dX4_fromBook_1 : decode cX4_fromBook 1 = .ok (.getfield 47, 3) := by decide +kernel
theorem dX4_fromBook_4 : decode cX4_fromBook 4 = .ok (.iload_n 1, 1) := by decide +kernel
theorem dX4_fromBook_5 : decode cX4_fromBook 5 = .ok (.iaload, 1) := by decide +kernel
theorem dX4_fromBook_6 : decode cX4_fromBook 6 = .ok (.iconst 3, 1) := by decide +kernel
theorem dX4_fromBook_7 : decode cX4_fromBook 7 = .ok (.if_icmp .eq 13, 3) := by decide +kernel
theorem dX4_fromBook_10 : decode cX4_fromBook 10 = .ok (.aload_n 0, 1) := by decide +kernel
theorem dX4_fromBook_11 : decode cX4_fromBook 11 = .ok (.getfield 47, 3) := by decide +kernel
theorem dX4_fromBook_14 : decode cX4_fromBook 14 = .ok (.iload_n 1, 1) := by decide +kernel
theorem dX4_fromBook_15 : decode cX4_fromBook 15 = .ok (.iaload, 1) := by decide +kernel
theorem dX4_fromBook_16 : decode cX4_fromBook 16 = .ok (.iconst 4, 1) := by decide +kernel
theorem dX4_fromBook_17 : decode cX4_fromBook 17 = .ok (.if_icmp .ne 7, 3) := by decide +kernel
theorem dX4_fromBook_20 : decode cX4_fromBook 20 = .ok (.iconst 1, 1) := by decide +kernel
theorem dX4_fromBook_21 : decode cX4_fromBook 21 = .ok (.goto 4, 3) := by decide +kernel
theorem dX4_fromBook_24 : decode cX4_fromBook 24 = .ok (.iconst 0, 1) := by decide +kernel
theorem dX4_fromBook_25 : decode cX4_fromBook 25 = .ok (.istore_n 2, 1) := by decide +kernel
theorem dX4_fromBook_26 : decode cX4_fromBook 26 = .ok (.aload_n 0, 1) := by decide +kernel
theorem dX4_fromBook_27 : decode cX4_fromBook 27 = .ok (.getfield 103, 3) := by decide +kernel
theorem dX4_fromBook_30 : decode cX4_fromBook 30 = .ok (.bipush 6, 2) := by decide +kernel
theorem dX4_fromBook_32 : decode cX4_fromBook 32 = .ok (.if_icmp .ne 41, 3) := by decide +kernel
theorem dX4_fromBook_35 : decode cX4_fromBook 35 = .ok (.aload_n 0, 1) := by decide +kernel
theorem dX4_fromBook_36 : decode cX4_fromBook 36 = .ok (.getfield 47, 3) := by decide +kernel
theorem dX4_fromBook_39 : decode cX4_fromBook 39 = .ok (.iload_n 1, 1) := by decide +kernel
theorem dX4_fromBook_40 : decode cX4_fromBook 40 = .ok (.iaload, 1) := by decide +kernel
theorem dX4_fromBook_41 : decode cX4_fromBook 41 = .ok (.iconst 3, 1) := by decide +kernel
theorem dX4_fromBook_42 : decode cX4_fromBook 42 = .ok (.if_icmp .ne 31, 3) := by decide +kernel
theorem dX4_fromBook_45 : decode cX4_fromBook 45 = .ok (.aload_n 0, 1) := by decide +kernel
theorem dX4_fromBook_46 : decode cX4_fromBook 46 = .ok (.aload_n 0, 1) := by decide +kernel
theorem dX4_fromBook_47 : decode cX4_fromBook 47 = .ok (.getfield 118, 3) := by decide +kernel
theorem dX4_fromBook_50 : decode cX4_fromBook 50 = .ok (.aload_n 0, 1) := by decide +kernel
theorem dX4_fromBook_51 : decode cX4_fromBook 51 = .ok (.getfield 106, 3) := by decide +kernel
theorem dX4_fromBook_54 : decode cX4_fromBook 54 = .ok (.if_icmp .ge 12, 3) := by decide +kernel
theorem dX4_fromBook_57 : decode cX4_fromBook 57 = .ok (.aload_n 0, 1) := by decide +kernel
theorem dX4_fromBook_58 : decode cX4_fromBook 58 = .ok (.getfield 118, 3) := by decide +kernel
theorem dX4_fromBook_61 : decode cX4_fromBook 61 = .ok (.iconst 1, 1) := by decide +kernel
theorem dX4_fromBook_62 : decode cX4_fromBook 62 = .ok (.iadd, 1) := by decide +kernel
theorem dX4_fromBook_63 : decode cX4_fromBook 63 = .ok (.goto 7, 3) := by decide +kernel
theorem dX4_fromBook_66 : decode cX4_fromBook 66 = .ok (.aload_n 0, 1) := by decide +kernel
theorem dX4_fromBook_67 : decode cX4_fromBook 67 = .ok (.getfield 118, 3) := by decide +kernel
theorem dX4_fromBook_70 : decode cX4_fromBook 70 = .ok (.putfield 118, 3) := by decide +kernel
theorem dX4_fromBook_73 : decode cX4_fromBook 73 = .ok (.aload_n 0, 1) := by decide +kernel
theorem dX4_fromBook_74 : decode cX4_fromBook 74 = .ok (.getfield 103, 3) := by decide +kernel
theorem dX4_fromBook_77 : decode cX4_fromBook 77 = .ok (.bipush 6, 2) := by decide +kernel
theorem dX4_fromBook_79 : decode cX4_fromBook 79 = .ok (.if_icmp .ne 37, 3) := by decide +kernel
theorem dX4_fromBook_82 : decode cX4_fromBook 82 = .ok (.aload_n 0, 1) := by decide +kernel
theorem dX4_fromBook_83 : decode cX4_fromBook 83 = .ok (.getfield 47, 3) := by decide +kernel
theorem dX4_fromBook_86 : decode cX4_fromBook 86 = .ok (.iload_n 1, 1) := by decide +kernel
theorem dX4_fromBook_87 : decode cX4_fromBook 87 = .ok (.iaload, 1) := by decide +kernel
theorem dX4_fromBook_88 : decode cX4_fromBook 88 = .ok (.iconst 4, 1) := by decide +kernel
theorem dX4_fromBook_89 : decode cX4_fromBook 89 = .ok (.if_icmp .ne 27, 3) := by decide +kernel
theorem dX4_fromBook_92 : decode cX4_fromBook 92 = .ok (.aload_n 0, 1) := by decide +kernel
theorem dX4_fromBook_93 : decode cX4_fromBook 93 = .ok (.aload_n 0, 1) := by decide +kernel
theorem dX4_fromBook_94 : decode cX4_fromBook 94 = .ok (.getfield 118, 3) := by decide +kernel
theorem dX4_fromBook_97 : decode cX4_fromBook 97 = .ok (.ifCond .le 12, 3) := by decide +kernel
theorem dX4_fromBook_100 : decode cX4_fromBook 100 = .ok (.aload_n 0, 1) := by decide +kernel
theorem dX4_fromBook_101 : decode cX4_fromBook 101 = .ok (.getfield 118, 3) := by decide +kernel
theorem dX4_fromBook_104 : decode cX4_fromBook 104 = .ok (.iconst 1, 1) := by decide +kernel
theorem dX4_fromBook_105 : decode cX4_fromBook 105 = .ok (.isub, 1) := by decide +kernel
theorem dX4_fromBook_106 : decode cX4_fromBook 106 = .ok (.goto 7, 3) := by decide +kernel
theorem dX4_fromBook_109 : decode cX4_fromBook 109 = .ok (.aload_n 0, 1) := by decide +kernel
theorem dX4_fromBook_110 : decode cX4_fromBook 110 = .ok (.getfield 118, 3) := by decide +kernel
theorem dX4_fromBook_113 : decode cX4_fromBook 113 = .ok (.putfield 118, 3) := by decide +kernel
theorem dX4_fromBook_116 : decode cX4_fromBook 116 = .ok (.aload_n 0, 1) := by decide +kernel
theorem dX4_fromBook_117 : decode cX4_fromBook 117 = .ok (.getfield 47, 3) := by decide +kernel
theorem dX4_fromBook_120 : decode cX4_fromBook 120 = .ok (.iload_n 1, 1) := by decide +kernel
theorem dX4_fromBook_121 : decode cX4_fromBook 121 = .ok (.iconst 0, 1) := by decide +kernel
theorem dX4_fromBook_122 : decode cX4_fromBook 122 = .ok (.iastore, 1) := by decide +kernel
theorem dX4_fromBook_123 : decode cX4_fromBook 123 = .ok (.iload_n 2, 1) := by decide +kernel
theorem dX4_fromBook_124 : decode cX4_fromBook 124 = .ok (.ireturn, 1) := by decide +kernel
theorem dX4_leave_0 : decode cX4_leave 0 = .ok (.aload_n 0, 1) := by decide +kernel
theorem dX4_leave_1 : decode cX4_leave 1 = .ok (.getfield 28, 3) := by decide +kernel
theorem dX4_leave_4 : decode cX4_leave 4 = .ok (.iload_n 1, 1) := by decide +kernel
theorem dX4_leave_5 : decode cX4_leave 5 = .ok (.iconst 0, 1) := by decide +kernel
theorem dX4_leave_6 : decode cX4_leave 6 = .ok (.bastore, 1) := by decide +kernel
theorem dX4_leave_7 : decode cX4_leave 7 = .ok (.aload_n 0, 1) := by decide +kernel
theorem dX4_leave_8 : decode cX4_leave 8 = .ok (.getfield 41, 3) := by decide +kernel
theorem dX4_leave_11 : decode cX4_leave 11 = .ok (.iload_n 1, 1) := by decide +kernel
theorem dX4_leave_12 : decode cX4_leave 12 = .ok (.iconst 0, 1) := by decide +kernel
theorem dX4_leave_13 : decode cX4_leave 13 = .ok (.bastore, 1) := by decide +kernel
theorem dX4_leave_14 : decode cX4_leave 14 = .ok (.aload_n 0, 1) := by decide +kernel
theorem dX4_leave_15 : decode cX4_leave 15 = .ok (.getfield 38, 3) := by decide +kernel
theorem dX4_leave_18 : decode cX4_leave 18 = .ok (.iload_n 1, 1) := by decide +kernel
theorem dX4_leave_19 : decode cX4_leave 19 = .ok (.iconst 0, 1) := by decide +kernel
theorem dX4_leave_20 : decode cX4_leave 20 = .ok (.iastore, 1) := by decide +kernel
theorem dX4_leave_21 : decode cX4_leave 21 = .ok (.aload_n 0, 1) := by decide +kernel
theorem dX4_leave_22 : decode cX4_leave 22 = .ok (.aload_n 0, 1) := by decide +kernel
theorem dX4_leave_23 : decode cX4_leave 23 = .ok (.getfield 103, 3) := by decide +kernel
theorem dX4_leave_26 : decode cX4_leave 26 = .ok (.bipush 7, 2) := by decide +kernel
theorem dX4_leave_28 : decode cX4_leave 28 = .ok (.if_icmp .ne 12, 3) := by decide +kernel
theorem dX4_leave_31 : decode cX4_leave 31 = .ok (.aload_n 0, 1) := by decide +kernel
theorem dX4_leave_32 : decode cX4_leave 32 = .ok (.getfield 53, 3) := by decide +kernel
theorem dX4_leave_35 : decode cX4_leave 35 = .ok (.iload_n 1, 1) := by decide +kernel
theorem dX4_leave_36 : decode cX4_leave 36 = .ok (.iaload, 1) := by decide +kernel
theorem dX4_leave_37 : decode cX4_leave 37 = .ok (.goto 7, 3) := by decide +kernel
theorem dX4_leave_40 : decode cX4_leave 40 = .ok (.aload_n 0, 1) := by decide +kernel
theorem dX4_leave_41 : decode cX4_leave 41 = .ok (.getfield 121, 3) := by decide +kernel
theorem dX4_leave_44 : decode cX4_leave 44 = .ok (.putfield 121, 3) := by decide +kernel
theorem dX4_leave_47 : decode cX4_leave 47 = .ok (.aload_n 0, 1) := by decide +kernel
theorem dX4_leave_48 : decode cX4_leave 48 = .ok (.getfield 53, 3) := by decide +kernel
theorem dX4_leave_51 : decode cX4_leave 51 = .ok (.iload_n 1, 1) := by decide +kernel
theorem dX4_leave_52 : decode cX4_leave 52 = .ok (.iconst 0, 1) := by decide +kernel
theorem dX4_leave_53 : decode cX4_leave 53 = .ok (.iastore, 1) := by decide +kernel
theorem dX4_leave_54 : decode cX4_leave 54 = .ok (.aload_n 0, 1) := by decide +kernel
theorem dX4_leave_55 : decode cX4_leave 55 = .ok (.dup, 1) := by decide +kernel
theorem dX4_leave_56 : decode cX4_leave 56 = .ok (.getfield 109, 3) := by decide +kernel
theorem dX4_leave_59 : decode cX4_leave 59 = .ok (.iconst 1, 1) := by decide +kernel
theorem dX4_leave_60 : decode cX4_leave 60 = .ok (.isub, 1) := by decide +kernel
theorem dX4_leave_61 : decode cX4_leave 61 = .ok (.putfield 109, 3) := by decide +kernel
theorem dX4_leave_64 : decode cX4_leave 64 = .ok (.return_, 1) := by decide +kernel
theorem dX4_serveOne_0 : decode cX4_serveOne 0 = .ok (.aload_n 0, 1) := by decide +kernel
theorem dX4_serveOne_1 : decode cX4_serveOne 1 = .ok (.getfield 13, 3) := by decide +kernel
theorem dX4_serveOne_4 : decode cX4_serveOne 4 = .ok (.iload_n 1, 1) := by decide +kernel
theorem dX4_serveOne_5 : decode cX4_serveOne 5 = .ok (.iaload, 1) := by decide +kernel
theorem dX4_serveOne_6 : decode cX4_serveOne 6 = .ok (.istore_n 2, 1) := by decide +kernel
theorem dX4_serveOne_7 : decode cX4_serveOne 7 = .ok (.aload_n 0, 1) := by decide +kernel
theorem dX4_serveOne_8 : decode cX4_serveOne 8 = .ok (.aload_n 0, 1) := by decide +kernel
theorem dX4_serveOne_9 : decode cX4_serveOne 9 = .ok (.getfield 28, 3) := by decide +kernel
theorem dX4_serveOne_12 : decode cX4_serveOne 12 = .ok (.iload_n 2, 1) := by decide +kernel
theorem dX4_serveOne_13 : decode cX4_serveOne 13 = .ok (.baload, 1) := by decide +kernel
theorem dX4_serveOne_14 : decode cX4_serveOne 14 = .ok (.ifCond .eq 7, 3) := by decide +kernel
theorem dX4_serveOne_17 : decode cX4_serveOne 17 = .ok (.iconst 1, 1) := by decide +kernel
theorem dX4_serveOne_18 : decode cX4_serveOne 18 = .ok (.goto 4, 3) := by decide +kernel
theorem dX4_serveOne_21 : decode cX4_serveOne 21 = .ok (.iconst 0, 1) := by decide +kernel
theorem dX4_serveOne_22 : decode cX4_serveOne 22 = .ok (.putfield 165, 3) := by decide +kernel
theorem dX4_serveOne_25 : decode cX4_serveOne 25 = .ok (.aload_n 0, 1) := by decide +kernel
theorem dX4_serveOne_26 : decode cX4_serveOne 26 = .ok (.iconst (-1), 1) := by decide +kernel
theorem dX4_serveOne_27 : decode cX4_serveOne 27 = .ok (.putfield 168, 3) := by decide +kernel
theorem dX4_serveOne_30 : decode cX4_serveOne 30 = .ok (.aload_n 0, 1) := by decide +kernel
theorem dX4_serveOne_31 : decode cX4_serveOne 31 = .ok (.getfield 28, 3) := by decide +kernel
theorem dX4_serveOne_34 : decode cX4_serveOne 34 = .ok (.iload_n 2, 1) := by decide +kernel
theorem dX4_serveOne_35 : decode cX4_serveOne 35 = .ok (.baload, 1) := by decide +kernel
theorem dX4_serveOne_36 : decode cX4_serveOne 36 = .ok (.ifCond .eq 12, 3) := by decide +kernel
theorem dX4_serveOne_39 : decode cX4_serveOne 39 = .ok (.aload_n 0, 1) := by decide +kernel
theorem dX4_serveOne_40 : decode cX4_serveOne 40 = .ok (.iload_n 2, 1) := by decide +kernel
theorem dX4_serveOne_41 : decode cX4_serveOne 41 = .ok (.iload_n 1, 1) := by decide +kernel
theorem dX4_serveOne_42 : decode cX4_serveOne 42 = .ok (.invokevirtual 171, 3) := by decide +kernel
theorem dX4_serveOne_45 : decode cX4_serveOne 45 = .ok (.goto 191, 3) := by decide +kernel
theorem dX4_serveOne_48 : decode cX4_serveOne 48 = .ok (.aload_n 0, 1) := by decide +kernel
theorem dX4_serveOne_49 : decode cX4_serveOne 49 = .ok (.iload_n 2, 1) := by decide +kernel
theorem dX4_serveOne_50 : decode cX4_serveOne 50 = .ok (.invokevirtual 175, 3) := by decide +kernel
theorem dX4_serveOne_53 : decode cX4_serveOne 53 = .ok (.istore_n 3, 1) := by decide +kernel
theorem dX4_serveOne_54 : decode cX4_serveOne 54 = .ok (.aload_n 0, 1) := by decide +kernel
theorem dX4_serveOne_55 : decode cX4_serveOne 55 = .ok (.getfield 109, 3) := by decide +kernel
theorem dX4_serveOne_58 : decode cX4_serveOne 58 = .ok (.istore 4, 2) := by decide +kernel
theorem dX4_serveOne_60 : decode cX4_serveOne 60 = .ok (.aload_n 0, 1) := by decide +kernel
theorem dX4_serveOne_61 : decode cX4_serveOne 61 = .ok (.getfield 109, 3) := by decide +kernel
theorem dX4_serveOne_64 : decode cX4_serveOne 64 = .ok (.aload_n 0, 1) := by decide +kernel
theorem dX4_serveOne_65 : decode cX4_serveOne 65 = .ok (.getfield 106, 3) := by decide +kernel
theorem dX4_serveOne_68 : decode cX4_serveOne 68 = .ok (.if_icmp .ne 71, 3) := by decide +kernel
theorem dX4_serveOne_71 : decode cX4_serveOne 71 = .ok (.aload_n 0, 1) := by decide +kernel
theorem dX4_serveOne_72 : decode cX4_serveOne 72 = .ok (.aload_n 0, 1) := by decide +kernel
theorem dX4_serveOne_73 : decode cX4_serveOne 73 = .ok (.iload_n 1, 1) := by decide +kernel
theorem dX4_serveOne_74 : decode cX4_serveOne 74 = .ok (.invokevirtual 178, 3) := by decide +kernel
theorem dX4_serveOne_77 : decode cX4_serveOne 77 = .ok (.putfield 168, 3) := by decide +kernel
theorem dX4_serveOne_80 : decode cX4_serveOne 80 = .ok (.aload_n 0, 1) := by decide +kernel
theorem dX4_serveOne_81 : decode cX4_serveOne 81 = .ok (.getfield 44, 3) := by decide +kernel
theorem dX4_serveOne_84 : decode cX4_serveOne 84 = .ok (.aload_n 0, 1) := by decide +kernel
theorem dX4_serveOne_85 : decode cX4_serveOne 85 = .ok (.getfield 168, 3) := by decide +kernel
theorem dX4_serveOne_88 : decode cX4_serveOne 88 = .ok (.iaload, 1) := by decide +kernel
theorem dX4_serveOne_89 : decode cX4_serveOne 89 = .ok (.istore 4, 2) := by decide +kernel
theorem dX4_serveOne_91 : decode cX4_serveOne 91 = .ok (.aload_n 0, 1) := by decide +kernel
theorem dX4_serveOne_92 : decode cX4_serveOne 92 = .ok (.getfield 44, 3) := by decide +kernel
theorem dX4_serveOne_95 : decode cX4_serveOne 95 = .ok (.aload_n 0, 1) := by decide +kernel
theorem dX4_serveOne_96 : decode cX4_serveOne 96 = .ok (.getfield 168, 3) := by decide +kernel
theorem dX4_serveOne_99 : decode cX4_serveOne 99 = .ok (.iconst (-1), 1) := by decide +kernel
theorem dX4_serveOne_100 : decode cX4_serveOne 100 = .ok (.iastore, 1) := by decide +kernel
theorem dX4_serveOne_101 : decode cX4_serveOne 101 = .ok (.aload_n 0, 1) := by decide +kernel
theorem dX4_serveOne_102 : decode cX4_serveOne 102 = .ok (.aload_n 0, 1) := by decide +kernel
theorem dX4_serveOne_103 : decode cX4_serveOne 103 = .ok (.getfield 168, 3) := by decide +kernel
theorem dX4_serveOne_106 : decode cX4_serveOne 106 = .ok (.invokevirtual 181, 3) := by decide +kernel
theorem dX4_serveOne_109 : decode cX4_serveOne 109 = .ok (.aload_n 0, 1) := by decide +kernel
theorem dX4_serveOne_110 : decode cX4_serveOne 110 = .ok (.aload_n 0, 1) := by decide +kernel
theorem dX4_serveOne_111 : decode cX4_serveOne 111 = .ok (.getfield 103, 3) := by decide +kernel
theorem dX4_serveOne_114 : decode cX4_serveOne 114 = .ok (.iconst 3, 1) := by decide +kernel
theorem dX4_serveOne_115 : decode cX4_serveOne 115 = .ok (.if_icmp .ne 17, 3) := by decide +kernel
theorem dX4_serveOne_118 : decode cX4_serveOne 118 = .ok (.aload_n 0, 1) := by decide +kernel
theorem dX4_serveOne_119 : decode cX4_serveOne 119 = .ok (.getfield 115, 3) := by decide +kernel
theorem dX4_serveOne_122 : decode cX4_serveOne 122 = .ok (.iconst 1, 1) := by decide +kernel
theorem dX4_serveOne_123 : decode cX4_serveOne 123 = .ok (.iadd, 1) := by decide +kernel
theorem dX4_serveOne_124 : decode cX4_serveOne 124 = .ok (.aload_n 0, 1) := by decide +kernel
theorem dX4_serveOne_125 : decode cX4_serveOne 125 = .ok (.getfield 106, 3) := by decide +kernel
theorem dX4_serveOne_128 : decode cX4_serveOne 128 = .ok (.irem, 1) := by decide +kernel
theorem dX4_serveOne_129 : decode cX4_serveOne 129 = .ok (.goto 7, 3) := by decide +kernel
theorem dX4_serveOne_132 : decode cX4_serveOne 132 = .ok (.aload_n 0, 1) := by decide +kernel
theorem dX4_serveOne_133 : decode cX4_serveOne 133 = .ok (.getfield 115, 3) := by decide +kernel
theorem dX4_serveOne_136 : decode cX4_serveOne 136 = .ok (.putfield 115, 3) := by decide +kernel
theorem dX4_serveOne_139 : decode cX4_serveOne 139 = .ok (.aload_n 0, 1) := by decide +kernel
theorem dX4_serveOne_140 : decode cX4_serveOne 140 = .ok (.getfield 28, 3) := by decide +kernel
theorem dX4_serveOne_143 : decode cX4_serveOne 143 = .ok (.iload_n 2, 1) := by decide +kernel
theorem dX4_serveOne_144 : decode cX4_serveOne 144 = .ok (.iconst 1, 1) := by decide +kernel
theorem dX4_serveOne_145 : decode cX4_serveOne 145 = .ok (.bastore, 1) := by decide +kernel
theorem dX4_serveOne_146 : decode cX4_serveOne 146 = .ok (.aload_n 0, 1) := by decide +kernel
theorem dX4_serveOne_147 : decode cX4_serveOne 147 = .ok (.dup, 1) := by decide +kernel
theorem dX4_serveOne_148 : decode cX4_serveOne 148 = .ok (.getfield 109, 3) := by decide +kernel
theorem dX4_serveOne_151 : decode cX4_serveOne 151 = .ok (.iconst 1, 1) := by decide +kernel
theorem dX4_serveOne_152 : decode cX4_serveOne 152 = .ok (.iadd, 1) := by decide +kernel
theorem dX4_serveOne_153 : decode cX4_serveOne 153 = .ok (.putfield 109, 3) := by decide +kernel
theorem dX4_serveOne_156 : decode cX4_serveOne 156 = .ok (.aload_n 0, 1) := by decide +kernel
theorem dX4_serveOne_157 : decode cX4_serveOne 157 = .ok (.getfield 32, 3) := by decide +kernel
theorem dX4_serveOne_160 : decode cX4_serveOne 160 = .ok (.iload_n 2, 1) := by decide +kernel
theorem dX4_serveOne_161 : decode cX4_serveOne 161 = .ok (.iload_n 1, 1) := by decide +kernel
theorem dX4_serveOne_162 : decode cX4_serveOne 162 = .ok (.iastore, 1) := by decide +kernel
theorem dX4_serveOne_163 : decode cX4_serveOne 163 = .ok (.aload_n 0, 1) := by decide +kernel
theorem dX4_serveOne_164 : decode cX4_serveOne 164 = .ok (.getfield 38, 3) := by decide +kernel
theorem dX4_serveOne_167 : decode cX4_serveOne 167 = .ok (.iload_n 2, 1) := by decide +kernel
theorem dX4_serveOne_168 : decode cX4_serveOne 168 = .ok (.iconst 1, 1) := by decide +kernel
theorem dX4_serveOne_169 : decode cX4_serveOne 169 = .ok (.iastore, 1) := by decide +kernel
theorem dX4_serveOne_170 : decode cX4_serveOne 170 = .ok (.aload_n 0, 1) := by decide +kernel
theorem dX4_serveOne_171 : decode cX4_serveOne 171 = .ok (.getfield 41, 3) := by decide +kernel
theorem dX4_serveOne_174 : decode cX4_serveOne 174 = .ok (.iload_n 2, 1) := by decide +kernel
theorem dX4_serveOne_175 : decode cX4_serveOne 175 = .ok (.aload_n 0, 1) := by decide +kernel
theorem dX4_serveOne_176 : decode cX4_serveOne 176 = .ok (.getfield 103, 3) := by decide +kernel
theorem dX4_serveOne_179 : decode cX4_serveOne 179 = .ok (.iconst 2, 1) := by decide +kernel
theorem dX4_serveOne_180 : decode cX4_serveOne 180 = .ok (.if_icmp .ne 7, 3) := by decide +kernel
theorem dX4_serveOne_183 : decode cX4_serveOne 183 = .ok (.iconst 1, 1) := by decide +kernel
theorem dX4_serveOne_184 : decode cX4_serveOne 184 = .ok (.goto 4, 3) := by decide +kernel
theorem dX4_serveOne_187 : decode cX4_serveOne 187 = .ok (.iconst 0, 1) := by decide +kernel
theorem dX4_serveOne_188 : decode cX4_serveOne 188 = .ok (.bastore, 1) := by decide +kernel
theorem dX4_serveOne_189 : decode cX4_serveOne 189 = .ok (.aload_n 0, 1) := by decide +kernel
theorem dX4_serveOne_190 : decode cX4_serveOne 190 = .ok (.getfield 44, 3) := by decide +kernel
theorem dX4_serveOne_193 : decode cX4_serveOne 193 = .ok (.iload_n 2, 1) := by decide +kernel
theorem dX4_serveOne_194 : decode cX4_serveOne 194 = .ok (.iload 4, 2) := by decide +kernel
theorem dX4_serveOne_196 : decode cX4_serveOne 196 = .ok (.iastore, 1) := by decide +kernel
theorem dX4_serveOne_197 : decode cX4_serveOne 197 = .ok (.aload_n 0, 1) := by decide +kernel
theorem dX4_serveOne_198 : decode cX4_serveOne 198 = .ok (.getfield 47, 3) := by decide +kernel
theorem dX4_serveOne_201 : decode cX4_serveOne 201 = .ok (.iload_n 2, 1) := by decide +kernel
theorem dX4_serveOne_202 : decode cX4_serveOne 202 = .ok (.iload_n 3, 1) := by decide +kernel
theorem dX4_serveOne_203 : decode cX4_serveOne 203 = .ok (.ifCond .eq 7, 3) := by decide +kernel
theorem dX4_serveOne_206 : decode cX4_serveOne 206 = .ok (.iconst 2, 1) := by decide +kernel
theorem dX4_serveOne_207 : decode cX4_serveOne 207 = .ok (.goto 4, 3) := by decide +kernel
theorem dX4_serveOne_210 : decode cX4_serveOne 210 = .ok (.iconst 1, 1) := by decide +kernel
theorem dX4_serveOne_211 : decode cX4_serveOne 211 = .ok (.iastore, 1) := by decide +kernel
theorem dX4_serveOne_212 : decode cX4_serveOne 212 = .ok (.aload_n 0, 1) := by decide +kernel
theorem dX4_serveOne_213 : decode cX4_serveOne 213 = .ok (.getfield 50, 3) := by decide +kernel
theorem dX4_serveOne_216 : decode cX4_serveOne 216 = .ok (.iload_n 2, 1) := by decide +kernel
theorem dX4_serveOne_217 : decode cX4_serveOne 217 = .ok (.iload_n 1, 1) := by decide +kernel
theorem dX4_serveOne_218 : decode cX4_serveOne 218 = .ok (.iastore, 1) := by decide +kernel
theorem dX4_serveOne_219 : decode cX4_serveOne 219 = .ok (.aload_n 0, 1) := by decide +kernel
theorem dX4_serveOne_220 : decode cX4_serveOne 220 = .ok (.getfield 53, 3) := by decide +kernel
theorem dX4_serveOne_223 : decode cX4_serveOne 223 = .ok (.iload_n 2, 1) := by decide +kernel
theorem dX4_serveOne_224 : decode cX4_serveOne 224 = .ok (.aload_n 0, 1) := by decide +kernel
theorem dX4_serveOne_225 : decode cX4_serveOne 225 = .ok (.getfield 121, 3) := by decide +kernel
theorem dX4_serveOne_228 : decode cX4_serveOne 228 = .ok (.aload_n 0, 1) := by decide +kernel
theorem dX4_serveOne_229 : decode cX4_serveOne 229 = .ok (.getfield 7, 3) := by decide +kernel
theorem dX4_serveOne_232 : decode cX4_serveOne 232 = .ok (.iload_n 2, 1) := by decide +kernel
theorem dX4_serveOne_233 : decode cX4_serveOne 233 = .ok (.iaload, 1) := by decide +kernel
theorem dX4_serveOne_234 : decode cX4_serveOne 234 = .ok (.iadd, 1) := by decide +kernel
theorem dX4_serveOne_235 : decode cX4_serveOne 235 = .ok (.iastore, 1) := by decide +kernel
theorem dX4_serveOne_236 : decode cX4_serveOne 236 = .ok (.aload_n 0, 1) := by decide +kernel
theorem dX4_serveOne_237 : decode cX4_serveOne 237 = .ok (.getfield 35, 3) := by decide +kernel
theorem dX4_serveOne_240 : decode cX4_serveOne 240 = .ok (.iload_n 2, 1) := by decide +kernel
theorem dX4_serveOne_241 : decode cX4_serveOne 241 = .ok (.iload_n 1, 1) := by decide +kernel
theorem dX4_serveOne_242 : decode cX4_serveOne 242 = .ok (.iastore, 1) := by decide +kernel
theorem dX4_serveOne_243 : decode cX4_serveOne 243 = .ok (.return_, 1) := by decide +kernel
theorem dX4_serveTo_0 : decode cX4_serveTo 0 = .ok (.aload_n 0, 1) := by decide +kernel
theorem dX4_serveTo_1 : decode cX4_serveTo 1 = .ok (.iload_n 1, 1) := by decide +kernel
theorem dX4_serveTo_2 : decode cX4_serveTo 2 = .ok (.iload_n 2, 1) := by decide +kernel
theorem dX4_serveTo_3 : decode cX4_serveTo 3 = .ok (.invokevirtual 184, 3) := by decide +kernel
theorem dX4_serveTo_6 : decode cX4_serveTo 6 = .ok (.iconst 0, 1) := by decide +kernel
theorem dX4_serveTo_7 : decode cX4_serveTo 7 = .ok (.istore 4, 2) := by decide +kernel
theorem dX4_serveTo_9 : decode cX4_serveTo 9 = .ok (.iload 4, 2) := by decide +kernel
theorem dX4_serveTo_11 : decode cX4_serveTo 11 = .ok (.iload_n 3, 1) := by decide +kernel
theorem dX4_serveTo_12 : decode cX4_serveTo 12 = .ok (.if_icmp .gt 15, 3) := by decide +kernel
theorem dX4_serveTo_15 : decode cX4_serveTo 15 = .ok (.aload_n 0, 1) := by decide +kernel
theorem dX4_serveTo_16 : decode cX4_serveTo 16 = .ok (.iload 4, 2) := by decide +kernel
theorem dX4_serveTo_18 : decode cX4_serveTo 18 = .ok (.invokevirtual 187, 3) := by decide +kernel
theorem dX4_serveTo_21 : decode cX4_serveTo 21 = .ok (.iinc 4 1, 3) := by decide +kernel
theorem dX4_serveTo_24 : decode cX4_serveTo 24 = .ok (.goto (-15), 3) := by decide +kernel
theorem dX4_serveTo_27 : decode cX4_serveTo 27 = .ok (.return_, 1) := by decide +kernel
theorem dX4_missesOf_0 : decode cX4_missesOf 0 = .ok (.aload_n 0, 1) := by decide +kernel
theorem dX4_missesOf_1 : decode cX4_missesOf 1 = .ok (.iload_n 1, 1) := by decide +kernel
theorem dX4_missesOf_2 : decode cX4_missesOf 2 = .ok (.iload_n 2, 1) := by decide +kernel
theorem dX4_missesOf_3 : decode cX4_missesOf 3 = .ok (.invokevirtual 184, 3) := by decide +kernel
theorem dX4_missesOf_6 : decode cX4_missesOf 6 = .ok (.iconst 0, 1) := by decide +kernel
theorem dX4_missesOf_7 : decode cX4_missesOf 7 = .ok (.istore_n 3, 1) := by decide +kernel
theorem dX4_missesOf_8 : decode cX4_missesOf 8 = .ok (.iconst 0, 1) := by decide +kernel
theorem dX4_missesOf_9 : decode cX4_missesOf 9 = .ok (.istore 4, 2) := by decide +kernel
theorem dX4_missesOf_11 : decode cX4_missesOf 11 = .ok (.iload 4, 2) := by decide +kernel
theorem dX4_missesOf_13 : decode cX4_missesOf 13 = .ok (.aload_n 0, 1) := by decide +kernel
theorem dX4_missesOf_14 : decode cX4_missesOf 14 = .ok (.getfield 73, 3) := by decide +kernel
theorem dX4_missesOf_17 : decode cX4_missesOf 17 = .ok (.if_icmp .ge 24, 3) := by decide +kernel
theorem dX4_missesOf_20 : decode cX4_missesOf 20 = .ok (.aload_n 0, 1) := by decide +kernel
theorem dX4_missesOf_21 : decode cX4_missesOf 21 = .ok (.iload 4, 2) := by decide +kernel
theorem dX4_missesOf_23 : decode cX4_missesOf 23 = .ok (.invokevirtual 187, 3) := by decide +kernel
theorem dX4_missesOf_26 : decode cX4_missesOf 26 = .ok (.iload_n 3, 1) := by decide +kernel
theorem dX4_missesOf_27 : decode cX4_missesOf 27 = .ok (.iconst 1, 1) := by decide +kernel
theorem dX4_missesOf_28 : decode cX4_missesOf 28 = .ok (.aload_n 0, 1) := by decide +kernel
theorem dX4_missesOf_29 : decode cX4_missesOf 29 = .ok (.getfield 165, 3) := by decide +kernel
theorem dX4_missesOf_32 : decode cX4_missesOf 32 = .ok (.isub, 1) := by decide +kernel
theorem dX4_missesOf_33 : decode cX4_missesOf 33 = .ok (.iadd, 1) := by decide +kernel
theorem dX4_missesOf_34 : decode cX4_missesOf 34 = .ok (.istore_n 3, 1) := by decide +kernel
theorem dX4_missesOf_35 : decode cX4_missesOf 35 = .ok (.iinc 4 1, 3) := by decide +kernel
theorem dX4_missesOf_38 : decode cX4_missesOf 38 = .ok (.goto (-27), 3) := by decide +kernel
theorem dX4_missesOf_41 : decode cX4_missesOf 41 = .ok (.iload_n 3, 1) := by decide +kernel
theorem dX4_missesOf_42 : decode cX4_missesOf 42 = .ok (.ireturn, 1) := by decide +kernel
theorem dX4_serve_0 : decode cX4_serve 0 = .ok (.iload_n 1, 1) := by decide +kernel
theorem dX4_serve_1 : decode cX4_serve 1 = .ok (.iconst 0, 1) := by decide +kernel
theorem dX4_serve_2 : decode cX4_serve 2 = .ok (.bipush 8, 2) := by decide +kernel
theorem dX4_serve_4 : decode cX4_serve 4 = .ok (.invokestatic 69, 3) := by decide +kernel
theorem dX4_serve_7 : decode cX4_serve 7 = .ok (.ifCond .eq 13, 3) := by decide +kernel
theorem dX4_serve_10 : decode cX4_serve 10 = .ok (.iload_n 2, 1) := by decide +kernel
theorem dX4_serve_11 : decode cX4_serve 11 = .ok (.iconst 1, 1) := by decide +kernel
theorem dX4_serve_12 : decode cX4_serve 12 = .ok (.bipush 8, 2) := by decide +kernel
theorem dX4_serve_14 : decode cX4_serve 14 = .ok (.invokestatic 69, 3) := by decide +kernel
theorem dX4_serve_17 : decode cX4_serve 17 = .ok (.ifCond .ne 5, 3) := by decide +kernel
theorem dX4_serve_20 : decode cX4_serve 20 = .ok (.iconst (-1), 1) := by decide +kernel
theorem dX4_serve_21 : decode cX4_serve 21 = .ok (.ireturn, 1) := by decide +kernel
theorem dX4_serve_22 : decode cX4_serve 22 = .ok (.aload_n 0, 1) := by decide +kernel
theorem dX4_serve_23 : decode cX4_serve 23 = .ok (.iload_n 1, 1) := by decide +kernel
theorem dX4_serve_24 : decode cX4_serve 24 = .ok (.iload_n 2, 1) := by decide +kernel
theorem dX4_serve_25 : decode cX4_serve 25 = .ok (.invokevirtual 184, 3) := by decide +kernel
theorem dX4_serve_28 : decode cX4_serve 28 = .ok (.iconst 0, 1) := by decide +kernel
theorem dX4_serve_29 : decode cX4_serve 29 = .ok (.istore_n 3, 1) := by decide +kernel
theorem dX4_serve_30 : decode cX4_serve 30 = .ok (.iconst 0, 1) := by decide +kernel
theorem dX4_serve_31 : decode cX4_serve 31 = .ok (.istore 4, 2) := by decide +kernel
theorem dX4_serve_33 : decode cX4_serve 33 = .ok (.iload 4, 2) := by decide +kernel
theorem dX4_serve_35 : decode cX4_serve 35 = .ok (.aload_n 0, 1) := by decide +kernel
theorem dX4_serve_36 : decode cX4_serve 36 = .ok (.getfield 73, 3) := by decide +kernel
theorem dX4_serve_39 : decode cX4_serve 39 = .ok (.if_icmp .ge 46, 3) := by decide +kernel
theorem dX4_serve_42 : decode cX4_serve 42 = .ok (.aload_n 0, 1) := by decide +kernel
theorem dX4_serve_43 : decode cX4_serve 43 = .ok (.iload 4, 2) := by decide +kernel
theorem dX4_serve_45 : decode cX4_serve 45 = .ok (.invokevirtual 187, 3) := by decide +kernel
theorem dX4_serve_48 : decode cX4_serve 48 = .ok (.aload_n 0, 1) := by decide +kernel
theorem dX4_serve_49 : decode cX4_serve 49 = .ok (.getfield 16, 3) := by decide +kernel
theorem dX4_serve_52 : decode cX4_serve 52 = .ok (.iload 4, 2) := by decide +kernel
theorem dX4_serve_54 : decode cX4_serve 54 = .ok (.aload_n 0, 1) := by decide +kernel
theorem dX4_serve_55 : decode cX4_serve 55 = .ok (.getfield 165, 3) := by decide +kernel
theorem dX4_serve_58 : decode cX4_serve 58 = .ok (.iastore, 1) := by decide +kernel
theorem dX4_serve_59 : decode cX4_serve 59 = .ok (.aload_n 0, 1) := by decide +kernel
theorem dX4_serve_60 : decode cX4_serve 60 = .ok (.getfield 19, 3) := by decide +kernel
theorem dX4_serve_63 : decode cX4_serve 63 = .ok (.iload 4, 2) := by decide +kernel
theorem dX4_serve_65 : decode cX4_serve 65 = .ok (.aload_n 0, 1) := by decide +kernel
theorem dX4_serve_66 : decode cX4_serve 66 = .ok (.getfield 168, 3) := by decide +kernel
theorem dX4_serve_69 : decode cX4_serve 69 = .ok (.iastore, 1) := by decide +kernel
theorem dX4_serve_70 : decode cX4_serve 70 = .ok (.iload_n 3, 1) := by decide +kernel
theorem dX4_serve_71 : decode cX4_serve 71 = .ok (.iconst 1, 1) := by decide +kernel
theorem dX4_serve_72 : decode cX4_serve 72 = .ok (.aload_n 0, 1) := by decide +kernel
theorem dX4_serve_73 : decode cX4_serve 73 = .ok (.getfield 165, 3) := by decide +kernel
theorem dX4_serve_76 : decode cX4_serve 76 = .ok (.isub, 1) := by decide +kernel
theorem dX4_serve_77 : decode cX4_serve 77 = .ok (.iadd, 1) := by decide +kernel
end
section
theorem dX4_serve_78 : decode cX4_serve 78 = .ok (.istore_n 3, 1) := by decide +kernel
theorem dX4_serve_79 : decode cX4_serve 79 = .ok (.iinc 4 1, 3) := by decide +kernel
theorem dX4_serve_82 : decode cX4_serve 82 = .ok (.goto (-49), 3) := by decide +kernel
theorem dX4_serve_85 : decode cX4_serve 85 = .ok (.aload_n 0, 1) := by decide +kernel
theorem dX4_serve_86 : decode cX4_serve 86 = .ok (.iconst 1, 1) := by decide +kernel
theorem dX4_serve_87 : decode cX4_serve 87 = .ok (.putfield 81, 3) := by decide +kernel
theorem dX4_serve_90 : decode cX4_serve 90 = .ok (.aload_n 0, 1) := by decide +kernel
theorem dX4_serve_91 : decode cX4_serve 91 = .ok (.iload_n 1, 1) := by decide +kernel
theorem dX4_serve_92 : decode cX4_serve 92 = .ok (.putfield 190, 3) := by decide +kernel
theorem dX4_serve_95 : decode cX4_serve 95 = .ok (.aload_n 0, 1) := by decide +kernel
theorem dX4_serve_96 : decode cX4_serve 96 = .ok (.iload_n 2, 1) := by decide +kernel
theorem dX4_serve_97 : decode cX4_serve 97 = .ok (.putfield 193, 3) := by decide +kernel
theorem dX4_serve_100 : decode cX4_serve 100 = .ok (.iload_n 3, 1) := by decide +kernel
theorem dX4_serve_101 : decode cX4_serve 101 = .ok (.ireturn, 1) := by decide +kernel
theorem dX4_paid_0 : decode cX4_paid 0 = .ok (.aload_n 0, 1) := by decide +kernel
theorem dX4_paid_1 : decode cX4_paid 1 = .ok (.getfield 81, 3) := by decide +kernel
theorem dX4_paid_4 : decode cX4_paid 4 = .ok (.ifCond .ne 6, 3) := by decide +kernel
theorem dX4_paid_7 : decode cX4_paid 7 = .ok (.bipush (-3), 2) := by decide +kernel
theorem dX4_paid_9 : decode cX4_paid 9 = .ok (.ireturn, 1) := by decide +kernel
theorem dX4_paid_10 : decode cX4_paid 10 = .ok (.iconst 0, 1) := by decide +kernel
theorem dX4_paid_11 : decode cX4_paid 11 = .ok (.istore_n 1, 1) := by decide +kernel
theorem dX4_paid_12 : decode cX4_paid 12 = .ok (.iconst 0, 1) := by decide +kernel
theorem dX4_paid_13 : decode cX4_paid 13 = .ok (.istore_n 2, 1) := by decide +kernel
theorem dX4_paid_14 : decode cX4_paid 14 = .ok (.iload_n 2, 1) := by decide +kernel
theorem dX4_paid_15 : decode cX4_paid 15 = .ok (.aload_n 0, 1) := by decide +kernel
theorem dX4_paid_16 : decode cX4_paid 16 = .ok (.getfield 73, 3) := by decide +kernel
theorem dX4_paid_19 : decode cX4_paid 19 = .ok (.if_icmp .ge 37, 3) := by decide +kernel
theorem dX4_paid_22 : decode cX4_paid 22 = .ok (.iload_n 1, 1) := by decide +kernel
theorem dX4_paid_23 : decode cX4_paid 23 = .ok (.aload_n 0, 1) := by decide +kernel
theorem dX4_paid_24 : decode cX4_paid 24 = .ok (.getfield 16, 3) := by decide +kernel
theorem dX4_paid_27 : decode cX4_paid 27 = .ok (.iload_n 2, 1) := by decide +kernel
theorem dX4_paid_28 : decode cX4_paid 28 = .ok (.iaload, 1) := by decide +kernel
theorem dX4_paid_29 : decode cX4_paid 29 = .ok (.iconst 1, 1) := by decide +kernel
theorem dX4_paid_30 : decode cX4_paid 30 = .ok (.if_icmp .ne 7, 3) := by decide +kernel
theorem dX4_paid_33 : decode cX4_paid 33 = .ok (.iconst 0, 1) := by decide +kernel
theorem dX4_paid_34 : decode cX4_paid 34 = .ok (.goto 14, 3) := by decide +kernel
theorem dX4_paid_37 : decode cX4_paid 37 = .ok (.aload_n 0, 1) := by decide +kernel
theorem dX4_paid_38 : decode cX4_paid 38 = .ok (.getfield 7, 3) := by decide +kernel
theorem dX4_paid_41 : decode cX4_paid 41 = .ok (.aload_n 0, 1) := by decide +kernel
theorem dX4_paid_42 : decode cX4_paid 42 = .ok (.getfield 13, 3) := by decide +kernel
theorem dX4_paid_45 : decode cX4_paid 45 = .ok (.iload_n 2, 1) := by decide +kernel
theorem dX4_paid_46 : decode cX4_paid 46 = .ok (.iaload, 1) := by decide +kernel
theorem dX4_paid_47 : decode cX4_paid 47 = .ok (.iaload, 1) := by decide +kernel
theorem dX4_paid_48 : decode cX4_paid 48 = .ok (.iadd, 1) := by decide +kernel
theorem dX4_paid_49 : decode cX4_paid 49 = .ok (.istore_n 1, 1) := by decide +kernel
theorem dX4_paid_50 : decode cX4_paid 50 = .ok (.iinc 2 1, 3) := by decide +kernel
theorem dX4_paid_53 : decode cX4_paid 53 = .ok (.goto (-39), 3) := by decide +kernel
theorem dX4_paid_56 : decode cX4_paid 56 = .ok (.iload_n 1, 1) := by decide +kernel
theorem dX4_paid_57 : decode cX4_paid 57 = .ok (.ireturn, 1) := by decide +kernel
theorem dX4_hit__0 : decode cX4_hit_ 0 = .ok (.aload_n 0, 1) := by decide +kernel
theorem dX4_hit__1 : decode cX4_hit_ 1 = .ok (.getfield 81, 3) := by decide +kernel
theorem dX4_hit__4 : decode cX4_hit_ 4 = .ok (.ifCond .ne 8, 3) := by decide +kernel
theorem dX4_hit__7 : decode cX4_hit_ 7 = .ok (.bipush (-3), 2) := by decide +kernel
theorem dX4_hit__9 : decode cX4_hit_ 9 = .ok (.goto 21, 3) := by decide +kernel
theorem dX4_hit__12 : decode cX4_hit_ 12 = .ok (.aload_n 0, 1) := by decide +kernel
theorem dX4_hit__13 : decode cX4_hit_ 13 = .ok (.iload_n 1, 1) := by decide +kernel
theorem dX4_hit__14 : decode cX4_hit_ 14 = .ok (.invokevirtual 90, 3) := by decide +kernel
theorem dX4_hit__17 : decode cX4_hit_ 17 = .ok (.ifCond .eq 12, 3) := by decide +kernel
theorem dX4_hit__20 : decode cX4_hit_ 20 = .ok (.aload_n 0, 1) := by decide +kernel
theorem dX4_hit__21 : decode cX4_hit_ 21 = .ok (.getfield 16, 3) := by decide +kernel
theorem dX4_hit__24 : decode cX4_hit_ 24 = .ok (.iload_n 1, 1) := by decide +kernel
theorem dX4_hit__25 : decode cX4_hit_ 25 = .ok (.iaload, 1) := by decide +kernel
theorem dX4_hit__26 : decode cX4_hit_ 26 = .ok (.goto 4, 3) := by decide +kernel
theorem dX4_hit__29 : decode cX4_hit_ 29 = .ok (.iconst (-1), 1) := by decide +kernel
theorem dX4_hit__30 : decode cX4_hit_ 30 = .ok (.ireturn, 1) := by decide +kernel
theorem dX4_gone_0 : decode cX4_gone 0 = .ok (.aload_n 0, 1) := by decide +kernel
theorem dX4_gone_1 : decode cX4_gone 1 = .ok (.getfield 81, 3) := by decide +kernel
theorem dX4_gone_4 : decode cX4_gone 4 = .ok (.ifCond .eq 20, 3) := by decide +kernel
theorem dX4_gone_7 : decode cX4_gone 7 = .ok (.aload_n 0, 1) := by decide +kernel
theorem dX4_gone_8 : decode cX4_gone 8 = .ok (.iload_n 1, 1) := by decide +kernel
theorem dX4_gone_9 : decode cX4_gone 9 = .ok (.invokevirtual 90, 3) := by decide +kernel
theorem dX4_gone_12 : decode cX4_gone 12 = .ok (.ifCond .eq 12, 3) := by decide +kernel
theorem dX4_gone_15 : decode cX4_gone 15 = .ok (.aload_n 0, 1) := by decide +kernel
theorem dX4_gone_16 : decode cX4_gone 16 = .ok (.getfield 19, 3) := by decide +kernel
theorem dX4_gone_19 : decode cX4_gone 19 = .ok (.iload_n 1, 1) := by decide +kernel
theorem dX4_gone_20 : decode cX4_gone 20 = .ok (.iaload, 1) := by decide +kernel
theorem dX4_gone_21 : decode cX4_gone 21 = .ok (.goto 4, 3) := by decide +kernel
theorem dX4_gone_24 : decode cX4_gone 24 = .ok (.iconst (-1), 1) := by decide +kernel
theorem dX4_gone_25 : decode cX4_gone 25 = .ok (.ireturn, 1) := by decide +kernel
theorem dX4_isOfParts_0 : decode cX4_isOfParts 0 = .ok (.aload_n 0, 1) := by decide +kernel
theorem dX4_isOfParts_1 : decode cX4_isOfParts 1 = .ok (.getfield 190, 3) := by decide +kernel
theorem dX4_isOfParts_4 : decode cX4_isOfParts 4 = .ok (.iconst 5, 1) := by decide +kernel
theorem dX4_isOfParts_5 : decode cX4_isOfParts 5 = .ok (.if_icmp .eq 12, 3) := by decide +kernel
theorem dX4_isOfParts_8 : decode cX4_isOfParts 8 = .ok (.aload_n 0, 1) := by decide +kernel
theorem dX4_isOfParts_9 : decode cX4_isOfParts 9 = .ok (.getfield 190, 3) := by decide +kernel
theorem dX4_isOfParts_12 : decode cX4_isOfParts 12 = .ok (.bipush 6, 2) := by decide +kernel
theorem dX4_isOfParts_14 : decode cX4_isOfParts 14 = .ok (.if_icmp .ne 7, 3) := by decide +kernel
theorem dX4_isOfParts_17 : decode cX4_isOfParts 17 = .ok (.iconst 1, 1) := by decide +kernel
theorem dX4_isOfParts_18 : decode cX4_isOfParts 18 = .ok (.goto 4, 3) := by decide +kernel
theorem dX4_isOfParts_21 : decode cX4_isOfParts 21 = .ok (.iconst 0, 1) := by decide +kernel
theorem dX4_isOfParts_22 : decode cX4_isOfParts 22 = .ok (.ireturn, 1) := by decide +kernel
theorem dX4_isOfWay_0 : decode cX4_isOfWay 0 = .ok (.iload_n 1, 1) := by decide +kernel
theorem dX4_isOfWay_1 : decode cX4_isOfWay 1 = .ok (.tableswitch 87 2 5 #[31, 53, 67, 72], 31) := by decide +kernel
theorem dX4_isOfWay_32 : decode cX4_isOfWay 32 = .ok (.aload_n 0, 1) := by decide +kernel
theorem dX4_isOfWay_33 : decode cX4_isOfWay 33 = .ok (.getfield 190, 3) := by decide +kernel
theorem dX4_isOfWay_36 : decode cX4_isOfWay 36 = .ok (.iconst 2, 1) := by decide +kernel
theorem dX4_isOfWay_37 : decode cX4_isOfWay 37 = .ok (.if_icmp .eq 11, 3) := by decide +kernel
theorem dX4_isOfWay_40 : decode cX4_isOfWay 40 = .ok (.aload_n 0, 1) := by decide +kernel
theorem dX4_isOfWay_41 : decode cX4_isOfWay 41 = .ok (.getfield 190, 3) := by decide +kernel
theorem dX4_isOfWay_44 : decode cX4_isOfWay 44 = .ok (.iconst 3, 1) := by decide +kernel
theorem dX4_isOfWay_45 : decode cX4_isOfWay 45 = .ok (.if_icmp .ne 7, 3) := by decide +kernel
theorem dX4_isOfWay_48 : decode cX4_isOfWay 48 = .ok (.iconst 1, 1) := by decide +kernel
theorem dX4_isOfWay_49 : decode cX4_isOfWay 49 = .ok (.goto 4, 3) := by decide +kernel
theorem dX4_isOfWay_52 : decode cX4_isOfWay 52 = .ok (.iconst 0, 1) := by decide +kernel
theorem dX4_isOfWay_53 : decode cX4_isOfWay 53 = .ok (.ireturn, 1) := by decide +kernel
theorem dX4_isOfWay_54 : decode cX4_isOfWay 54 = .ok (.aload_n 0, 1) := by decide +kernel
theorem dX4_isOfWay_55 : decode cX4_isOfWay 55 = .ok (.getfield 190, 3) := by decide +kernel
theorem dX4_isOfWay_58 : decode cX4_isOfWay 58 = .ok (.iconst 3, 1) := by decide +kernel
theorem dX4_isOfWay_59 : decode cX4_isOfWay 59 = .ok (.if_icmp .ne 7, 3) := by decide +kernel
theorem dX4_isOfWay_62 : decode cX4_isOfWay 62 = .ok (.iconst 1, 1) := by decide +kernel
theorem dX4_isOfWay_63 : decode cX4_isOfWay 63 = .ok (.goto 4, 3) := by decide +kernel
theorem dX4_isOfWay_66 : decode cX4_isOfWay 66 = .ok (.iconst 0, 1) := by decide +kernel
theorem dX4_isOfWay_67 : decode cX4_isOfWay 67 = .ok (.ireturn, 1) := by decide +kernel
theorem dX4_isOfWay_68 : decode cX4_isOfWay 68 = .ok (.aload_n 0, 1) := by decide +kernel
theorem dX4_isOfWay_69 : decode cX4_isOfWay 69 = .ok (.invokevirtual 196, 3) := by decide +kernel
theorem dX4_isOfWay_72 : decode cX4_isOfWay 72 = .ok (.ireturn, 1) := by decide +kernel
theorem dX4_isOfWay_73 : decode cX4_isOfWay 73 = .ok (.aload_n 0, 1) := by decide +kernel
theorem dX4_isOfWay_74 : decode cX4_isOfWay 74 = .ok (.getfield 190, 3) := by decide +kernel
theorem dX4_isOfWay_77 : decode cX4_isOfWay 77 = .ok (.bipush 7, 2) := by decide +kernel
theorem dX4_isOfWay_79 : decode cX4_isOfWay 79 = .ok (.if_icmp .ne 7, 3) := by decide +kernel
theorem dX4_isOfWay_82 : decode cX4_isOfWay 82 = .ok (.iconst 1, 1) := by decide +kernel
theorem dX4_isOfWay_83 : decode cX4_isOfWay 83 = .ok (.goto 4, 3) := by decide +kernel
theorem dX4_isOfWay_86 : decode cX4_isOfWay 86 = .ok (.iconst 0, 1) := by decide +kernel
theorem dX4_isOfWay_87 : decode cX4_isOfWay 87 = .ok (.ireturn, 1) := by decide +kernel
theorem dX4_isOfWay_88 : decode cX4_isOfWay 88 = .ok (.iconst 1, 1) := by decide +kernel
theorem dX4_isOfWay_89 : decode cX4_isOfWay 89 = .ok (.ireturn, 1) := by decide +kernel
theorem dX4_look_0 : decode cX4_look 0 = .ok (.aload_n 0, 1) := by decide +kernel
theorem dX4_look_1 : decode cX4_look 1 = .ok (.getfield 81, 3) := by decide +kernel
theorem dX4_look_4 : decode cX4_look 4 = .ok (.ifCond .ne 6, 3) := by decide +kernel
theorem dX4_look_7 : decode cX4_look 7 = .ok (.bipush (-3), 2) := by decide +kernel
theorem dX4_look_9 : decode cX4_look 9 = .ok (.ireturn, 1) := by decide +kernel
theorem dX4_look_10 : decode cX4_look 10 = .ok (.aload_n 0, 1) := by decide +kernel
theorem dX4_look_11 : decode cX4_look 11 = .ok (.iload_n 1, 1) := by decide +kernel
theorem dX4_look_12 : decode cX4_look 12 = .ok (.invokevirtual 90, 3) := by decide +kernel
theorem dX4_look_15 : decode cX4_look 15 = .ok (.ifCond .eq 19, 3) := by decide +kernel
theorem dX4_look_18 : decode cX4_look 18 = .ok (.iload_n 2, 1) := by decide +kernel
theorem dX4_look_19 : decode cX4_look 19 = .ok (.invokestatic 77, 3) := by decide +kernel
theorem dX4_look_22 : decode cX4_look 22 = .ok (.ifCond .eq 12, 3) := by decide +kernel
theorem dX4_look_25 : decode cX4_look 25 = .ok (.iload_n 3, 1) := by decide +kernel
theorem dX4_look_26 : decode cX4_look 26 = .ok (.iconst 0, 1) := by decide +kernel
theorem dX4_look_27 : decode cX4_look 27 = .ok (.iconst 5, 1) := by decide +kernel
theorem dX4_look_28 : decode cX4_look 28 = .ok (.invokestatic 69, 3) := by decide +kernel
theorem dX4_look_31 : decode cX4_look 31 = .ok (.ifCond .ne 6, 3) := by decide +kernel
theorem dX4_look_34 : decode cX4_look 34 = .ok (.ldc 202, 2) := by decide +kernel
theorem dX4_look_36 : decode cX4_look 36 = .ok (.ireturn, 1) := by decide +kernel
theorem dX4_look_37 : decode cX4_look 37 = .ok (.aload_n 0, 1) := by decide +kernel
theorem dX4_look_38 : decode cX4_look 38 = .ok (.iload_n 3, 1) := by decide +kernel
theorem dX4_look_39 : decode cX4_look 39 = .ok (.invokevirtual 203, 3) := by decide +kernel
theorem dX4_look_42 : decode cX4_look 42 = .ok (.ifCond .ne 6, 3) := by decide +kernel
theorem dX4_look_45 : decode cX4_look 45 = .ok (.ldc 206, 2) := by decide +kernel
theorem dX4_look_47 : decode cX4_look 47 = .ok (.ireturn, 1) := by decide +kernel
theorem dX4_look_48 : decode cX4_look 48 = .ok (.aload_n 0, 1) := by decide +kernel
theorem dX4_look_49 : decode cX4_look 49 = .ok (.aload_n 0, 1) := by decide +kernel
theorem dX4_look_50 : decode cX4_look 50 = .ok (.getfield 190, 3) := by decide +kernel
theorem dX4_look_53 : decode cX4_look 53 = .ok (.aload_n 0, 1) := by decide +kernel
theorem dX4_look_54 : decode cX4_look 54 = .ok (.getfield 193, 3) := by decide +kernel
theorem dX4_look_57 : decode cX4_look 57 = .ok (.iload_n 1, 1) := by decide +kernel
theorem dX4_look_58 : decode cX4_look 58 = .ok (.invokevirtual 207, 3) := by decide +kernel
theorem dX4_look_61 : decode cX4_look 61 = .ok (.iload_n 3, 1) := by decide +kernel
theorem dX4_look_62 : decode cX4_look 62 = .ok (.tableswitch 85 0 4 #[34, 49, 56, 71, 78], 34) := by decide +kernel
theorem dX4_look_96 : decode cX4_look 96 = .ok (.aload_n 0, 1) := by decide +kernel
theorem dX4_look_97 : decode cX4_look 97 = .ok (.getfield 28, 3) := by decide +kernel
theorem dX4_look_100 : decode cX4_look 100 = .ok (.iload_n 2, 1) := by decide +kernel
theorem dX4_look_101 : decode cX4_look 101 = .ok (.baload, 1) := by decide +kernel
theorem dX4_look_102 : decode cX4_look 102 = .ok (.ifCond .eq 7, 3) := by decide +kernel
theorem dX4_look_105 : decode cX4_look 105 = .ok (.iconst 1, 1) := by decide +kernel
theorem dX4_look_106 : decode cX4_look 106 = .ok (.goto 4, 3) := by decide +kernel
theorem dX4_look_109 : decode cX4_look 109 = .ok (.iconst 0, 1) := by decide +kernel
theorem dX4_look_110 : decode cX4_look 110 = .ok (.ireturn, 1) := by decide +kernel
theorem dX4_look_111 : decode cX4_look 111 = .ok (.aload_n 0, 1) := by decide +kernel
theorem dX4_look_112 : decode cX4_look 112 = .ok (.getfield 38, 3) := by decide +kernel
theorem dX4_look_115 : decode cX4_look 115 = .ok (.iload_n 2, 1) := by decide +kernel
theorem dX4_look_116 : decode cX4_look 116 = .ok (.iaload, 1) := by decide +kernel
theorem dX4_look_117 : decode cX4_look 117 = .ok (.ireturn, 1) := by decide +kernel
theorem dX4_look_118 : decode cX4_look 118 = .ok (.aload_n 0, 1) := by decide +kernel
theorem dX4_look_119 : decode cX4_look 119 = .ok (.getfield 41, 3) := by decide +kernel
theorem dX4_look_122 : decode cX4_look 122 = .ok (.iload_n 2, 1) := by decide +kernel
theorem dX4_look_123 : decode cX4_look 123 = .ok (.baload, 1) := by decide +kernel
theorem dX4_look_124 : decode cX4_look 124 = .ok (.ifCond .eq 7, 3) := by decide +kernel
theorem dX4_look_127 : decode cX4_look 127 = .ok (.iconst 1, 1) := by decide +kernel
theorem dX4_look_128 : decode cX4_look 128 = .ok (.goto 4, 3) := by decide +kernel
theorem dX4_look_131 : decode cX4_look 131 = .ok (.iconst 0, 1) := by decide +kernel
theorem dX4_look_132 : decode cX4_look 132 = .ok (.ireturn, 1) := by decide +kernel
theorem dX4_look_133 : decode cX4_look 133 = .ok (.aload_n 0, 1) := by decide +kernel
theorem dX4_look_134 : decode cX4_look 134 = .ok (.getfield 44, 3) := by decide +kernel
theorem dX4_look_137 : decode cX4_look 137 = .ok (.iload_n 2, 1) := by decide +kernel
theorem dX4_look_138 : decode cX4_look 138 = .ok (.iaload, 1) := by decide +kernel
theorem dX4_look_139 : decode cX4_look 139 = .ok (.ireturn, 1) := by decide +kernel
theorem dX4_look_140 : decode cX4_look 140 = .ok (.aload_n 0, 1) := by decide +kernel
theorem dX4_look_141 : decode cX4_look 141 = .ok (.getfield 47, 3) := by decide +kernel
theorem dX4_look_144 : decode cX4_look 144 = .ok (.iload_n 2, 1) := by decide +kernel
theorem dX4_look_145 : decode cX4_look 145 = .ok (.iaload, 1) := by decide +kernel
theorem dX4_look_146 : decode cX4_look 146 = .ok (.ireturn, 1) := by decide +kernel
theorem dX4_look_147 : decode cX4_look 147 = .ok (.aload_n 0, 1) := by decide +kernel
theorem dX4_look_148 : decode cX4_look 148 = .ok (.getfield 53, 3) := by decide +kernel
theorem dX4_look_151 : decode cX4_look 151 = .ok (.iload_n 2, 1) := by decide +kernel
theorem dX4_look_152 : decode cX4_look 152 = .ok (.iaload, 1) := by decide +kernel
theorem dX4_look_153 : decode cX4_look 153 = .ok (.ireturn, 1) := by decide +kernel
theorem dX4_level_0 : decode cX4_level 0 = .ok (.aload_n 0, 1) := by decide +kernel
theorem dX4_level_1 : decode cX4_level 1 = .ok (.getfield 81, 3) := by decide +kernel
theorem dX4_level_4 : decode cX4_level 4 = .ok (.ifCond .ne 6, 3) := by decide +kernel
theorem dX4_level_7 : decode cX4_level 7 = .ok (.bipush (-3), 2) := by decide +kernel
theorem dX4_level_9 : decode cX4_level 9 = .ok (.ireturn, 1) := by decide +kernel
theorem dX4_level_10 : decode cX4_level 10 = .ok (.aload_n 0, 1) := by decide +kernel
theorem dX4_level_11 : decode cX4_level 11 = .ok (.iload_n 1, 1) := by decide +kernel
theorem dX4_level_12 : decode cX4_level 12 = .ok (.invokevirtual 90, 3) := by decide +kernel
theorem dX4_level_15 : decode cX4_level 15 = .ok (.ifCond .eq 12, 3) := by decide +kernel
theorem dX4_level_18 : decode cX4_level 18 = .ok (.iload_n 2, 1) := by decide +kernel
theorem dX4_level_19 : decode cX4_level 19 = .ok (.iconst 0, 1) := by decide +kernel
theorem dX4_level_20 : decode cX4_level 20 = .ok (.iconst 4, 1) := by decide +kernel
theorem dX4_level_21 : decode cX4_level 21 = .ok (.invokestatic 69, 3) := by decide +kernel
theorem dX4_level_24 : decode cX4_level 24 = .ok (.ifCond .ne 6, 3) := by decide +kernel
theorem dX4_level_27 : decode cX4_level 27 = .ok (.ldc 202, 2) := by decide +kernel
theorem dX4_level_29 : decode cX4_level 29 = .ok (.ireturn, 1) := by decide +kernel
theorem dX4_level_30 : decode cX4_level 30 = .ok (.iload_n 2, 1) := by decide +kernel
theorem dX4_level_31 : decode cX4_level 31 = .ok (.iconst 1, 1) := by decide +kernel
theorem dX4_level_32 : decode cX4_level 32 = .ok (.if_icmp .ne 7, 3) := by decide +kernel
theorem dX4_level_35 : decode cX4_level 35 = .ok (.iconst 2, 1) := by decide +kernel
theorem dX4_level_36 : decode cX4_level 36 = .ok (.goto 24, 3) := by decide +kernel
theorem dX4_level_39 : decode cX4_level 39 = .ok (.iload_n 2, 1) := by decide +kernel
theorem dX4_level_40 : decode cX4_level 40 = .ok (.iconst 2, 1) := by decide +kernel
theorem dX4_level_41 : decode cX4_level 41 = .ok (.if_icmp .ne 7, 3) := by decide +kernel
theorem dX4_level_44 : decode cX4_level 44 = .ok (.iconst 3, 1) := by decide +kernel
theorem dX4_level_45 : decode cX4_level 45 = .ok (.goto 15, 3) := by decide +kernel
theorem dX4_level_48 : decode cX4_level 48 = .ok (.iload_n 2, 1) := by decide +kernel
theorem dX4_level_49 : decode cX4_level 49 = .ok (.iconst 3, 1) := by decide +kernel
theorem dX4_level_50 : decode cX4_level 50 = .ok (.if_icmp .ne 8, 3) := by decide +kernel
theorem dX4_level_53 : decode cX4_level 53 = .ok (.bipush 6, 2) := by decide +kernel
theorem dX4_level_55 : decode cX4_level 55 = .ok (.goto 5, 3) := by decide +kernel
theorem dX4_level_58 : decode cX4_level 58 = .ok (.bipush 7, 2) := by decide +kernel
theorem dX4_level_60 : decode cX4_level 60 = .ok (.istore_n 3, 1) := by decide +kernel
theorem dX4_level_61 : decode cX4_level 61 = .ok (.iload_n 2, 1) := by decide +kernel
theorem dX4_level_62 : decode cX4_level 62 = .ok (.ifCond .le 14, 3) := by decide +kernel
theorem dX4_level_65 : decode cX4_level 65 = .ok (.aload_n 0, 1) := by decide +kernel
theorem dX4_level_66 : decode cX4_level 66 = .ok (.getfield 190, 3) := by decide +kernel
theorem dX4_level_69 : decode cX4_level 69 = .ok (.iload_n 3, 1) := by decide +kernel
theorem dX4_level_70 : decode cX4_level 70 = .ok (.if_icmp .eq 6, 3) := by decide +kernel
theorem dX4_level_73 : decode cX4_level 73 = .ok (.ldc 206, 2) := by decide +kernel
theorem dX4_level_75 : decode cX4_level 75 = .ok (.ireturn, 1) := by decide +kernel
theorem dX4_level_76 : decode cX4_level 76 = .ok (.aload_n 0, 1) := by decide +kernel
theorem dX4_level_77 : decode cX4_level 77 = .ok (.aload_n 0, 1) := by decide +kernel
theorem dX4_level_78 : decode cX4_level 78 = .ok (.getfield 190, 3) := by decide +kernel
theorem dX4_level_81 : decode cX4_level 81 = .ok (.aload_n 0, 1) := by decide +kernel
theorem dX4_level_82 : decode cX4_level 82 = .ok (.getfield 193, 3) := by decide +kernel
theorem dX4_level_85 : decode cX4_level 85 = .ok (.iload_n 1, 1) := by decide +kernel
theorem dX4_level_86 : decode cX4_level 86 = .ok (.invokevirtual 207, 3) := by decide +kernel
theorem dX4_level_89 : decode cX4_level 89 = .ok (.iload_n 2, 1) := by decide +kernel
theorem dX4_level_90 : decode cX4_level 90 = .ok (.ifCond .ne 10, 3) := by decide +kernel
theorem dX4_level_93 : decode cX4_level 93 = .ok (.aload_n 0, 1) := by decide +kernel
theorem dX4_level_94 : decode cX4_level 94 = .ok (.getfield 109, 3) := by decide +kernel
theorem dX4_level_97 : decode cX4_level 97 = .ok (.goto 43, 3) := by decide +kernel
theorem dX4_level_100 : decode cX4_level 100 = .ok (.iload_n 2, 1) := by decide +kernel
theorem dX4_level_101 : decode cX4_level 101 = .ok (.iconst 1, 1) := by decide +kernel
theorem dX4_level_102 : decode cX4_level 102 = .ok (.if_icmp .ne 10, 3) := by decide +kernel
theorem dX4_level_105 : decode cX4_level 105 = .ok (.aload_n 0, 1) := by decide +kernel
theorem dX4_level_106 : decode cX4_level 106 = .ok (.getfield 112, 3) := by decide +kernel
theorem dX4_level_109 : decode cX4_level 109 = .ok (.goto 31, 3) := by decide +kernel
theorem dX4_level_112 : decode cX4_level 112 = .ok (.iload_n 2, 1) := by decide +kernel
theorem dX4_level_113 : decode cX4_level 113 = .ok (.iconst 2, 1) := by decide +kernel
theorem dX4_level_114 : decode cX4_level 114 = .ok (.if_icmp .ne 10, 3) := by decide +kernel
theorem dX4_level_117 : decode cX4_level 117 = .ok (.aload_n 0, 1) := by decide +kernel
theorem dX4_level_118 : decode cX4_level 118 = .ok (.getfield 115, 3) := by decide +kernel
theorem dX4_level_121 : decode cX4_level 121 = .ok (.goto 19, 3) := by decide +kernel
theorem dX4_level_124 : decode cX4_level 124 = .ok (.iload_n 2, 1) := by decide +kernel
theorem dX4_level_125 : decode cX4_level 125 = .ok (.iconst 3, 1) := by decide +kernel
theorem dX4_level_126 : decode cX4_level 126 = .ok (.if_icmp .ne 10, 3) := by decide +kernel
theorem dX4_level_129 : decode cX4_level 129 = .ok (.aload_n 0, 1) := by decide +kernel
theorem dX4_level_130 : decode cX4_level 130 = .ok (.getfield 118, 3) := by decide +kernel
theorem dX4_level_133 : decode cX4_level 133 = .ok (.goto 7, 3) := by decide +kernel
theorem dX4_level_136 : decode cX4_level 136 = .ok (.aload_n 0, 1) := by decide +kernel
theorem dX4_level_137 : decode cX4_level 137 = .ok (.getfield 121, 3) := by decide +kernel
theorem dX4_level_140 : decode cX4_level 140 = .ok (.ireturn, 1) := by decide +kernel
theorem dX4_fewest_0 : decode cX4_fewest 0 = .ok (.iload_n 1, 1) := by decide +kernel
theorem dX4_fewest_1 : decode cX4_fewest 1 = .ok (.iconst 1, 1) := by decide +kernel
theorem dX4_fewest_2 : decode cX4_fewest 2 = .ok (.bipush 8, 2) := by decide +kernel
theorem dX4_fewest_4 : decode cX4_fewest 4 = .ok (.invokestatic 69, 3) := by decide +kernel
theorem dX4_fewest_7 : decode cX4_fewest 7 = .ok (.ifCond .ne 5, 3) := by decide +kernel
theorem dX4_fewest_10 : decode cX4_fewest 10 = .ok (.iconst (-1), 1) := by decide +kernel
theorem dX4_fewest_11 : decode cX4_fewest 11 = .ok (.ireturn, 1) := by decide +kernel
theorem dX4_fewest_12 : decode cX4_fewest 12 = .ok (.iconst 0, 1) := by decide +kernel
theorem dX4_fewest_13 : decode cX4_fewest 13 = .ok (.istore_n 2, 1) := by decide +kernel
theorem dX4_fewest_14 : decode cX4_fewest 14 = .ok (.aload_n 0, 1) := by decide +kernel
theorem dX4_fewest_15 : decode cX4_fewest 15 = .ok (.iconst 0, 1) := by decide +kernel
theorem dX4_fewest_16 : decode cX4_fewest 16 = .ok (.iload_n 1, 1) := by decide +kernel
theorem dX4_fewest_17 : decode cX4_fewest 17 = .ok (.invokevirtual 210, 3) := by decide +kernel
theorem dX4_fewest_20 : decode cX4_fewest 20 = .ok (.istore_n 3, 1) := by decide +kernel
theorem dX4_fewest_21 : decode cX4_fewest 21 = .ok (.iconst 1, 1) := by decide +kernel
theorem dX4_fewest_22 : decode cX4_fewest 22 = .ok (.istore 4, 2) := by decide +kernel
theorem dX4_fewest_24 : decode cX4_fewest 24 = .ok (.iload 4, 2) := by decide +kernel
theorem dX4_fewest_26 : decode cX4_fewest 26 = .ok (.bipush 8, 2) := by decide +kernel
theorem dX4_fewest_28 : decode cX4_fewest 28 = .ok (.if_icmp .ge 44, 3) := by decide +kernel
theorem dX4_fewest_31 : decode cX4_fewest 31 = .ok (.aload_n 0, 1) := by decide +kernel
theorem dX4_fewest_32 : decode cX4_fewest 32 = .ok (.iload 4, 2) := by decide +kernel
theorem dX4_fewest_34 : decode cX4_fewest 34 = .ok (.iload_n 1, 1) := by decide +kernel
theorem dX4_fewest_35 : decode cX4_fewest 35 = .ok (.invokevirtual 210, 3) := by decide +kernel
theorem dX4_fewest_38 : decode cX4_fewest 38 = .ok (.istore 5, 2) := by decide +kernel
theorem dX4_fewest_40 : decode cX4_fewest 40 = .ok (.iload 5, 2) := by decide +kernel
theorem dX4_fewest_42 : decode cX4_fewest 42 = .ok (.iload_n 3, 1) := by decide +kernel
theorem dX4_fewest_43 : decode cX4_fewest 43 = .ok (.if_icmp .ge 8, 3) := by decide +kernel
theorem dX4_fewest_46 : decode cX4_fewest 46 = .ok (.iload 4, 2) := by decide +kernel
theorem dX4_fewest_48 : decode cX4_fewest 48 = .ok (.goto 4, 3) := by decide +kernel
theorem dX4_fewest_51 : decode cX4_fewest 51 = .ok (.iload_n 2, 1) := by decide +kernel
theorem dX4_fewest_52 : decode cX4_fewest 52 = .ok (.istore_n 2, 1) := by decide +kernel
theorem dX4_fewest_53 : decode cX4_fewest 53 = .ok (.iload 5, 2) := by decide +kernel
theorem dX4_fewest_55 : decode cX4_fewest 55 = .ok (.iload_n 3, 1) := by decide +kernel
theorem dX4_fewest_56 : decode cX4_fewest 56 = .ok (.if_icmp .ge 8, 3) := by decide +kernel
theorem dX4_fewest_59 : decode cX4_fewest 59 = .ok (.iload 5, 2) := by decide +kernel
theorem dX4_fewest_61 : decode cX4_fewest 61 = .ok (.goto 4, 3) := by decide +kernel
theorem dX4_fewest_64 : decode cX4_fewest 64 = .ok (.iload_n 3, 1) := by decide +kernel
theorem dX4_fewest_65 : decode cX4_fewest 65 = .ok (.istore_n 3, 1) := by decide +kernel
theorem dX4_fewest_66 : decode cX4_fewest 66 = .ok (.iinc 4 1, 3) := by decide +kernel
theorem dX4_fewest_69 : decode cX4_fewest 69 = .ok (.goto (-45), 3) := by decide +kernel
theorem dX4_fewest_72 : decode cX4_fewest 72 = .ok (.iload_n 2, 1) := by decide +kernel
theorem dX4_fewest_73 : decode cX4_fewest 73 = .ok (.ireturn, 1) := by decide +kernel
theorem dX4_share_0 : decode cX4_share 0 = .ok (.aload_n 0, 1) := by decide +kernel
theorem dX4_share_1 : decode cX4_share 1 = .ok (.getfield 81, 3) := by decide +kernel
theorem dX4_share_4 : decode cX4_share 4 = .ok (.ifCond .ne 6, 3) := by decide +kernel
theorem dX4_share_7 : decode cX4_share 7 = .ok (.bipush (-3), 2) := by decide +kernel
theorem dX4_share_9 : decode cX4_share 9 = .ok (.ireturn, 1) := by decide +kernel
theorem dX4_share_10 : decode cX4_share 10 = .ok (.aload_n 0, 1) := by decide +kernel
theorem dX4_share_11 : decode cX4_share 11 = .ok (.getfield 73, 3) := by decide +kernel
theorem dX4_share_14 : decode cX4_share 14 = .ok (.ifCond .ne 5, 3) := by decide +kernel
theorem dX4_share_17 : decode cX4_share 17 = .ok (.iconst (-1), 1) := by decide +kernel
theorem dX4_share_18 : decode cX4_share 18 = .ok (.ireturn, 1) := by decide +kernel
theorem dX4_share_19 : decode cX4_share 19 = .ok (.iconst 0, 1) := by decide +kernel
theorem dX4_share_20 : decode cX4_share 20 = .ok (.istore_n 1, 1) := by decide +kernel
theorem dX4_share_21 : decode cX4_share 21 = .ok (.iconst 0, 1) := by decide +kernel
theorem dX4_share_22 : decode cX4_share 22 = .ok (.istore_n 2, 1) := by decide +kernel
theorem dX4_share_23 : decode cX4_share 23 = .ok (.iload_n 2, 1) := by decide +kernel
theorem dX4_share_24 : decode cX4_share 24 = .ok (.aload_n 0, 1) := by decide +kernel
theorem dX4_share_25 : decode cX4_share 25 = .ok (.getfield 73, 3) := by decide +kernel
theorem dX4_share_28 : decode cX4_share 28 = .ok (.if_icmp .ge 18, 3) := by decide +kernel
theorem dX4_share_31 : decode cX4_share 31 = .ok (.iload_n 1, 1) := by decide +kernel
theorem dX4_share_32 : decode cX4_share 32 = .ok (.aload_n 0, 1) := by decide +kernel
theorem dX4_share_33 : decode cX4_share 33 = .ok (.getfield 16, 3) := by decide +kernel
theorem dX4_share_36 : decode cX4_share 36 = .ok (.iload_n 2, 1) := by decide +kernel
theorem dX4_share_37 : decode cX4_share 37 = .ok (.iaload, 1) := by decide +kernel
theorem dX4_share_38 : decode cX4_share 38 = .ok (.iadd, 1) := by decide +kernel
theorem dX4_share_39 : decode cX4_share 39 = .ok (.istore_n 1, 1) := by decide +kernel
theorem dX4_share_40 : decode cX4_share 40 = .ok (.iinc 2 1, 3) := by decide +kernel
theorem dX4_share_43 : decode cX4_share 43 = .ok (.goto (-20), 3) := by decide +kernel
theorem dX4_share_46 : decode cX4_share 46 = .ok (.iload_n 1, 1) := by decide +kernel
theorem dX4_share_47 : decode cX4_share 47 = .ok (.i2f, 1) := by decide +kernel
theorem dX4_share_48 : decode cX4_share 48 = .ok (.aload_n 0, 1) := by decide +kernel
theorem dX4_share_49 : decode cX4_share 49 = .ok (.getfield 73, 3) := by decide +kernel
theorem dX4_share_52 : decode cX4_share 52 = .ok (.i2f, 1) := by decide +kernel
theorem dX4_share_53 : decode cX4_share 53 = .ok (.fdiv, 1) := by decide +kernel
theorem dX4_share_54 : decode cX4_share 54 = .ok (.ldc 213, 2) := by decide +kernel
theorem dX4_share_56 : decode cX4_share 56 = .ok (.fmul, 1) := by decide +kernel
theorem dX4_share_57 : decode cX4_share 57 = .ok (.f2i, 1) := by decide +kernel
theorem dX4_share_58 : decode cX4_share 58 = .ok (.ireturn, 1) := by decide +kernel
theorem dX4_sizeOf_0 : decode cX4_sizeOf 0 = .ok (.iconst 0, 1) := by decide +kernel
theorem dX4_sizeOf_1 : decode cX4_sizeOf 1 = .ok (.istore_n 2, 1) := by decide +kernel
theorem dX4_sizeOf_2 : decode cX4_sizeOf 2 = .ok (.iconst 0, 1) := by decide +kernel
theorem dX4_sizeOf_3 : decode cX4_sizeOf 3 = .ok (.istore_n 3, 1) := by decide +kernel
theorem dX4_sizeOf_4 : decode cX4_sizeOf 4 = .ok (.iload_n 3, 1) := by decide +kernel
theorem dX4_sizeOf_5 : decode cX4_sizeOf 5 = .ok (.bipush 10, 2) := by decide +kernel
theorem dX4_sizeOf_7 : decode cX4_sizeOf 7 = .ok (.if_icmp .ge 17, 3) := by decide +kernel
theorem dX4_sizeOf_10 : decode cX4_sizeOf 10 = .ok (.iload_n 2, 1) := by decide +kernel
theorem dX4_sizeOf_11 : decode cX4_sizeOf 11 = .ok (.iload_n 1, 1) := by decide +kernel
theorem dX4_sizeOf_12 : decode cX4_sizeOf 12 = .ok (.iload_n 3, 1) := by decide +kernel
theorem dX4_sizeOf_13 : decode cX4_sizeOf 13 = .ok (.ishr, 1) := by decide +kernel
theorem dX4_sizeOf_14 : decode cX4_sizeOf 14 = .ok (.iconst 1, 1) := by decide +kernel
theorem dX4_sizeOf_15 : decode cX4_sizeOf 15 = .ok (.iand, 1) := by decide +kernel
theorem dX4_sizeOf_16 : decode cX4_sizeOf 16 = .ok (.iadd, 1) := by decide +kernel
theorem dX4_sizeOf_17 : decode cX4_sizeOf 17 = .ok (.istore_n 2, 1) := by decide +kernel
theorem dX4_sizeOf_18 : decode cX4_sizeOf 18 = .ok (.iinc 3 1, 3) := by decide +kernel
theorem dX4_sizeOf_21 : decode cX4_sizeOf 21 = .ok (.goto (-17), 3) := by decide +kernel
theorem dX4_sizeOf_24 : decode cX4_sizeOf 24 = .ok (.iload_n 2, 1) := by decide +kernel
theorem dX4_sizeOf_25 : decode cX4_sizeOf 25 = .ok (.ireturn, 1) := by decide +kernel
theorem dX4_behind_0 : decode cX4_behind 0 = .ok (.iload_n 3, 1) := by decide +kernel
theorem dX4_behind_1 : decode cX4_behind 1 = .ok (.ifCond .ge 7, 3) := by decide +kernel
theorem dX4_behind_4 : decode cX4_behind 4 = .ok (.iload_n 2, 1) := by decide +kernel
theorem dX4_behind_5 : decode cX4_behind 5 = .ok (.goto 10, 3) := by decide +kernel
theorem dX4_behind_8 : decode cX4_behind 8 = .ok (.iload_n 2, 1) := by decide +kernel
theorem dX4_behind_9 : decode cX4_behind 9 = .ok (.iconst 1, 1) := by decide +kernel
theorem dX4_behind_10 : decode cX4_behind 10 = .ok (.iload_n 3, 1) := by decide +kernel
theorem dX4_behind_11 : decode cX4_behind 11 = .ok (.ishl, 1) := by decide +kernel
theorem dX4_behind_12 : decode cX4_behind 12 = .ok (.iconst (-1), 1) := by decide +kernel
theorem dX4_behind_13 : decode cX4_behind 13 = .ok (.ixor, 1) := by decide +kernel
theorem dX4_behind_14 : decode cX4_behind 14 = .ok (.iand, 1) := by decide +kernel
theorem dX4_behind_15 : decode cX4_behind 15 = .ok (.istore 5, 2) := by decide +kernel
theorem dX4_behind_17 : decode cX4_behind 17 = .ok (.aload_n 0, 1) := by decide +kernel
theorem dX4_behind_18 : decode cX4_behind 18 = .ok (.getfield 7, 3) := by decide +kernel
theorem dX4_behind_21 : decode cX4_behind 21 = .ok (.aload_n 0, 1) := by decide +kernel
theorem dX4_behind_22 : decode cX4_behind 22 = .ok (.getfield 13, 3) := by decide +kernel
theorem dX4_behind_25 : decode cX4_behind 25 = .ok (.iload_n 1, 1) := by decide +kernel
theorem dX4_behind_26 : decode cX4_behind 26 = .ok (.iaload, 1) := by decide +kernel
theorem dX4_behind_27 : decode cX4_behind 27 = .ok (.iaload, 1) := by decide +kernel
theorem dX4_behind_28 : decode cX4_behind 28 = .ok (.aload_n 0, 1) := by decide +kernel
theorem dX4_behind_29 : decode cX4_behind 29 = .ok (.getfield 60, 3) := by decide +kernel
theorem dX4_behind_32 : decode cX4_behind 32 = .ok (.sipush 1024, 3) := by decide +kernel
theorem dX4_behind_35 : decode cX4_behind 35 = .ok (.iload_n 1, 1) := by decide +kernel
theorem dX4_behind_36 : decode cX4_behind 36 = .ok (.iconst 1, 1) := by decide +kernel
theorem dX4_behind_37 : decode cX4_behind 37 = .ok (.iadd, 1) := by decide +kernel
theorem dX4_behind_38 : decode cX4_behind 38 = .ok (.imul, 1) := by decide +kernel
theorem dX4_behind_39 : decode cX4_behind 39 = .ok (.iload 5, 2) := by decide +kernel
theorem dX4_behind_41 : decode cX4_behind 41 = .ok (.iconst 1, 1) := by decide +kernel
theorem dX4_behind_42 : decode cX4_behind 42 = .ok (.iload 4, 2) := by decide +kernel
theorem dX4_behind_44 : decode cX4_behind 44 = .ok (.ishl, 1) := by decide +kernel
theorem dX4_behind_45 : decode cX4_behind 45 = .ok (.ior, 1) := by decide +kernel
theorem dX4_behind_46 : decode cX4_behind 46 = .ok (.iadd, 1) := by decide +kernel
theorem dX4_behind_47 : decode cX4_behind 47 = .ok (.iaload, 1) := by decide +kernel
theorem dX4_behind_48 : decode cX4_behind 48 = .ok (.iadd, 1) := by decide +kernel
theorem dX4_behind_49 : decode cX4_behind 49 = .ok (.ireturn, 1) := by decide +kernel
theorem dX4_leastFor_0 : decode cX4_leastFor 0 = .ok (.aload_n 0, 1) := by decide +kernel
theorem dX4_leastFor_1 : decode cX4_leastFor 1 = .ok (.getfield 56, 3) := by decide +kernel
theorem dX4_leastFor_4 : decode cX4_leastFor 4 = .ok (.aload_n 0, 1) := by decide +kernel
theorem dX4_leastFor_5 : decode cX4_leastFor 5 = .ok (.getfield 13, 3) := by decide +kernel
theorem dX4_leastFor_8 : decode cX4_leastFor 8 = .ok (.iload_n 1, 1) := by decide +kernel
theorem dX4_leastFor_9 : decode cX4_leastFor 9 = .ok (.iaload, 1) := by decide +kernel
theorem dX4_leastFor_10 : decode cX4_leastFor 10 = .ok (.iaload, 1) := by decide +kernel
theorem dX4_leastFor_11 : decode cX4_leastFor 11 = .ok (.istore 4, 2) := by decide +kernel
theorem dX4_leastFor_13 : decode cX4_leastFor 13 = .ok (.iload_n 2, 1) := by decide +kernel
theorem dX4_leastFor_14 : decode cX4_leastFor 14 = .ok (.iload 4, 2) := by decide +kernel
theorem dX4_leastFor_16 : decode cX4_leastFor 16 = .ok (.ishr, 1) := by decide +kernel
theorem dX4_leastFor_17 : decode cX4_leastFor 17 = .ok (.iconst 1, 1) := by decide +kernel
theorem dX4_leastFor_18 : decode cX4_leastFor 18 = .ok (.iand, 1) := by decide +kernel
theorem dX4_leastFor_19 : decode cX4_leastFor 19 = .ok (.iconst 1, 1) := by decide +kernel
theorem dX4_leastFor_20 : decode cX4_leastFor 20 = .ok (.if_icmp .ne 18, 3) := by decide +kernel
theorem dX4_leastFor_23 : decode cX4_leastFor 23 = .ok (.aload_n 0, 1) := by decide +kernel
theorem dX4_leastFor_24 : decode cX4_leastFor 24 = .ok (.getfield 60, 3) := by decide +kernel
theorem dX4_leastFor_27 : decode cX4_leastFor 27 = .ok (.sipush 1024, 3) := by decide +kernel
theorem dX4_leastFor_30 : decode cX4_leastFor 30 = .ok (.iload_n 1, 1) := by decide +kernel
theorem dX4_leastFor_31 : decode cX4_leastFor 31 = .ok (.iconst 1, 1) := by decide +kernel
theorem dX4_leastFor_32 : decode cX4_leastFor 32 = .ok (.iadd, 1) := by decide +kernel
theorem dX4_leastFor_33 : decode cX4_leastFor 33 = .ok (.imul, 1) := by decide +kernel
theorem dX4_leastFor_34 : decode cX4_leastFor 34 = .ok (.iload_n 2, 1) := by decide +kernel
theorem dX4_leastFor_35 : decode cX4_leastFor 35 = .ok (.iadd, 1) := by decide +kernel
theorem dX4_leastFor_36 : decode cX4_leastFor 36 = .ok (.iaload, 1) := by decide +kernel
theorem dX4_leastFor_37 : decode cX4_leastFor 37 = .ok (.ireturn, 1) := by decide +kernel
theorem dX4_leastFor_38 : decode cX4_leastFor 38 = .ok (.aload_n 0, 1) := by decide +kernel
theorem dX4_leastFor_39 : decode cX4_leastFor 39 = .ok (.iload_n 2, 1) := by decide +kernel
theorem dX4_leastFor_40 : decode cX4_leastFor 40 = .ok (.invokevirtual 214, 3) := by decide +kernel
theorem dX4_leastFor_43 : decode cX4_leastFor 43 = .ok (.iload_n 3, 1) := by decide +kernel
theorem dX4_leastFor_44 : decode cX4_leastFor 44 = .ok (.if_icmp .ge 13, 3) := by decide +kernel
theorem dX4_leastFor_47 : decode cX4_leastFor 47 = .ok (.aload_n 0, 1) := by decide +kernel
theorem dX4_leastFor_48 : decode cX4_leastFor 48 = .ok (.iload_n 1, 1) := by decide +kernel
theorem dX4_leastFor_49 : decode cX4_leastFor 49 = .ok (.iload_n 2, 1) := by decide +kernel
theorem dX4_leastFor_50 : decode cX4_leastFor 50 = .ok (.iconst (-1), 1) := by decide +kernel
theorem dX4_leastFor_51 : decode cX4_leastFor 51 = .ok (.iload 4, 2) := by decide +kernel
theorem dX4_leastFor_53 : decode cX4_leastFor 53 = .ok (.invokevirtual 217, 3) := by decide +kernel
theorem dX4_leastFor_56 : decode cX4_leastFor 56 = .ok (.ireturn, 1) := by decide +kernel
theorem dX4_leastFor_57 : decode cX4_leastFor 57 = .ok (.ldc 221, 2) := by decide +kernel
theorem dX4_leastFor_59 : decode cX4_leastFor 59 = .ok (.istore 5, 2) := by decide +kernel
theorem dX4_leastFor_61 : decode cX4_leastFor 61 = .ok (.iconst 0, 1) := by decide +kernel
theorem dX4_leastFor_62 : decode cX4_leastFor 62 = .ok (.istore 6, 2) := by decide +kernel
theorem dX4_leastFor_64 : decode cX4_leastFor 64 = .ok (.iload 6, 2) := by decide +kernel
theorem dX4_leastFor_66 : decode cX4_leastFor 66 = .ok (.bipush 10, 2) := by decide +kernel
theorem dX4_leastFor_68 : decode cX4_leastFor 68 = .ok (.if_icmp .ge 47, 3) := by decide +kernel
theorem dX4_leastFor_71 : decode cX4_leastFor 71 = .ok (.iload_n 2, 1) := by decide +kernel
theorem dX4_leastFor_72 : decode cX4_leastFor 72 = .ok (.iload 6, 2) := by decide +kernel
theorem dX4_leastFor_74 : decode cX4_leastFor 74 = .ok (.ishr, 1) := by decide +kernel
theorem dX4_leastFor_75 : decode cX4_leastFor 75 = .ok (.iconst 1, 1) := by decide +kernel
theorem dX4_leastFor_76 : decode cX4_leastFor 76 = .ok (.iand, 1) := by decide +kernel
theorem dX4_leastFor_77 : decode cX4_leastFor 77 = .ok (.iconst 1, 1) := by decide +kernel
theorem dX4_leastFor_78 : decode cX4_leastFor 78 = .ok (.if_icmp .ne 31, 3) := by decide +kernel
theorem dX4_leastFor_81 : decode cX4_leastFor 81 = .ok (.aload_n 0, 1) := by decide +kernel
theorem dX4_leastFor_82 : decode cX4_leastFor 82 = .ok (.iload_n 1, 1) := by decide +kernel
theorem dX4_leastFor_83 : decode cX4_leastFor 83 = .ok (.iload_n 2, 1) := by decide +kernel
theorem dX4_leastFor_84 : decode cX4_leastFor 84 = .ok (.iload 6, 2) := by decide +kernel
theorem dX4_leastFor_86 : decode cX4_leastFor 86 = .ok (.iload 4, 2) := by decide +kernel
theorem dX4_leastFor_88 : decode cX4_leastFor 88 = .ok (.invokevirtual 217, 3) := by decide +kernel
theorem dX4_leastFor_91 : decode cX4_leastFor 91 = .ok (.istore 7, 2) := by decide +kernel
theorem dX4_leastFor_93 : decode cX4_leastFor 93 = .ok (.iload 7, 2) := by decide +kernel
theorem dX4_leastFor_95 : decode cX4_leastFor 95 = .ok (.iload 5, 2) := by decide +kernel
theorem dX4_leastFor_97 : decode cX4_leastFor 97 = .ok (.if_icmp .ge 8, 3) := by decide +kernel
theorem dX4_leastFor_100 : decode cX4_leastFor 100 = .ok (.iload 7, 2) := by decide +kernel
theorem dX4_leastFor_102 : decode cX4_leastFor 102 = .ok (.goto 5, 3) := by decide +kernel
theorem dX4_leastFor_105 : decode cX4_leastFor 105 = .ok (.iload 5, 2) := by decide +kernel
theorem dX4_leastFor_107 : decode cX4_leastFor 107 = .ok (.istore 5, 2) := by decide +kernel
theorem dX4_leastFor_109 : decode cX4_leastFor 109 = .ok (.iinc 6 1, 3) := by decide +kernel
theorem dX4_leastFor_112 : decode cX4_leastFor 112 = .ok (.goto (-48), 3) := by decide +kernel
theorem dX4_leastFor_115 : decode cX4_leastFor 115 = .ok (.iload 5, 2) := by decide +kernel
theorem dX4_leastFor_117 : decode cX4_leastFor 117 = .ok (.ireturn, 1) := by decide +kernel
theorem dX4_findLeast_0 : decode cX4_findLeast 0 = .ok (.iconst 0, 1) := by decide +kernel
theorem dX4_findLeast_1 : decode cX4_findLeast 1 = .ok (.istore_n 2, 1) := by decide +kernel
theorem dX4_findLeast_2 : decode cX4_findLeast 2 = .ok (.iconst 0, 1) := by decide +kernel
theorem dX4_findLeast_3 : decode cX4_findLeast 3 = .ok (.istore_n 3, 1) := by decide +kernel
theorem dX4_findLeast_4 : decode cX4_findLeast 4 = .ok (.iload_n 3, 1) := by decide +kernel
theorem dX4_findLeast_5 : decode cX4_findLeast 5 = .ok (.bipush 16, 2) := by decide +kernel
theorem dX4_findLeast_7 : decode cX4_findLeast 7 = .ok (.if_icmp .ge 82, 3) := by decide +kernel
theorem dX4_findLeast_10 : decode cX4_findLeast 10 = .ok (.aload_n 0, 1) := by decide +kernel
theorem dX4_findLeast_11 : decode cX4_findLeast 11 = .ok (.getfield 56, 3) := by decide +kernel
theorem dX4_findLeast_14 : decode cX4_findLeast 14 = .ok (.iload_n 3, 1) := by decide +kernel
theorem dX4_findLeast_15 : decode cX4_findLeast 15 = .ok (.iconst (-1), 1) := by decide +kernel
theorem dX4_findLeast_16 : decode cX4_findLeast 16 = .ok (.iastore, 1) := by decide +kernel
theorem dX4_findLeast_17 : decode cX4_findLeast 17 = .ok (.iconst 0, 1) := by decide +kernel
theorem dX4_findLeast_18 : decode cX4_findLeast 18 = .ok (.istore 4, 2) := by decide +kernel
theorem dX4_findLeast_20 : decode cX4_findLeast 20 = .ok (.iload 4, 2) := by decide +kernel
theorem dX4_findLeast_22 : decode cX4_findLeast 22 = .ok (.aload_n 0, 1) := by decide +kernel
theorem dX4_findLeast_23 : decode cX4_findLeast 23 = .ok (.getfield 73, 3) := by decide +kernel
theorem dX4_findLeast_26 : decode cX4_findLeast 26 = .ok (.if_icmp .ge 40, 3) := by decide +kernel
theorem dX4_findLeast_29 : decode cX4_findLeast 29 = .ok (.aload_n 0, 1) := by decide +kernel
theorem dX4_findLeast_30 : decode cX4_findLeast 30 = .ok (.getfield 56, 3) := by decide +kernel
theorem dX4_findLeast_33 : decode cX4_findLeast 33 = .ok (.iload_n 3, 1) := by decide +kernel
theorem dX4_findLeast_34 : decode cX4_findLeast 34 = .ok (.iaload, 1) := by decide +kernel
theorem dX4_findLeast_35 : decode cX4_findLeast 35 = .ok (.ifCond .ge 31, 3) := by decide +kernel
theorem dX4_findLeast_38 : decode cX4_findLeast 38 = .ok (.aload_n 0, 1) := by decide +kernel
theorem dX4_findLeast_39 : decode cX4_findLeast 39 = .ok (.getfield 56, 3) := by decide +kernel
theorem dX4_findLeast_42 : decode cX4_findLeast 42 = .ok (.iload_n 3, 1) := by decide +kernel
theorem dX4_findLeast_43 : decode cX4_findLeast 43 = .ok (.aload_n 0, 1) := by decide +kernel
theorem dX4_findLeast_44 : decode cX4_findLeast 44 = .ok (.getfield 13, 3) := by decide +kernel
theorem dX4_findLeast_47 : decode cX4_findLeast 47 = .ok (.iload 4, 2) := by decide +kernel
theorem dX4_findLeast_49 : decode cX4_findLeast 49 = .ok (.iaload, 1) := by decide +kernel
theorem dX4_findLeast_50 : decode cX4_findLeast 50 = .ok (.iload_n 3, 1) := by decide +kernel
theorem dX4_findLeast_51 : decode cX4_findLeast 51 = .ok (.if_icmp .ne 7, 3) := by decide +kernel
theorem dX4_findLeast_54 : decode cX4_findLeast 54 = .ok (.iload_n 2, 1) := by decide +kernel
theorem dX4_findLeast_55 : decode cX4_findLeast 55 = .ok (.goto 4, 3) := by decide +kernel
theorem dX4_findLeast_58 : decode cX4_findLeast 58 = .ok (.iconst (-1), 1) := by decide +kernel
theorem dX4_findLeast_59 : decode cX4_findLeast 59 = .ok (.iastore, 1) := by decide +kernel
theorem dX4_findLeast_60 : decode cX4_findLeast 60 = .ok (.iinc 4 1, 3) := by decide +kernel
theorem dX4_findLeast_63 : decode cX4_findLeast 63 = .ok (.goto (-43), 3) := by decide +kernel
theorem dX4_findLeast_66 : decode cX4_findLeast 66 = .ok (.iload_n 2, 1) := by decide +kernel
theorem dX4_findLeast_67 : decode cX4_findLeast 67 = .ok (.aload_n 0, 1) := by decide +kernel
theorem dX4_findLeast_68 : decode cX4_findLeast 68 = .ok (.getfield 56, 3) := by decide +kernel
theorem dX4_findLeast_71 : decode cX4_findLeast 71 = .ok (.iload_n 3, 1) := by decide +kernel
theorem dX4_findLeast_72 : decode cX4_findLeast 72 = .ok (.iaload, 1) := by decide +kernel
theorem dX4_findLeast_73 : decode cX4_findLeast 73 = .ok (.ifCond .lt 7, 3) := by decide +kernel
theorem dX4_findLeast_76 : decode cX4_findLeast 76 = .ok (.iconst 1, 1) := by decide +kernel
theorem dX4_findLeast_77 : decode cX4_findLeast 77 = .ok (.goto 4, 3) := by decide +kernel
theorem dX4_findLeast_80 : decode cX4_findLeast 80 = .ok (.iconst 0, 1) := by decide +kernel
theorem dX4_findLeast_81 : decode cX4_findLeast 81 = .ok (.iadd, 1) := by decide +kernel
theorem dX4_findLeast_82 : decode cX4_findLeast 82 = .ok (.istore_n 2, 1) := by decide +kernel
theorem dX4_findLeast_83 : decode cX4_findLeast 83 = .ok (.iinc 3 1, 3) := by decide +kernel
theorem dX4_findLeast_86 : decode cX4_findLeast 86 = .ok (.goto (-82), 3) := by decide +kernel
theorem dX4_findLeast_89 : decode cX4_findLeast 89 = .ok (.iload_n 2, 1) := by decide +kernel
theorem dX4_findLeast_90 : decode cX4_findLeast 90 = .ok (.bipush 10, 2) := by decide +kernel
theorem dX4_findLeast_92 : decode cX4_findLeast 92 = .ok (.if_icmp .le 5, 3) := by decide +kernel
theorem dX4_findLeast_95 : decode cX4_findLeast 95 = .ok (.iconst 0, 1) := by decide +kernel
theorem dX4_findLeast_96 : decode cX4_findLeast 96 = .ok (.ireturn, 1) := by decide +kernel
theorem dX4_findLeast_97 : decode cX4_findLeast 97 = .ok (.aload_n 0, 1) := by decide +kernel
theorem dX4_findLeast_98 : decode cX4_findLeast 98 = .ok (.iconst 1, 1) := by decide +kernel
theorem dX4_findLeast_99 : decode cX4_findLeast 99 = .ok (.iload_n 2, 1) := by decide +kernel
theorem dX4_findLeast_100 : decode cX4_findLeast 100 = .ok (.ishl, 1) := by decide +kernel
theorem dX4_findLeast_101 : decode cX4_findLeast 101 = .ok (.putfield 222, 3) := by decide +kernel
theorem dX4_findLeast_104 : decode cX4_findLeast 104 = .ok (.aload_n 0, 1) := by decide +kernel
theorem dX4_findLeast_105 : decode cX4_findLeast 105 = .ok (.getfield 73, 3) := by decide +kernel
theorem dX4_findLeast_108 : decode cX4_findLeast 108 = .ok (.istore_n 3, 1) := by decide +kernel
theorem dX4_findLeast_109 : decode cX4_findLeast 109 = .ok (.iload_n 3, 1) := by decide +kernel
theorem dX4_findLeast_110 : decode cX4_findLeast 110 = .ok (.ifCond .lt 70, 3) := by decide +kernel
theorem dX4_findLeast_113 : decode cX4_findLeast 113 = .ok (.iconst 0, 1) := by decide +kernel
theorem dX4_findLeast_114 : decode cX4_findLeast 114 = .ok (.istore 4, 2) := by decide +kernel
theorem dX4_findLeast_116 : decode cX4_findLeast 116 = .ok (.iload 4, 2) := by decide +kernel
theorem dX4_findLeast_118 : decode cX4_findLeast 118 = .ok (.aload_n 0, 1) := by decide +kernel
theorem dX4_findLeast_119 : decode cX4_findLeast 119 = .ok (.getfield 222, 3) := by decide +kernel
theorem dX4_findLeast_122 : decode cX4_findLeast 122 = .ok (.if_icmp .ge 52, 3) := by decide +kernel
theorem dX4_findLeast_125 : decode cX4_findLeast 125 = .ok (.aload_n 0, 1) := by decide +kernel
theorem dX4_findLeast_126 : decode cX4_findLeast 126 = .ok (.getfield 60, 3) := by decide +kernel
theorem dX4_findLeast_129 : decode cX4_findLeast 129 = .ok (.sipush 1024, 3) := by decide +kernel
theorem dX4_findLeast_132 : decode cX4_findLeast 132 = .ok (.iload_n 3, 1) := by decide +kernel
theorem dX4_findLeast_133 : decode cX4_findLeast 133 = .ok (.imul, 1) := by decide +kernel
theorem dX4_findLeast_134 : decode cX4_findLeast 134 = .ok (.iload 4, 2) := by decide +kernel
theorem dX4_findLeast_136 : decode cX4_findLeast 136 = .ok (.iadd, 1) := by decide +kernel
theorem dX4_findLeast_137 : decode cX4_findLeast 137 = .ok (.iload_n 3, 1) := by decide +kernel
theorem dX4_findLeast_138 : decode cX4_findLeast 138 = .ok (.aload_n 0, 1) := by decide +kernel
theorem dX4_findLeast_139 : decode cX4_findLeast 139 = .ok (.getfield 73, 3) := by decide +kernel
theorem dX4_findLeast_142 : decode cX4_findLeast 142 = .ok (.if_icmp .eq 13, 3) := by decide +kernel
theorem dX4_findLeast_145 : decode cX4_findLeast 145 = .ok (.aload_n 0, 1) := by decide +kernel
theorem dX4_findLeast_146 : decode cX4_findLeast 146 = .ok (.iload 4, 2) := by decide +kernel
theorem dX4_findLeast_148 : decode cX4_findLeast 148 = .ok (.invokevirtual 214, 3) := by decide +kernel
theorem dX4_findLeast_151 : decode cX4_findLeast 151 = .ok (.iload_n 1, 1) := by decide +kernel
theorem dX4_findLeast_152 : decode cX4_findLeast 152 = .ok (.if_icmp .le 7, 3) := by decide +kernel
theorem dX4_findLeast_155 : decode cX4_findLeast 155 = .ok (.iconst 0, 1) := by decide +kernel
theorem dX4_findLeast_156 : decode cX4_findLeast 156 = .ok (.goto 11, 3) := by decide +kernel
theorem dX4_findLeast_159 : decode cX4_findLeast 159 = .ok (.aload_n 0, 1) := by decide +kernel
theorem dX4_findLeast_160 : decode cX4_findLeast 160 = .ok (.iload_n 3, 1) := by decide +kernel
theorem dX4_findLeast_161 : decode cX4_findLeast 161 = .ok (.iload 4, 2) := by decide +kernel
theorem dX4_findLeast_163 : decode cX4_findLeast 163 = .ok (.iload_n 1, 1) := by decide +kernel
theorem dX4_findLeast_164 : decode cX4_findLeast 164 = .ok (.invokevirtual 225, 3) := by decide +kernel
theorem dX4_findLeast_167 : decode cX4_findLeast 167 = .ok (.iastore, 1) := by decide +kernel
theorem dX4_findLeast_168 : decode cX4_findLeast 168 = .ok (.iinc 4 1, 3) := by decide +kernel
theorem dX4_findLeast_171 : decode cX4_findLeast 171 = .ok (.goto (-55), 3) := by decide +kernel
theorem dX4_findLeast_174 : decode cX4_findLeast 174 = .ok (.iinc 3 (-1), 3) := by decide +kernel
theorem dX4_findLeast_177 : decode cX4_findLeast 177 = .ok (.goto (-68), 3) := by decide +kernel
theorem dX4_findLeast_180 : decode cX4_findLeast 180 = .ok (.iconst 1, 1) := by decide +kernel
theorem dX4_findLeast_181 : decode cX4_findLeast 181 = .ok (.ireturn, 1) := by decide +kernel
theorem dX4_least__0 : decode cX4_least_ 0 = .ok (.iload_n 1, 1) := by decide +kernel
theorem dX4_least__1 : decode cX4_least_ 1 = .ok (.iconst 1, 1) := by decide +kernel
theorem dX4_least__2 : decode cX4_least_ 2 = .ok (.bipush 8, 2) := by decide +kernel
theorem dX4_least__4 : decode cX4_least_ 4 = .ok (.invokestatic 69, 3) := by decide +kernel
theorem dX4_least__7 : decode cX4_least_ 7 = .ok (.ifCond .ne 5, 3) := by decide +kernel
theorem dX4_least__10 : decode cX4_least_ 10 = .ok (.iconst (-1), 1) := by decide +kernel
theorem dX4_least__11 : decode cX4_least_ 11 = .ok (.ireturn, 1) := by decide +kernel
theorem dX4_least__12 : decode cX4_least_ 12 = .ok (.aload_n 0, 1) := by decide +kernel
theorem dX4_least__13 : decode cX4_least_ 13 = .ok (.iload_n 1, 1) := by decide +kernel
theorem dX4_least__14 : decode cX4_least_ 14 = .ok (.invokevirtual 229, 3) := by decide +kernel
theorem dX4_least__17 : decode cX4_least_ 17 = .ok (.ifCond .eq 12, 3) := by decide +kernel
theorem dX4_least__20 : decode cX4_least_ 20 = .ok (.aload_n 0, 1) := by decide +kernel
theorem dX4_least__21 : decode cX4_least_ 21 = .ok (.getfield 60, 3) := by decide +kernel
theorem dX4_least__24 : decode cX4_least_ 24 = .ok (.iconst 0, 1) := by decide +kernel
theorem dX4_least__25 : decode cX4_least_ 25 = .ok (.iaload, 1) := by decide +kernel
theorem dX4_least__26 : decode cX4_least_ 26 = .ok (.goto 5, 3) := by decide +kernel
theorem dX4_least__29 : decode cX4_least_ 29 = .ok (.bipush (-5), 2) := by decide +kernel
theorem dX4_least__31 : decode cX4_least_ 31 = .ok (.ireturn, 1) := by decide +kernel
theorem dX4_thingAt_0 : decode cX4_thingAt 0 = .ok (.iconst (-1), 1) := by decide +kernel
theorem dX4_thingAt_1 : decode cX4_thingAt 1 = .ok (.istore_n 2, 1) := by decide +kernel
theorem dX4_thingAt_2 : decode cX4_thingAt 2 = .ok (.iconst 0, 1) := by decide +kernel
theorem dX4_thingAt_3 : decode cX4_thingAt 3 = .ok (.istore_n 3, 1) := by decide +kernel
theorem dX4_thingAt_4 : decode cX4_thingAt 4 = .ok (.iload_n 3, 1) := by decide +kernel
theorem dX4_thingAt_5 : decode cX4_thingAt 5 = .ok (.bipush 16, 2) := by decide +kernel
theorem dX4_thingAt_7 : decode cX4_thingAt 7 = .ok (.if_icmp .ge 25, 3) := by decide +kernel
theorem dX4_thingAt_10 : decode cX4_thingAt 10 = .ok (.aload_n 0, 1) := by decide +kernel
theorem dX4_thingAt_11 : decode cX4_thingAt 11 = .ok (.getfield 56, 3) := by decide +kernel
theorem dX4_thingAt_14 : decode cX4_thingAt 14 = .ok (.iload_n 3, 1) := by decide +kernel
theorem dX4_thingAt_15 : decode cX4_thingAt 15 = .ok (.iaload, 1) := by decide +kernel
theorem dX4_thingAt_16 : decode cX4_thingAt 16 = .ok (.iload_n 1, 1) := by decide +kernel
theorem dX4_thingAt_17 : decode cX4_thingAt 17 = .ok (.if_icmp .ne 7, 3) := by decide +kernel
theorem dX4_thingAt_20 : decode cX4_thingAt 20 = .ok (.iload_n 3, 1) := by decide +kernel
theorem dX4_thingAt_21 : decode cX4_thingAt 21 = .ok (.goto 4, 3) := by decide +kernel
theorem dX4_thingAt_24 : decode cX4_thingAt 24 = .ok (.iload_n 2, 1) := by decide +kernel
theorem dX4_thingAt_25 : decode cX4_thingAt 25 = .ok (.istore_n 2, 1) := by decide +kernel
theorem dX4_thingAt_26 : decode cX4_thingAt 26 = .ok (.iinc 3 1, 3) := by decide +kernel
theorem dX4_thingAt_29 : decode cX4_thingAt 29 = .ok (.goto (-25), 3) := by decide +kernel
theorem dX4_thingAt_32 : decode cX4_thingAt 32 = .ok (.iload_n 2, 1) := by decide +kernel
theorem dX4_thingAt_33 : decode cX4_thingAt 33 = .ok (.ireturn, 1) := by decide +kernel
theorem dX4_goes_0 : decode cX4_goes 0 = .ok (.iload_n 1, 1) := by decide +kernel
theorem dX4_goes_1 : decode cX4_goes 1 = .ok (.iconst 1, 1) := by decide +kernel
theorem dX4_goes_2 : decode cX4_goes 2 = .ok (.bipush 8, 2) := by decide +kernel
theorem dX4_goes_4 : decode cX4_goes 4 = .ok (.invokestatic 69, 3) := by decide +kernel
theorem dX4_goes_7 : decode cX4_goes 7 = .ok (.ifCond .eq 19, 3) := by decide +kernel
theorem dX4_goes_10 : decode cX4_goes 10 = .ok (.aload_n 0, 1) := by decide +kernel
theorem dX4_goes_11 : decode cX4_goes 11 = .ok (.iload_n 2, 1) := by decide +kernel
theorem dX4_goes_12 : decode cX4_goes 12 = .ok (.invokevirtual 90, 3) := by decide +kernel
theorem dX4_goes_15 : decode cX4_goes 15 = .ok (.ifCond .eq 11, 3) := by decide +kernel
theorem dX4_goes_18 : decode cX4_goes 18 = .ok (.aload_n 0, 1) := by decide +kernel
theorem dX4_goes_19 : decode cX4_goes 19 = .ok (.iload_n 1, 1) := by decide +kernel
theorem dX4_goes_20 : decode cX4_goes 20 = .ok (.invokevirtual 229, 3) := by decide +kernel
theorem dX4_goes_23 : decode cX4_goes 23 = .ok (.ifCond .ne 5, 3) := by decide +kernel
theorem dX4_goes_26 : decode cX4_goes 26 = .ok (.iconst (-1), 1) := by decide +kernel
theorem dX4_goes_27 : decode cX4_goes 27 = .ok (.ireturn, 1) := by decide +kernel
theorem dX4_goes_28 : decode cX4_goes 28 = .ok (.iconst 0, 1) := by decide +kernel
theorem dX4_goes_29 : decode cX4_goes 29 = .ok (.istore_n 3, 1) := by decide +kernel
theorem dX4_goes_30 : decode cX4_goes 30 = .ok (.iconst (-1), 1) := by decide +kernel
theorem dX4_goes_31 : decode cX4_goes 31 = .ok (.istore 4, 2) := by decide +kernel
theorem dX4_goes_33 : decode cX4_goes 33 = .ok (.iconst 0, 1) := by decide +kernel
theorem dX4_goes_34 : decode cX4_goes 34 = .ok (.istore 5, 2) := by decide +kernel
theorem dX4_goes_36 : decode cX4_goes 36 = .ok (.iload 5, 2) := by decide +kernel
theorem dX4_goes_38 : decode cX4_goes 38 = .ok (.iload_n 2, 1) := by decide +kernel
theorem dX4_goes_39 : decode cX4_goes 39 = .ok (.if_icmp .gt 128, 3) := by decide +kernel
theorem dX4_goes_42 : decode cX4_goes 42 = .ok (.aload_n 0, 1) := by decide +kernel
theorem dX4_goes_43 : decode cX4_goes 43 = .ok (.getfield 56, 3) := by decide +kernel
theorem dX4_goes_46 : decode cX4_goes 46 = .ok (.aload_n 0, 1) := by decide +kernel
theorem dX4_goes_47 : decode cX4_goes 47 = .ok (.getfield 13, 3) := by decide +kernel
theorem dX4_goes_50 : decode cX4_goes 50 = .ok (.iload 5, 2) := by decide +kernel
theorem dX4_goes_52 : decode cX4_goes 52 = .ok (.iaload, 1) := by decide +kernel
theorem dX4_goes_53 : decode cX4_goes 53 = .ok (.iaload, 1) := by decide +kernel
theorem dX4_goes_54 : decode cX4_goes 54 = .ok (.istore 6, 2) := by decide +kernel
theorem dX4_goes_56 : decode cX4_goes 56 = .ok (.iconst (-1), 1) := by decide +kernel
theorem dX4_goes_57 : decode cX4_goes 57 = .ok (.istore 4, 2) := by decide +kernel
theorem dX4_goes_59 : decode cX4_goes 59 = .ok (.iload_n 3, 1) := by decide +kernel
theorem dX4_goes_60 : decode cX4_goes 60 = .ok (.iload 6, 2) := by decide +kernel
theorem dX4_goes_62 : decode cX4_goes 62 = .ok (.ishr, 1) := by decide +kernel
theorem dX4_goes_63 : decode cX4_goes 63 = .ok (.iconst 1, 1) := by decide +kernel
theorem dX4_goes_64 : decode cX4_goes 64 = .ok (.iand, 1) := by decide +kernel
theorem dX4_goes_65 : decode cX4_goes 65 = .ok (.ifCond .ne 96, 3) := by decide +kernel
theorem dX4_goes_68 : decode cX4_goes 68 = .ok (.bipush 9, 2) := by decide +kernel
theorem dX4_goes_70 : decode cX4_goes 70 = .ok (.istore 7, 2) := by decide +kernel
theorem dX4_goes_72 : decode cX4_goes 72 = .ok (.iload 7, 2) := by decide +kernel
theorem dX4_goes_74 : decode cX4_goes 74 = .ok (.ifCond .lt 64, 3) := by decide +kernel
theorem dX4_goes_77 : decode cX4_goes 77 = .ok (.aload_n 0, 1) := by decide +kernel
theorem dX4_goes_78 : decode cX4_goes 78 = .ok (.iload_n 3, 1) := by decide +kernel
theorem dX4_goes_79 : decode cX4_goes 79 = .ok (.invokevirtual 214, 3) := by decide +kernel
theorem dX4_goes_82 : decode cX4_goes 82 = .ok (.iload_n 1, 1) := by decide +kernel
theorem dX4_goes_83 : decode cX4_goes 83 = .ok (.if_icmp .ne 55, 3) := by decide +kernel
theorem dX4_goes_86 : decode cX4_goes 86 = .ok (.iload_n 3, 1) := by decide +kernel
theorem dX4_goes_87 : decode cX4_goes 87 = .ok (.iload 7, 2) := by decide +kernel
theorem dX4_goes_89 : decode cX4_goes 89 = .ok (.ishr, 1) := by decide +kernel
theorem dX4_goes_90 : decode cX4_goes 90 = .ok (.iconst 1, 1) := by decide +kernel
theorem dX4_goes_91 : decode cX4_goes 91 = .ok (.iand, 1) := by decide +kernel
theorem dX4_goes_92 : decode cX4_goes 92 = .ok (.iconst 1, 1) := by decide +kernel
theorem dX4_goes_93 : decode cX4_goes 93 = .ok (.if_icmp .ne 35, 3) := by decide +kernel
theorem dX4_goes_96 : decode cX4_goes 96 = .ok (.aload_n 0, 1) := by decide +kernel
theorem dX4_goes_97 : decode cX4_goes 97 = .ok (.iload 5, 2) := by decide +kernel
theorem dX4_goes_99 : decode cX4_goes 99 = .ok (.iload_n 3, 1) := by decide +kernel
theorem dX4_goes_100 : decode cX4_goes 100 = .ok (.iload 7, 2) := by decide +kernel
theorem dX4_goes_102 : decode cX4_goes 102 = .ok (.iload 6, 2) := by decide +kernel
theorem dX4_goes_104 : decode cX4_goes 104 = .ok (.invokevirtual 217, 3) := by decide +kernel
theorem dX4_goes_107 : decode cX4_goes 107 = .ok (.aload_n 0, 1) := by decide +kernel
theorem dX4_goes_108 : decode cX4_goes 108 = .ok (.getfield 60, 3) := by decide +kernel
theorem dX4_goes_111 : decode cX4_goes 111 = .ok (.sipush 1024, 3) := by decide +kernel
theorem dX4_goes_114 : decode cX4_goes 114 = .ok (.iload 5, 2) := by decide +kernel
theorem dX4_goes_116 : decode cX4_goes 116 = .ok (.imul, 1) := by decide +kernel
theorem dX4_goes_117 : decode cX4_goes 117 = .ok (.iload_n 3, 1) := by decide +kernel
theorem dX4_goes_118 : decode cX4_goes 118 = .ok (.iadd, 1) := by decide +kernel
theorem dX4_goes_119 : decode cX4_goes 119 = .ok (.iaload, 1) := by decide +kernel
theorem dX4_goes_120 : decode cX4_goes 120 = .ok (.if_icmp .ne 8, 3) := by decide +kernel
theorem dX4_goes_123 : decode cX4_goes 123 = .ok (.iload 7, 2) := by decide +kernel
theorem dX4_goes_125 : decode cX4_goes 125 = .ok (.goto 5, 3) := by decide +kernel
theorem dX4_goes_128 : decode cX4_goes 128 = .ok (.iload 4, 2) := by decide +kernel
theorem dX4_goes_130 : decode cX4_goes 130 = .ok (.istore 4, 2) := by decide +kernel
theorem dX4_goes_132 : decode cX4_goes 132 = .ok (.iinc 7 (-1), 3) := by decide +kernel
theorem dX4_goes_135 : decode cX4_goes 135 = .ok (.goto (-63), 3) := by decide +kernel
theorem dX4_goes_138 : decode cX4_goes 138 = .ok (.iload 4, 2) := by decide +kernel
theorem dX4_goes_140 : decode cX4_goes 140 = .ok (.ifCond .ge 7, 3) := by decide +kernel
theorem dX4_goes_143 : decode cX4_goes 143 = .ok (.iload_n 3, 1) := by decide +kernel
theorem dX4_goes_144 : decode cX4_goes 144 = .ok (.goto 11, 3) := by decide +kernel
theorem dX4_goes_147 : decode cX4_goes 147 = .ok (.iload_n 3, 1) := by decide +kernel
theorem dX4_goes_148 : decode cX4_goes 148 = .ok (.iconst 1, 1) := by decide +kernel
theorem dX4_goes_149 : decode cX4_goes 149 = .ok (.iload 4, 2) := by decide +kernel
theorem dX4_goes_151 : decode cX4_goes 151 = .ok (.ishl, 1) := by decide +kernel
theorem dX4_goes_152 : decode cX4_goes 152 = .ok (.iconst (-1), 1) := by decide +kernel
theorem dX4_goes_153 : decode cX4_goes 153 = .ok (.ixor, 1) := by decide +kernel
theorem dX4_goes_154 : decode cX4_goes 154 = .ok (.iand, 1) := by decide +kernel
theorem dX4_goes_155 : decode cX4_goes 155 = .ok (.iconst 1, 1) := by decide +kernel
theorem dX4_goes_156 : decode cX4_goes 156 = .ok (.iload 6, 2) := by decide +kernel
theorem dX4_goes_158 : decode cX4_goes 158 = .ok (.ishl, 1) := by decide +kernel
theorem dX4_goes_159 : decode cX4_goes 159 = .ok (.ior, 1) := by decide +kernel
theorem dX4_goes_160 : decode cX4_goes 160 = .ok (.istore_n 3, 1) := by decide +kernel
theorem dX4_goes_161 : decode cX4_goes 161 = .ok (.iinc 5 1, 3) := by decide +kernel
theorem dX4_goes_164 : decode cX4_goes 164 = .ok (.goto (-128), 3) := by decide +kernel
theorem dX4_goes_167 : decode cX4_goes 167 = .ok (.iload 4, 2) := by decide +kernel
theorem dX4_goes_169 : decode cX4_goes 169 = .ok (.ifCond .ge 7, 3) := by decide +kernel
theorem dX4_goes_172 : decode cX4_goes 172 = .ok (.iconst (-1), 1) := by decide +kernel
theorem dX4_goes_173 : decode cX4_goes 173 = .ok (.goto 9, 3) := by decide +kernel
theorem dX4_goes_176 : decode cX4_goes 176 = .ok (.aload_n 0, 1) := by decide +kernel
theorem dX4_goes_177 : decode cX4_goes 177 = .ok (.iload 4, 2) := by decide +kernel
theorem dX4_goes_179 : decode cX4_goes 179 = .ok (.invokevirtual 232, 3) := by decide +kernel
theorem dX4_goes_182 : decode cX4_goes 182 = .ok (.ireturn, 1) := by decide +kernel
theorem dX4_phaseOf_0 : decode cX4_phaseOf 0 = .ok (.iconst (-1), 1) := by decide +kernel
theorem dX4_phaseOf_1 : decode cX4_phaseOf 1 = .ok (.istore_n 3, 1) := by decide +kernel
theorem dX4_phaseOf_2 : decode cX4_phaseOf 2 = .ok (.iload_n 1, 1) := by decide +kernel
theorem dX4_phaseOf_3 : decode cX4_phaseOf 3 = .ok (.istore 4, 2) := by decide +kernel
theorem dX4_phaseOf_5 : decode cX4_phaseOf 5 = .ok (.iconst 0, 1) := by decide +kernel
theorem dX4_phaseOf_6 : decode cX4_phaseOf 6 = .ok (.istore 5, 2) := by decide +kernel
theorem dX4_phaseOf_8 : decode cX4_phaseOf 8 = .ok (.iload 5, 2) := by decide +kernel
theorem dX4_phaseOf_10 : decode cX4_phaseOf 10 = .ok (.iload_n 2, 1) := by decide +kernel
theorem dX4_phaseOf_11 : decode cX4_phaseOf 11 = .ok (.if_icmp .gt 102, 3) := by decide +kernel
theorem dX4_phaseOf_14 : decode cX4_phaseOf 14 = .ok (.iload_n 3, 1) := by decide +kernel
theorem dX4_phaseOf_15 : decode cX4_phaseOf 15 = .ok (.ifCond .lt 24, 3) := by decide +kernel
theorem dX4_phaseOf_18 : decode cX4_phaseOf 18 = .ok (.aload_n 0, 1) := by decide +kernel
theorem dX4_phaseOf_19 : decode cX4_phaseOf 19 = .ok (.getfield 63, 3) := by decide +kernel
theorem dX4_phaseOf_22 : decode cX4_phaseOf 22 = .ok (.aload_n 0, 1) := by decide +kernel
theorem dX4_phaseOf_23 : decode cX4_phaseOf 23 = .ok (.getfield 13, 3) := by decide +kernel
theorem dX4_phaseOf_26 : decode cX4_phaseOf 26 = .ok (.iload 5, 2) := by decide +kernel
theorem dX4_phaseOf_28 : decode cX4_phaseOf 28 = .ok (.iaload, 1) := by decide +kernel
theorem dX4_phaseOf_29 : decode cX4_phaseOf 29 = .ok (.baload, 1) := by decide +kernel
theorem dX4_phaseOf_30 : decode cX4_phaseOf 30 = .ok (.ifCond .ne 39, 3) := by decide +kernel
theorem dX4_phaseOf_33 : decode cX4_phaseOf 33 = .ok (.iload 4, 2) := by decide +kernel
theorem dX4_phaseOf_35 : decode cX4_phaseOf 35 = .ok (.iload_n 1, 1) := by decide +kernel
theorem dX4_phaseOf_36 : decode cX4_phaseOf 36 = .ok (.if_icmp .ne 33, 3) := by decide +kernel
theorem dX4_phaseOf_39 : decode cX4_phaseOf 39 = .ok (.iinc 3 1, 3) := by decide +kernel
theorem dX4_phaseOf_42 : decode cX4_phaseOf 42 = .ok (.iconst 0, 1) := by decide +kernel
theorem dX4_phaseOf_43 : decode cX4_phaseOf 43 = .ok (.istore 4, 2) := by decide +kernel
theorem dX4_phaseOf_45 : decode cX4_phaseOf 45 = .ok (.iconst 0, 1) := by decide +kernel
theorem dX4_phaseOf_46 : decode cX4_phaseOf 46 = .ok (.istore 6, 2) := by decide +kernel
theorem dX4_phaseOf_48 : decode cX4_phaseOf 48 = .ok (.iload 6, 2) := by decide +kernel
theorem dX4_phaseOf_50 : decode cX4_phaseOf 50 = .ok (.bipush 16, 2) := by decide +kernel
theorem dX4_phaseOf_52 : decode cX4_phaseOf 52 = .ok (.if_icmp .ge 17, 3) := by decide +kernel
theorem dX4_phaseOf_55 : decode cX4_phaseOf 55 = .ok (.aload_n 0, 1) := by decide +kernel
theorem dX4_phaseOf_56 : decode cX4_phaseOf 56 = .ok (.getfield 63, 3) := by decide +kernel
theorem dX4_phaseOf_59 : decode cX4_phaseOf 59 = .ok (.iload 6, 2) := by decide +kernel
theorem dX4_phaseOf_61 : decode cX4_phaseOf 61 = .ok (.iconst 0, 1) := by decide +kernel
theorem dX4_phaseOf_62 : decode cX4_phaseOf 62 = .ok (.bastore, 1) := by decide +kernel
theorem dX4_phaseOf_63 : decode cX4_phaseOf 63 = .ok (.iinc 6 1, 3) := by decide +kernel
theorem dX4_phaseOf_66 : decode cX4_phaseOf 66 = .ok (.goto (-18), 3) := by decide +kernel
theorem dX4_phaseOf_69 : decode cX4_phaseOf 69 = .ok (.iload 4, 2) := by decide +kernel
theorem dX4_phaseOf_71 : decode cX4_phaseOf 71 = .ok (.aload_n 0, 1) := by decide +kernel
theorem dX4_phaseOf_72 : decode cX4_phaseOf 72 = .ok (.getfield 63, 3) := by decide +kernel
theorem dX4_phaseOf_75 : decode cX4_phaseOf 75 = .ok (.aload_n 0, 1) := by decide +kernel
theorem dX4_phaseOf_76 : decode cX4_phaseOf 76 = .ok (.getfield 13, 3) := by decide +kernel
theorem dX4_phaseOf_79 : decode cX4_phaseOf 79 = .ok (.iload 5, 2) := by decide +kernel
theorem dX4_phaseOf_81 : decode cX4_phaseOf 81 = .ok (.iaload, 1) := by decide +kernel
theorem dX4_phaseOf_82 : decode cX4_phaseOf 82 = .ok (.baload, 1) := by decide +kernel
theorem dX4_phaseOf_83 : decode cX4_phaseOf 83 = .ok (.ifCond .eq 7, 3) := by decide +kernel
theorem dX4_phaseOf_86 : decode cX4_phaseOf 86 = .ok (.iconst 0, 1) := by decide +kernel
theorem dX4_phaseOf_87 : decode cX4_phaseOf 87 = .ok (.goto 4, 3) := by decide +kernel
theorem dX4_phaseOf_90 : decode cX4_phaseOf 90 = .ok (.iconst 1, 1) := by decide +kernel
theorem dX4_phaseOf_91 : decode cX4_phaseOf 91 = .ok (.iadd, 1) := by decide +kernel
theorem dX4_phaseOf_92 : decode cX4_phaseOf 92 = .ok (.istore 4, 2) := by decide +kernel
theorem dX4_phaseOf_94 : decode cX4_phaseOf 94 = .ok (.aload_n 0, 1) := by decide +kernel
theorem dX4_phaseOf_95 : decode cX4_phaseOf 95 = .ok (.getfield 63, 3) := by decide +kernel
theorem dX4_phaseOf_98 : decode cX4_phaseOf 98 = .ok (.aload_n 0, 1) := by decide +kernel
theorem dX4_phaseOf_99 : decode cX4_phaseOf 99 = .ok (.getfield 13, 3) := by decide +kernel
theorem dX4_phaseOf_102 : decode cX4_phaseOf 102 = .ok (.iload 5, 2) := by decide +kernel
theorem dX4_phaseOf_104 : decode cX4_phaseOf 104 = .ok (.iaload, 1) := by decide +kernel
theorem dX4_phaseOf_105 : decode cX4_phaseOf 105 = .ok (.iconst 1, 1) := by decide +kernel
theorem dX4_phaseOf_106 : decode cX4_phaseOf 106 = .ok (.bastore, 1) := by decide +kernel
theorem dX4_phaseOf_107 : decode cX4_phaseOf 107 = .ok (.iinc 5 1, 3) := by decide +kernel
theorem dX4_phaseOf_110 : decode cX4_phaseOf 110 = .ok (.goto (-102), 3) := by decide +kernel
theorem dX4_phaseOf_113 : decode cX4_phaseOf 113 = .ok (.iload_n 3, 1) := by decide +kernel
theorem dX4_phaseOf_114 : decode cX4_phaseOf 114 = .ok (.ireturn, 1) := by decide +kernel
theorem dX4_phases_0 : decode cX4_phases 0 = .ok (.iload_n 1, 1) := by decide +kernel
theorem dX4_phases_1 : decode cX4_phases 1 = .ok (.iconst 1, 1) := by decide +kernel
theorem dX4_phases_2 : decode cX4_phases 2 = .ok (.bipush 8, 2) := by decide +kernel
theorem dX4_phases_4 : decode cX4_phases 4 = .ok (.invokestatic 69, 3) := by decide +kernel
theorem dX4_phases_7 : decode cX4_phases 7 = .ok (.ifCond .eq 19, 3) := by decide +kernel
theorem dX4_phases_10 : decode cX4_phases 10 = .ok (.aload_n 0, 1) := by decide +kernel
theorem dX4_phases_11 : decode cX4_phases 11 = .ok (.iload_n 1, 1) := by decide +kernel
theorem dX4_phases_12 : decode cX4_phases 12 = .ok (.aload_n 0, 1) := by decide +kernel
theorem dX4_phases_13 : decode cX4_phases 13 = .ok (.getfield 73, 3) := by decide +kernel
theorem dX4_phases_16 : decode cX4_phases 16 = .ok (.iconst 1, 1) := by decide +kernel
theorem dX4_phases_17 : decode cX4_phases 17 = .ok (.isub, 1) := by decide +kernel
theorem dX4_phases_18 : decode cX4_phases 18 = .ok (.invokevirtual 235, 3) := by decide +kernel
theorem dX4_phases_21 : decode cX4_phases 21 = .ok (.iconst 1, 1) := by decide +kernel
theorem dX4_phases_22 : decode cX4_phases 22 = .ok (.iadd, 1) := by decide +kernel
theorem dX4_phases_23 : decode cX4_phases 23 = .ok (.goto 4, 3) := by decide +kernel
theorem dX4_phases_26 : decode cX4_phases 26 = .ok (.iconst (-1), 1) := by decide +kernel
theorem dX4_phases_27 : decode cX4_phases 27 = .ok (.ireturn, 1) := by decide +kernel
theorem dX4_phase_0 : decode cX4_phase 0 = .ok (.iload_n 1, 1) := by decide +kernel
theorem dX4_phase_1 : decode cX4_phase 1 = .ok (.iconst 1, 1) := by decide +kernel
theorem dX4_phase_2 : decode cX4_phase 2 = .ok (.bipush 8, 2) := by decide +kernel
theorem dX4_phase_4 : decode cX4_phase 4 = .ok (.invokestatic 69, 3) := by decide +kernel
theorem dX4_phase_7 : decode cX4_phase 7 = .ok (.ifCond .eq 20, 3) := by decide +kernel
theorem dX4_phase_10 : decode cX4_phase 10 = .ok (.aload_n 0, 1) := by decide +kernel
theorem dX4_phase_11 : decode cX4_phase 11 = .ok (.iload_n 2, 1) := by decide +kernel
theorem dX4_phase_12 : decode cX4_phase 12 = .ok (.invokevirtual 90, 3) := by decide +kernel
theorem dX4_phase_15 : decode cX4_phase 15 = .ok (.ifCond .eq 12, 3) := by decide +kernel
theorem dX4_phase_18 : decode cX4_phase 18 = .ok (.aload_n 0, 1) := by decide +kernel
theorem dX4_phase_19 : decode cX4_phase 19 = .ok (.iload_n 1, 1) := by decide +kernel
theorem dX4_phase_20 : decode cX4_phase 20 = .ok (.iload_n 2, 1) := by decide +kernel
theorem dX4_phase_21 : decode cX4_phase 21 = .ok (.invokevirtual 235, 3) := by decide +kernel
theorem dX4_phase_24 : decode cX4_phase 24 = .ok (.goto 4, 3) := by decide +kernel
theorem dX4_phase_27 : decode cX4_phase 27 = .ok (.iconst (-1), 1) := by decide +kernel
theorem dX4_phase_28 : decode cX4_phase 28 = .ok (.ireturn, 1) := by decide +kernel
theorem dX4_distanceOf_0 : decode cX4_distanceOf 0 = .ok (.iload_n 1, 1) := by decide +kernel
theorem dX4_distanceOf_1 : decode cX4_distanceOf 1 = .ok (.iconst 1, 1) := by decide +kernel
theorem dX4_distanceOf_2 : decode cX4_distanceOf 2 = .ok (.isub, 1) := by decide +kernel
theorem dX4_distanceOf_3 : decode cX4_distanceOf 3 = .ok (.istore_n 2, 1) := by decide +kernel
theorem dX4_distanceOf_4 : decode cX4_distanceOf 4 = .ok (.iload_n 2, 1) := by decide +kernel
theorem dX4_distanceOf_5 : decode cX4_distanceOf 5 = .ok (.ifCond .lt 24, 3) := by decide +kernel
theorem dX4_distanceOf_8 : decode cX4_distanceOf 8 = .ok (.aload_n 0, 1) := by decide +kernel
theorem dX4_distanceOf_9 : decode cX4_distanceOf 9 = .ok (.getfield 13, 3) := by decide +kernel
theorem dX4_distanceOf_12 : decode cX4_distanceOf 12 = .ok (.iload_n 2, 1) := by decide +kernel
theorem dX4_distanceOf_13 : decode cX4_distanceOf 13 = .ok (.iaload, 1) := by decide +kernel
theorem dX4_distanceOf_14 : decode cX4_distanceOf 14 = .ok (.aload_n 0, 1) := by decide +kernel
theorem dX4_distanceOf_15 : decode cX4_distanceOf 15 = .ok (.getfield 13, 3) := by decide +kernel
theorem dX4_distanceOf_18 : decode cX4_distanceOf 18 = .ok (.iload_n 1, 1) := by decide +kernel
theorem dX4_distanceOf_19 : decode cX4_distanceOf 19 = .ok (.iaload, 1) := by decide +kernel
theorem dX4_distanceOf_20 : decode cX4_distanceOf 20 = .ok (.if_icmp .eq 9, 3) := by decide +kernel
theorem dX4_distanceOf_23 : decode cX4_distanceOf 23 = .ok (.iinc 2 (-1), 3) := by decide +kernel
theorem dX4_distanceOf_26 : decode cX4_distanceOf 26 = .ok (.goto (-22), 3) := by decide +kernel
theorem dX4_distanceOf_29 : decode cX4_distanceOf 29 = .ok (.iload_n 2, 1) := by decide +kernel
theorem dX4_distanceOf_30 : decode cX4_distanceOf 30 = .ok (.ifCond .ge 5, 3) := by decide +kernel
theorem dX4_distanceOf_33 : decode cX4_distanceOf 33 = .ok (.iconst 0, 1) := by decide +kernel
theorem dX4_distanceOf_34 : decode cX4_distanceOf 34 = .ok (.ireturn, 1) := by decide +kernel
theorem dX4_distanceOf_35 : decode cX4_distanceOf 35 = .ok (.iconst 0, 1) := by decide +kernel
theorem dX4_distanceOf_36 : decode cX4_distanceOf 36 = .ok (.istore_n 3, 1) := by decide +kernel
theorem dX4_distanceOf_37 : decode cX4_distanceOf 37 = .ok (.iload_n 2, 1) := by decide +kernel
theorem dX4_distanceOf_38 : decode cX4_distanceOf 38 = .ok (.iconst 1, 1) := by decide +kernel
theorem dX4_distanceOf_39 : decode cX4_distanceOf 39 = .ok (.iadd, 1) := by decide +kernel
theorem dX4_distanceOf_40 : decode cX4_distanceOf 40 = .ok (.istore 4, 2) := by decide +kernel
theorem dX4_distanceOf_42 : decode cX4_distanceOf 42 = .ok (.iload 4, 2) := by decide +kernel
theorem dX4_distanceOf_44 : decode cX4_distanceOf 44 = .ok (.iload_n 1, 1) := by decide +kernel
theorem dX4_distanceOf_45 : decode cX4_distanceOf 45 = .ok (.if_icmp .gt 72, 3) := by decide +kernel
theorem dX4_distanceOf_48 : decode cX4_distanceOf 48 = .ok (.iconst 1, 1) := by decide +kernel
theorem dX4_distanceOf_49 : decode cX4_distanceOf 49 = .ok (.istore 5, 2) := by decide +kernel
theorem dX4_distanceOf_51 : decode cX4_distanceOf 51 = .ok (.iload_n 2, 1) := by decide +kernel
theorem dX4_distanceOf_52 : decode cX4_distanceOf 52 = .ok (.iconst 1, 1) := by decide +kernel
theorem dX4_distanceOf_53 : decode cX4_distanceOf 53 = .ok (.iadd, 1) := by decide +kernel
theorem dX4_distanceOf_54 : decode cX4_distanceOf 54 = .ok (.istore 6, 2) := by decide +kernel
theorem dX4_distanceOf_56 : decode cX4_distanceOf 56 = .ok (.iload 6, 2) := by decide +kernel
theorem dX4_distanceOf_58 : decode cX4_distanceOf 58 = .ok (.iload 4, 2) := by decide +kernel
theorem dX4_distanceOf_60 : decode cX4_distanceOf 60 = .ok (.if_icmp .ge 38, 3) := by decide +kernel
theorem dX4_distanceOf_63 : decode cX4_distanceOf 63 = .ok (.iload 5, 2) := by decide +kernel
theorem dX4_distanceOf_65 : decode cX4_distanceOf 65 = .ok (.ifCond .eq 24, 3) := by decide +kernel
theorem dX4_distanceOf_68 : decode cX4_distanceOf 68 = .ok (.aload_n 0, 1) := by decide +kernel
theorem dX4_distanceOf_69 : decode cX4_distanceOf 69 = .ok (.getfield 13, 3) := by decide +kernel
theorem dX4_distanceOf_72 : decode cX4_distanceOf 72 = .ok (.iload 6, 2) := by decide +kernel
theorem dX4_distanceOf_74 : decode cX4_distanceOf 74 = .ok (.iaload, 1) := by decide +kernel
theorem dX4_distanceOf_75 : decode cX4_distanceOf 75 = .ok (.aload_n 0, 1) := by decide +kernel
theorem dX4_distanceOf_76 : decode cX4_distanceOf 76 = .ok (.getfield 13, 3) := by decide +kernel
theorem dX4_distanceOf_79 : decode cX4_distanceOf 79 = .ok (.iload 4, 2) := by decide +kernel
theorem dX4_distanceOf_81 : decode cX4_distanceOf 81 = .ok (.iaload, 1) := by decide +kernel
theorem dX4_distanceOf_82 : decode cX4_distanceOf 82 = .ok (.if_icmp .eq 7, 3) := by decide +kernel
theorem dX4_distanceOf_85 : decode cX4_distanceOf 85 = .ok (.iconst 1, 1) := by decide +kernel
theorem dX4_distanceOf_86 : decode cX4_distanceOf 86 = .ok (.goto 4, 3) := by decide +kernel
theorem dX4_distanceOf_89 : decode cX4_distanceOf 89 = .ok (.iconst 0, 1) := by decide +kernel
theorem dX4_distanceOf_90 : decode cX4_distanceOf 90 = .ok (.istore 5, 2) := by decide +kernel
theorem dX4_distanceOf_92 : decode cX4_distanceOf 92 = .ok (.iinc 6 1, 3) := by decide +kernel
theorem dX4_distanceOf_95 : decode cX4_distanceOf 95 = .ok (.goto (-39), 3) := by decide +kernel
theorem dX4_distanceOf_98 : decode cX4_distanceOf 98 = .ok (.iload_n 3, 1) := by decide +kernel
theorem dX4_distanceOf_99 : decode cX4_distanceOf 99 = .ok (.iload 5, 2) := by decide +kernel
theorem dX4_distanceOf_101 : decode cX4_distanceOf 101 = .ok (.ifCond .eq 7, 3) := by decide +kernel
theorem dX4_distanceOf_104 : decode cX4_distanceOf 104 = .ok (.iconst 1, 1) := by decide +kernel
theorem dX4_distanceOf_105 : decode cX4_distanceOf 105 = .ok (.goto 4, 3) := by decide +kernel
theorem dX4_distanceOf_108 : decode cX4_distanceOf 108 = .ok (.iconst 0, 1) := by decide +kernel
theorem dX4_distanceOf_109 : decode cX4_distanceOf 109 = .ok (.iadd, 1) := by decide +kernel
theorem dX4_distanceOf_110 : decode cX4_distanceOf 110 = .ok (.istore_n 3, 1) := by decide +kernel
theorem dX4_distanceOf_111 : decode cX4_distanceOf 111 = .ok (.iinc 4 1, 3) := by decide +kernel
theorem dX4_distanceOf_114 : decode cX4_distanceOf 114 = .ok (.goto (-72), 3) := by decide +kernel
theorem dX4_distanceOf_117 : decode cX4_distanceOf 117 = .ok (.iload_n 3, 1) := by decide +kernel
theorem dX4_distanceOf_118 : decode cX4_distanceOf 118 = .ok (.ireturn, 1) := by decide +kernel
theorem dX4_distance_0 : decode cX4_distance 0 = .ok (.aload_n 0, 1) := by decide +kernel
theorem dX4_distance_1 : decode cX4_distance 1 = .ok (.iload_n 1, 1) := by decide +kernel
theorem dX4_distance_2 : decode cX4_distance 2 = .ok (.invokevirtual 90, 3) := by decide +kernel
theorem dX4_distance_5 : decode cX4_distance 5 = .ok (.ifCond .eq 11, 3) := by decide +kernel
theorem dX4_distance_8 : decode cX4_distance 8 = .ok (.aload_n 0, 1) := by decide +kernel
theorem dX4_distance_9 : decode cX4_distance 9 = .ok (.iload_n 1, 1) := by decide +kernel
theorem dX4_distance_10 : decode cX4_distance 10 = .ok (.invokevirtual 238, 3) := by decide +kernel
theorem dX4_distance_13 : decode cX4_distance 13 = .ok (.goto 4, 3) := by decide +kernel
theorem dX4_distance_16 : decode cX4_distance 16 = .ok (.iconst (-1), 1) := by decide +kernel
theorem dX4_distance_17 : decode cX4_distance 17 = .ok (.ireturn, 1) := by decide +kernel
theorem dX4_curve_0 : decode cX4_curve 0 = .ok (.iload_n 1, 1) := by decide +kernel
theorem dX4_curve_1 : decode cX4_curve 1 = .ok (.ifCond .ge 5, 3) := by decide +kernel
theorem dX4_curve_4 : decode cX4_curve 4 = .ok (.iconst (-1), 1) := by decide +kernel
theorem dX4_curve_5 : decode cX4_curve 5 = .ok (.ireturn, 1) := by decide +kernel
theorem dX4_curve_6 : decode cX4_curve 6 = .ok (.iconst 0, 1) := by decide +kernel
theorem dX4_curve_7 : decode cX4_curve 7 = .ok (.istore_n 2, 1) := by decide +kernel
theorem dX4_curve_8 : decode cX4_curve 8 = .ok (.iconst 0, 1) := by decide +kernel
theorem dX4_curve_9 : decode cX4_curve 9 = .ok (.istore_n 3, 1) := by decide +kernel
theorem dX4_curve_10 : decode cX4_curve 10 = .ok (.iload_n 3, 1) := by decide +kernel
theorem dX4_curve_11 : decode cX4_curve 11 = .ok (.aload_n 0, 1) := by decide +kernel
theorem dX4_curve_12 : decode cX4_curve 12 = .ok (.getfield 73, 3) := by decide +kernel
theorem dX4_curve_15 : decode cX4_curve 15 = .ok (.if_icmp .ge 35, 3) := by decide +kernel
theorem dX4_curve_18 : decode cX4_curve 18 = .ok (.aload_n 0, 1) := by decide +kernel
theorem dX4_curve_19 : decode cX4_curve 19 = .ok (.iload_n 3, 1) := by decide +kernel
theorem dX4_curve_20 : decode cX4_curve 20 = .ok (.invokevirtual 238, 3) := by decide +kernel
theorem dX4_curve_23 : decode cX4_curve 23 = .ok (.istore 4, 2) := by decide +kernel
theorem dX4_curve_25 : decode cX4_curve 25 = .ok (.iload_n 2, 1) := by decide +kernel
theorem dX4_curve_26 : decode cX4_curve 26 = .ok (.iload 4, 2) := by decide +kernel
theorem dX4_curve_28 : decode cX4_curve 28 = .ok (.ifCond .eq 9, 3) := by decide +kernel
theorem dX4_curve_31 : decode cX4_curve 31 = .ok (.iload 4, 2) := by decide +kernel
theorem dX4_curve_33 : decode cX4_curve 33 = .ok (.iload_n 1, 1) := by decide +kernel
theorem dX4_curve_34 : decode cX4_curve 34 = .ok (.if_icmp .le 7, 3) := by decide +kernel
theorem dX4_curve_37 : decode cX4_curve 37 = .ok (.iconst 1, 1) := by decide +kernel
theorem dX4_curve_38 : decode cX4_curve 38 = .ok (.goto 4, 3) := by decide +kernel
theorem dX4_curve_41 : decode cX4_curve 41 = .ok (.iconst 0, 1) := by decide +kernel
theorem dX4_curve_42 : decode cX4_curve 42 = .ok (.iadd, 1) := by decide +kernel
theorem dX4_curve_43 : decode cX4_curve 43 = .ok (.istore_n 2, 1) := by decide +kernel
theorem dX4_curve_44 : decode cX4_curve 44 = .ok (.iinc 3 1, 3) := by decide +kernel
theorem dX4_curve_47 : decode cX4_curve 47 = .ok (.goto (-37), 3) := by decide +kernel
theorem dX4_curve_50 : decode cX4_curve 50 = .ok (.iload_n 2, 1) := by decide +kernel
theorem dX4_curve_51 : decode cX4_curve 51 = .ok (.ireturn, 1) := by decide +kernel
theorem dX4_hard_0 : decode cX4_hard 0 = .ok (.iload_n 1, 1) := by decide +kernel
theorem dX4_hard_1 : decode cX4_hard 1 = .ok (.iconst 0, 1) := by decide +kernel
theorem dX4_hard_2 : decode cX4_hard 2 = .ok (.bipush 8, 2) := by decide +kernel
theorem dX4_hard_4 : decode cX4_hard 4 = .ok (.invokestatic 69, 3) := by decide +kernel
theorem dX4_hard_7 : decode cX4_hard 7 = .ok (.ifCond .eq 24, 3) := by decide +kernel
theorem dX4_hard_10 : decode cX4_hard 10 = .ok (.iload_n 2, 1) := by decide +kernel
theorem dX4_hard_11 : decode cX4_hard 11 = .ok (.iconst 1, 1) := by decide +kernel
theorem dX4_hard_12 : decode cX4_hard 12 = .ok (.bipush 8, 2) := by decide +kernel
theorem dX4_hard_14 : decode cX4_hard 14 = .ok (.invokestatic 69, 3) := by decide +kernel
theorem dX4_hard_17 : decode cX4_hard 17 = .ok (.ifCond .eq 14, 3) := by decide +kernel
theorem dX4_hard_20 : decode cX4_hard 20 = .ok (.iload_n 3, 1) := by decide +kernel
theorem dX4_hard_21 : decode cX4_hard 21 = .ok (.iconst 0, 1) := by decide +kernel
theorem dX4_hard_22 : decode cX4_hard 22 = .ok (.sipush 300, 3) := by decide +kernel
theorem dX4_hard_25 : decode cX4_hard 25 = .ok (.invokestatic 69, 3) := by decide +kernel
theorem dX4_hard_28 : decode cX4_hard 28 = .ok (.ifCond .ne 5, 3) := by decide +kernel
theorem dX4_hard_31 : decode cX4_hard 31 = .ok (.iconst (-1), 1) := by decide +kernel
theorem dX4_hard_32 : decode cX4_hard 32 = .ok (.ireturn, 1) := by decide +kernel
theorem dX4_hard_33 : decode cX4_hard 33 = .ok (.iload_n 1, 1) := by decide +kernel
theorem dX4_hard_34 : decode cX4_hard 34 = .ok (.bipush 8, 2) := by decide +kernel
theorem dX4_hard_36 : decode cX4_hard 36 = .ok (.if_icmp .ne 6, 3) := by decide +kernel
theorem dX4_hard_39 : decode cX4_hard 39 = .ok (.bipush (-4), 2) := by decide +kernel
theorem dX4_hard_41 : decode cX4_hard 41 = .ok (.ireturn, 1) := by decide +kernel
theorem dX4_hard_42 : decode cX4_hard 42 = .ok (.aload_n 0, 1) := by decide +kernel
theorem dX4_hard_43 : decode cX4_hard 43 = .ok (.iconst 0, 1) := by decide +kernel
theorem dX4_hard_44 : decode cX4_hard 44 = .ok (.putfield 73, 3) := by decide +kernel
theorem dX4_hard_47 : decode cX4_hard 47 = .ok (.aload_n 0, 1) := by decide +kernel
theorem dX4_hard_48 : decode cX4_hard 48 = .ok (.iconst 0, 1) := by decide +kernel
theorem dX4_hard_49 : decode cX4_hard 49 = .ok (.putfield 81, 3) := by decide +kernel
theorem dX4_hard_52 : decode cX4_hard 52 = .ok (.aload_n 0, 1) := by decide +kernel
theorem dX4_hard_53 : decode cX4_hard 53 = .ok (.iload_n 1, 1) := by decide +kernel
theorem dX4_hard_54 : decode cX4_hard 54 = .ok (.iload_n 2, 1) := by decide +kernel
theorem dX4_hard_55 : decode cX4_hard 55 = .ok (.invokevirtual 184, 3) := by decide +kernel
theorem dX4_hard_58 : decode cX4_hard 58 = .ok (.iconst 0, 1) := by decide +kernel
theorem dX4_hard_59 : decode cX4_hard 59 = .ok (.istore 4, 2) := by decide +kernel
theorem dX4_hard_61 : decode cX4_hard 61 = .ok (.iload 4, 2) := by decide +kernel
theorem dX4_hard_63 : decode cX4_hard 63 = .ok (.iload_n 3, 1) := by decide +kernel
theorem dX4_hard_64 : decode cX4_hard 64 = .ok (.if_icmp .ge 40, 3) := by decide +kernel
theorem dX4_hard_67 : decode cX4_hard 67 = .ok (.iconst 0, 1) := by decide +kernel
theorem dX4_hard_68 : decode cX4_hard 68 = .ok (.istore 5, 2) := by decide +kernel
theorem dX4_hard_70 : decode cX4_hard 70 = .ok (.aload_n 0, 1) := by decide +kernel
theorem dX4_hard_71 : decode cX4_hard 71 = .ok (.getfield 28, 3) := by decide +kernel
theorem dX4_hard_74 : decode cX4_hard 74 = .ok (.iload 5, 2) := by decide +kernel
theorem dX4_hard_76 : decode cX4_hard 76 = .ok (.baload, 1) := by decide +kernel
theorem dX4_hard_77 : decode cX4_hard 77 = .ok (.ifCond .eq 9, 3) := by decide +kernel
theorem dX4_hard_80 : decode cX4_hard 80 = .ok (.iinc 5 1, 3) := by decide +kernel
theorem dX4_hard_83 : decode cX4_hard 83 = .ok (.goto (-13), 3) := by decide +kernel
theorem dX4_hard_86 : decode cX4_hard 86 = .ok (.aload_n 0, 1) := by decide +kernel
theorem dX4_hard_87 : decode cX4_hard 87 = .ok (.iload 5, 2) := by decide +kernel
theorem dX4_hard_89 : decode cX4_hard 89 = .ok (.invokevirtual 85, 3) := by decide +kernel
theorem dX4_hard_92 : decode cX4_hard 92 = .ok (.aload_n 0, 1) := by decide +kernel
theorem dX4_hard_93 : decode cX4_hard 93 = .ok (.iload 4, 2) := by decide +kernel
theorem dX4_hard_95 : decode cX4_hard 95 = .ok (.invokevirtual 187, 3) := by decide +kernel
theorem dX4_hard_98 : decode cX4_hard 98 = .ok (.iinc 4 1, 3) := by decide +kernel
theorem dX4_hard_101 : decode cX4_hard 101 = .ok (.goto (-40), 3) := by decide +kernel
theorem dX4_hard_104 : decode cX4_hard 104 = .ok (.iload_n 3, 1) := by decide +kernel
theorem dX4_hard_105 : decode cX4_hard 105 = .ok (.ireturn, 1) := by decide +kernel
theorem dX4_claim_0 : decode cX4_claim 0 = .ok (.iload_n 1, 1) := by decide +kernel
theorem dX4_claim_1 : decode cX4_claim 1 = .ok (.iconst (-1), 1) := by decide +kernel
theorem dX4_claim_2 : decode cX4_claim 2 = .ok (.bipush 15, 2) := by decide +kernel
theorem dX4_claim_4 : decode cX4_claim 4 = .ok (.invokestatic 69, 3) := by decide +kernel
theorem dX4_claim_7 : decode cX4_claim 7 = .ok (.ifCond .ne 5, 3) := by decide +kernel
theorem dX4_claim_10 : decode cX4_claim 10 = .ok (.iconst (-1), 1) := by decide +kernel
theorem dX4_claim_11 : decode cX4_claim 11 = .ok (.ireturn, 1) := by decide +kernel
theorem dX4_claim_12 : decode cX4_claim 12 = .ok (.aload_n 0, 1) := by decide +kernel
theorem dX4_claim_13 : decode cX4_claim 13 = .ok (.getfield 97, 3) := by decide +kernel
theorem dX4_claim_16 : decode cX4_claim 16 = .ok (.sipush 300, 3) := by decide +kernel
theorem dX4_claim_19 : decode cX4_claim 19 = .ok (.if_icmp .ne 6, 3) := by decide +kernel
theorem dX4_claim_22 : decode cX4_claim 22 = .ok (.bipush (-2), 2) := by decide +kernel
theorem dX4_claim_24 : decode cX4_claim 24 = .ok (.ireturn, 1) := by decide +kernel
theorem dX4_claim_25 : decode cX4_claim 25 = .ok (.aload_n 0, 1) := by decide +kernel
theorem dX4_claim_26 : decode cX4_claim 26 = .ok (.getfield 22, 3) := by decide +kernel
theorem dX4_claim_29 : decode cX4_claim 29 = .ok (.aload_n 0, 1) := by decide +kernel
theorem dX4_claim_30 : decode cX4_claim 30 = .ok (.getfield 97, 3) := by decide +kernel
theorem dX4_claim_33 : decode cX4_claim 33 = .ok (.iload_n 1, 1) := by decide +kernel
theorem dX4_claim_34 : decode cX4_claim 34 = .ok (.iastore, 1) := by decide +kernel
theorem dX4_claim_35 : decode cX4_claim 35 = .ok (.aload_n 0, 1) := by decide +kernel
theorem dX4_claim_36 : decode cX4_claim 36 = .ok (.dup, 1) := by decide +kernel
theorem dX4_claim_37 : decode cX4_claim 37 = .ok (.getfield 97, 3) := by decide +kernel
theorem dX4_claim_40 : decode cX4_claim 40 = .ok (.iconst 1, 1) := by decide +kernel
theorem dX4_claim_41 : decode cX4_claim 41 = .ok (.iadd, 1) := by decide +kernel
theorem dX4_claim_42 : decode cX4_claim 42 = .ok (.putfield 97, 3) := by decide +kernel
theorem dX4_claim_45 : decode cX4_claim 45 = .ok (.aload_n 0, 1) := by decide +kernel
theorem dX4_claim_46 : decode cX4_claim 46 = .ok (.getfield 97, 3) := by decide +kernel
theorem dX4_claim_49 : decode cX4_claim 49 = .ok (.ireturn, 1) := by decide +kernel
theorem dX4_copy_0 : decode cX4_copy 0 = .ok (.aload_n 0, 1) := by decide +kernel
theorem dX4_copy_1 : decode cX4_copy 1 = .ok (.getfield 81, 3) := by decide +kernel
theorem dX4_copy_4 : decode cX4_copy 4 = .ok (.ifCond .ne 6, 3) := by decide +kernel
theorem dX4_copy_7 : decode cX4_copy 7 = .ok (.bipush (-3), 2) := by decide +kernel
theorem dX4_copy_9 : decode cX4_copy 9 = .ok (.ireturn, 1) := by decide +kernel
theorem dX4_copy_10 : decode cX4_copy 10 = .ok (.aload_n 0, 1) := by decide +kernel
theorem dX4_copy_11 : decode cX4_copy 11 = .ok (.aload_n 0, 1) := by decide +kernel
theorem dX4_copy_12 : decode cX4_copy 12 = .ok (.getfield 73, 3) := by decide +kernel
theorem dX4_copy_15 : decode cX4_copy 15 = .ok (.putfield 97, 3) := by decide +kernel
theorem dX4_copy_18 : decode cX4_copy 18 = .ok (.iconst 0, 1) := by decide +kernel
theorem dX4_copy_19 : decode cX4_copy 19 = .ok (.istore_n 1, 1) := by decide +kernel
theorem dX4_copy_20 : decode cX4_copy 20 = .ok (.iload_n 1, 1) := by decide +kernel
theorem dX4_copy_21 : decode cX4_copy 21 = .ok (.aload_n 0, 1) := by decide +kernel
theorem dX4_copy_22 : decode cX4_copy 22 = .ok (.getfield 73, 3) := by decide +kernel
theorem dX4_copy_25 : decode cX4_copy 25 = .ok (.if_icmp .ge 21, 3) := by decide +kernel
theorem dX4_copy_28 : decode cX4_copy 28 = .ok (.aload_n 0, 1) := by decide +kernel
theorem dX4_copy_29 : decode cX4_copy 29 = .ok (.getfield 22, 3) := by decide +kernel
theorem dX4_copy_32 : decode cX4_copy 32 = .ok (.iload_n 1, 1) := by decide +kernel
theorem dX4_copy_33 : decode cX4_copy 33 = .ok (.aload_n 0, 1) := by decide +kernel
theorem dX4_copy_34 : decode cX4_copy 34 = .ok (.getfield 19, 3) := by decide +kernel
theorem dX4_copy_37 : decode cX4_copy 37 = .ok (.iload_n 1, 1) := by decide +kernel
theorem dX4_copy_38 : decode cX4_copy 38 = .ok (.iaload, 1) := by decide +kernel
theorem dX4_copy_39 : decode cX4_copy 39 = .ok (.iastore, 1) := by decide +kernel
theorem dX4_copy_40 : decode cX4_copy 40 = .ok (.iinc 1 1, 3) := by decide +kernel
theorem dX4_copy_43 : decode cX4_copy 43 = .ok (.goto (-23), 3) := by decide +kernel
theorem dX4_copy_46 : decode cX4_copy 46 = .ok (.aload_n 0, 1) := by decide +kernel
theorem dX4_copy_47 : decode cX4_copy 47 = .ok (.getfield 97, 3) := by decide +kernel
theorem dX4_copy_50 : decode cX4_copy 50 = .ok (.ireturn, 1) := by decide +kernel
theorem dX4_unclaim_0 : decode cX4_unclaim 0 = .ok (.aload_n 0, 1) := by decide +kernel
theorem dX4_unclaim_1 : decode cX4_unclaim 1 = .ok (.getfield 97, 3) := by decide +kernel
theorem dX4_unclaim_4 : decode cX4_unclaim 4 = .ok (.istore_n 1, 1) := by decide +kernel
theorem dX4_unclaim_5 : decode cX4_unclaim 5 = .ok (.aload_n 0, 1) := by decide +kernel
theorem dX4_unclaim_6 : decode cX4_unclaim 6 = .ok (.iconst 0, 1) := by decide +kernel
theorem dX4_unclaim_7 : decode cX4_unclaim 7 = .ok (.putfield 97, 3) := by decide +kernel
theorem dX4_unclaim_10 : decode cX4_unclaim 10 = .ok (.iload_n 1, 1) := by decide +kernel
theorem dX4_unclaim_11 : decode cX4_unclaim 11 = .ok (.ireturn, 1) := by decide +kernel
theorem dX4_cost_0 : decode cX4_cost 0 = .ok (.iload_n 1, 1) := by decide +kernel
theorem dX4_cost_1 : decode cX4_cost 1 = .ok (.iconst 1, 1) := by decide +kernel
theorem dX4_cost_2 : decode cX4_cost 2 = .ok (.bipush 8, 2) := by decide +kernel
theorem dX4_cost_4 : decode cX4_cost 4 = .ok (.invokestatic 69, 3) := by decide +kernel
theorem dX4_cost_7 : decode cX4_cost 7 = .ok (.ifCond .ne 5, 3) := by decide +kernel
theorem dX4_cost_10 : decode cX4_cost 10 = .ok (.iconst (-1), 1) := by decide +kernel
theorem dX4_cost_11 : decode cX4_cost 11 = .ok (.ireturn, 1) := by decide +kernel
theorem dX4_cost_12 : decode cX4_cost 12 = .ok (.iconst 0, 1) := by decide +kernel
theorem dX4_cost_13 : decode cX4_cost 13 = .ok (.istore_n 2, 1) := by decide +kernel
theorem dX4_cost_14 : decode cX4_cost 14 = .ok (.iload_n 2, 1) := by decide +kernel
theorem dX4_cost_15 : decode cX4_cost 15 = .ok (.bipush 16, 2) := by decide +kernel
theorem dX4_cost_17 : decode cX4_cost 17 = .ok (.if_icmp .ge 16, 3) := by decide +kernel
theorem dX4_cost_20 : decode cX4_cost 20 = .ok (.aload_n 0, 1) := by decide +kernel
theorem dX4_cost_21 : decode cX4_cost 21 = .ok (.getfield 66, 3) := by decide +kernel
theorem dX4_cost_24 : decode cX4_cost 24 = .ok (.iload_n 2, 1) := by decide +kernel
theorem dX4_cost_25 : decode cX4_cost 25 = .ok (.iconst 0, 1) := by decide +kernel
theorem dX4_cost_26 : decode cX4_cost 26 = .ok (.bastore, 1) := by decide +kernel
theorem dX4_cost_27 : decode cX4_cost 27 = .ok (.iinc 2 1, 3) := by decide +kernel
theorem dX4_cost_30 : decode cX4_cost 30 = .ok (.goto (-16), 3) := by decide +kernel
theorem dX4_cost_33 : decode cX4_cost 33 = .ok (.iconst 0, 1) := by decide +kernel
theorem dX4_cost_34 : decode cX4_cost 34 = .ok (.istore_n 2, 1) := by decide +kernel
theorem dX4_cost_35 : decode cX4_cost 35 = .ok (.iconst 0, 1) := by decide +kernel
theorem dX4_cost_36 : decode cX4_cost 36 = .ok (.istore_n 3, 1) := by decide +kernel
theorem dX4_cost_37 : decode cX4_cost 37 = .ok (.iconst 0, 1) := by decide +kernel
theorem dX4_cost_38 : decode cX4_cost 38 = .ok (.istore 4, 2) := by decide +kernel
theorem dX4_cost_40 : decode cX4_cost 40 = .ok (.iload 4, 2) := by decide +kernel
theorem dX4_cost_42 : decode cX4_cost 42 = .ok (.aload_n 0, 1) := by decide +kernel
theorem dX4_cost_43 : decode cX4_cost 43 = .ok (.getfield 73, 3) := by decide +kernel
theorem dX4_cost_46 : decode cX4_cost 46 = .ok (.if_icmp .ge 167, 3) := by decide +kernel
theorem dX4_cost_49 : decode cX4_cost 49 = .ok (.iload 4, 2) := by decide +kernel
theorem dX4_cost_51 : decode cX4_cost 51 = .ok (.aload_n 0, 1) := by decide +kernel
theorem dX4_cost_52 : decode cX4_cost 52 = .ok (.getfield 97, 3) := by decide +kernel
theorem dX4_cost_55 : decode cX4_cost 55 = .ok (.if_icmp .ge 13, 3) := by decide +kernel
theorem dX4_cost_58 : decode cX4_cost 58 = .ok (.aload_n 0, 1) := by decide +kernel
theorem dX4_cost_59 : decode cX4_cost 59 = .ok (.getfield 22, 3) := by decide +kernel
theorem dX4_cost_62 : decode cX4_cost 62 = .ok (.iload 4, 2) := by decide +kernel
theorem dX4_cost_64 : decode cX4_cost 64 = .ok (.iaload, 1) := by decide +kernel
theorem dX4_cost_65 : decode cX4_cost 65 = .ok (.goto 5, 3) := by decide +kernel
theorem dX4_cost_68 : decode cX4_cost 68 = .ok (.bipush (-2), 2) := by decide +kernel
theorem dX4_cost_70 : decode cX4_cost 70 = .ok (.istore 5, 2) := by decide +kernel
theorem dX4_cost_72 : decode cX4_cost 72 = .ok (.aload_n 0, 1) := by decide +kernel
theorem dX4_cost_73 : decode cX4_cost 73 = .ok (.getfield 66, 3) := by decide +kernel
theorem dX4_cost_76 : decode cX4_cost 76 = .ok (.aload_n 0, 1) := by decide +kernel
theorem dX4_cost_77 : decode cX4_cost 77 = .ok (.getfield 13, 3) := by decide +kernel
theorem dX4_cost_80 : decode cX4_cost 80 = .ok (.iload 4, 2) := by decide +kernel
theorem dX4_cost_82 : decode cX4_cost 82 = .ok (.iaload, 1) := by decide +kernel
theorem dX4_cost_83 : decode cX4_cost 83 = .ok (.baload, 1) := by decide +kernel
theorem dX4_cost_84 : decode cX4_cost 84 = .ok (.istore 6, 2) := by decide +kernel
theorem dX4_cost_86 : decode cX4_cost 86 = .ok (.iload 6, 2) := by decide +kernel
theorem dX4_cost_88 : decode cX4_cost 88 = .ok (.ifCond .ne 12, 3) := by decide +kernel
theorem dX4_cost_91 : decode cX4_cost 91 = .ok (.iload_n 2, 1) := by decide +kernel
theorem dX4_cost_92 : decode cX4_cost 92 = .ok (.iload_n 1, 1) := by decide +kernel
theorem dX4_cost_93 : decode cX4_cost 93 = .ok (.if_icmp .ne 7, 3) := by decide +kernel
theorem dX4_cost_96 : decode cX4_cost 96 = .ok (.iconst 1, 1) := by decide +kernel
theorem dX4_cost_97 : decode cX4_cost 97 = .ok (.goto 4, 3) := by decide +kernel
theorem dX4_cost_100 : decode cX4_cost 100 = .ok (.iconst 0, 1) := by decide +kernel
theorem dX4_cost_101 : decode cX4_cost 101 = .ok (.istore 7, 2) := by decide +kernel
theorem dX4_cost_103 : decode cX4_cost 103 = .ok (.iload 7, 2) := by decide +kernel
theorem dX4_cost_105 : decode cX4_cost 105 = .ok (.ifCond .eq 26, 3) := by decide +kernel
theorem dX4_cost_108 : decode cX4_cost 108 = .ok (.iload 5, 2) := by decide +kernel
theorem dX4_cost_110 : decode cX4_cost 110 = .ok (.ifCond .lt 17, 3) := by decide +kernel
theorem dX4_cost_113 : decode cX4_cost 113 = .ok (.aload_n 0, 1) := by decide +kernel
theorem dX4_cost_114 : decode cX4_cost 114 = .ok (.getfield 66, 3) := by decide +kernel
theorem dX4_cost_117 : decode cX4_cost 117 = .ok (.iload 5, 2) := by decide +kernel
theorem dX4_cost_119 : decode cX4_cost 119 = .ok (.baload, 1) := by decide +kernel
theorem dX4_cost_120 : decode cX4_cost 120 = .ok (.ifCond .eq 7, 3) := by decide +kernel
theorem dX4_cost_123 : decode cX4_cost 123 = .ok (.iconst 1, 1) := by decide +kernel
theorem dX4_cost_124 : decode cX4_cost 124 = .ok (.goto 18, 3) := by decide +kernel
theorem dX4_cost_127 : decode cX4_cost 127 = .ok (.iconst 0, 1) := by decide +kernel
theorem dX4_cost_128 : decode cX4_cost 128 = .ok (.goto 14, 3) := by decide +kernel
theorem dX4_cost_131 : decode cX4_cost 131 = .ok (.iload 5, 2) := by decide +kernel
theorem dX4_cost_133 : decode cX4_cost 133 = .ok (.iconst (-1), 1) := by decide +kernel
theorem dX4_cost_134 : decode cX4_cost 134 = .ok (.if_icmp .ne 7, 3) := by decide +kernel
theorem dX4_cost_137 : decode cX4_cost 137 = .ok (.iconst 1, 1) := by decide +kernel
theorem dX4_cost_138 : decode cX4_cost 138 = .ok (.goto 4, 3) := by decide +kernel
theorem dX4_cost_141 : decode cX4_cost 141 = .ok (.iconst 0, 1) := by decide +kernel
theorem dX4_cost_142 : decode cX4_cost 142 = .ok (.istore 8, 2) := by decide +kernel
theorem dX4_cost_144 : decode cX4_cost 144 = .ok (.iload 8, 2) := by decide +kernel
theorem dX4_cost_146 : decode cX4_cost 146 = .ok (.ifCond .ne 9, 3) := by decide +kernel
theorem dX4_cost_149 : decode cX4_cost 149 = .ok (.bipush (-2), 2) := by decide +kernel
theorem dX4_cost_151 : decode cX4_cost 151 = .ok (.iload 4, 2) := by decide +kernel
theorem dX4_cost_153 : decode cX4_cost 153 = .ok (.isub, 1) := by decide +kernel
theorem dX4_cost_154 : decode cX4_cost 154 = .ok (.ireturn, 1) := by decide +kernel
theorem dX4_cost_155 : decode cX4_cost 155 = .ok (.iload 7, 2) := by decide +kernel
theorem dX4_cost_157 : decode cX4_cost 157 = .ok (.ifCond .eq 14, 3) := by decide +kernel
theorem dX4_cost_160 : decode cX4_cost 160 = .ok (.aload_n 0, 1) := by decide +kernel
theorem dX4_cost_161 : decode cX4_cost 161 = .ok (.getfield 66, 3) := by decide +kernel
theorem dX4_cost_164 : decode cX4_cost 164 = .ok (.iload 5, 2) := by decide +kernel
theorem dX4_cost_166 : decode cX4_cost 166 = .ok (.iconst 0, 1) := by decide +kernel
theorem dX4_cost_167 : decode cX4_cost 167 = .ok (.bastore, 1) := by decide +kernel
theorem dX4_cost_168 : decode cX4_cost 168 = .ok (.iinc 2 (-1), 3) := by decide +kernel
theorem dX4_cost_171 : decode cX4_cost 171 = .ok (.iload 6, 2) := by decide +kernel
theorem dX4_cost_173 : decode cX4_cost 173 = .ok (.ifCond .ne 34, 3) := by decide +kernel
theorem dX4_cost_176 : decode cX4_cost 176 = .ok (.aload_n 0, 1) := by decide +kernel
theorem dX4_cost_177 : decode cX4_cost 177 = .ok (.getfield 66, 3) := by decide +kernel
theorem dX4_cost_180 : decode cX4_cost 180 = .ok (.aload_n 0, 1) := by decide +kernel
theorem dX4_cost_181 : decode cX4_cost 181 = .ok (.getfield 13, 3) := by decide +kernel
theorem dX4_cost_184 : decode cX4_cost 184 = .ok (.iload 4, 2) := by decide +kernel
theorem dX4_cost_186 : decode cX4_cost 186 = .ok (.iaload, 1) := by decide +kernel
theorem dX4_cost_187 : decode cX4_cost 187 = .ok (.iconst 1, 1) := by decide +kernel
theorem dX4_cost_188 : decode cX4_cost 188 = .ok (.bastore, 1) := by decide +kernel
theorem dX4_cost_189 : decode cX4_cost 189 = .ok (.iinc 2 1, 3) := by decide +kernel
theorem dX4_cost_192 : decode cX4_cost 192 = .ok (.iload_n 3, 1) := by decide +kernel
theorem dX4_cost_193 : decode cX4_cost 193 = .ok (.aload_n 0, 1) := by decide +kernel
theorem dX4_cost_194 : decode cX4_cost 194 = .ok (.getfield 7, 3) := by decide +kernel
theorem dX4_cost_197 : decode cX4_cost 197 = .ok (.aload_n 0, 1) := by decide +kernel
theorem dX4_cost_198 : decode cX4_cost 198 = .ok (.getfield 13, 3) := by decide +kernel
theorem dX4_cost_201 : decode cX4_cost 201 = .ok (.iload 4, 2) := by decide +kernel
theorem dX4_cost_203 : decode cX4_cost 203 = .ok (.iaload, 1) := by decide +kernel
theorem dX4_cost_204 : decode cX4_cost 204 = .ok (.iaload, 1) := by decide +kernel
theorem dX4_cost_205 : decode cX4_cost 205 = .ok (.iadd, 1) := by decide +kernel
theorem dX4_cost_206 : decode cX4_cost 206 = .ok (.istore_n 3, 1) := by decide +kernel
theorem dX4_cost_207 : decode cX4_cost 207 = .ok (.iinc 4 1, 3) := by decide +kernel
theorem dX4_cost_210 : decode cX4_cost 210 = .ok (.goto (-170), 3) := by decide +kernel
theorem dX4_cost_213 : decode cX4_cost 213 = .ok (.aload_n 0, 1) := by decide +kernel
theorem dX4_cost_214 : decode cX4_cost 214 = .ok (.getfield 97, 3) := by decide +kernel
theorem dX4_cost_217 : decode cX4_cost 217 = .ok (.aload_n 0, 1) := by decide +kernel
theorem dX4_cost_218 : decode cX4_cost 218 = .ok (.getfield 73, 3) := by decide +kernel
theorem dX4_cost_221 : decode cX4_cost 221 = .ok (.if_icmp .le 13, 3) := by decide +kernel
theorem dX4_cost_224 : decode cX4_cost 224 = .ok (.bipush (-2), 2) := by decide +kernel
theorem dX4_cost_226 : decode cX4_cost 226 = .ok (.aload_n 0, 1) := by decide +kernel
theorem dX4_cost_227 : decode cX4_cost 227 = .ok (.getfield 73, 3) := by decide +kernel
theorem dX4_cost_230 : decode cX4_cost 230 = .ok (.isub, 1) := by decide +kernel
theorem dX4_cost_231 : decode cX4_cost 231 = .ok (.goto 4, 3) := by decide +kernel
theorem dX4_cost_234 : decode cX4_cost 234 = .ok (.iload_n 3, 1) := by decide +kernel
theorem dX4_cost_235 : decode cX4_cost 235 = .ok (.ireturn, 1) := by decide +kernel
theorem dX4_check_0 : decode cX4_check 0 = .ok (.iload_n 1, 1) := by decide +kernel
theorem dX4_check_1 : decode cX4_check 1 = .ok (.iconst 0, 1) := by decide +kernel
theorem dX4_check_2 : decode cX4_check 2 = .ok (.bipush 8, 2) := by decide +kernel
theorem dX4_check_4 : decode cX4_check 4 = .ok (.invokestatic 69, 3) := by decide +kernel
theorem dX4_check_7 : decode cX4_check 7 = .ok (.ifCond .eq 13, 3) := by decide +kernel
theorem dX4_check_10 : decode cX4_check 10 = .ok (.iload_n 2, 1) := by decide +kernel
theorem dX4_check_11 : decode cX4_check 11 = .ok (.iconst 1, 1) := by decide +kernel
theorem dX4_check_12 : decode cX4_check 12 = .ok (.bipush 8, 2) := by decide +kernel
theorem dX4_check_14 : decode cX4_check 14 = .ok (.invokestatic 69, 3) := by decide +kernel
theorem dX4_check_17 : decode cX4_check 17 = .ok (.ifCond .ne 6, 3) := by decide +kernel
theorem dX4_check_20 : decode cX4_check 20 = .ok (.bipush (-2), 2) := by decide +kernel
theorem dX4_check_22 : decode cX4_check 22 = .ok (.ireturn, 1) := by decide +kernel
theorem dX4_check_23 : decode cX4_check 23 = .ok (.aload_n 0, 1) := by decide +kernel
theorem dX4_check_24 : decode cX4_check 24 = .ok (.iload_n 1, 1) := by decide +kernel
theorem dX4_check_25 : decode cX4_check 25 = .ok (.iload_n 2, 1) := by decide +kernel
theorem dX4_check_26 : decode cX4_check 26 = .ok (.invokevirtual 184, 3) := by decide +kernel
theorem dX4_check_29 : decode cX4_check 29 = .ok (.iconst 0, 1) := by decide +kernel
theorem dX4_check_30 : decode cX4_check 30 = .ok (.istore_n 3, 1) := by decide +kernel
theorem dX4_check_31 : decode cX4_check 31 = .ok (.iload_n 3, 1) := by decide +kernel
theorem dX4_check_32 : decode cX4_check 32 = .ok (.aload_n 0, 1) := by decide +kernel
theorem dX4_check_33 : decode cX4_check 33 = .ok (.getfield 73, 3) := by decide +kernel
theorem dX4_check_36 : decode cX4_check 36 = .ok (.if_icmp .ge 37, 3) := by decide +kernel
theorem dX4_check_39 : decode cX4_check 39 = .ok (.aload_n 0, 1) := by decide +kernel
theorem dX4_check_40 : decode cX4_check 40 = .ok (.iload_n 3, 1) := by decide +kernel
theorem dX4_check_41 : decode cX4_check 41 = .ok (.invokevirtual 187, 3) := by decide +kernel
theorem dX4_check_44 : decode cX4_check 44 = .ok (.iload_n 3, 1) := by decide +kernel
theorem dX4_check_45 : decode cX4_check 45 = .ok (.aload_n 0, 1) := by decide +kernel
theorem dX4_check_46 : decode cX4_check 46 = .ok (.getfield 97, 3) := by decide +kernel
theorem dX4_check_49 : decode cX4_check 49 = .ok (.if_icmp .ge 16, 3) := by decide +kernel
theorem dX4_check_52 : decode cX4_check 52 = .ok (.aload_n 0, 1) := by decide +kernel
theorem dX4_check_53 : decode cX4_check 53 = .ok (.getfield 22, 3) := by decide +kernel
theorem dX4_check_56 : decode cX4_check 56 = .ok (.iload_n 3, 1) := by decide +kernel
theorem dX4_check_57 : decode cX4_check 57 = .ok (.iaload, 1) := by decide +kernel
theorem dX4_check_58 : decode cX4_check 58 = .ok (.aload_n 0, 1) := by decide +kernel
theorem dX4_check_59 : decode cX4_check 59 = .ok (.getfield 168, 3) := by decide +kernel
theorem dX4_check_62 : decode cX4_check 62 = .ok (.if_icmp .eq 5, 3) := by decide +kernel
theorem dX4_check_65 : decode cX4_check 65 = .ok (.iload_n 3, 1) := by decide +kernel
theorem dX4_check_66 : decode cX4_check 66 = .ok (.ireturn, 1) := by decide +kernel
theorem dX4_check_67 : decode cX4_check 67 = .ok (.iinc 3 1, 3) := by decide +kernel
theorem dX4_check_70 : decode cX4_check 70 = .ok (.goto (-39), 3) := by decide +kernel
theorem dX4_check_73 : decode cX4_check 73 = .ok (.aload_n 0, 1) := by decide +kernel
theorem dX4_check_74 : decode cX4_check 74 = .ok (.getfield 97, 3) := by decide +kernel
theorem dX4_check_77 : decode cX4_check 77 = .ok (.aload_n 0, 1) := by decide +kernel
theorem dX4_check_78 : decode cX4_check 78 = .ok (.getfield 73, 3) := by decide +kernel
theorem dX4_check_81 : decode cX4_check 81 = .ok (.if_icmp .le 10, 3) := by decide +kernel
theorem dX4_check_84 : decode cX4_check 84 = .ok (.aload_n 0, 1) := by decide +kernel
theorem dX4_check_85 : decode cX4_check 85 = .ok (.getfield 73, 3) := by decide +kernel
theorem dX4_check_88 : decode cX4_check 88 = .ok (.goto 4, 3) := by decide +kernel
theorem dX4_check_91 : decode cX4_check 91 = .ok (.iconst (-1), 1) := by decide +kernel
theorem dX4_check_92 : decode cX4_check 92 = .ok (.ireturn, 1) := by decide +kernel
end
section
theorem dJ6_bitCount_0f7a4_0 : decode cJ6_bitCount_0f7a4 0 = .ok (.iload_n 0, 1) := by decide +kernel
theorem dJ6_bitCount_0f7a4_1 : decode cJ6_bitCount_0f7a4 1 = .ok (.iload_n 0, 1) := by decide +kernel
theorem dJ6_bitCount_0f7a4_2 : decode cJ6_bitCount_0f7a4 2 = .ok (.iconst 1, 1) := by decide +kernel
theorem dJ6_bitCount_0f7a4_3 : decode cJ6_bitCount_0f7a4 3 = .ok (.iushr, 1) := by decide +kernel
theorem dJ6_bitCount_0f7a4_4 : decode cJ6_bitCount_0f7a4 4 = .ok (.ldc_w 265, 3) := by decide +kernel
theorem dJ6_bitCount_0f7a4_7 : decode cJ6_bitCount_0f7a4 7 = .ok (.iand, 1) := by decide +kernel
theorem dJ6_bitCount_0f7a4_8 : decode cJ6_bitCount_0f7a4 8 = .ok (.isub, 1) := by decide +kernel
theorem dJ6_bitCount_0f7a4_9 : decode cJ6_bitCount_0f7a4 9 = .ok (.istore_n 0, 1) := by decide +kernel
theorem dJ6_bitCount_0f7a4_10 : decode cJ6_bitCount_0f7a4 10 = .ok (.iload_n 0, 1) := by decide +kernel
theorem dJ6_bitCount_0f7a4_11 : decode cJ6_bitCount_0f7a4 11 = .ok (.ldc_w 266, 3) := by decide +kernel
theorem dJ6_bitCount_0f7a4_14 : decode cJ6_bitCount_0f7a4 14 = .ok (.iand, 1) := by decide +kernel
theorem dJ6_bitCount_0f7a4_15 : decode cJ6_bitCount_0f7a4 15 = .ok (.iload_n 0, 1) := by decide +kernel
theorem dJ6_bitCount_0f7a4_16 : decode cJ6_bitCount_0f7a4 16 = .ok (.iconst 2, 1) := by decide +kernel
theorem dJ6_bitCount_0f7a4_17 : decode cJ6_bitCount_0f7a4 17 = .ok (.iushr, 1) := by decide +kernel
theorem dJ6_bitCount_0f7a4_18 : decode cJ6_bitCount_0f7a4 18 = .ok (.ldc_w 266, 3) := by decide +kernel
theorem dJ6_bitCount_0f7a4_21 : decode cJ6_bitCount_0f7a4 21 = .ok (.iand, 1) := by decide +kernel
theorem dJ6_bitCount_0f7a4_22 : decode cJ6_bitCount_0f7a4 22 = .ok (.iadd, 1) := by decide +kernel
theorem dJ6_bitCount_0f7a4_23 : decode cJ6_bitCount_0f7a4 23 = .ok (.istore_n 0, 1) := by decide +kernel
theorem dJ6_bitCount_0f7a4_24 : decode cJ6_bitCount_0f7a4 24 = .ok (.iload_n 0, 1) := by decide +kernel
theorem dJ6_bitCount_0f7a4_25 : decode cJ6_bitCount_0f7a4 25 = .ok (.iload_n 0, 1) := by decide +kernel
theorem dJ6_bitCount_0f7a4_26 : decode cJ6_bitCount_0f7a4 26 = .ok (.iconst 4, 1) := by decide +kernel
theorem dJ6_bitCount_0f7a4_27 : decode cJ6_bitCount_0f7a4 27 = .ok (.iushr, 1) := by decide +kernel
theorem dJ6_bitCount_0f7a4_28 : decode cJ6_bitCount_0f7a4 28 = .ok (.iadd, 1) := by decide +kernel
theorem dJ6_bitCount_0f7a4_29 : decode cJ6_bitCount_0f7a4 29 = .ok (.ldc_w 267, 3) := by decide +kernel
theorem dJ6_bitCount_0f7a4_32 : decode cJ6_bitCount_0f7a4 32 = .ok (.iand, 1) := by decide +kernel
theorem dJ6_bitCount_0f7a4_33 : decode cJ6_bitCount_0f7a4 33 = .ok (.istore_n 0, 1) := by decide +kernel
theorem dJ6_bitCount_0f7a4_34 : decode cJ6_bitCount_0f7a4 34 = .ok (.iload_n 0, 1) := by decide +kernel
theorem dJ6_bitCount_0f7a4_35 : decode cJ6_bitCount_0f7a4 35 = .ok (.iload_n 0, 1) := by decide +kernel
theorem dJ6_bitCount_0f7a4_36 : decode cJ6_bitCount_0f7a4 36 = .ok (.bipush 8, 2) := by decide +kernel
theorem dJ6_bitCount_0f7a4_38 : decode cJ6_bitCount_0f7a4 38 = .ok (.iushr, 1) := by decide +kernel
theorem dJ6_bitCount_0f7a4_39 : decode cJ6_bitCount_0f7a4 39 = .ok (.iadd, 1) := by decide +kernel
theorem dJ6_bitCount_0f7a4_40 : decode cJ6_bitCount_0f7a4 40 = .ok (.istore_n 0, 1) := by decide +kernel
theorem dJ6_bitCount_0f7a4_41 : decode cJ6_bitCount_0f7a4 41 = .ok (.iload_n 0, 1) := by decide +kernel
theorem dJ6_bitCount_0f7a4_42 : decode cJ6_bitCount_0f7a4 42 = .ok (.iload_n 0, 1) := by decide +kernel
theorem dJ6_bitCount_0f7a4_43 : decode cJ6_bitCount_0f7a4 43 = .ok (.bipush 16, 2) := by decide +kernel
theorem dJ6_bitCount_0f7a4_45 : decode cJ6_bitCount_0f7a4 45 = .ok (.iushr, 1) := by decide +kernel
theorem dJ6_bitCount_0f7a4_46 : decode cJ6_bitCount_0f7a4 46 = .ok (.iadd, 1) := by decide +kernel
theorem dJ6_bitCount_0f7a4_47 : decode cJ6_bitCount_0f7a4 47 = .ok (.istore_n 0, 1) := by decide +kernel
theorem dJ6_bitCount_0f7a4_48 : decode cJ6_bitCount_0f7a4 48 = .ok (.iload_n 0, 1) := by decide +kernel
theorem dJ6_bitCount_0f7a4_49 : decode cJ6_bitCount_0f7a4 49 = .ok (.bipush 63, 2) := by decide +kernel
theorem dJ6_bitCount_0f7a4_51 : decode cJ6_bitCount_0f7a4 51 = .ok (.iand, 1) := by decide +kernel
theorem dJ6_bitCount_0f7a4_52 : decode cJ6_bitCount_0f7a4 52 = .ok (.ireturn, 1) := by decide +kernel
theorem dJ9_max_7cf53_0 : decode cJ9_max_7cf53 0 = .ok (.iload_n 0, 1) := by decide +kernel
theorem dJ9_max_7cf53_1 : decode cJ9_max_7cf53 1 = .ok (.iload_n 1, 1) := by decide +kernel
theorem dJ9_max_7cf53_2 : decode cJ9_max_7cf53 2 = .ok (.if_icmp .lt 7, 3) := by decide +kernel
theorem dJ9_max_7cf53_5 : decode cJ9_max_7cf53 5 = .ok (.iload_n 0, 1) := by decide +kernel
theorem dJ9_max_7cf53_6 : decode cJ9_max_7cf53 6 = .ok (.goto 4, 3) := by decide +kernel
theorem dJ9_max_7cf53_9 : decode cJ9_max_7cf53 9 = .ok (.iload_n 1, 1) := by decide +kernel
theorem dJ9_max_7cf53_10 : decode cJ9_max_7cf53 10 = .ok (.ireturn, 1) := by decide +kernel
theorem dJ9_min_7cf53_0 : decode cJ9_min_7cf53 0 = .ok (.iload_n 0, 1) := by decide +kernel
theorem dJ9_min_7cf53_1 : decode cJ9_min_7cf53 1 = .ok (.iload_n 1, 1) := by decide +kernel
theorem dJ9_min_7cf53_2 : decode cJ9_min_7cf53 2 = .ok (.if_icmp .gt 7, 3) := by decide +kernel
theorem dJ9_min_7cf53_5 : decode cJ9_min_7cf53 5 = .ok (.iload_n 0, 1) := by decide +kernel
theorem dJ9_min_7cf53_6 : decode cJ9_min_7cf53 6 = .ok (.goto 4, 3) := by decide +kernel
theorem dJ9_min_7cf53_9 : decode cJ9_min_7cf53 9 = .ok (.iload_n 1, 1) := by decide +kernel
theorem dJ9_min_7cf53_10 : decode cJ9_min_7cf53 10 = .ok (.ireturn, 1) := by decide +kernel
theorem dJ7_fill_53178_0 : decode cJ7_fill_53178 0 = .ok (.iconst 0, 1) := by decide +kernel
theorem dJ7_fill_53178_1 : decode cJ7_fill_53178 1 = .ok (.istore_n 2, 1) := by decide +kernel
theorem dJ7_fill_53178_2 : decode cJ7_fill_53178 2 = .ok (.aload_n 0, 1) := by decide +kernel
theorem dJ7_fill_53178_3 : decode cJ7_fill_53178 3 = .ok (.arraylength, 1) := by decide +kernel
theorem dJ7_fill_53178_4 : decode cJ7_fill_53178 4 = .ok (.istore_n 3, 1) := by decide +kernel
theorem dJ7_fill_53178_5 : decode cJ7_fill_53178 5 = .ok (.iload_n 2, 1) := by decide +kernel
theorem dJ7_fill_53178_6 : decode cJ7_fill_53178 6 = .ok (.iload_n 3, 1) := by decide +kernel
theorem dJ7_fill_53178_7 : decode cJ7_fill_53178 7 = .ok (.if_icmp .ge 13, 3) := by decide +kernel
theorem dJ7_fill_53178_10 : decode cJ7_fill_53178 10 = .ok (.aload_n 0, 1) := by decide +kernel
theorem dJ7_fill_53178_11 : decode cJ7_fill_53178 11 = .ok (.iload_n 2, 1) := by decide +kernel
theorem dJ7_fill_53178_12 : decode cJ7_fill_53178 12 = .ok (.iload_n 1, 1) := by decide +kernel
theorem dJ7_fill_53178_13 : decode cJ7_fill_53178 13 = .ok (.iastore, 1) := by decide +kernel
theorem dJ7_fill_53178_14 : decode cJ7_fill_53178 14 = .ok (.iinc 2 1, 3) := by decide +kernel
theorem dJ7_fill_53178_17 : decode cJ7_fill_53178 17 = .ok (.goto (-12), 3) := by decide +kernel
theorem dJ7_fill_53178_20 : decode cJ7_fill_53178 20 = .ok (.return_, 1) := by decide +kernel
end
section
theorem dL_law_0 : decode cL_law 0 = .ok (.new 7, 3) := by decide +kernel
theorem dL_law_3 : decode cL_law 3 = .ok (.dup, 1) := by decide +kernel
theorem dL_law_4 : decode cL_law 4 = .ok (.invokespecial 9, 3) := by decide +kernel
theorem dL_law_7 : decode cL_law 7 = .ok (.astore_n 1, 1) := by decide +kernel
theorem dL_law_8 : decode cL_law 8 = .ok (.new 10, 3) := by decide +kernel
theorem dL_law_11 : decode cL_law 11 = .ok (.dup, 1) := by decide +kernel
theorem dL_law_12 : decode cL_law 12 = .ok (.invokespecial 12, 3) := by decide +kernel
theorem dL_law_15 : decode cL_law 15 = .ok (.astore_n 2, 1) := by decide +kernel
theorem dL_law_16 : decode cL_law 16 = .ok (.iconst 0, 1) := by decide +kernel
theorem dL_law_17 : decode cL_law 17 = .ok (.istore_n 3, 1) := by decide +kernel
theorem dL_law_18 : decode cL_law 18 = .ok (.iload_n 3, 1) := by decide +kernel
theorem dL_law_19 : decode cL_law 19 = .ok (.aload_n 0, 1) := by decide +kernel
theorem dL_law_20 : decode cL_law 20 = .ok (.arraylength, 1) := by decide +kernel
theorem dL_law_21 : decode cL_law 21 = .ok (.bipush 6, 2) := by decide +kernel
theorem dL_law_23 : decode cL_law 23 = .ok (.isub, 1) := by decide +kernel
theorem dL_law_24 : decode cL_law 24 = .ok (.if_icmp .gt 889, 3) := by decide +kernel
theorem dL_law_27 : decode cL_law 27 = .ok (.aload_n 0, 1) := by decide +kernel
theorem dL_law_28 : decode cL_law 28 = .ok (.iload_n 3, 1) := by decide +kernel
theorem dL_law_29 : decode cL_law 29 = .ok (.iaload, 1) := by decide +kernel
theorem dL_law_30 : decode cL_law 30 = .ok (.bipush 31, 2) := by decide +kernel
theorem dL_law_32 : decode cL_law 32 = .ok (.iand, 1) := by decide +kernel
theorem dL_law_33 : decode cL_law 33 = .ok (.tableswitch 874 0 26 #[123, 156, 219, 262, 295, 318, 341, 364, 397, 410, 433, 456, 499, 532, 555, 568, 591, 624, 647, 680, 703, 726, 769, 792, 805, 818, 841], 123) := by decide +kernel
theorem dL_law_156 : decode cL_law 156 = .ok (.aload_n 1, 1) := by decide +kernel
theorem dL_law_157 : decode cL_law 157 = .ok (.aload_n 0, 1) := by decide +kernel
theorem dL_law_158 : decode cL_law 158 = .ok (.iload_n 3, 1) := by decide +kernel
theorem dL_law_159 : decode cL_law 159 = .ok (.iconst 1, 1) := by decide +kernel
theorem dL_law_160 : decode cL_law 160 = .ok (.iadd, 1) := by decide +kernel
theorem dL_law_161 : decode cL_law 161 = .ok (.iaload, 1) := by decide +kernel
theorem dL_law_162 : decode cL_law 162 = .ok (.aload_n 0, 1) := by decide +kernel
theorem dL_law_163 : decode cL_law 163 = .ok (.iload_n 3, 1) := by decide +kernel
theorem dL_law_164 : decode cL_law 164 = .ok (.iconst 2, 1) := by decide +kernel
theorem dL_law_165 : decode cL_law 165 = .ok (.iadd, 1) := by decide +kernel
theorem dL_law_166 : decode cL_law 166 = .ok (.iaload, 1) := by decide +kernel
theorem dL_law_167 : decode cL_law 167 = .ok (.invokevirtual 13, 3) := by decide +kernel
theorem dL_law_170 : decode cL_law 170 = .ok (.aload_n 2, 1) := by decide +kernel
theorem dL_law_171 : decode cL_law 171 = .ok (.aload_n 0, 1) := by decide +kernel
theorem dL_law_172 : decode cL_law 172 = .ok (.iload_n 3, 1) := by decide +kernel
theorem dL_law_173 : decode cL_law 173 = .ok (.iconst 1, 1) := by decide +kernel
theorem dL_law_174 : decode cL_law 174 = .ok (.iadd, 1) := by decide +kernel
theorem dL_law_175 : decode cL_law 175 = .ok (.iaload, 1) := by decide +kernel
theorem dL_law_176 : decode cL_law 176 = .ok (.aload_n 0, 1) := by decide +kernel
theorem dL_law_177 : decode cL_law 177 = .ok (.iload_n 3, 1) := by decide +kernel
theorem dL_law_178 : decode cL_law 178 = .ok (.iconst 2, 1) := by decide +kernel
theorem dL_law_179 : decode cL_law 179 = .ok (.iadd, 1) := by decide +kernel
theorem dL_law_180 : decode cL_law 180 = .ok (.iaload, 1) := by decide +kernel
theorem dL_law_181 : decode cL_law 181 = .ok (.invokevirtual 17, 3) := by decide +kernel
theorem dL_law_184 : decode cL_law 184 = .ok (.if_icmp .eq 723, 3) := by decide +kernel
theorem dL_law_187 : decode cL_law 187 = .ok (.iconst 0, 1) := by decide +kernel
theorem dL_law_188 : decode cL_law 188 = .ok (.ireturn, 1) := by decide +kernel
theorem dL_law_189 : decode cL_law 189 = .ok (.aload_n 1, 1) := by decide +kernel
theorem dL_law_190 : decode cL_law 190 = .ok (.aload_n 0, 1) := by decide +kernel
theorem dL_law_191 : decode cL_law 191 = .ok (.iload_n 3, 1) := by decide +kernel
theorem dL_law_192 : decode cL_law 192 = .ok (.iconst 1, 1) := by decide +kernel
theorem dL_law_193 : decode cL_law 193 = .ok (.iadd, 1) := by decide +kernel
theorem dL_law_194 : decode cL_law 194 = .ok (.iaload, 1) := by decide +kernel
theorem dL_law_195 : decode cL_law 195 = .ok (.aload_n 0, 1) := by decide +kernel
theorem dL_law_196 : decode cL_law 196 = .ok (.iload_n 3, 1) := by decide +kernel
theorem dL_law_197 : decode cL_law 197 = .ok (.iconst 2, 1) := by decide +kernel
theorem dL_law_198 : decode cL_law 198 = .ok (.iadd, 1) := by decide +kernel
theorem dL_law_199 : decode cL_law 199 = .ok (.iaload, 1) := by decide +kernel
theorem dL_law_200 : decode cL_law 200 = .ok (.aload_n 0, 1) := by decide +kernel
theorem dL_law_201 : decode cL_law 201 = .ok (.iload_n 3, 1) := by decide +kernel
theorem dL_law_202 : decode cL_law 202 = .ok (.iconst 3, 1) := by decide +kernel
theorem dL_law_203 : decode cL_law 203 = .ok (.iadd, 1) := by decide +kernel
theorem dL_law_204 : decode cL_law 204 = .ok (.iaload, 1) := by decide +kernel
theorem dL_law_205 : decode cL_law 205 = .ok (.aload_n 0, 1) := by decide +kernel
theorem dL_law_206 : decode cL_law 206 = .ok (.iload_n 3, 1) := by decide +kernel
theorem dL_law_207 : decode cL_law 207 = .ok (.iconst 4, 1) := by decide +kernel
theorem dL_law_208 : decode cL_law 208 = .ok (.iadd, 1) := by decide +kernel
theorem dL_law_209 : decode cL_law 209 = .ok (.iaload, 1) := by decide +kernel
theorem dL_law_210 : decode cL_law 210 = .ok (.aload_n 0, 1) := by decide +kernel
theorem dL_law_211 : decode cL_law 211 = .ok (.iload_n 3, 1) := by decide +kernel
theorem dL_law_212 : decode cL_law 212 = .ok (.iconst 5, 1) := by decide +kernel
theorem dL_law_213 : decode cL_law 213 = .ok (.iadd, 1) := by decide +kernel
theorem dL_law_214 : decode cL_law 214 = .ok (.iaload, 1) := by decide +kernel
theorem dL_law_215 : decode cL_law 215 = .ok (.invokevirtual 18, 3) := by decide +kernel
theorem dL_law_218 : decode cL_law 218 = .ok (.aload_n 2, 1) := by decide +kernel
theorem dL_law_219 : decode cL_law 219 = .ok (.aload_n 0, 1) := by decide +kernel
theorem dL_law_220 : decode cL_law 220 = .ok (.iload_n 3, 1) := by decide +kernel
theorem dL_law_221 : decode cL_law 221 = .ok (.iconst 1, 1) := by decide +kernel
theorem dL_law_222 : decode cL_law 222 = .ok (.iadd, 1) := by decide +kernel
theorem dL_law_223 : decode cL_law 223 = .ok (.iaload, 1) := by decide +kernel
theorem dL_law_224 : decode cL_law 224 = .ok (.aload_n 0, 1) := by decide +kernel
theorem dL_law_225 : decode cL_law 225 = .ok (.iload_n 3, 1) := by decide +kernel
theorem dL_law_226 : decode cL_law 226 = .ok (.iconst 2, 1) := by decide +kernel
theorem dL_law_227 : decode cL_law 227 = .ok (.iadd, 1) := by decide +kernel
theorem dL_law_228 : decode cL_law 228 = .ok (.iaload, 1) := by decide +kernel
theorem dL_law_229 : decode cL_law 229 = .ok (.aload_n 0, 1) := by decide +kernel
theorem dL_law_230 : decode cL_law 230 = .ok (.iload_n 3, 1) := by decide +kernel
theorem dL_law_231 : decode cL_law 231 = .ok (.iconst 3, 1) := by decide +kernel
theorem dL_law_232 : decode cL_law 232 = .ok (.iadd, 1) := by decide +kernel
theorem dL_law_233 : decode cL_law 233 = .ok (.iaload, 1) := by decide +kernel
theorem dL_law_234 : decode cL_law 234 = .ok (.aload_n 0, 1) := by decide +kernel
theorem dL_law_235 : decode cL_law 235 = .ok (.iload_n 3, 1) := by decide +kernel
theorem dL_law_236 : decode cL_law 236 = .ok (.iconst 4, 1) := by decide +kernel
theorem dL_law_237 : decode cL_law 237 = .ok (.iadd, 1) := by decide +kernel
theorem dL_law_238 : decode cL_law 238 = .ok (.iaload, 1) := by decide +kernel
theorem dL_law_239 : decode cL_law 239 = .ok (.aload_n 0, 1) := by decide +kernel
theorem dL_law_240 : decode cL_law 240 = .ok (.iload_n 3, 1) := by decide +kernel
theorem dL_law_241 : decode cL_law 241 = .ok (.iconst 5, 1) := by decide +kernel
theorem dL_law_242 : decode cL_law 242 = .ok (.iadd, 1) := by decide +kernel
theorem dL_law_243 : decode cL_law 243 = .ok (.iaload, 1) := by decide +kernel
theorem dL_law_244 : decode cL_law 244 = .ok (.invokevirtual 22, 3) := by decide +kernel
theorem dL_law_247 : decode cL_law 247 = .ok (.if_icmp .eq 660, 3) := by decide +kernel
theorem dL_law_250 : decode cL_law 250 = .ok (.iconst 0, 1) := by decide +kernel
theorem dL_law_251 : decode cL_law 251 = .ok (.ireturn, 1) := by decide +kernel
theorem dL_law_252 : decode cL_law 252 = .ok (.aload_n 1, 1) := by decide +kernel
theorem dL_law_253 : decode cL_law 253 = .ok (.aload_n 0, 1) := by decide +kernel
theorem dL_law_254 : decode cL_law 254 = .ok (.iload_n 3, 1) := by decide +kernel
theorem dL_law_255 : decode cL_law 255 = .ok (.iconst 1, 1) := by decide +kernel
theorem dL_law_256 : decode cL_law 256 = .ok (.iadd, 1) := by decide +kernel
theorem dL_law_257 : decode cL_law 257 = .ok (.iaload, 1) := by decide +kernel
theorem dL_law_258 : decode cL_law 258 = .ok (.aload_n 0, 1) := by decide +kernel
theorem dL_law_259 : decode cL_law 259 = .ok (.iload_n 3, 1) := by decide +kernel
theorem dL_law_260 : decode cL_law 260 = .ok (.iconst 2, 1) := by decide +kernel
theorem dL_law_261 : decode cL_law 261 = .ok (.iadd, 1) := by decide +kernel
theorem dL_law_262 : decode cL_law 262 = .ok (.iaload, 1) := by decide +kernel
theorem dL_law_263 : decode cL_law 263 = .ok (.aload_n 0, 1) := by decide +kernel
theorem dL_law_264 : decode cL_law 264 = .ok (.iload_n 3, 1) := by decide +kernel
theorem dL_law_265 : decode cL_law 265 = .ok (.iconst 3, 1) := by decide +kernel
theorem dL_law_266 : decode cL_law 266 = .ok (.iadd, 1) := by decide +kernel
theorem dL_law_267 : decode cL_law 267 = .ok (.iaload, 1) := by decide +kernel
theorem dL_law_268 : decode cL_law 268 = .ok (.invokevirtual 23, 3) := by decide +kernel
theorem dL_law_271 : decode cL_law 271 = .ok (.aload_n 2, 1) := by decide +kernel
theorem dL_law_272 : decode cL_law 272 = .ok (.aload_n 0, 1) := by decide +kernel
theorem dL_law_273 : decode cL_law 273 = .ok (.iload_n 3, 1) := by decide +kernel
theorem dL_law_274 : decode cL_law 274 = .ok (.iconst 1, 1) := by decide +kernel
theorem dL_law_275 : decode cL_law 275 = .ok (.iadd, 1) := by decide +kernel
theorem dL_law_276 : decode cL_law 276 = .ok (.iaload, 1) := by decide +kernel
theorem dL_law_277 : decode cL_law 277 = .ok (.aload_n 0, 1) := by decide +kernel
theorem dL_law_278 : decode cL_law 278 = .ok (.iload_n 3, 1) := by decide +kernel
theorem dL_law_279 : decode cL_law 279 = .ok (.iconst 2, 1) := by decide +kernel
theorem dL_law_280 : decode cL_law 280 = .ok (.iadd, 1) := by decide +kernel
theorem dL_law_281 : decode cL_law 281 = .ok (.iaload, 1) := by decide +kernel
theorem dL_law_282 : decode cL_law 282 = .ok (.aload_n 0, 1) := by decide +kernel
theorem dL_law_283 : decode cL_law 283 = .ok (.iload_n 3, 1) := by decide +kernel
theorem dL_law_284 : decode cL_law 284 = .ok (.iconst 3, 1) := by decide +kernel
theorem dL_law_285 : decode cL_law 285 = .ok (.iadd, 1) := by decide +kernel
theorem dL_law_286 : decode cL_law 286 = .ok (.iaload, 1) := by decide +kernel
theorem dL_law_287 : decode cL_law 287 = .ok (.invokevirtual 27, 3) := by decide +kernel
theorem dL_law_290 : decode cL_law 290 = .ok (.if_icmp .eq 617, 3) := by decide +kernel
theorem dL_law_293 : decode cL_law 293 = .ok (.iconst 0, 1) := by decide +kernel
theorem dL_law_294 : decode cL_law 294 = .ok (.ireturn, 1) := by decide +kernel
theorem dL_law_295 : decode cL_law 295 = .ok (.aload_n 1, 1) := by decide +kernel
theorem dL_law_296 : decode cL_law 296 = .ok (.aload_n 0, 1) := by decide +kernel
theorem dL_law_297 : decode cL_law 297 = .ok (.iload_n 3, 1) := by decide +kernel
theorem dL_law_298 : decode cL_law 298 = .ok (.iconst 1, 1) := by decide +kernel
theorem dL_law_299 : decode cL_law 299 = .ok (.iadd, 1) := by decide +kernel
theorem dL_law_300 : decode cL_law 300 = .ok (.iaload, 1) := by decide +kernel
theorem dL_law_301 : decode cL_law 301 = .ok (.aload_n 0, 1) := by decide +kernel
theorem dL_law_302 : decode cL_law 302 = .ok (.iload_n 3, 1) := by decide +kernel
theorem dL_law_303 : decode cL_law 303 = .ok (.iconst 2, 1) := by decide +kernel
theorem dL_law_304 : decode cL_law 304 = .ok (.iadd, 1) := by decide +kernel
theorem dL_law_305 : decode cL_law 305 = .ok (.iaload, 1) := by decide +kernel
theorem dL_law_306 : decode cL_law 306 = .ok (.invokevirtual 28, 3) := by decide +kernel
theorem dL_law_309 : decode cL_law 309 = .ok (.aload_n 2, 1) := by decide +kernel
theorem dL_law_310 : decode cL_law 310 = .ok (.aload_n 0, 1) := by decide +kernel
theorem dL_law_311 : decode cL_law 311 = .ok (.iload_n 3, 1) := by decide +kernel
theorem dL_law_312 : decode cL_law 312 = .ok (.iconst 1, 1) := by decide +kernel
theorem dL_law_313 : decode cL_law 313 = .ok (.iadd, 1) := by decide +kernel
theorem dL_law_314 : decode cL_law 314 = .ok (.iaload, 1) := by decide +kernel
theorem dL_law_315 : decode cL_law 315 = .ok (.aload_n 0, 1) := by decide +kernel
theorem dL_law_316 : decode cL_law 316 = .ok (.iload_n 3, 1) := by decide +kernel
theorem dL_law_317 : decode cL_law 317 = .ok (.iconst 2, 1) := by decide +kernel
theorem dL_law_318 : decode cL_law 318 = .ok (.iadd, 1) := by decide +kernel
theorem dL_law_319 : decode cL_law 319 = .ok (.iaload, 1) := by decide +kernel
theorem dL_law_320 : decode cL_law 320 = .ok (.invokevirtual 31, 3) := by decide +kernel
theorem dL_law_323 : decode cL_law 323 = .ok (.if_icmp .eq 584, 3) := by decide +kernel
theorem dL_law_326 : decode cL_law 326 = .ok (.iconst 0, 1) := by decide +kernel
theorem dL_law_327 : decode cL_law 327 = .ok (.ireturn, 1) := by decide +kernel
theorem dL_law_328 : decode cL_law 328 = .ok (.aload_n 1, 1) := by decide +kernel
theorem dL_law_329 : decode cL_law 329 = .ok (.aload_n 0, 1) := by decide +kernel
theorem dL_law_330 : decode cL_law 330 = .ok (.iload_n 3, 1) := by decide +kernel
theorem dL_law_331 : decode cL_law 331 = .ok (.iconst 1, 1) := by decide +kernel
theorem dL_law_332 : decode cL_law 332 = .ok (.iadd, 1) := by decide +kernel
theorem dL_law_333 : decode cL_law 333 = .ok (.iaload, 1) := by decide +kernel
theorem dL_law_334 : decode cL_law 334 = .ok (.invokevirtual 32, 3) := by decide +kernel
theorem dL_law_337 : decode cL_law 337 = .ok (.aload_n 2, 1) := by decide +kernel
theorem dL_law_338 : decode cL_law 338 = .ok (.aload_n 0, 1) := by decide +kernel
theorem dL_law_339 : decode cL_law 339 = .ok (.iload_n 3, 1) := by decide +kernel
theorem dL_law_340 : decode cL_law 340 = .ok (.iconst 1, 1) := by decide +kernel
theorem dL_law_341 : decode cL_law 341 = .ok (.iadd, 1) := by decide +kernel
theorem dL_law_342 : decode cL_law 342 = .ok (.iaload, 1) := by decide +kernel
theorem dL_law_343 : decode cL_law 343 = .ok (.invokevirtual 36, 3) := by decide +kernel
theorem dL_law_346 : decode cL_law 346 = .ok (.if_icmp .eq 561, 3) := by decide +kernel
theorem dL_law_349 : decode cL_law 349 = .ok (.iconst 0, 1) := by decide +kernel
theorem dL_law_350 : decode cL_law 350 = .ok (.ireturn, 1) := by decide +kernel
theorem dL_law_351 : decode cL_law 351 = .ok (.aload_n 1, 1) := by decide +kernel
theorem dL_law_352 : decode cL_law 352 = .ok (.aload_n 0, 1) := by decide +kernel
theorem dL_law_353 : decode cL_law 353 = .ok (.iload_n 3, 1) := by decide +kernel
theorem dL_law_354 : decode cL_law 354 = .ok (.iconst 1, 1) := by decide +kernel
theorem dL_law_355 : decode cL_law 355 = .ok (.iadd, 1) := by decide +kernel
theorem dL_law_356 : decode cL_law 356 = .ok (.iaload, 1) := by decide +kernel
theorem dL_law_357 : decode cL_law 357 = .ok (.invokevirtual 37, 3) := by decide +kernel
theorem dL_law_360 : decode cL_law 360 = .ok (.aload_n 2, 1) := by decide +kernel
theorem dL_law_361 : decode cL_law 361 = .ok (.aload_n 0, 1) := by decide +kernel
theorem dL_law_362 : decode cL_law 362 = .ok (.iload_n 3, 1) := by decide +kernel
theorem dL_law_363 : decode cL_law 363 = .ok (.iconst 1, 1) := by decide +kernel
theorem dL_law_364 : decode cL_law 364 = .ok (.iadd, 1) := by decide +kernel
theorem dL_law_365 : decode cL_law 365 = .ok (.iaload, 1) := by decide +kernel
theorem dL_law_366 : decode cL_law 366 = .ok (.invokevirtual 40, 3) := by decide +kernel
theorem dL_law_369 : decode cL_law 369 = .ok (.if_icmp .eq 538, 3) := by decide +kernel
theorem dL_law_372 : decode cL_law 372 = .ok (.iconst 0, 1) := by decide +kernel
theorem dL_law_373 : decode cL_law 373 = .ok (.ireturn, 1) := by decide +kernel
theorem dL_law_374 : decode cL_law 374 = .ok (.aload_n 1, 1) := by decide +kernel
theorem dL_law_375 : decode cL_law 375 = .ok (.aload_n 0, 1) := by decide +kernel
theorem dL_law_376 : decode cL_law 376 = .ok (.iload_n 3, 1) := by decide +kernel
theorem dL_law_377 : decode cL_law 377 = .ok (.iconst 1, 1) := by decide +kernel
theorem dL_law_378 : decode cL_law 378 = .ok (.iadd, 1) := by decide +kernel
theorem dL_law_379 : decode cL_law 379 = .ok (.iaload, 1) := by decide +kernel
theorem dL_law_380 : decode cL_law 380 = .ok (.invokevirtual 41, 3) := by decide +kernel
theorem dL_law_383 : decode cL_law 383 = .ok (.aload_n 2, 1) := by decide +kernel
theorem dL_law_384 : decode cL_law 384 = .ok (.aload_n 0, 1) := by decide +kernel
theorem dL_law_385 : decode cL_law 385 = .ok (.iload_n 3, 1) := by decide +kernel
theorem dL_law_386 : decode cL_law 386 = .ok (.iconst 1, 1) := by decide +kernel
theorem dL_law_387 : decode cL_law 387 = .ok (.iadd, 1) := by decide +kernel
theorem dL_law_388 : decode cL_law 388 = .ok (.iaload, 1) := by decide +kernel
theorem dL_law_389 : decode cL_law 389 = .ok (.invokevirtual 44, 3) := by decide +kernel
theorem dL_law_392 : decode cL_law 392 = .ok (.if_icmp .eq 515, 3) := by decide +kernel
theorem dL_law_395 : decode cL_law 395 = .ok (.iconst 0, 1) := by decide +kernel
theorem dL_law_396 : decode cL_law 396 = .ok (.ireturn, 1) := by decide +kernel
theorem dL_law_397 : decode cL_law 397 = .ok (.aload_n 1, 1) := by decide +kernel
theorem dL_law_398 : decode cL_law 398 = .ok (.aload_n 0, 1) := by decide +kernel
theorem dL_law_399 : decode cL_law 399 = .ok (.iload_n 3, 1) := by decide +kernel
theorem dL_law_400 : decode cL_law 400 = .ok (.iconst 1, 1) := by decide +kernel
theorem dL_law_401 : decode cL_law 401 = .ok (.iadd, 1) := by decide +kernel
theorem dL_law_402 : decode cL_law 402 = .ok (.iaload, 1) := by decide +kernel
theorem dL_law_403 : decode cL_law 403 = .ok (.aload_n 0, 1) := by decide +kernel
theorem dL_law_404 : decode cL_law 404 = .ok (.iload_n 3, 1) := by decide +kernel
theorem dL_law_405 : decode cL_law 405 = .ok (.iconst 2, 1) := by decide +kernel
theorem dL_law_406 : decode cL_law 406 = .ok (.iadd, 1) := by decide +kernel
theorem dL_law_407 : decode cL_law 407 = .ok (.iaload, 1) := by decide +kernel
theorem dL_law_408 : decode cL_law 408 = .ok (.invokevirtual 45, 3) := by decide +kernel
theorem dL_law_411 : decode cL_law 411 = .ok (.aload_n 2, 1) := by decide +kernel
theorem dL_law_412 : decode cL_law 412 = .ok (.aload_n 0, 1) := by decide +kernel
theorem dL_law_413 : decode cL_law 413 = .ok (.iload_n 3, 1) := by decide +kernel
theorem dL_law_414 : decode cL_law 414 = .ok (.iconst 1, 1) := by decide +kernel
theorem dL_law_415 : decode cL_law 415 = .ok (.iadd, 1) := by decide +kernel
theorem dL_law_416 : decode cL_law 416 = .ok (.iaload, 1) := by decide +kernel
theorem dL_law_417 : decode cL_law 417 = .ok (.aload_n 0, 1) := by decide +kernel
theorem dL_law_418 : decode cL_law 418 = .ok (.iload_n 3, 1) := by decide +kernel
theorem dL_law_419 : decode cL_law 419 = .ok (.iconst 2, 1) := by decide +kernel
theorem dL_law_420 : decode cL_law 420 = .ok (.iadd, 1) := by decide +kernel
theorem dL_law_421 : decode cL_law 421 = .ok (.iaload, 1) := by decide +kernel
theorem dL_law_422 : decode cL_law 422 = .ok (.invokevirtual 48, 3) := by decide +kernel
theorem dL_law_425 : decode cL_law 425 = .ok (.if_icmp .eq 482, 3) := by decide +kernel
theorem dL_law_428 : decode cL_law 428 = .ok (.iconst 0, 1) := by decide +kernel
theorem dL_law_429 : decode cL_law 429 = .ok (.ireturn, 1) := by decide +kernel
theorem dL_law_430 : decode cL_law 430 = .ok (.aload_n 1, 1) := by decide +kernel
theorem dL_law_431 : decode cL_law 431 = .ok (.invokevirtual 49, 3) := by decide +kernel
theorem dL_law_434 : decode cL_law 434 = .ok (.aload_n 2, 1) := by decide +kernel
theorem dL_law_435 : decode cL_law 435 = .ok (.invokevirtual 53, 3) := by decide +kernel
theorem dL_law_438 : decode cL_law 438 = .ok (.if_icmp .eq 469, 3) := by decide +kernel
theorem dL_law_441 : decode cL_law 441 = .ok (.iconst 0, 1) := by decide +kernel
theorem dL_law_442 : decode cL_law 442 = .ok (.ireturn, 1) := by decide +kernel
theorem dL_law_443 : decode cL_law 443 = .ok (.aload_n 1, 1) := by decide +kernel
theorem dL_law_444 : decode cL_law 444 = .ok (.aload_n 0, 1) := by decide +kernel
theorem dL_law_445 : decode cL_law 445 = .ok (.iload_n 3, 1) := by decide +kernel
theorem dL_law_446 : decode cL_law 446 = .ok (.iconst 1, 1) := by decide +kernel
theorem dL_law_447 : decode cL_law 447 = .ok (.iadd, 1) := by decide +kernel
theorem dL_law_448 : decode cL_law 448 = .ok (.iaload, 1) := by decide +kernel
theorem dL_law_449 : decode cL_law 449 = .ok (.invokevirtual 54, 3) := by decide +kernel
theorem dL_law_452 : decode cL_law 452 = .ok (.aload_n 2, 1) := by decide +kernel
theorem dL_law_453 : decode cL_law 453 = .ok (.aload_n 0, 1) := by decide +kernel
theorem dL_law_454 : decode cL_law 454 = .ok (.iload_n 3, 1) := by decide +kernel
theorem dL_law_455 : decode cL_law 455 = .ok (.iconst 1, 1) := by decide +kernel
theorem dL_law_456 : decode cL_law 456 = .ok (.iadd, 1) := by decide +kernel
theorem dL_law_457 : decode cL_law 457 = .ok (.iaload, 1) := by decide +kernel
theorem dL_law_458 : decode cL_law 458 = .ok (.invokevirtual 57, 3) := by decide +kernel
theorem dL_law_461 : decode cL_law 461 = .ok (.if_icmp .eq 446, 3) := by decide +kernel
theorem dL_law_464 : decode cL_law 464 = .ok (.iconst 0, 1) := by decide +kernel
theorem dL_law_465 : decode cL_law 465 = .ok (.ireturn, 1) := by decide +kernel
theorem dL_law_466 : decode cL_law 466 = .ok (.aload_n 1, 1) := by decide +kernel
theorem dL_law_467 : decode cL_law 467 = .ok (.aload_n 0, 1) := by decide +kernel
theorem dL_law_468 : decode cL_law 468 = .ok (.iload_n 3, 1) := by decide +kernel
theorem dL_law_469 : decode cL_law 469 = .ok (.iconst 1, 1) := by decide +kernel
theorem dL_law_470 : decode cL_law 470 = .ok (.iadd, 1) := by decide +kernel
theorem dL_law_471 : decode cL_law 471 = .ok (.iaload, 1) := by decide +kernel
theorem dL_law_472 : decode cL_law 472 = .ok (.invokevirtual 58, 3) := by decide +kernel
theorem dL_law_475 : decode cL_law 475 = .ok (.aload_n 2, 1) := by decide +kernel
theorem dL_law_476 : decode cL_law 476 = .ok (.aload_n 0, 1) := by decide +kernel
theorem dL_law_477 : decode cL_law 477 = .ok (.iload_n 3, 1) := by decide +kernel
theorem dL_law_478 : decode cL_law 478 = .ok (.iconst 1, 1) := by decide +kernel
theorem dL_law_479 : decode cL_law 479 = .ok (.iadd, 1) := by decide +kernel
theorem dL_law_480 : decode cL_law 480 = .ok (.iaload, 1) := by decide +kernel
theorem dL_law_481 : decode cL_law 481 = .ok (.invokevirtual 61, 3) := by decide +kernel
theorem dL_law_484 : decode cL_law 484 = .ok (.if_icmp .eq 423, 3) := by decide +kernel
theorem dL_law_487 : decode cL_law 487 = .ok (.iconst 0, 1) := by decide +kernel
theorem dL_law_488 : decode cL_law 488 = .ok (.ireturn, 1) := by decide +kernel
theorem dL_law_489 : decode cL_law 489 = .ok (.aload_n 1, 1) := by decide +kernel
theorem dL_law_490 : decode cL_law 490 = .ok (.aload_n 0, 1) := by decide +kernel
theorem dL_law_491 : decode cL_law 491 = .ok (.iload_n 3, 1) := by decide +kernel
theorem dL_law_492 : decode cL_law 492 = .ok (.iconst 1, 1) := by decide +kernel
theorem dL_law_493 : decode cL_law 493 = .ok (.iadd, 1) := by decide +kernel
theorem dL_law_494 : decode cL_law 494 = .ok (.iaload, 1) := by decide +kernel
theorem dL_law_495 : decode cL_law 495 = .ok (.aload_n 0, 1) := by decide +kernel
theorem dL_law_496 : decode cL_law 496 = .ok (.iload_n 3, 1) := by decide +kernel
theorem dL_law_497 : decode cL_law 497 = .ok (.iconst 2, 1) := by decide +kernel
theorem dL_law_498 : decode cL_law 498 = .ok (.iadd, 1) := by decide +kernel
theorem dL_law_499 : decode cL_law 499 = .ok (.iaload, 1) := by decide +kernel
theorem dL_law_500 : decode cL_law 500 = .ok (.aload_n 0, 1) := by decide +kernel
theorem dL_law_501 : decode cL_law 501 = .ok (.iload_n 3, 1) := by decide +kernel
theorem dL_law_502 : decode cL_law 502 = .ok (.iconst 3, 1) := by decide +kernel
theorem dL_law_503 : decode cL_law 503 = .ok (.iadd, 1) := by decide +kernel
theorem dL_law_504 : decode cL_law 504 = .ok (.iaload, 1) := by decide +kernel
theorem dL_law_505 : decode cL_law 505 = .ok (.invokevirtual 62, 3) := by decide +kernel
theorem dL_law_508 : decode cL_law 508 = .ok (.aload_n 2, 1) := by decide +kernel
theorem dL_law_509 : decode cL_law 509 = .ok (.aload_n 0, 1) := by decide +kernel
theorem dL_law_510 : decode cL_law 510 = .ok (.iload_n 3, 1) := by decide +kernel
theorem dL_law_511 : decode cL_law 511 = .ok (.iconst 1, 1) := by decide +kernel
theorem dL_law_512 : decode cL_law 512 = .ok (.iadd, 1) := by decide +kernel
theorem dL_law_513 : decode cL_law 513 = .ok (.iaload, 1) := by decide +kernel
theorem dL_law_514 : decode cL_law 514 = .ok (.aload_n 0, 1) := by decide +kernel
theorem dL_law_515 : decode cL_law 515 = .ok (.iload_n 3, 1) := by decide +kernel
theorem dL_law_516 : decode cL_law 516 = .ok (.iconst 2, 1) := by decide +kernel
theorem dL_law_517 : decode cL_law 517 = .ok (.iadd, 1) := by decide +kernel
theorem dL_law_518 : decode cL_law 518 = .ok (.iaload, 1) := by decide +kernel
theorem dL_law_519 : decode cL_law 519 = .ok (.aload_n 0, 1) := by decide +kernel
theorem dL_law_520 : decode cL_law 520 = .ok (.iload_n 3, 1) := by decide +kernel
theorem dL_law_521 : decode cL_law 521 = .ok (.iconst 3, 1) := by decide +kernel
theorem dL_law_522 : decode cL_law 522 = .ok (.iadd, 1) := by decide +kernel
theorem dL_law_523 : decode cL_law 523 = .ok (.iaload, 1) := by decide +kernel
theorem dL_law_524 : decode cL_law 524 = .ok (.invokevirtual 65, 3) := by decide +kernel
theorem dL_law_527 : decode cL_law 527 = .ok (.if_icmp .eq 380, 3) := by decide +kernel
theorem dL_law_530 : decode cL_law 530 = .ok (.iconst 0, 1) := by decide +kernel
theorem dL_law_531 : decode cL_law 531 = .ok (.ireturn, 1) := by decide +kernel
theorem dL_law_532 : decode cL_law 532 = .ok (.aload_n 1, 1) := by decide +kernel
theorem dL_law_533 : decode cL_law 533 = .ok (.aload_n 0, 1) := by decide +kernel
theorem dL_law_534 : decode cL_law 534 = .ok (.iload_n 3, 1) := by decide +kernel
theorem dL_law_535 : decode cL_law 535 = .ok (.iconst 1, 1) := by decide +kernel
theorem dL_law_536 : decode cL_law 536 = .ok (.iadd, 1) := by decide +kernel
theorem dL_law_537 : decode cL_law 537 = .ok (.iaload, 1) := by decide +kernel
theorem dL_law_538 : decode cL_law 538 = .ok (.aload_n 0, 1) := by decide +kernel
theorem dL_law_539 : decode cL_law 539 = .ok (.iload_n 3, 1) := by decide +kernel
theorem dL_law_540 : decode cL_law 540 = .ok (.iconst 2, 1) := by decide +kernel
theorem dL_law_541 : decode cL_law 541 = .ok (.iadd, 1) := by decide +kernel
theorem dL_law_542 : decode cL_law 542 = .ok (.iaload, 1) := by decide +kernel
theorem dL_law_543 : decode cL_law 543 = .ok (.invokevirtual 66, 3) := by decide +kernel
theorem dL_law_546 : decode cL_law 546 = .ok (.aload_n 2, 1) := by decide +kernel
theorem dL_law_547 : decode cL_law 547 = .ok (.aload_n 0, 1) := by decide +kernel
theorem dL_law_548 : decode cL_law 548 = .ok (.iload_n 3, 1) := by decide +kernel
theorem dL_law_549 : decode cL_law 549 = .ok (.iconst 1, 1) := by decide +kernel
theorem dL_law_550 : decode cL_law 550 = .ok (.iadd, 1) := by decide +kernel
theorem dL_law_551 : decode cL_law 551 = .ok (.iaload, 1) := by decide +kernel
theorem dL_law_552 : decode cL_law 552 = .ok (.aload_n 0, 1) := by decide +kernel
theorem dL_law_553 : decode cL_law 553 = .ok (.iload_n 3, 1) := by decide +kernel
theorem dL_law_554 : decode cL_law 554 = .ok (.iconst 2, 1) := by decide +kernel
theorem dL_law_555 : decode cL_law 555 = .ok (.iadd, 1) := by decide +kernel
theorem dL_law_556 : decode cL_law 556 = .ok (.iaload, 1) := by decide +kernel
theorem dL_law_557 : decode cL_law 557 = .ok (.invokevirtual 69, 3) := by decide +kernel
theorem dL_law_560 : decode cL_law 560 = .ok (.if_icmp .eq 347, 3) := by decide +kernel
theorem dL_law_563 : decode cL_law 563 = .ok (.iconst 0, 1) := by decide +kernel
theorem dL_law_564 : decode cL_law 564 = .ok (.ireturn, 1) := by decide +kernel
theorem dL_law_565 : decode cL_law 565 = .ok (.aload_n 1, 1) := by decide +kernel
theorem dL_law_566 : decode cL_law 566 = .ok (.aload_n 0, 1) := by decide +kernel
theorem dL_law_567 : decode cL_law 567 = .ok (.iload_n 3, 1) := by decide +kernel
theorem dL_law_568 : decode cL_law 568 = .ok (.iconst 1, 1) := by decide +kernel
theorem dL_law_569 : decode cL_law 569 = .ok (.iadd, 1) := by decide +kernel
theorem dL_law_570 : decode cL_law 570 = .ok (.iaload, 1) := by decide +kernel
theorem dL_law_571 : decode cL_law 571 = .ok (.invokevirtual 70, 3) := by decide +kernel
theorem dL_law_574 : decode cL_law 574 = .ok (.aload_n 2, 1) := by decide +kernel
theorem dL_law_575 : decode cL_law 575 = .ok (.aload_n 0, 1) := by decide +kernel
theorem dL_law_576 : decode cL_law 576 = .ok (.iload_n 3, 1) := by decide +kernel
theorem dL_law_577 : decode cL_law 577 = .ok (.iconst 1, 1) := by decide +kernel
theorem dL_law_578 : decode cL_law 578 = .ok (.iadd, 1) := by decide +kernel
theorem dL_law_579 : decode cL_law 579 = .ok (.iaload, 1) := by decide +kernel
theorem dL_law_580 : decode cL_law 580 = .ok (.invokevirtual 73, 3) := by decide +kernel
theorem dL_law_583 : decode cL_law 583 = .ok (.if_icmp .eq 324, 3) := by decide +kernel
theorem dL_law_586 : decode cL_law 586 = .ok (.iconst 0, 1) := by decide +kernel
theorem dL_law_587 : decode cL_law 587 = .ok (.ireturn, 1) := by decide +kernel
theorem dL_law_588 : decode cL_law 588 = .ok (.aload_n 1, 1) := by decide +kernel
theorem dL_law_589 : decode cL_law 589 = .ok (.invokevirtual 74, 3) := by decide +kernel
theorem dL_law_592 : decode cL_law 592 = .ok (.aload_n 2, 1) := by decide +kernel
theorem dL_law_593 : decode cL_law 593 = .ok (.invokevirtual 77, 3) := by decide +kernel
theorem dL_law_596 : decode cL_law 596 = .ok (.if_icmp .eq 311, 3) := by decide +kernel
theorem dL_law_599 : decode cL_law 599 = .ok (.iconst 0, 1) := by decide +kernel
theorem dL_law_600 : decode cL_law 600 = .ok (.ireturn, 1) := by decide +kernel
theorem dL_law_601 : decode cL_law 601 = .ok (.aload_n 1, 1) := by decide +kernel
theorem dL_law_602 : decode cL_law 602 = .ok (.aload_n 0, 1) := by decide +kernel
theorem dL_law_603 : decode cL_law 603 = .ok (.iload_n 3, 1) := by decide +kernel
theorem dL_law_604 : decode cL_law 604 = .ok (.iconst 1, 1) := by decide +kernel
theorem dL_law_605 : decode cL_law 605 = .ok (.iadd, 1) := by decide +kernel
theorem dL_law_606 : decode cL_law 606 = .ok (.iaload, 1) := by decide +kernel
theorem dL_law_607 : decode cL_law 607 = .ok (.invokevirtual 78, 3) := by decide +kernel
theorem dL_law_610 : decode cL_law 610 = .ok (.aload_n 2, 1) := by decide +kernel
theorem dL_law_611 : decode cL_law 611 = .ok (.aload_n 0, 1) := by decide +kernel
theorem dL_law_612 : decode cL_law 612 = .ok (.iload_n 3, 1) := by decide +kernel
theorem dL_law_613 : decode cL_law 613 = .ok (.iconst 1, 1) := by decide +kernel
theorem dL_law_614 : decode cL_law 614 = .ok (.iadd, 1) := by decide +kernel
theorem dL_law_615 : decode cL_law 615 = .ok (.iaload, 1) := by decide +kernel
theorem dL_law_616 : decode cL_law 616 = .ok (.invokevirtual 81, 3) := by decide +kernel
theorem dL_law_619 : decode cL_law 619 = .ok (.if_icmp .eq 288, 3) := by decide +kernel
theorem dL_law_622 : decode cL_law 622 = .ok (.iconst 0, 1) := by decide +kernel
theorem dL_law_623 : decode cL_law 623 = .ok (.ireturn, 1) := by decide +kernel
theorem dL_law_624 : decode cL_law 624 = .ok (.aload_n 1, 1) := by decide +kernel
theorem dL_law_625 : decode cL_law 625 = .ok (.aload_n 0, 1) := by decide +kernel
theorem dL_law_626 : decode cL_law 626 = .ok (.iload_n 3, 1) := by decide +kernel
theorem dL_law_627 : decode cL_law 627 = .ok (.iconst 1, 1) := by decide +kernel
theorem dL_law_628 : decode cL_law 628 = .ok (.iadd, 1) := by decide +kernel
theorem dL_law_629 : decode cL_law 629 = .ok (.iaload, 1) := by decide +kernel
theorem dL_law_630 : decode cL_law 630 = .ok (.aload_n 0, 1) := by decide +kernel
theorem dL_law_631 : decode cL_law 631 = .ok (.iload_n 3, 1) := by decide +kernel
theorem dL_law_632 : decode cL_law 632 = .ok (.iconst 2, 1) := by decide +kernel
theorem dL_law_633 : decode cL_law 633 = .ok (.iadd, 1) := by decide +kernel
theorem dL_law_634 : decode cL_law 634 = .ok (.iaload, 1) := by decide +kernel
theorem dL_law_635 : decode cL_law 635 = .ok (.invokevirtual 82, 3) := by decide +kernel
theorem dL_law_638 : decode cL_law 638 = .ok (.aload_n 2, 1) := by decide +kernel
theorem dL_law_639 : decode cL_law 639 = .ok (.aload_n 0, 1) := by decide +kernel
theorem dL_law_640 : decode cL_law 640 = .ok (.iload_n 3, 1) := by decide +kernel
theorem dL_law_641 : decode cL_law 641 = .ok (.iconst 1, 1) := by decide +kernel
theorem dL_law_642 : decode cL_law 642 = .ok (.iadd, 1) := by decide +kernel
theorem dL_law_643 : decode cL_law 643 = .ok (.iaload, 1) := by decide +kernel
theorem dL_law_644 : decode cL_law 644 = .ok (.aload_n 0, 1) := by decide +kernel
theorem dL_law_645 : decode cL_law 645 = .ok (.iload_n 3, 1) := by decide +kernel
theorem dL_law_646 : decode cL_law 646 = .ok (.iconst 2, 1) := by decide +kernel
theorem dL_law_647 : decode cL_law 647 = .ok (.iadd, 1) := by decide +kernel
theorem dL_law_648 : decode cL_law 648 = .ok (.iaload, 1) := by decide +kernel
theorem dL_law_649 : decode cL_law 649 = .ok (.invokevirtual 85, 3) := by decide +kernel
theorem dL_law_652 : decode cL_law 652 = .ok (.if_icmp .eq 255, 3) := by decide +kernel
theorem dL_law_655 : decode cL_law 655 = .ok (.iconst 0, 1) := by decide +kernel
theorem dL_law_656 : decode cL_law 656 = .ok (.ireturn, 1) := by decide +kernel
theorem dL_law_657 : decode cL_law 657 = .ok (.aload_n 1, 1) := by decide +kernel
theorem dL_law_658 : decode cL_law 658 = .ok (.aload_n 0, 1) := by decide +kernel
theorem dL_law_659 : decode cL_law 659 = .ok (.iload_n 3, 1) := by decide +kernel
theorem dL_law_660 : decode cL_law 660 = .ok (.iconst 1, 1) := by decide +kernel
theorem dL_law_661 : decode cL_law 661 = .ok (.iadd, 1) := by decide +kernel
theorem dL_law_662 : decode cL_law 662 = .ok (.iaload, 1) := by decide +kernel
theorem dL_law_663 : decode cL_law 663 = .ok (.invokevirtual 86, 3) := by decide +kernel
theorem dL_law_666 : decode cL_law 666 = .ok (.aload_n 2, 1) := by decide +kernel
theorem dL_law_667 : decode cL_law 667 = .ok (.aload_n 0, 1) := by decide +kernel
theorem dL_law_668 : decode cL_law 668 = .ok (.iload_n 3, 1) := by decide +kernel
theorem dL_law_669 : decode cL_law 669 = .ok (.iconst 1, 1) := by decide +kernel
theorem dL_law_670 : decode cL_law 670 = .ok (.iadd, 1) := by decide +kernel
theorem dL_law_671 : decode cL_law 671 = .ok (.iaload, 1) := by decide +kernel
theorem dL_law_672 : decode cL_law 672 = .ok (.invokevirtual 89, 3) := by decide +kernel
theorem dL_law_675 : decode cL_law 675 = .ok (.if_icmp .eq 232, 3) := by decide +kernel
theorem dL_law_678 : decode cL_law 678 = .ok (.iconst 0, 1) := by decide +kernel
theorem dL_law_679 : decode cL_law 679 = .ok (.ireturn, 1) := by decide +kernel
theorem dL_law_680 : decode cL_law 680 = .ok (.aload_n 1, 1) := by decide +kernel
theorem dL_law_681 : decode cL_law 681 = .ok (.aload_n 0, 1) := by decide +kernel
theorem dL_law_682 : decode cL_law 682 = .ok (.iload_n 3, 1) := by decide +kernel
theorem dL_law_683 : decode cL_law 683 = .ok (.iconst 1, 1) := by decide +kernel
theorem dL_law_684 : decode cL_law 684 = .ok (.iadd, 1) := by decide +kernel
theorem dL_law_685 : decode cL_law 685 = .ok (.iaload, 1) := by decide +kernel
theorem dL_law_686 : decode cL_law 686 = .ok (.aload_n 0, 1) := by decide +kernel
theorem dL_law_687 : decode cL_law 687 = .ok (.iload_n 3, 1) := by decide +kernel
theorem dL_law_688 : decode cL_law 688 = .ok (.iconst 2, 1) := by decide +kernel
theorem dL_law_689 : decode cL_law 689 = .ok (.iadd, 1) := by decide +kernel
theorem dL_law_690 : decode cL_law 690 = .ok (.iaload, 1) := by decide +kernel
theorem dL_law_691 : decode cL_law 691 = .ok (.invokevirtual 90, 3) := by decide +kernel
theorem dL_law_694 : decode cL_law 694 = .ok (.aload_n 2, 1) := by decide +kernel
theorem dL_law_695 : decode cL_law 695 = .ok (.aload_n 0, 1) := by decide +kernel
theorem dL_law_696 : decode cL_law 696 = .ok (.iload_n 3, 1) := by decide +kernel
theorem dL_law_697 : decode cL_law 697 = .ok (.iconst 1, 1) := by decide +kernel
theorem dL_law_698 : decode cL_law 698 = .ok (.iadd, 1) := by decide +kernel
theorem dL_law_699 : decode cL_law 699 = .ok (.iaload, 1) := by decide +kernel
theorem dL_law_700 : decode cL_law 700 = .ok (.aload_n 0, 1) := by decide +kernel
theorem dL_law_701 : decode cL_law 701 = .ok (.iload_n 3, 1) := by decide +kernel
theorem dL_law_702 : decode cL_law 702 = .ok (.iconst 2, 1) := by decide +kernel
theorem dL_law_703 : decode cL_law 703 = .ok (.iadd, 1) := by decide +kernel
theorem dL_law_704 : decode cL_law 704 = .ok (.iaload, 1) := by decide +kernel
theorem dL_law_705 : decode cL_law 705 = .ok (.invokevirtual 93, 3) := by decide +kernel
theorem dL_law_708 : decode cL_law 708 = .ok (.if_icmp .eq 199, 3) := by decide +kernel
theorem dL_law_711 : decode cL_law 711 = .ok (.iconst 0, 1) := by decide +kernel
theorem dL_law_712 : decode cL_law 712 = .ok (.ireturn, 1) := by decide +kernel
theorem dL_law_713 : decode cL_law 713 = .ok (.aload_n 1, 1) := by decide +kernel
theorem dL_law_714 : decode cL_law 714 = .ok (.aload_n 0, 1) := by decide +kernel
theorem dL_law_715 : decode cL_law 715 = .ok (.iload_n 3, 1) := by decide +kernel
theorem dL_law_716 : decode cL_law 716 = .ok (.iconst 1, 1) := by decide +kernel
theorem dL_law_717 : decode cL_law 717 = .ok (.iadd, 1) := by decide +kernel
theorem dL_law_718 : decode cL_law 718 = .ok (.iaload, 1) := by decide +kernel
theorem dL_law_719 : decode cL_law 719 = .ok (.invokevirtual 94, 3) := by decide +kernel
theorem dL_law_722 : decode cL_law 722 = .ok (.aload_n 2, 1) := by decide +kernel
theorem dL_law_723 : decode cL_law 723 = .ok (.aload_n 0, 1) := by decide +kernel
theorem dL_law_724 : decode cL_law 724 = .ok (.iload_n 3, 1) := by decide +kernel
theorem dL_law_725 : decode cL_law 725 = .ok (.iconst 1, 1) := by decide +kernel
theorem dL_law_726 : decode cL_law 726 = .ok (.iadd, 1) := by decide +kernel
theorem dL_law_727 : decode cL_law 727 = .ok (.iaload, 1) := by decide +kernel
theorem dL_law_728 : decode cL_law 728 = .ok (.invokevirtual 97, 3) := by decide +kernel
theorem dL_law_731 : decode cL_law 731 = .ok (.if_icmp .eq 176, 3) := by decide +kernel
theorem dL_law_734 : decode cL_law 734 = .ok (.iconst 0, 1) := by decide +kernel
theorem dL_law_735 : decode cL_law 735 = .ok (.ireturn, 1) := by decide +kernel
theorem dL_law_736 : decode cL_law 736 = .ok (.aload_n 1, 1) := by decide +kernel
theorem dL_law_737 : decode cL_law 737 = .ok (.aload_n 0, 1) := by decide +kernel
theorem dL_law_738 : decode cL_law 738 = .ok (.iload_n 3, 1) := by decide +kernel
theorem dL_law_739 : decode cL_law 739 = .ok (.iconst 1, 1) := by decide +kernel
theorem dL_law_740 : decode cL_law 740 = .ok (.iadd, 1) := by decide +kernel
theorem dL_law_741 : decode cL_law 741 = .ok (.iaload, 1) := by decide +kernel
theorem dL_law_742 : decode cL_law 742 = .ok (.invokevirtual 98, 3) := by decide +kernel
theorem dL_law_745 : decode cL_law 745 = .ok (.aload_n 2, 1) := by decide +kernel
theorem dL_law_746 : decode cL_law 746 = .ok (.aload_n 0, 1) := by decide +kernel
theorem dL_law_747 : decode cL_law 747 = .ok (.iload_n 3, 1) := by decide +kernel
theorem dL_law_748 : decode cL_law 748 = .ok (.iconst 1, 1) := by decide +kernel
theorem dL_law_749 : decode cL_law 749 = .ok (.iadd, 1) := by decide +kernel
theorem dL_law_750 : decode cL_law 750 = .ok (.iaload, 1) := by decide +kernel
theorem dL_law_751 : decode cL_law 751 = .ok (.invokevirtual 101, 3) := by decide +kernel
theorem dL_law_754 : decode cL_law 754 = .ok (.if_icmp .eq 153, 3) := by decide +kernel
theorem dL_law_757 : decode cL_law 757 = .ok (.iconst 0, 1) := by decide +kernel
theorem dL_law_758 : decode cL_law 758 = .ok (.ireturn, 1) := by decide +kernel
theorem dL_law_759 : decode cL_law 759 = .ok (.aload_n 1, 1) := by decide +kernel
theorem dL_law_760 : decode cL_law 760 = .ok (.aload_n 0, 1) := by decide +kernel
theorem dL_law_761 : decode cL_law 761 = .ok (.iload_n 3, 1) := by decide +kernel
theorem dL_law_762 : decode cL_law 762 = .ok (.iconst 1, 1) := by decide +kernel
theorem dL_law_763 : decode cL_law 763 = .ok (.iadd, 1) := by decide +kernel
theorem dL_law_764 : decode cL_law 764 = .ok (.iaload, 1) := by decide +kernel
theorem dL_law_765 : decode cL_law 765 = .ok (.aload_n 0, 1) := by decide +kernel
theorem dL_law_766 : decode cL_law 766 = .ok (.iload_n 3, 1) := by decide +kernel
theorem dL_law_767 : decode cL_law 767 = .ok (.iconst 2, 1) := by decide +kernel
theorem dL_law_768 : decode cL_law 768 = .ok (.iadd, 1) := by decide +kernel
theorem dL_law_769 : decode cL_law 769 = .ok (.iaload, 1) := by decide +kernel
theorem dL_law_770 : decode cL_law 770 = .ok (.aload_n 0, 1) := by decide +kernel
theorem dL_law_771 : decode cL_law 771 = .ok (.iload_n 3, 1) := by decide +kernel
theorem dL_law_772 : decode cL_law 772 = .ok (.iconst 3, 1) := by decide +kernel
theorem dL_law_773 : decode cL_law 773 = .ok (.iadd, 1) := by decide +kernel
theorem dL_law_774 : decode cL_law 774 = .ok (.iaload, 1) := by decide +kernel
theorem dL_law_775 : decode cL_law 775 = .ok (.invokevirtual 102, 3) := by decide +kernel
theorem dL_law_778 : decode cL_law 778 = .ok (.aload_n 2, 1) := by decide +kernel
theorem dL_law_779 : decode cL_law 779 = .ok (.aload_n 0, 1) := by decide +kernel
theorem dL_law_780 : decode cL_law 780 = .ok (.iload_n 3, 1) := by decide +kernel
theorem dL_law_781 : decode cL_law 781 = .ok (.iconst 1, 1) := by decide +kernel
theorem dL_law_782 : decode cL_law 782 = .ok (.iadd, 1) := by decide +kernel
theorem dL_law_783 : decode cL_law 783 = .ok (.iaload, 1) := by decide +kernel
theorem dL_law_784 : decode cL_law 784 = .ok (.aload_n 0, 1) := by decide +kernel
theorem dL_law_785 : decode cL_law 785 = .ok (.iload_n 3, 1) := by decide +kernel
theorem dL_law_786 : decode cL_law 786 = .ok (.iconst 2, 1) := by decide +kernel
theorem dL_law_787 : decode cL_law 787 = .ok (.iadd, 1) := by decide +kernel
theorem dL_law_788 : decode cL_law 788 = .ok (.iaload, 1) := by decide +kernel
theorem dL_law_789 : decode cL_law 789 = .ok (.aload_n 0, 1) := by decide +kernel
theorem dL_law_790 : decode cL_law 790 = .ok (.iload_n 3, 1) := by decide +kernel
theorem dL_law_791 : decode cL_law 791 = .ok (.iconst 3, 1) := by decide +kernel
theorem dL_law_792 : decode cL_law 792 = .ok (.iadd, 1) := by decide +kernel
theorem dL_law_793 : decode cL_law 793 = .ok (.iaload, 1) := by decide +kernel
theorem dL_law_794 : decode cL_law 794 = .ok (.invokevirtual 105, 3) := by decide +kernel
theorem dL_law_797 : decode cL_law 797 = .ok (.if_icmp .eq 110, 3) := by decide +kernel
theorem dL_law_800 : decode cL_law 800 = .ok (.iconst 0, 1) := by decide +kernel
theorem dL_law_801 : decode cL_law 801 = .ok (.ireturn, 1) := by decide +kernel
theorem dL_law_802 : decode cL_law 802 = .ok (.aload_n 1, 1) := by decide +kernel
theorem dL_law_803 : decode cL_law 803 = .ok (.aload_n 0, 1) := by decide +kernel
theorem dL_law_804 : decode cL_law 804 = .ok (.iload_n 3, 1) := by decide +kernel
theorem dL_law_805 : decode cL_law 805 = .ok (.iconst 1, 1) := by decide +kernel
theorem dL_law_806 : decode cL_law 806 = .ok (.iadd, 1) := by decide +kernel
theorem dL_law_807 : decode cL_law 807 = .ok (.iaload, 1) := by decide +kernel
theorem dL_law_808 : decode cL_law 808 = .ok (.invokevirtual 106, 3) := by decide +kernel
theorem dL_law_811 : decode cL_law 811 = .ok (.aload_n 2, 1) := by decide +kernel
theorem dL_law_812 : decode cL_law 812 = .ok (.aload_n 0, 1) := by decide +kernel
theorem dL_law_813 : decode cL_law 813 = .ok (.iload_n 3, 1) := by decide +kernel
theorem dL_law_814 : decode cL_law 814 = .ok (.iconst 1, 1) := by decide +kernel
theorem dL_law_815 : decode cL_law 815 = .ok (.iadd, 1) := by decide +kernel
theorem dL_law_816 : decode cL_law 816 = .ok (.iaload, 1) := by decide +kernel
theorem dL_law_817 : decode cL_law 817 = .ok (.invokevirtual 109, 3) := by decide +kernel
theorem dL_law_820 : decode cL_law 820 = .ok (.if_icmp .eq 87, 3) := by decide +kernel
theorem dL_law_823 : decode cL_law 823 = .ok (.iconst 0, 1) := by decide +kernel
theorem dL_law_824 : decode cL_law 824 = .ok (.ireturn, 1) := by decide +kernel
theorem dL_law_825 : decode cL_law 825 = .ok (.aload_n 1, 1) := by decide +kernel
theorem dL_law_826 : decode cL_law 826 = .ok (.invokevirtual 110, 3) := by decide +kernel
theorem dL_law_829 : decode cL_law 829 = .ok (.aload_n 2, 1) := by decide +kernel
theorem dL_law_830 : decode cL_law 830 = .ok (.invokevirtual 113, 3) := by decide +kernel
theorem dL_law_833 : decode cL_law 833 = .ok (.if_icmp .eq 74, 3) := by decide +kernel
theorem dL_law_836 : decode cL_law 836 = .ok (.iconst 0, 1) := by decide +kernel
theorem dL_law_837 : decode cL_law 837 = .ok (.ireturn, 1) := by decide +kernel
theorem dL_law_838 : decode cL_law 838 = .ok (.aload_n 1, 1) := by decide +kernel
theorem dL_law_839 : decode cL_law 839 = .ok (.invokevirtual 114, 3) := by decide +kernel
theorem dL_law_842 : decode cL_law 842 = .ok (.aload_n 2, 1) := by decide +kernel
theorem dL_law_843 : decode cL_law 843 = .ok (.invokevirtual 117, 3) := by decide +kernel
theorem dL_law_846 : decode cL_law 846 = .ok (.if_icmp .eq 61, 3) := by decide +kernel
theorem dL_law_849 : decode cL_law 849 = .ok (.iconst 0, 1) := by decide +kernel
theorem dL_law_850 : decode cL_law 850 = .ok (.ireturn, 1) := by decide +kernel
theorem dL_law_851 : decode cL_law 851 = .ok (.aload_n 1, 1) := by decide +kernel
theorem dL_law_852 : decode cL_law 852 = .ok (.aload_n 0, 1) := by decide +kernel
theorem dL_law_853 : decode cL_law 853 = .ok (.iload_n 3, 1) := by decide +kernel
theorem dL_law_854 : decode cL_law 854 = .ok (.iconst 1, 1) := by decide +kernel
theorem dL_law_855 : decode cL_law 855 = .ok (.iadd, 1) := by decide +kernel
theorem dL_law_856 : decode cL_law 856 = .ok (.iaload, 1) := by decide +kernel
theorem dL_law_857 : decode cL_law 857 = .ok (.invokevirtual 118, 3) := by decide +kernel
theorem dL_law_860 : decode cL_law 860 = .ok (.aload_n 2, 1) := by decide +kernel
theorem dL_law_861 : decode cL_law 861 = .ok (.aload_n 0, 1) := by decide +kernel
theorem dL_law_862 : decode cL_law 862 = .ok (.iload_n 3, 1) := by decide +kernel
theorem dL_law_863 : decode cL_law 863 = .ok (.iconst 1, 1) := by decide +kernel
theorem dL_law_864 : decode cL_law 864 = .ok (.iadd, 1) := by decide +kernel
theorem dL_law_865 : decode cL_law 865 = .ok (.iaload, 1) := by decide +kernel
theorem dL_law_866 : decode cL_law 866 = .ok (.invokevirtual 121, 3) := by decide +kernel
theorem dL_law_869 : decode cL_law 869 = .ok (.if_icmp .eq 38, 3) := by decide +kernel
theorem dL_law_872 : decode cL_law 872 = .ok (.iconst 0, 1) := by decide +kernel
theorem dL_law_873 : decode cL_law 873 = .ok (.ireturn, 1) := by decide +kernel
theorem dL_law_874 : decode cL_law 874 = .ok (.aload_n 1, 1) := by decide +kernel
theorem dL_law_875 : decode cL_law 875 = .ok (.aload_n 0, 1) := by decide +kernel
theorem dL_law_876 : decode cL_law 876 = .ok (.iload_n 3, 1) := by decide +kernel
theorem dL_law_877 : decode cL_law 877 = .ok (.iconst 1, 1) := by decide +kernel
theorem dL_law_878 : decode cL_law 878 = .ok (.iadd, 1) := by decide +kernel
theorem dL_law_879 : decode cL_law 879 = .ok (.iaload, 1) := by decide +kernel
theorem dL_law_880 : decode cL_law 880 = .ok (.aload_n 0, 1) := by decide +kernel
theorem dL_law_881 : decode cL_law 881 = .ok (.iload_n 3, 1) := by decide +kernel
theorem dL_law_882 : decode cL_law 882 = .ok (.iconst 2, 1) := by decide +kernel
theorem dL_law_883 : decode cL_law 883 = .ok (.iadd, 1) := by decide +kernel
theorem dL_law_884 : decode cL_law 884 = .ok (.iaload, 1) := by decide +kernel
theorem dL_law_885 : decode cL_law 885 = .ok (.invokevirtual 122, 3) := by decide +kernel
theorem dL_law_888 : decode cL_law 888 = .ok (.aload_n 2, 1) := by decide +kernel
theorem dL_law_889 : decode cL_law 889 = .ok (.aload_n 0, 1) := by decide +kernel
theorem dL_law_890 : decode cL_law 890 = .ok (.iload_n 3, 1) := by decide +kernel
theorem dL_law_891 : decode cL_law 891 = .ok (.iconst 1, 1) := by decide +kernel
theorem dL_law_892 : decode cL_law 892 = .ok (.iadd, 1) := by decide +kernel
theorem dL_law_893 : decode cL_law 893 = .ok (.iaload, 1) := by decide +kernel
theorem dL_law_894 : decode cL_law 894 = .ok (.aload_n 0, 1) := by decide +kernel
theorem dL_law_895 : decode cL_law 895 = .ok (.iload_n 3, 1) := by decide +kernel
theorem dL_law_896 : decode cL_law 896 = .ok (.iconst 2, 1) := by decide +kernel
theorem dL_law_897 : decode cL_law 897 = .ok (.iadd, 1) := by decide +kernel
theorem dL_law_898 : decode cL_law 898 = .ok (.iaload, 1) := by decide +kernel
theorem dL_law_899 : decode cL_law 899 = .ok (.invokevirtual 125, 3) := by decide +kernel
theorem dL_law_902 : decode cL_law 902 = .ok (.if_icmp .eq 5, 3) := by decide +kernel
theorem dL_law_905 : decode cL_law 905 = .ok (.iconst 0, 1) := by decide +kernel
theorem dL_law_906 : decode cL_law 906 = .ok (.ireturn, 1) := by decide +kernel
theorem dL_law_907 : decode cL_law 907 = .ok (.iinc 3 6, 3) := by decide +kernel
theorem dL_law_910 : decode cL_law 910 = .ok (.goto (-892), 3) := by decide +kernel
theorem dL_law_913 : decode cL_law 913 = .ok (.iconst 1, 1) := by decide +kernel
theorem dL_law_914 : decode cL_law 914 = .ok (.ireturn, 1) := by decide +kernel
end
section
/-- the words that hold in every state -/
def lw_gd : List Cond := lw_tbl.filter goodWord
theorem gd_in {w : Cond} (h : w ∈ lw_tbl) (hg : goodWord w = true) : w ∈ lw_gd := List.mem_filter.mpr ⟨h, hg⟩
/-! the Int level: a machine int is iz of an Int -/
def iz (a : Int) : Int32 := Int32.ofInt a
def lz (a : Int) : Int64 := Int64.ofInt a
def wr (a : Int) : Int := (iz a).toInt
theorem iz_toInt (x : Int32) : iz x.toInt = x := Int32.ofInt_toInt x
theorem lz_toInt (x : Int64) : lz x.toInt = x := Int64.ofInt_toInt x
theorem iz_add (a b : Int) : iz (a + b) = iz a + iz b := Int32.ofInt_add a b
theorem iz_sub (a b : Int) : iz (a - b) = iz a - iz b := Int32.ofInt_sub a b
theorem iz_mul (a b : Int) : iz (a * b) = iz a * iz b := Int32.ofInt_mul a b
theorem iz_neg (a : Int) : iz (-a) = -iz a := Int32.ofInt_neg a
theorem wr_eq (a : Int) : wr a = a.bmod (2 ^ 32) := by unfold wr iz; exact Int32.toInt_ofInt
theorem wr_id {a : Int} (h : -2147483648 ≤ a ∧ a < 2147483648) : wr a = a := by
  rw [wr_eq]; exact Int.bmod_eq_of_le (by omega) (by omega)
theorem wr_lo (a : Int) : -2147483648 ≤ wr a := by unfold wr; exact Int32.le_toInt _
theorem wr_hi (a : Int) : wr a < 2147483648 := by unfold wr; exact Int32.toInt_lt _
theorem iz_lt (a b : Int) : iz a < iz b ↔ wr a < wr b := Int32.lt_iff_toInt_lt
theorem iz_le (a b : Int) : iz a ≤ iz b ↔ wr a ≤ wr b := Int32.le_iff_toInt_le
theorem iz_eq (a b : Int) : iz a = iz b ↔ wr a = wr b := ⟨fun h => congrArg Int32.toInt h, fun h => Int32.toInt_inj.mp h⟩
theorem iz_0 : (0 : Int32) = iz 0 := by decide
theorem wr_0 : wr 0 = 0 := by decide
def andI (a b : Int) : Int := (iz a &&& iz b).toInt
def orI (a b : Int) : Int := (iz a ||| iz b).toInt
def xorI (a b : Int) : Int := (iz a ^^^ iz b).toInt
def shlI (a b : Int) : Int := (iz a <<< (iz b &&& 31)).toInt
def shrI (a b : Int) : Int := (iz a >>> (iz b &&& 31)).toInt
def ushrI (a b : Int) : Int := ((iz a).toUInt32 >>> ((iz b).toUInt32 &&& Int32.toUInt32 31)).toInt32.toInt
def divI (a b : Int) : Int := (iz a / iz b).toInt
def remI (a b : Int) : Int := (iz a - iz a / iz b * iz b).toInt
def l2iI (x : Int64) : Int := x.toInt32.toInt
def f2iI (x : UInt32) : Int := (FP.f2i x).toInt
/-! the words of the printed functions -/
def nm {α β : Type} (x : α) (f : α → β) : β := f x
def bd {O : Type} (i : Int) (n : Nat) (F : Option O) : Option O := if 0 ≤ i ∧ i < (n : Int) then F else none
def cb {O : Type} (a : Int) (F : Option O) : Option O := if a = 0 ∨ a = 1 then F else none
def cz {O : Type} (b : Int) (F : Option O) : Option O := if wr b = 0 then none else F
def cf {O : Type} (x : UInt32) (F : Option O) : Option O := if x &&& 0x7fffffff ≤ 0x7f800000 then F else none
def cls {σ ρ O : Type} (fc : Option (Int × ρ)) (put : ρ → σ) (F : Int → σ → Option O) : Option O := fc.bind fun q => F q.1 (put q.2)
def clv {σ ρ O : Type} (fc : Option ρ) (put : ρ → σ) (F : σ → Option O) : Option O := fc.bind fun q => F (put q)
def clp {O : Type} (fc : Option Int) (F : Int → Option O) : Option O := fc.bind F
abbrev St : Type := (Nat → Int) × (Nat → Nat → Int)
def setI (S : St) (k : Nat) (a : Int) : St := (fun j => if j = k then a else S.1 j, S.2)
def setA (S : St) (k i : Nat) (a : Int) : St := (S.1, fun j => if j = k then (fun x => if x = i then a else S.2 k x) else S.2 j)
def setR (S : St) (k : Nat) (f : Nat → Int) : St := (S.1, fun j => if j = k then f else S.2 j)
/-! what stands still while a method runs -/
abbrev Cx : Type := (Program × Launch × Env × Room) × (State × MethodId × Array Value × List Frame) × (Method × Code × Nat × (Nat → Prop))
abbrev cxp (X : Cx) : Program := X.1.1
abbrev cxl (X : Cx) : Launch := X.1.2.1
abbrev cxe (X : Cx) : Env := X.1.2.2.1
abbrev cxR (X : Cx) : Room := X.1.2.2.2
abbrev cxs (X : Cx) : State := X.2.1.1
abbrev cxm (X : Cx) : MethodId := X.2.1.2.1
abbrev cxa (X : Cx) : Array Value := X.2.1.2.2.1
abbrev cxb (X : Cx) : List Frame := X.2.1.2.2.2
abbrev cxM (X : Cx) : Method := X.2.2.1
abbrev cxc (X : Cx) : Code := X.2.2.2.1
abbrev cxn (X : Cx) : Nat := X.2.2.2.2.1
abbrev cxA (X : Cx) : Nat → Prop := X.2.2.2.2.2
abbrev tyX (y : ClassId × ClassId × ClassId) : List (ClassId × FieldType) := [(y.1, .int), (y.2.1, .long), (y.2.2, .boolean)]
abbrev WX (X : Cx) (H : Heap) (locs : List Loc) (z : Nat × Nat) (Q : State → Prop) (g : JFrame) : Prop := W (cxp X) (cxl X) (cxe X) (cxR X) (cxs X) (cxm X) (cxa X) (cxb X) (cxM X) (cxc X) H locs z.1 z.2 Q g
def OKX (X : Cx) (cc : ByteArray) (own : String) (rm : Room) (ret : Option FieldType) (D : va_G) (y : ClassId × ClassId × ClassId) : Prop :=
  (cxp X).tables.exec = Jvm.exec ∧ (cxc X).code = cc ∧ (cxc X).maxLocals = cxn X ∧ (cxs X).vm.findClass own = some (cxm X).cls ∧ (∀ w ∈ lw_gd, w.before (cxa X) (cxs X) = true) ∧ va_K D vwCl (tyX y) (cxs X) ∧ (∀ q, (cxs X).heap.size ≤ q → cxA X q) ∧ (cxM X).locks = false ∧ cxR X = rm ∧ (cxM X).sig.returnType = ret
/-- the locals, by their places; none: nothing is known of it -/
def lvP (ls : Array Slot) (nL : Nat) (lv : List (Option Value)) : Prop := ls.size = nL ∧ lv.length = nL ∧ lv_wf ls ∧ ∀ (i : Nat) (v : Value), lv[i]? = some (some v) → ls[i]? = some (.val v) ∧ v.category = 1
/-- from this frame and world on the machine does what F says -/
def GF {O : Type} (X : Cx) (cc : ByteArray) (D : va_G) (z : Nat × Nat) (Q : O → State → Prop) (F : Option O) (pc : Nat) (lv : List (Option Value)) (st : List Value) (ws : va_W) : Prop :=
  ∀ o, F = some o → ∀ (H : Heap) (locs : List Loc) (ls : Array Slot), va_P D vwCl ws H → va_D (cxA X) ws → va_S (cxA X) (cxs X).heap H locs → lvP ls (cxn X) lv → WX X H locs z (Q o) (F0 (cxm X) pc ls st)
def lvl (lv : List (Option Value)) : List (Nat × Value) := (List.range lv.length).filterMap (fun i => match lv[i]? with | some (some v) => some (i, v) | _ => none)
theorem lvl_mem {lv : List (Option Value)} {q : Nat × Value} (h : q ∈ lvl lv) : lv[q.1]? = some (some q.2) := by
  obtain ⟨i, -, hi⟩ := List.mem_filterMap.mp h
  split at hi
  · next v hv => cases hi; exact hv
  · cases hi
theorem mem_lvl {lv : List (Option Value)} {i : Nat} {v : Value} (h : lv[i]? = some (some v)) : (i, v) ∈ lvl lv := by
  have hl : i < lv.length := (List.getElem?_eq_some_iff.mp h).1
  exact List.mem_filterMap.mpr ⟨i, List.mem_range.mpr hl, by rw [h]⟩
theorem lvP.has {ls : Array Slot} {nL : Nat} {lv : List (Option Value)} (h : lvP ls nL lv) : lv_has ls nL (lvl lv) := ⟨h.1, h.2.2.1, fun _ hq => (h.2.2.2 _ _ (lvl_mem hq)).1⟩
theorem lvP.store {ls ls' : Array Slot} {nL i : Nat} {lv : List (Option Value)} {v : Value} (h : lvP ls nL lv) (hv : v.category = 1) (hs : lv_has ls' nL ((i, v) :: (lvl lv).filter (fun q => !(q.1 == i) && !(q.1 + 1 == i && q.2.category == 2)))) : lvP ls' nL (lv.set i (some v)) := by
  refine ⟨hs.1, by rw [List.length_set]; exact h.2.1, hs.2.1, fun j w hw => ?_⟩
  by_cases hj : i = j
  · subst hj
    by_cases hl : i < lv.length
    · rw [List.getElem?_set_self hl] at hw
      cases hw
      exact ⟨hs.2.2 (i, v) List.mem_cons_self, hv⟩
    · rw [List.getElem?_eq_none (by rw [List.length_set]; omega)] at hw
      cases hw
  · rw [List.getElem?_set_ne hj] at hw
    have h1 := h.2.2.2 j w hw
    refine ⟨hs.2.2 (j, w) (List.mem_cons_of_mem _ (List.mem_filter.mpr ⟨mem_lvl hw, ?_⟩)), h1.2⟩
    simp only [Bool.and_eq_true, Bool.not_eq_true', beq_eq_false_iff_ne, ne_eq, Bool.and_eq_false_iff]
    exact ⟨fun q => hj q.symm, Or.inr (by rw [h1.2]; decide)⟩
end
section
theorem g_iadd {O : Type} {X : Cx} {cc : ByteArray} {own : String} {rm : Room} {ret : Option FieldType} {D : va_G} {y : ClassId × ClassId × ClassId} {z : Nat × Nat} {Q : O → State → Prop} {F : Option O} {pc pc' : Nat} {lv : List (Option Value)} {st : List Value} {ws : va_W} (hX : OKX X cc own rm ret D y) {a b : Int} (hd : decode cc pc = .ok (.iadd, 1)) (hp : pc + 1 = pc') (k : GF X cc D z Q F pc' lv (.int (iz (a + b)) :: st) ws) : GF X cc D z Q F pc lv (.int (iz b) :: .int (iz a) :: st) ws := by
  subst hp
  intro o ho H locs ls hP hD hS hl
  have k := k o ho H locs ls hP hD hS hl
  rw [iz_add] at k
  exact lv_iadd hX.1 hX.2.1 hd k
theorem g_isub {O : Type} {X : Cx} {cc : ByteArray} {own : String} {rm : Room} {ret : Option FieldType} {D : va_G} {y : ClassId × ClassId × ClassId} {z : Nat × Nat} {Q : O → State → Prop} {F : Option O} {pc pc' : Nat} {lv : List (Option Value)} {st : List Value} {ws : va_W} (hX : OKX X cc own rm ret D y) {a b : Int} (hd : decode cc pc = .ok (.isub, 1)) (hp : pc + 1 = pc') (k : GF X cc D z Q F pc' lv (.int (iz (a - b)) :: st) ws) : GF X cc D z Q F pc lv (.int (iz b) :: .int (iz a) :: st) ws := by
  subst hp
  intro o ho H locs ls hP hD hS hl
  have k := k o ho H locs ls hP hD hS hl
  rw [iz_sub] at k
  exact lv_isub hX.1 hX.2.1 hd k
theorem g_imul {O : Type} {X : Cx} {cc : ByteArray} {own : String} {rm : Room} {ret : Option FieldType} {D : va_G} {y : ClassId × ClassId × ClassId} {z : Nat × Nat} {Q : O → State → Prop} {F : Option O} {pc pc' : Nat} {lv : List (Option Value)} {st : List Value} {ws : va_W} (hX : OKX X cc own rm ret D y) {a b : Int} (hd : decode cc pc = .ok (.imul, 1)) (hp : pc + 1 = pc') (k : GF X cc D z Q F pc' lv (.int (iz (a * b)) :: st) ws) : GF X cc D z Q F pc lv (.int (iz b) :: .int (iz a) :: st) ws := by
  subst hp
  intro o ho H locs ls hP hD hS hl
  have k := k o ho H locs ls hP hD hS hl
  rw [iz_mul] at k
  exact lv_imul hX.1 hX.2.1 hd k
theorem g_iand {O : Type} {X : Cx} {cc : ByteArray} {own : String} {rm : Room} {ret : Option FieldType} {D : va_G} {y : ClassId × ClassId × ClassId} {z : Nat × Nat} {Q : O → State → Prop} {F : Option O} {pc pc' : Nat} {lv : List (Option Value)} {st : List Value} {ws : va_W} (hX : OKX X cc own rm ret D y) {a b : Int} (hd : decode cc pc = .ok (.iand, 1)) (hp : pc + 1 = pc') (k : GF X cc D z Q F pc' lv (.int (iz (andI a b)) :: st) ws) : GF X cc D z Q F pc lv (.int (iz b) :: .int (iz a) :: st) ws := by
  subst hp
  intro o ho H locs ls hP hD hS hl
  have k := k o ho H locs ls hP hD hS hl
  rw [andI, iz_toInt] at k
  exact lv_iand hX.1 hX.2.1 hd k
theorem g_ior {O : Type} {X : Cx} {cc : ByteArray} {own : String} {rm : Room} {ret : Option FieldType} {D : va_G} {y : ClassId × ClassId × ClassId} {z : Nat × Nat} {Q : O → State → Prop} {F : Option O} {pc pc' : Nat} {lv : List (Option Value)} {st : List Value} {ws : va_W} (hX : OKX X cc own rm ret D y) {a b : Int} (hd : decode cc pc = .ok (.ior, 1)) (hp : pc + 1 = pc') (k : GF X cc D z Q F pc' lv (.int (iz (orI a b)) :: st) ws) : GF X cc D z Q F pc lv (.int (iz b) :: .int (iz a) :: st) ws := by
  subst hp
  intro o ho H locs ls hP hD hS hl
  have k := k o ho H locs ls hP hD hS hl
  rw [orI, iz_toInt] at k
  exact lv_ior hX.1 hX.2.1 hd k
theorem g_ixor {O : Type} {X : Cx} {cc : ByteArray} {own : String} {rm : Room} {ret : Option FieldType} {D : va_G} {y : ClassId × ClassId × ClassId} {z : Nat × Nat} {Q : O → State → Prop} {F : Option O} {pc pc' : Nat} {lv : List (Option Value)} {st : List Value} {ws : va_W} (hX : OKX X cc own rm ret D y) {a b : Int} (hd : decode cc pc = .ok (.ixor, 1)) (hp : pc + 1 = pc') (k : GF X cc D z Q F pc' lv (.int (iz (xorI a b)) :: st) ws) : GF X cc D z Q F pc lv (.int (iz b) :: .int (iz a) :: st) ws := by
  subst hp
  intro o ho H locs ls hP hD hS hl
  have k := k o ho H locs ls hP hD hS hl
  rw [xorI, iz_toInt] at k
  exact lv_ixor hX.1 hX.2.1 hd k
theorem g_ishl {O : Type} {X : Cx} {cc : ByteArray} {own : String} {rm : Room} {ret : Option FieldType} {D : va_G} {y : ClassId × ClassId × ClassId} {z : Nat × Nat} {Q : O → State → Prop} {F : Option O} {pc pc' : Nat} {lv : List (Option Value)} {st : List Value} {ws : va_W} (hX : OKX X cc own rm ret D y) {a b : Int} (hd : decode cc pc = .ok (.ishl, 1)) (hp : pc + 1 = pc') (k : GF X cc D z Q F pc' lv (.int (iz (shlI a b)) :: st) ws) : GF X cc D z Q F pc lv (.int (iz b) :: .int (iz a) :: st) ws := by
  subst hp
  intro o ho H locs ls hP hD hS hl
  have k := k o ho H locs ls hP hD hS hl
  rw [shlI, iz_toInt] at k
  exact lv_ishl hX.1 hX.2.1 hd k
theorem g_ishr {O : Type} {X : Cx} {cc : ByteArray} {own : String} {rm : Room} {ret : Option FieldType} {D : va_G} {y : ClassId × ClassId × ClassId} {z : Nat × Nat} {Q : O → State → Prop} {F : Option O} {pc pc' : Nat} {lv : List (Option Value)} {st : List Value} {ws : va_W} (hX : OKX X cc own rm ret D y) {a b : Int} (hd : decode cc pc = .ok (.ishr, 1)) (hp : pc + 1 = pc') (k : GF X cc D z Q F pc' lv (.int (iz (shrI a b)) :: st) ws) : GF X cc D z Q F pc lv (.int (iz b) :: .int (iz a) :: st) ws := by
  subst hp
  intro o ho H locs ls hP hD hS hl
  have k := k o ho H locs ls hP hD hS hl
  rw [shrI, iz_toInt] at k
  exact lv_ishr hX.1 hX.2.1 hd k
theorem g_iushr {O : Type} {X : Cx} {cc : ByteArray} {own : String} {rm : Room} {ret : Option FieldType} {D : va_G} {y : ClassId × ClassId × ClassId} {z : Nat × Nat} {Q : O → State → Prop} {F : Option O} {pc pc' : Nat} {lv : List (Option Value)} {st : List Value} {ws : va_W} (hX : OKX X cc own rm ret D y) {a b : Int} (hd : decode cc pc = .ok (.iushr, 1)) (hp : pc + 1 = pc') (k : GF X cc D z Q F pc' lv (.int (iz (ushrI a b)) :: st) ws) : GF X cc D z Q F pc lv (.int (iz b) :: .int (iz a) :: st) ws := by
  subst hp
  intro o ho H locs ls hP hD hS hl
  have k := k o ho H locs ls hP hD hS hl
  rw [ushrI, iz_toInt] at k
  exact lv_iushr hX.1 hX.2.1 hd rfl k
theorem g_ineg {O : Type} {X : Cx} {cc : ByteArray} {own : String} {rm : Room} {ret : Option FieldType} {D : va_G} {y : ClassId × ClassId × ClassId} {z : Nat × Nat} {Q : O → State → Prop} {F : Option O} {pc pc' : Nat} {lv : List (Option Value)} {st : List Value} {ws : va_W} (hX : OKX X cc own rm ret D y) {a : Int} (hd : decode cc pc = .ok (.ineg, 1)) (hp : pc + 1 = pc') (k : GF X cc D z Q F pc' lv (.int (iz (-a)) :: st) ws) : GF X cc D z Q F pc lv (.int (iz a) :: st) ws := by
  subst hp
  intro o ho H locs ls hP hD hS hl
  have k := k o ho H locs ls hP hD hS hl
  rw [iz_neg] at k
  exact lv_ineg hX.1 hX.2.1 hd k
theorem g_idiv {O : Type} {X : Cx} {cc : ByteArray} {own : String} {rm : Room} {ret : Option FieldType} {D : va_G} {y : ClassId × ClassId × ClassId} {z : Nat × Nat} {Q : O → State → Prop} {F : Option O} {pc pc' : Nat} {lv : List (Option Value)} {st : List Value} {ws : va_W} (hX : OKX X cc own rm ret D y) {a b : Int} (hd : decode cc pc = .ok (.idiv, 1)) (hp : pc + 1 = pc') (k : GF X cc D z Q F pc' lv (.int (iz (divI a b)) :: st) ws) : GF X cc D z Q (cz b F) pc lv (.int (iz b) :: .int (iz a) :: st) ws := by
  subst hp
  intro o ho H locs ls hP hD hS hl
  unfold cz at ho
  split at ho
  · cases ho
  · next hb =>
    have k := k o ho H locs ls hP hD hS hl
    rw [divI, iz_toInt] at k
    exact lv_idiv hX.1 hX.2.1 hd (fun q => hb (by rw [iz_0] at q; rw [(iz_eq _ _).mp q]; exact wr_0)) k
theorem g_irem {O : Type} {X : Cx} {cc : ByteArray} {own : String} {rm : Room} {ret : Option FieldType} {D : va_G} {y : ClassId × ClassId × ClassId} {z : Nat × Nat} {Q : O → State → Prop} {F : Option O} {pc pc' : Nat} {lv : List (Option Value)} {st : List Value} {ws : va_W} (hX : OKX X cc own rm ret D y) {a b : Int} (hd : decode cc pc = .ok (.irem, 1)) (hp : pc + 1 = pc') (k : GF X cc D z Q F pc' lv (.int (iz (remI a b)) :: st) ws) : GF X cc D z Q (cz b F) pc lv (.int (iz b) :: .int (iz a) :: st) ws := by
  subst hp
  intro o ho H locs ls hP hD hS hl
  unfold cz at ho
  split at ho
  · cases ho
  · next hb =>
    have k := k o ho H locs ls hP hD hS hl
    rw [remI, iz_toInt] at k
    exact lv_irem hX.1 hX.2.1 hd (fun q => hb (by rw [iz_0] at q; rw [(iz_eq _ _).mp q]; exact wr_0)) k
theorem g_iconst {O : Type} {X : Cx} {cc : ByteArray} {own : String} {rm : Room} {ret : Option FieldType} {D : va_G} {y : ClassId × ClassId × ClassId} {z : Nat × Nat} {Q : O → State → Prop} {F : Option O} {pc pc' : Nat} {lv : List (Option Value)} {st : List Value} {ws : va_W} (hX : OKX X cc own rm ret D y) {n : Int} (hd : decode cc pc = .ok (.iconst n, 1)) (hp : pc + 1 = pc') (k : GF X cc D z Q F pc' lv (.int (iz n) :: st) ws) : GF X cc D z Q F pc lv st ws := by
  subst hp
  intro o ho H locs ls hP hD hS hl
  exact lv_iconst hX.1 hX.2.1 hd rfl (k o ho H locs ls hP hD hS hl)
theorem g_bipush {O : Type} {X : Cx} {cc : ByteArray} {own : String} {rm : Room} {ret : Option FieldType} {D : va_G} {y : ClassId × ClassId × ClassId} {z : Nat × Nat} {Q : O → State → Prop} {F : Option O} {pc pc' : Nat} {lv : List (Option Value)} {st : List Value} {ws : va_W} (hX : OKX X cc own rm ret D y) {n : Int} (hd : decode cc pc = .ok (.bipush n, 2)) (hv : (Int8.ofInt n).toInt32 = iz n) (hp : pc + 2 = pc') (k : GF X cc D z Q F pc' lv (.int (iz n) :: st) ws) : GF X cc D z Q F pc lv st ws := by
  subst hp
  intro o ho H locs ls hP hD hS hl
  exact lv_bipush hX.1 hX.2.1 hd hv (k o ho H locs ls hP hD hS hl)
theorem g_sipush {O : Type} {X : Cx} {cc : ByteArray} {own : String} {rm : Room} {ret : Option FieldType} {D : va_G} {y : ClassId × ClassId × ClassId} {z : Nat × Nat} {Q : O → State → Prop} {F : Option O} {pc pc' : Nat} {lv : List (Option Value)} {st : List Value} {ws : va_W} (hX : OKX X cc own rm ret D y) {n : Int} (hd : decode cc pc = .ok (.sipush n, 3)) (hv : (Int16.ofInt n).toInt32 = iz n) (hp : pc + 3 = pc') (k : GF X cc D z Q F pc' lv (.int (iz n) :: st) ws) : GF X cc D z Q F pc lv st ws := by
  subst hp
  intro o ho H locs ls hP hD hS hl
  exact lv_sipush hX.1 hX.2.1 hd hv (k o ho H locs ls hP hD hS hl)
theorem g_ldc {O : Type} {X : Cx} {cc : ByteArray} {own : String} {rm : Room} {ret : Option FieldType} {D : va_G} {y : ClassId × ClassId × ClassId} {z : Nat × Nat} {Q : O → State → Prop} {F : Option O} {pc pc' : Nat} {lv : List (Option Value)} {st : List Value} {ws : va_W} (hX : OKX X cc own rm ret D y) {idx : Nat} {v : Int32} (n : Int) (hm : Cond.constant own idx v ∈ lw_gd) (hv : v = iz n) (hd : decode cc pc = .ok (.ldc idx, 2)) (hp : pc + 2 = pc') (k : GF X cc D z Q F pc' lv (.int (iz n) :: st) ws) : GF X cc D z Q F pc lv st ws := by
  subst hp
  subst hv
  intro o ho H locs ls hP hD hS hl
  exact lv_ldc hX.1 hX.2.1 hX.2.2.2.1 (hX.2.2.2.2.1 _ hm) hd (k o ho H locs ls hP hD hS hl)
theorem g_ldcw {O : Type} {X : Cx} {cc : ByteArray} {own : String} {rm : Room} {ret : Option FieldType} {D : va_G} {y : ClassId × ClassId × ClassId} {z : Nat × Nat} {Q : O → State → Prop} {F : Option O} {pc pc' : Nat} {lv : List (Option Value)} {st : List Value} {ws : va_W} (hX : OKX X cc own rm ret D y) {idx : Nat} {v : Int32} (n : Int) (hm : Cond.constant own idx v ∈ lw_gd) (hv : v = iz n) (hd : decode cc pc = .ok (.ldc_w idx, 3)) (hp : pc + 3 = pc') (k : GF X cc D z Q F pc' lv (.int (iz n) :: st) ws) : GF X cc D z Q F pc lv st ws := by
  subst hp
  subst hv
  intro o ho H locs ls hP hD hS hl
  exact lv_ldcw hX.1 hX.2.1 hX.2.2.2.1 (hX.2.2.2.2.1 _ hm) hd (k o ho H locs ls hP hD hS hl)
theorem g_ldcf {O : Type} {X : Cx} {cc : ByteArray} {own : String} {rm : Room} {ret : Option FieldType} {D : va_G} {y : ClassId × ClassId × ClassId} {z : Nat × Nat} {Q : O → State → Prop} {F : Option O} {pc pc' : Nat} {lv : List (Option Value)} {st : List Value} {ws : va_W} (hX : OKX X cc own rm ret D y) {idx : Nat} {v : UInt32} (hm : Cond.constantFloat own idx v ∈ lw_gd) (hd : decode cc pc = .ok (.ldc idx, 2)) (hp : pc + 2 = pc') (k : GF X cc D z Q F pc' lv (.float v :: st) ws) : GF X cc D z Q F pc lv st ws := by
  subst hp
  intro o ho H locs ls hP hD hS hl
  exact lv_ldcf hX.1 hX.2.1 hX.2.2.2.1 (hX.2.2.2.2.1 _ hm) hd (k o ho H locs ls hP hD hS hl)
theorem g_ldc2 {O : Type} {X : Cx} {cc : ByteArray} {own : String} {rm : Room} {ret : Option FieldType} {D : va_G} {y : ClassId × ClassId × ClassId} {z : Nat × Nat} {Q : O → State → Prop} {F : Option O} {pc pc' : Nat} {lv : List (Option Value)} {st : List Value} {ws : va_W} (hX : OKX X cc own rm ret D y) {idx : Nat} {v : Int64} (hm : Cond.constantLong own idx v ∈ lw_gd) (hd : decode cc pc = .ok (.ldc2_w idx, 3)) (hp : pc + 3 = pc') (k : GF X cc D z Q F pc' lv (.long v :: st) ws) : GF X cc D z Q F pc lv st ws := by
  subst hp
  intro o ho H locs ls hP hD hS hl
  exact lv_ldc2 hX.1 hX.2.1 hX.2.2.2.1 (hX.2.2.2.2.1 _ hm) hd (k o ho H locs ls hP hD hS hl)
theorem g_i2l {O : Type} {X : Cx} {cc : ByteArray} {own : String} {rm : Room} {ret : Option FieldType} {D : va_G} {y : ClassId × ClassId × ClassId} {z : Nat × Nat} {Q : O → State → Prop} {F : Option O} {pc pc' : Nat} {lv : List (Option Value)} {st : List Value} {ws : va_W} (hX : OKX X cc own rm ret D y) {a : Int} (hd : decode cc pc = .ok (.i2l, 1)) (hp : pc + 1 = pc') (k : GF X cc D z Q F pc' lv (.long (iz a).toInt64 :: st) ws) : GF X cc D z Q F pc lv (.int (iz a) :: st) ws := by
  subst hp
  intro o ho H locs ls hP hD hS hl
  exact lv_i2l hX.1 hX.2.1 hd rfl (k o ho H locs ls hP hD hS hl)
theorem g_l2i {O : Type} {X : Cx} {cc : ByteArray} {own : String} {rm : Room} {ret : Option FieldType} {D : va_G} {y : ClassId × ClassId × ClassId} {z : Nat × Nat} {Q : O → State → Prop} {F : Option O} {pc pc' : Nat} {lv : List (Option Value)} {st : List Value} {ws : va_W} (hX : OKX X cc own rm ret D y) {x : Int64} (hd : decode cc pc = .ok (.l2i, 1)) (hp : pc + 1 = pc') (k : GF X cc D z Q F pc' lv (.int (iz (l2iI x)) :: st) ws) : GF X cc D z Q F pc lv (.long x :: st) ws := by
  subst hp
  intro o ho H locs ls hP hD hS hl
  have k := k o ho H locs ls hP hD hS hl
  rw [l2iI, iz_toInt] at k
  exact lv_l2i hX.1 hX.2.1 hd rfl k
theorem g_lshl {O : Type} {X : Cx} {cc : ByteArray} {own : String} {rm : Room} {ret : Option FieldType} {D : va_G} {y : ClassId × ClassId × ClassId} {z : Nat × Nat} {Q : O → State → Prop} {F : Option O} {pc pc' : Nat} {lv : List (Option Value)} {st : List Value} {ws : va_W} (hX : OKX X cc own rm ret D y) {x : Int64} {a : Int} (hd : decode cc pc = .ok (.lshl, 1)) (hp : pc + 1 = pc') (k : GF X cc D z Q F pc' lv (.long (x <<< ((iz a).toInt64 &&& 63)) :: st) ws) : GF X cc D z Q F pc lv (.int (iz a) :: .long x :: st) ws := by
  subst hp
  intro o ho H locs ls hP hD hS hl
  exact lv_lshl hX.1 hX.2.1 hd rfl (k o ho H locs ls hP hD hS hl)
theorem g_lshr {O : Type} {X : Cx} {cc : ByteArray} {own : String} {rm : Room} {ret : Option FieldType} {D : va_G} {y : ClassId × ClassId × ClassId} {z : Nat × Nat} {Q : O → State → Prop} {F : Option O} {pc pc' : Nat} {lv : List (Option Value)} {st : List Value} {ws : va_W} (hX : OKX X cc own rm ret D y) {x : Int64} {a : Int} (hd : decode cc pc = .ok (.lshr, 1)) (hp : pc + 1 = pc') (k : GF X cc D z Q F pc' lv (.long (x >>> ((iz a).toInt64 &&& 63)) :: st) ws) : GF X cc D z Q F pc lv (.int (iz a) :: .long x :: st) ws := by
  subst hp
  intro o ho H locs ls hP hD hS hl
  exact lv_lshr hX.1 hX.2.1 hd rfl (k o ho H locs ls hP hD hS hl)
theorem g_land {O : Type} {X : Cx} {cc : ByteArray} {own : String} {rm : Room} {ret : Option FieldType} {D : va_G} {y : ClassId × ClassId × ClassId} {z : Nat × Nat} {Q : O → State → Prop} {F : Option O} {pc pc' : Nat} {lv : List (Option Value)} {st : List Value} {ws : va_W} (hX : OKX X cc own rm ret D y) {x x' : Int64} (hd : decode cc pc = .ok (.land, 1)) (hp : pc + 1 = pc') (k : GF X cc D z Q F pc' lv (.long (x &&& x') :: st) ws) : GF X cc D z Q F pc lv (.long x' :: .long x :: st) ws := by
  subst hp
  intro o ho H locs ls hP hD hS hl
  exact lv_land hX.1 hX.2.1 hd (k o ho H locs ls hP hD hS hl)
theorem g_lor {O : Type} {X : Cx} {cc : ByteArray} {own : String} {rm : Room} {ret : Option FieldType} {D : va_G} {y : ClassId × ClassId × ClassId} {z : Nat × Nat} {Q : O → State → Prop} {F : Option O} {pc pc' : Nat} {lv : List (Option Value)} {st : List Value} {ws : va_W} (hX : OKX X cc own rm ret D y) {x x' : Int64} (hd : decode cc pc = .ok (.lor, 1)) (hp : pc + 1 = pc') (k : GF X cc D z Q F pc' lv (.long (x ||| x') :: st) ws) : GF X cc D z Q F pc lv (.long x' :: .long x :: st) ws := by
  subst hp
  intro o ho H locs ls hP hD hS hl
  exact lv_lor hX.1 hX.2.1 hd (k o ho H locs ls hP hD hS hl)
theorem g_lxor {O : Type} {X : Cx} {cc : ByteArray} {own : String} {rm : Room} {ret : Option FieldType} {D : va_G} {y : ClassId × ClassId × ClassId} {z : Nat × Nat} {Q : O → State → Prop} {F : Option O} {pc pc' : Nat} {lv : List (Option Value)} {st : List Value} {ws : va_W} (hX : OKX X cc own rm ret D y) {x x' : Int64} (hd : decode cc pc = .ok (.lxor, 1)) (hp : pc + 1 = pc') (k : GF X cc D z Q F pc' lv (.long (x ^^^ x') :: st) ws) : GF X cc D z Q F pc lv (.long x' :: .long x :: st) ws := by
  subst hp
  intro o ho H locs ls hP hD hS hl
  exact lv_lxor hX.1 hX.2.1 hd (k o ho H locs ls hP hD hS hl)
theorem g_i2f {O : Type} {X : Cx} {cc : ByteArray} {own : String} {rm : Room} {ret : Option FieldType} {D : va_G} {y : ClassId × ClassId × ClassId} {z : Nat × Nat} {Q : O → State → Prop} {F : Option O} {pc pc' : Nat} {lv : List (Option Value)} {st : List Value} {ws : va_W} (hX : OKX X cc own rm ret D y) {a : Int} (hd : decode cc pc = .ok (.i2f, 1)) (hp : pc + 1 = pc') (k : GF X cc D z Q F pc' lv (.float (FP.i2f (iz a)) :: st) ws) : GF X cc D z Q F pc lv (.int (iz a) :: st) ws := by
  subst hp
  intro o ho H locs ls hP hD hS hl
  exact lv_i2f hX.1 hX.2.1 hd (k o ho H locs ls hP hD hS hl)
theorem g_f2i {O : Type} {X : Cx} {cc : ByteArray} {own : String} {rm : Room} {ret : Option FieldType} {D : va_G} {y : ClassId × ClassId × ClassId} {z : Nat × Nat} {Q : O → State → Prop} {F : Option O} {pc pc' : Nat} {lv : List (Option Value)} {st : List Value} {ws : va_W} (hX : OKX X cc own rm ret D y) {x : UInt32} (hd : decode cc pc = .ok (.f2i, 1)) (hp : pc + 1 = pc') (k : GF X cc D z Q F pc' lv (.int (iz (f2iI x)) :: st) ws) : GF X cc D z Q F pc lv (.float x :: st) ws := by
  subst hp
  intro o ho H locs ls hP hD hS hl
  have k := k o ho H locs ls hP hD hS hl
  rw [f2iI, iz_toInt] at k
  exact lv_f2i hX.1 hX.2.1 hd k
theorem g_fdiv {O : Type} {X : Cx} {cc : ByteArray} {own : String} {rm : Room} {ret : Option FieldType} {D : va_G} {y : ClassId × ClassId × ClassId} {z : Nat × Nat} {Q : O → State → Prop} {F : Option O} {pc pc' : Nat} {lv : List (Option Value)} {st : List Value} {ws : va_W} (hX : OKX X cc own rm ret D y) {x x' : UInt32} (hd : decode cc pc = .ok (.fdiv, 1)) (hp : pc + 1 = pc') (k : GF X cc D z Q F pc' lv (.float (FP.fdiv x x') :: st) ws) : GF X cc D z Q (cf (FP.fdiv x x') F) pc lv (.float x' :: .float x :: st) ws := by
  subst hp
  intro o ho H locs ls hP hD hS hl
  unfold cf at ho
  split at ho
  · next h => exact lv_fdiv hX.1 hX.2.1 hd h (k o ho H locs ls hP hD hS hl)
  · cases ho
theorem g_fmul {O : Type} {X : Cx} {cc : ByteArray} {own : String} {rm : Room} {ret : Option FieldType} {D : va_G} {y : ClassId × ClassId × ClassId} {z : Nat × Nat} {Q : O → State → Prop} {F : Option O} {pc pc' : Nat} {lv : List (Option Value)} {st : List Value} {ws : va_W} (hX : OKX X cc own rm ret D y) {x x' : UInt32} (hd : decode cc pc = .ok (.fmul, 1)) (hp : pc + 1 = pc') (k : GF X cc D z Q F pc' lv (.float (FP.fmul x x') :: st) ws) : GF X cc D z Q (cf (FP.fmul x x') F) pc lv (.float x' :: .float x :: st) ws := by
  subst hp
  intro o ho H locs ls hP hD hS hl
  unfold cf at ho
  split at ho
  · next h => exact lv_fmul hX.1 hX.2.1 hd h (k o ho H locs ls hP hD hS hl)
  · cases ho
theorem g_dup {O : Type} {X : Cx} {cc : ByteArray} {own : String} {rm : Room} {ret : Option FieldType} {D : va_G} {y : ClassId × ClassId × ClassId} {z : Nat × Nat} {Q : O → State → Prop} {F : Option O} {pc pc' : Nat} {lv : List (Option Value)} {st : List Value} {ws : va_W} (hX : OKX X cc own rm ret D y) {v : Value} (hd : decode cc pc = .ok (.dup, 1)) (hv : v.category = 1) (hp : pc + 1 = pc') (k : GF X cc D z Q F pc' lv (v :: v :: st) ws) : GF X cc D z Q F pc lv (v :: st) ws := by
  subst hp
  intro o ho H locs ls hP hD hS hl
  exact lv_dup hX.1 hX.2.1 hd hv (k o ho H locs ls hP hD hS hl)
theorem g_dup2 {O : Type} {X : Cx} {cc : ByteArray} {own : String} {rm : Room} {ret : Option FieldType} {D : va_G} {y : ClassId × ClassId × ClassId} {z : Nat × Nat} {Q : O → State → Prop} {F : Option O} {pc pc' : Nat} {lv : List (Option Value)} {st : List Value} {ws : va_W} (hX : OKX X cc own rm ret D y) {v u : Value} (hd : decode cc pc = .ok (.dup2, 1)) (hv : v.category = 1) (hu : u.category = 1) (hp : pc + 1 = pc') (k : GF X cc D z Q F pc' lv (v :: u :: v :: u :: st) ws) : GF X cc D z Q F pc lv (v :: u :: st) ws := by
  subst hp
  intro o ho H locs ls hP hD hS hl
  exact lv_dup2_11 hX.1 hX.2.1 hd hv hu (k o ho H locs ls hP hD hS hl)
theorem g_pop {O : Type} {X : Cx} {cc : ByteArray} {own : String} {rm : Room} {ret : Option FieldType} {D : va_G} {y : ClassId × ClassId × ClassId} {z : Nat × Nat} {Q : O → State → Prop} {F : Option O} {pc pc' : Nat} {lv : List (Option Value)} {st : List Value} {ws : va_W} (hX : OKX X cc own rm ret D y) {v : Value} (hd : decode cc pc = .ok (.pop, 1)) (hv : v.category = 1) (hp : pc + 1 = pc') (k : GF X cc D z Q F pc' lv st ws) : GF X cc D z Q F pc lv (v :: st) ws := by
  subst hp
  intro o ho H locs ls hP hD hS hl
  exact lv_pop hX.1 hX.2.1 hd hv (k o ho H locs ls hP hD hS hl)
theorem g_goto {O : Type} {X : Cx} {cc : ByteArray} {own : String} {rm : Room} {ret : Option FieldType} {D : va_G} {y : ClassId × ClassId × ClassId} {z : Nat × Nat} {Q : O → State → Prop} {F : Option O} {pc pc' : Nat} {lv : List (Option Value)} {st : List Value} {ws : va_W} (hX : OKX X cc own rm ret D y) {off : Int} (hd : decode cc pc = .ok (.goto off, 3)) (hp : (pc : Int) + off = (pc' : Int)) (k : GF X cc D z Q F pc' lv st ws) : GF X cc D z Q F pc lv st ws := by
  intro o ho H locs ls hP hD hS hl
  exact lv_goto hX.1 hX.2.1 hd hp (k o ho H locs ls hP hD hS hl)
theorem g_iload {O : Type} {X : Cx} {cc : ByteArray} {own : String} {rm : Room} {ret : Option FieldType} {D : va_G} {y : ClassId × ClassId × ClassId} {z : Nat × Nat} {Q : O → State → Prop} {F : Option O} {pc pc' : Nat} {lv : List (Option Value)} {st : List Value} {ws : va_W} (hX : OKX X cc own rm ret D y) {i : Nat} {a : Int} (hd : decode cc pc = .ok (.iload i, 2)) (hp : pc + 2 = pc') (hi : lv[i]? = some (some (.int (iz a)))) (k : GF X cc D z Q F pc' lv (.int (iz a) :: st) ws) : GF X cc D z Q F pc lv st ws := by
  subst hp
  intro o ho H locs ls hP hD hS hl
  exact lv_iload hX.1 hX.2.1 hd (hl.2.2.2 _ _ hi).1 (k o ho H locs ls hP hD hS hl)
theorem g_aload {O : Type} {X : Cx} {cc : ByteArray} {own : String} {rm : Room} {ret : Option FieldType} {D : va_G} {y : ClassId × ClassId × ClassId} {z : Nat × Nat} {Q : O → State → Prop} {F : Option O} {pc pc' : Nat} {lv : List (Option Value)} {st : List Value} {ws : va_W} (hX : OKX X cc own rm ret D y) {i : Nat} {a : Nat} (hd : decode cc pc = .ok (.aload i, 2)) (hp : pc + 2 = pc') (hi : lv[i]? = some (some (.ref a))) (k : GF X cc D z Q F pc' lv (.ref a :: st) ws) : GF X cc D z Q F pc lv st ws := by
  subst hp
  intro o ho H locs ls hP hD hS hl
  exact lv_aload hX.1 hX.2.1 hd (hl.2.2.2 _ _ hi).1 (k o ho H locs ls hP hD hS hl)
theorem g_iload_n {O : Type} {X : Cx} {cc : ByteArray} {own : String} {rm : Room} {ret : Option FieldType} {D : va_G} {y : ClassId × ClassId × ClassId} {z : Nat × Nat} {Q : O → State → Prop} {F : Option O} {pc pc' : Nat} {lv : List (Option Value)} {st : List Value} {ws : va_W} (hX : OKX X cc own rm ret D y) {i : Fin 4} {a : Int} (hd : decode cc pc = .ok (.iload_n i, 1)) (hp : pc + 1 = pc') (hi : lv[(i : Nat)]? = some (some (.int (iz a)))) (k : GF X cc D z Q F pc' lv (.int (iz a) :: st) ws) : GF X cc D z Q F pc lv st ws := by
  subst hp
  intro o ho H locs ls hP hD hS hl
  exact lv_iload_n hX.1 hX.2.1 hd rfl (hl.2.2.2 _ _ hi).1 (k o ho H locs ls hP hD hS hl)
theorem g_aload_n {O : Type} {X : Cx} {cc : ByteArray} {own : String} {rm : Room} {ret : Option FieldType} {D : va_G} {y : ClassId × ClassId × ClassId} {z : Nat × Nat} {Q : O → State → Prop} {F : Option O} {pc pc' : Nat} {lv : List (Option Value)} {st : List Value} {ws : va_W} (hX : OKX X cc own rm ret D y) {i : Fin 4} {a : Nat} (hd : decode cc pc = .ok (.aload_n i, 1)) (hp : pc + 1 = pc') (hi : lv[(i : Nat)]? = some (some (.ref a))) (k : GF X cc D z Q F pc' lv (.ref a :: st) ws) : GF X cc D z Q F pc lv st ws := by
  subst hp
  intro o ho H locs ls hP hD hS hl
  exact lv_aload_n hX.1 hX.2.1 hd rfl (hl.2.2.2 _ _ hi).1 (k o ho H locs ls hP hD hS hl)
theorem g_fload_n {O : Type} {X : Cx} {cc : ByteArray} {own : String} {rm : Room} {ret : Option FieldType} {D : va_G} {y : ClassId × ClassId × ClassId} {z : Nat × Nat} {Q : O → State → Prop} {F : Option O} {pc pc' : Nat} {lv : List (Option Value)} {st : List Value} {ws : va_W} (hX : OKX X cc own rm ret D y) {i : Fin 4} {a : UInt32} (hd : decode cc pc = .ok (.fload_n i, 1)) (hp : pc + 1 = pc') (hi : lv[(i : Nat)]? = some (some (.float a))) (k : GF X cc D z Q F pc' lv (.float a :: st) ws) : GF X cc D z Q F pc lv st ws := by
  subst hp
  intro o ho H locs ls hP hD hS hl
  exact lv_fload_n hX.1 hX.2.1 hd rfl (hl.2.2.2 _ _ hi).1 (k o ho H locs ls hP hD hS hl)
theorem g_istore {O : Type} {X : Cx} {cc : ByteArray} {own : String} {rm : Room} {ret : Option FieldType} {D : va_G} {y : ClassId × ClassId × ClassId} {z : Nat × Nat} {Q : O → State → Prop} {F : Int → Option O} {pc pc' : Nat} {lv : List (Option Value)} {st : List Value} {ws : va_W} (hX : OKX X cc own rm ret D y) {i : Nat} {a : Int} (hd : decode cc pc = .ok (.istore i, 2)) (hp : pc + 2 = pc') {lv' : Int → List (Option Value)} (hi : Nat.ble (i + 1) lv.length = true) (hs : ∀ x, lv.set i (some (.int (iz x))) = lv' x) (k : ∀ x, GF X cc D z Q (F x) pc' (lv' x) st ws) : GF X cc D z Q (nm a F) pc lv (.int (iz a) :: st) ws := by
  subst hp
  intro o ho H locs ls hP hD hS hl
  exact lv_istore hX.1 hX.2.1 hd hl.has (hl.2.1 ▸ Nat.le_of_ble_eq_true hi) rfl (fun ls' h' => k a o ho H locs ls' hP hD hS (hs a ▸ hl.store rfl h'))
theorem g_istore_n {O : Type} {X : Cx} {cc : ByteArray} {own : String} {rm : Room} {ret : Option FieldType} {D : va_G} {y : ClassId × ClassId × ClassId} {z : Nat × Nat} {Q : O → State → Prop} {F : Int → Option O} {pc pc' : Nat} {lv : List (Option Value)} {st : List Value} {ws : va_W} (hX : OKX X cc own rm ret D y) {i : Fin 4} {a : Int} (hd : decode cc pc = .ok (.istore_n i, 1)) (hp : pc + 1 = pc') {lv' : Int → List (Option Value)} (hi : Nat.ble ((i : Nat) + 1) lv.length = true) (hs : ∀ x, lv.set (i : Nat) (some (.int (iz x))) = lv' x) (k : ∀ x, GF X cc D z Q (F x) pc' (lv' x) st ws) : GF X cc D z Q (nm a F) pc lv (.int (iz a) :: st) ws := by
  subst hp
  intro o ho H locs ls hP hD hS hl
  exact lv_istore_n hX.1 hX.2.1 hd rfl hl.has (hl.2.1 ▸ Nat.le_of_ble_eq_true hi) rfl (fun ls' h' => k a o ho H locs ls' hP hD hS (hs a ▸ hl.store rfl h'))
theorem g_fstore_n {O : Type} {X : Cx} {cc : ByteArray} {own : String} {rm : Room} {ret : Option FieldType} {D : va_G} {y : ClassId × ClassId × ClassId} {z : Nat × Nat} {Q : O → State → Prop} {F : Option O} {pc pc' : Nat} {lv : List (Option Value)} {st : List Value} {ws : va_W} (hX : OKX X cc own rm ret D y) {i : Fin 4} {a : UInt32} (hd : decode cc pc = .ok (.fstore_n i, 1)) (hp : pc + 1 = pc') {lv' : List (Option Value)} (hi : Nat.ble ((i : Nat) + 1) lv.length = true) (hs : lv.set (i : Nat) (some (.float a)) = lv') (k : GF X cc D z Q F pc' lv' st ws) : GF X cc D z Q F pc lv (.float a :: st) ws := by
  subst hp
  intro o ho H locs ls hP hD hS hl
  exact lv_fstore_n hX.1 hX.2.1 hd rfl hl.has (hl.2.1 ▸ Nat.le_of_ble_eq_true hi) rfl (fun ls' h' => k o ho H locs ls' hP hD hS (hs ▸ hl.store rfl h'))
theorem g_astore_n {O : Type} {X : Cx} {cc : ByteArray} {own : String} {rm : Room} {ret : Option FieldType} {D : va_G} {y : ClassId × ClassId × ClassId} {z : Nat × Nat} {Q : O → State → Prop} {F : Option O} {pc pc' : Nat} {lv : List (Option Value)} {st : List Value} {ws : va_W} (hX : OKX X cc own rm ret D y) {i : Fin 4} {a : Nat} (hd : decode cc pc = .ok (.astore_n i, 1)) (hp : pc + 1 = pc') {lv' : List (Option Value)} (hi : Nat.ble ((i : Nat) + 1) lv.length = true) (hs : lv.set (i : Nat) (some (.ref a)) = lv') (k : GF X cc D z Q F pc' lv' st ws) : GF X cc D z Q F pc lv (.ref a :: st) ws := by
  subst hp
  intro o ho H locs ls hP hD hS hl
  exact lv_astore_n hX.1 hX.2.1 hd rfl hl.has (hl.2.1 ▸ Nat.le_of_ble_eq_true hi) rfl (fun ls' h' => k o ho H locs ls' hP hD hS (hs ▸ hl.store rfl h'))
theorem g_iinc {O : Type} {X : Cx} {cc : ByteArray} {own : String} {rm : Room} {ret : Option FieldType} {D : va_G} {y : ClassId × ClassId × ClassId} {z : Nat × Nat} {Q : O → State → Prop} {F : Int → Option O} {pc pc' : Nat} {lv : List (Option Value)} {st : List Value} {ws : va_W} (hX : OKX X cc own rm ret D y) {i : Nat} {n a : Int} (hd : decode cc pc = .ok (.iinc i n, 3)) (hp : pc + 3 = pc') {lv' : Int → List (Option Value)} (hi : lv[i]? = some (some (.int (iz a)))) (hs : ∀ x, lv.set i (some (.int (iz x))) = lv' x) (k : ∀ x, GF X cc D z Q (F x) pc' (lv' x) st ws) : GF X cc D z Q (nm (a + n) F) pc lv st ws := by
  subst hp
  intro o ho H locs ls hP hD hS hl
  obtain ⟨j, hj⟩ := List.getElem?_of_mem (mem_lvl hi)
  exact lv_iinc hX.1 hX.2.1 hd hl.has hj rfl (hl.2.1 ▸ (List.getElem?_eq_some_iff.mp hi).1) rfl (fun ls' h' => by
    rw [show iz a + Int32.ofInt n = iz (a + n) from (iz_add a n).symm] at h'
    exact k (a + n) o ho H locs ls' hP hD hS (hs (a + n) ▸ hl.store rfl h'))
theorem g_drop {O : Type} {X : Cx} {cc : ByteArray} {D : va_G} {z : Nat × Nat} {Q : O → State → Prop} {F : Option O} {pc : Nat} {lv : List (Option Value)} {st : List Value} {ws : va_W} {lv' : List (Option Value)} (i : Nat) (hs : lv.set i none = lv') (k : GF X cc D z Q F pc lv' st ws) : GF X cc D z Q F pc lv st ws := by
  subst hs
  intro o ho H locs ls hP hD hS hl
  refine k o ho H locs ls hP hD hS ⟨hl.1, by rw [List.length_set]; exact hl.2.1, hl.2.2.1, fun j w hw => hl.2.2.2 j w ?_⟩
  by_cases hj : i = j
  · subst hj
    by_cases hl2 : i < lv.length
    · rw [List.getElem?_set_self hl2] at hw; cases hw
    · rw [List.getElem?_eq_none (by rw [List.length_set]; omega)] at hw; cases hw
  · rw [List.getElem?_set_ne hj] at hw; exact hw
theorem g_icmp_eq {O : Type} {X : Cx} {cc : ByteArray} {own : String} {rm : Room} {ret : Option FieldType} {D : va_G} {y : ClassId × ClassId × ClassId} {z : Nat × Nat} {Q : O → State → Prop} {F1 F2 : Option O} {pc pc' tgt : Nat} {lv : List (Option Value)} {st : List Value} {ws : va_W} (hX : OKX X cc own rm ret D y) {a b off : Int} (hd : decode cc pc = .ok (.if_icmp .eq off, 3)) (ht : (pc : Int) + off = (tgt : Int)) (hp : pc + 3 = pc') (k1 : GF X cc D z Q F1 tgt lv st ws) (k2 : GF X cc D z Q F2 pc' lv st ws) : GF X cc D z Q (if wr a = wr b then F1 else F2) pc lv (.int (iz b) :: .int (iz a) :: st) ws := by
  subst hp
  intro o ho H locs ls hP hD hS hl
  refine lv_icmp_eq hX.1 hX.2.1 hd ht (fun h => ?_) (fun h => ?_)
  · rw [if_pos ((iz_eq a b).mp h)] at ho; exact k1 o ho H locs ls hP hD hS hl
  · rw [if_neg (fun q => h ((iz_eq a b).mpr q))] at ho; exact k2 o ho H locs ls hP hD hS hl
theorem g_icmp_lt {O : Type} {X : Cx} {cc : ByteArray} {own : String} {rm : Room} {ret : Option FieldType} {D : va_G} {y : ClassId × ClassId × ClassId} {z : Nat × Nat} {Q : O → State → Prop} {F1 F2 : Option O} {pc pc' tgt : Nat} {lv : List (Option Value)} {st : List Value} {ws : va_W} (hX : OKX X cc own rm ret D y) {a b off : Int} (hd : decode cc pc = .ok (.if_icmp .lt off, 3)) (ht : (pc : Int) + off = (tgt : Int)) (hp : pc + 3 = pc') (k1 : GF X cc D z Q F1 tgt lv st ws) (k2 : GF X cc D z Q F2 pc' lv st ws) : GF X cc D z Q (if wr a < wr b then F1 else F2) pc lv (.int (iz b) :: .int (iz a) :: st) ws := by
  subst hp
  intro o ho H locs ls hP hD hS hl
  refine lv_icmp_lt hX.1 hX.2.1 hd ht (fun h => ?_) (fun h => ?_)
  · rw [if_pos ((iz_lt a b).mp h)] at ho; exact k1 o ho H locs ls hP hD hS hl
  · rw [if_neg (fun q => h ((iz_lt a b).mpr q))] at ho; exact k2 o ho H locs ls hP hD hS hl
theorem g_icmp_ge {O : Type} {X : Cx} {cc : ByteArray} {own : String} {rm : Room} {ret : Option FieldType} {D : va_G} {y : ClassId × ClassId × ClassId} {z : Nat × Nat} {Q : O → State → Prop} {F1 F2 : Option O} {pc pc' tgt : Nat} {lv : List (Option Value)} {st : List Value} {ws : va_W} (hX : OKX X cc own rm ret D y) {a b off : Int} (hd : decode cc pc = .ok (.if_icmp .ge off, 3)) (ht : (pc : Int) + off = (tgt : Int)) (hp : pc + 3 = pc') (k1 : GF X cc D z Q F1 tgt lv st ws) (k2 : GF X cc D z Q F2 pc' lv st ws) : GF X cc D z Q (if wr b ≤ wr a then F1 else F2) pc lv (.int (iz b) :: .int (iz a) :: st) ws := by
  subst hp
  intro o ho H locs ls hP hD hS hl
  refine lv_icmp_ge hX.1 hX.2.1 hd ht (fun h => ?_) (fun h => ?_)
  · rw [if_pos ((iz_le b a).mp h)] at ho; exact k1 o ho H locs ls hP hD hS hl
  · rw [if_neg (fun q => h ((iz_le b a).mpr q))] at ho; exact k2 o ho H locs ls hP hD hS hl
theorem g_icmp_gt {O : Type} {X : Cx} {cc : ByteArray} {own : String} {rm : Room} {ret : Option FieldType} {D : va_G} {y : ClassId × ClassId × ClassId} {z : Nat × Nat} {Q : O → State → Prop} {F1 F2 : Option O} {pc pc' tgt : Nat} {lv : List (Option Value)} {st : List Value} {ws : va_W} (hX : OKX X cc own rm ret D y) {a b off : Int} (hd : decode cc pc = .ok (.if_icmp .gt off, 3)) (ht : (pc : Int) + off = (tgt : Int)) (hp : pc + 3 = pc') (k1 : GF X cc D z Q F1 tgt lv st ws) (k2 : GF X cc D z Q F2 pc' lv st ws) : GF X cc D z Q (if wr b < wr a then F1 else F2) pc lv (.int (iz b) :: .int (iz a) :: st) ws := by
  subst hp
  intro o ho H locs ls hP hD hS hl
  refine lv_icmp_gt hX.1 hX.2.1 hd ht (fun h => ?_) (fun h => ?_)
  · rw [if_pos ((iz_lt b a).mp h)] at ho; exact k1 o ho H locs ls hP hD hS hl
  · rw [if_neg (fun q => h ((iz_lt b a).mpr q))] at ho; exact k2 o ho H locs ls hP hD hS hl
theorem g_icmp_le {O : Type} {X : Cx} {cc : ByteArray} {own : String} {rm : Room} {ret : Option FieldType} {D : va_G} {y : ClassId × ClassId × ClassId} {z : Nat × Nat} {Q : O → State → Prop} {F1 F2 : Option O} {pc pc' tgt : Nat} {lv : List (Option Value)} {st : List Value} {ws : va_W} (hX : OKX X cc own rm ret D y) {a b off : Int} (hd : decode cc pc = .ok (.if_icmp .le off, 3)) (ht : (pc : Int) + off = (tgt : Int)) (hp : pc + 3 = pc') (k1 : GF X cc D z Q F1 tgt lv st ws) (k2 : GF X cc D z Q F2 pc' lv st ws) : GF X cc D z Q (if wr a ≤ wr b then F1 else F2) pc lv (.int (iz b) :: .int (iz a) :: st) ws := by
  subst hp
  intro o ho H locs ls hP hD hS hl
  refine lv_icmp_le hX.1 hX.2.1 hd ht (fun h => ?_) (fun h => ?_)
  · rw [if_pos ((iz_le a b).mp h)] at ho; exact k1 o ho H locs ls hP hD hS hl
  · rw [if_neg (fun q => h ((iz_le a b).mpr q))] at ho; exact k2 o ho H locs ls hP hD hS hl
theorem g_icmp_ne {O : Type} {X : Cx} {cc : ByteArray} {own : String} {rm : Room} {ret : Option FieldType} {D : va_G} {y : ClassId × ClassId × ClassId} {z : Nat × Nat} {Q : O → State → Prop} {F1 F2 : Option O} {pc pc' tgt : Nat} {lv : List (Option Value)} {st : List Value} {ws : va_W} (hX : OKX X cc own rm ret D y) {a b off : Int} (hd : decode cc pc = .ok (.if_icmp .ne off, 3)) (ht : (pc : Int) + off = (tgt : Int)) (hp : pc + 3 = pc') (k1 : GF X cc D z Q F1 tgt lv st ws) (k2 : GF X cc D z Q F2 pc' lv st ws) : GF X cc D z Q (if wr a = wr b then F2 else F1) pc lv (.int (iz b) :: .int (iz a) :: st) ws := by
  subst hp
  intro o ho H locs ls hP hD hS hl
  refine lv_icmp_ne hX.1 hX.2.1 hd ht (fun h => ?_) (fun h => ?_)
  · rw [if_neg (fun q => h ((iz_eq a b).mpr q))] at ho; exact k1 o ho H locs ls hP hD hS hl
  · rw [if_pos ((iz_eq a b).mp (h))] at ho; exact k2 o ho H locs ls hP hD hS hl
theorem g_if_eq {O : Type} {X : Cx} {cc : ByteArray} {own : String} {rm : Room} {ret : Option FieldType} {D : va_G} {y : ClassId × ClassId × ClassId} {z : Nat × Nat} {Q : O → State → Prop} {F1 F2 : Option O} {pc pc' tgt : Nat} {lv : List (Option Value)} {st : List Value} {ws : va_W} (hX : OKX X cc own rm ret D y) {a off : Int} (hd : decode cc pc = .ok (.ifCond .eq off, 3)) (ht : (pc : Int) + off = (tgt : Int)) (hp : pc + 3 = pc') (k1 : GF X cc D z Q F1 tgt lv st ws) (k2 : GF X cc D z Q F2 pc' lv st ws) : GF X cc D z Q (if wr a = 0 then F1 else F2) pc lv (.int (iz a) :: st) ws := by
  subst hp
  intro o ho H locs ls hP hD hS hl
  have hq := iz_eq a 0
  rw [wr_0] at hq
  refine lv_if_eq hX.1 hX.2.1 hd ht (fun h => ?_) (fun h => ?_)
  · rw [if_pos (hq.mp (by rw [← iz_0]; exact h))] at ho; exact k1 o ho H locs ls hP hD hS hl
  · rw [if_neg (fun q => h (by rw [iz_0]; exact hq.mpr q))] at ho; exact k2 o ho H locs ls hP hD hS hl
theorem g_if_lt {O : Type} {X : Cx} {cc : ByteArray} {own : String} {rm : Room} {ret : Option FieldType} {D : va_G} {y : ClassId × ClassId × ClassId} {z : Nat × Nat} {Q : O → State → Prop} {F1 F2 : Option O} {pc pc' tgt : Nat} {lv : List (Option Value)} {st : List Value} {ws : va_W} (hX : OKX X cc own rm ret D y) {a off : Int} (hd : decode cc pc = .ok (.ifCond .lt off, 3)) (ht : (pc : Int) + off = (tgt : Int)) (hp : pc + 3 = pc') (k1 : GF X cc D z Q F1 tgt lv st ws) (k2 : GF X cc D z Q F2 pc' lv st ws) : GF X cc D z Q (if wr a < 0 then F1 else F2) pc lv (.int (iz a) :: st) ws := by
  subst hp
  intro o ho H locs ls hP hD hS hl
  have hq := iz_lt a 0
  rw [wr_0] at hq
  refine lv_if_lt hX.1 hX.2.1 hd ht (fun h => ?_) (fun h => ?_)
  · rw [if_pos (hq.mp (by rw [← iz_0]; exact h))] at ho; exact k1 o ho H locs ls hP hD hS hl
  · rw [if_neg (fun q => h (by rw [iz_0]; exact hq.mpr q))] at ho; exact k2 o ho H locs ls hP hD hS hl
theorem g_if_ge {O : Type} {X : Cx} {cc : ByteArray} {own : String} {rm : Room} {ret : Option FieldType} {D : va_G} {y : ClassId × ClassId × ClassId} {z : Nat × Nat} {Q : O → State → Prop} {F1 F2 : Option O} {pc pc' tgt : Nat} {lv : List (Option Value)} {st : List Value} {ws : va_W} (hX : OKX X cc own rm ret D y) {a off : Int} (hd : decode cc pc = .ok (.ifCond .ge off, 3)) (ht : (pc : Int) + off = (tgt : Int)) (hp : pc + 3 = pc') (k1 : GF X cc D z Q F1 tgt lv st ws) (k2 : GF X cc D z Q F2 pc' lv st ws) : GF X cc D z Q (if 0 ≤ wr a then F1 else F2) pc lv (.int (iz a) :: st) ws := by
  subst hp
  intro o ho H locs ls hP hD hS hl
  have hq := iz_le 0 a
  rw [wr_0] at hq
  refine lv_if_ge hX.1 hX.2.1 hd ht (fun h => ?_) (fun h => ?_)
  · rw [if_pos (hq.mp (by rw [← iz_0]; exact h))] at ho; exact k1 o ho H locs ls hP hD hS hl
  · rw [if_neg (fun q => h (by rw [iz_0]; exact hq.mpr q))] at ho; exact k2 o ho H locs ls hP hD hS hl
theorem g_if_gt {O : Type} {X : Cx} {cc : ByteArray} {own : String} {rm : Room} {ret : Option FieldType} {D : va_G} {y : ClassId × ClassId × ClassId} {z : Nat × Nat} {Q : O → State → Prop} {F1 F2 : Option O} {pc pc' tgt : Nat} {lv : List (Option Value)} {st : List Value} {ws : va_W} (hX : OKX X cc own rm ret D y) {a off : Int} (hd : decode cc pc = .ok (.ifCond .gt off, 3)) (ht : (pc : Int) + off = (tgt : Int)) (hp : pc + 3 = pc') (k1 : GF X cc D z Q F1 tgt lv st ws) (k2 : GF X cc D z Q F2 pc' lv st ws) : GF X cc D z Q (if 0 < wr a then F1 else F2) pc lv (.int (iz a) :: st) ws := by
  subst hp
  intro o ho H locs ls hP hD hS hl
  have hq := iz_lt 0 a
  rw [wr_0] at hq
  refine lv_if_gt hX.1 hX.2.1 hd ht (fun h => ?_) (fun h => ?_)
  · rw [if_pos (hq.mp (by rw [← iz_0]; exact h))] at ho; exact k1 o ho H locs ls hP hD hS hl
  · rw [if_neg (fun q => h (by rw [iz_0]; exact hq.mpr q))] at ho; exact k2 o ho H locs ls hP hD hS hl
theorem g_if_le {O : Type} {X : Cx} {cc : ByteArray} {own : String} {rm : Room} {ret : Option FieldType} {D : va_G} {y : ClassId × ClassId × ClassId} {z : Nat × Nat} {Q : O → State → Prop} {F1 F2 : Option O} {pc pc' tgt : Nat} {lv : List (Option Value)} {st : List Value} {ws : va_W} (hX : OKX X cc own rm ret D y) {a off : Int} (hd : decode cc pc = .ok (.ifCond .le off, 3)) (ht : (pc : Int) + off = (tgt : Int)) (hp : pc + 3 = pc') (k1 : GF X cc D z Q F1 tgt lv st ws) (k2 : GF X cc D z Q F2 pc' lv st ws) : GF X cc D z Q (if wr a ≤ 0 then F1 else F2) pc lv (.int (iz a) :: st) ws := by
  subst hp
  intro o ho H locs ls hP hD hS hl
  have hq := iz_le a 0
  rw [wr_0] at hq
  refine lv_if_le hX.1 hX.2.1 hd ht (fun h => ?_) (fun h => ?_)
  · rw [if_pos (hq.mp (by rw [← iz_0]; exact h))] at ho; exact k1 o ho H locs ls hP hD hS hl
  · rw [if_neg (fun q => h (by rw [iz_0]; exact hq.mpr q))] at ho; exact k2 o ho H locs ls hP hD hS hl
theorem g_if_ne {O : Type} {X : Cx} {cc : ByteArray} {own : String} {rm : Room} {ret : Option FieldType} {D : va_G} {y : ClassId × ClassId × ClassId} {z : Nat × Nat} {Q : O → State → Prop} {F1 F2 : Option O} {pc pc' tgt : Nat} {lv : List (Option Value)} {st : List Value} {ws : va_W} (hX : OKX X cc own rm ret D y) {a off : Int} (hd : decode cc pc = .ok (.ifCond .ne off, 3)) (ht : (pc : Int) + off = (tgt : Int)) (hp : pc + 3 = pc') (k1 : GF X cc D z Q F1 tgt lv st ws) (k2 : GF X cc D z Q F2 pc' lv st ws) : GF X cc D z Q (if wr a = 0 then F2 else F1) pc lv (.int (iz a) :: st) ws := by
  subst hp
  intro o ho H locs ls hP hD hS hl
  have hq := iz_eq a 0
  rw [wr_0] at hq
  refine lv_if_ne hX.1 hX.2.1 hd ht (fun h => ?_) (fun h => ?_)
  · rw [if_neg (fun q => h (by rw [iz_0]; exact hq.mpr q))] at ho; exact k1 o ho H locs ls hP hD hS hl
  · rw [if_pos (hq.mp (by rw [← iz_0]; exact h))] at ho; exact k2 o ho H locs ls hP hD hS hl
theorem g_ite {O : Type} {X : Cx} {cc : ByteArray} {D : va_G} {z : Nat × Nat} {Q : O → State → Prop} {F1 F2 : Option O} {pc : Nat} {lv : List (Option Value)} {st : List Value} {ws : va_W} {C : Prop} [Decidable C] (k1 : C → GF X cc D z Q F1 pc lv st ws) (k2 : ¬ C → GF X cc D z Q F2 pc lv st ws) : GF X cc D z Q (if C then F1 else F2) pc lv st ws := by
  intro o ho H locs ls hP hD hS hl
  by_cases h : C
  · rw [if_pos h] at ho; exact k1 h o ho H locs ls hP hD hS hl
  · rw [if_neg h] at ho; exact k2 h o ho H locs ls hP hD hS hl
theorem g_tab {O : Type} {X : Cx} {cc : ByteArray} {own : String} {rm : Room} {ret : Option FieldType} {D : va_G} {y : ClassId × ClassId × ClassId} {z : Nat × Nat} {Q : O → State → Prop} {F : Option O} {pc pc' : Nat} {lv : List (Option Value)} {st : List Value} {ws : va_W} (hX : OKX X cc own rm ret D y) {a v dflt lo hi off : Int} {offs : Array Int} {len tgt : Nat} (hv : wr a = v) (hd : decode cc pc = .ok (.tableswitch dflt lo hi offs, len)) (h1 : ¬ v < lo) (h2 : ¬ hi < v) (ho : offs[(v - lo).toNat]? = some off) (ht : (pc : Int) + off = (tgt : Int)) (k : GF X cc D z Q F tgt lv st ws) : GF X cc D z Q F pc lv (.int (iz a) :: st) ws := by
  intro o hF H locs ls hP hD hS hl
  subst hv
  exact lv_tableIn hX.1 hX.2.1 hd h1 h2 ho ht (k o hF H locs ls hP hD hS hl)
theorem g_tabD {O : Type} {X : Cx} {cc : ByteArray} {own : String} {rm : Room} {ret : Option FieldType} {D : va_G} {y : ClassId × ClassId × ClassId} {z : Nat × Nat} {Q : O → State → Prop} {F : Option O} {pc pc' : Nat} {lv : List (Option Value)} {st : List Value} {ws : va_W} (hX : OKX X cc own rm ret D y) {a dflt lo hi : Int} {offs : Array Int} {len tgt : Nat} (hd : decode cc pc = .ok (.tableswitch dflt lo hi offs, len)) (h : wr a < lo ∨ hi < wr a) (ht : (pc : Int) + dflt = (tgt : Int)) (k : GF X cc D z Q F tgt lv st ws) : GF X cc D z Q F pc lv (.int (iz a) :: st) ws := by
  intro o hF H locs ls hP hD hS hl
  exact lv_tableOut hX.1 hX.2.1 hd h ht (k o hF H locs ls hP hD hS hl)
theorem g_none {O : Type} {X : Cx} {cc : ByteArray} {D : va_G} {z : Nat × Nat} {Q : O → State → Prop} {pc : Nat} {lv : List (Option Value)} {st : List Value} {ws : va_W} : GF X cc D z Q none pc lv st ws := fun _ ho => by cases ho
end
section
/-! fields, arrays, ends, calls and contracts over GF -/
theorem g_get {O : Type} {X : Cx} {cc : ByteArray} {own : String} {rm : Room} {ret : Option FieldType} {D : va_G} {y : ClassId × ClassId × ClassId} {z : Nat × Nat} {Q : O → State → Prop} {F : Option O} {pc pc' : Nat} {lv : List (Option Value)} {st : List Value} {ws : va_W} (hX : OKX X cc own rm ret D y) {C : String} {T : u_T} {N ci idx a : Nat} {fs : List Value} {v : Value} (q0 k : Nat) (hin : ∀ w ∈ u_ws C T N, w ∈ lw_gd) (he : ws[q0]? = some (a, .inr (ci, fs))) (hc : vwCl[ci]? = some (C, T, N)) (hk : k < N) (hm : Cond.fieldLink own idx (T k).1 (T k).2.1 (T k).2.2.1 ∈ lw_gd) (hv : fs[k]? = some v) (hd : decode cc pc = .ok (.getfield idx, 3)) (hp : pc + 3 = pc') (kk : GF X cc D z Q F pc' lv (v :: st) ws) : GF X cc D z Q F pc lv (.ref a :: st) ws := by
  subst hp
  intro o ho H locs ls hP hD hS hl
  exact va_get hX.1 hX.2.1 hX.2.2.2.2.1 hin hX.2.2.2.1 hX.2.2.2.2.2.1 hP q0 he hc k hk (hX.2.2.2.2.1 _ hm) (fun _ h => h) hv hd (kk o ho H locs ls hP hD hS hl)
theorem g_put {O : Type} {X : Cx} {cc : ByteArray} {own : String} {rm : Room} {ret : Option FieldType} {D : va_G} {y : ClassId × ClassId × ClassId} {z : Nat × Nat} {Q : O → State → Prop} {F : Option O} {pc pc' : Nat} {lv : List (Option Value)} {st : List Value} {ws ws' : va_W} (hX : OKX X cc own rm ret D y) {C : String} {T : u_T} {N ci idx a : Nat} {fs : List Value} {v : Value} {ty : FieldType} (ty0 : Nat → FieldType) (q0 k : Nat) (hin : ∀ w ∈ u_ws C T N, w ∈ lw_gd) (hty : ∀ k, k < N → parseFieldDescriptor (T k).2.2.1 = some (ty0 k)) (hnm : ∀ a, a < N → ∀ b, b < N → a ≠ b → (T a).2.1 ≠ (T b).2.1) (he : ws[q0]? = some (a, .inr (ci, fs))) (hc : vwCl[ci]? = some (C, T, N)) (hk : k < N) (hm : Cond.fieldLink own idx (T k).1 (T k).2.1 (T k).2.2.1 ∈ lw_gd) (hfin : (T k).2.2.2 = false) (ht0 : ty0 k = ty) (hn : narrow ty v = v) (hfit : fits ty v = true) (hl0 : Nat.ble (k + 1) fs.length = true) (hws : ws.set q0 (a, .inr (ci, fs.set k v)) = ws') (hd : decode cc pc = .ok (.putfield idx, 3)) (hp : pc + 3 = pc') (kk : GF X cc D z Q F pc' lv st ws') : GF X cc D z Q F pc lv (v :: .ref a :: st) ws := by
  subst hp
  intro o ho H locs ls hP hD hS hl
  refine va_put hX.1 hX.2.1 hX.2.2.2.2.1 hin ty0 hty hnm hX.2.2.2.1 hX.2.2.2.2.2.1 hP hD hS q0 he hc k hk (hX.2.2.2.2.1 _ hm) (fun _ h => h) hfin (ht0 ▸ hty k hk) hn hfit (Nat.le_of_ble_eq_true hl0) hd (fun H1 locs1 hP1 hD1 hS1 => ?_)
  rw [hws] at hP1 hD1
  exact kk o ho H1 locs1 ls hP1 hD1 hS1 hl
theorem iz_in {i : Int} {n : Nat} (h : 0 ≤ i ∧ i < (n : Int)) (hn : n < 2147483648) : vp_in (iz i) n ∧ (iz i).toNatClampNeg = i.toNat := by
  have h1 : (iz i).toInt = i := wr_id (by omega)
  have h2 : (iz i).toNatClampNeg = i.toNat := by unfold Int32.toNatClampNeg; rw [h1]
  refine ⟨vp_in_iff.mpr ⟨by omega, by omega⟩, h2⟩
theorem g_iald {O : Type} {X : Cx} {cc : ByteArray} {own : String} {rm : Room} {ret : Option FieldType} {D : va_G} {y : ClassId × ClassId × ClassId} {z : Nat × Nat} {Q : O → State → Prop} {F : Option O} {pc pc' : Nat} {lv : List (Option Value)} {st : List Value} {ws : va_W} (hX : OKX X cc own rm ret D y) {a n : Nat} {f : Nat → Int} {i : Int} (q0 : Nat) (ha : ws[q0]? = some (a, .inl (y.1, n, .inl (fun j => iz (f j))))) (hn : n < 2147483648) (hd : decode cc pc = .ok (.iaload, 1)) (hp : pc + 1 = pc') (k : GF X cc D z Q F pc' lv (.int (iz (f i.toNat)) :: st) ws) : GF X cc D z Q (bd i n F) pc lv (.int (iz i) :: .ref a :: st) ws := by
  subst hp
  intro o ho H locs ls hP hD hS hl
  unfold bd at ho
  split at ho
  · next h =>
    have k := k o ho H locs ls hP hD hS hl
    obtain ⟨h1, h2⟩ := iz_in h hn
    rw [← h2] at k
    exact va_iald hX.1 hX.2.1 hX.2.2.2.2.2.1 hP q0 0 ha rfl h1 hd k
  · cases ho
theorem g_zald {O : Type} {X : Cx} {cc : ByteArray} {own : String} {rm : Room} {ret : Option FieldType} {D : va_G} {y : ClassId × ClassId × ClassId} {z : Nat × Nat} {Q : O → State → Prop} {F : Option O} {pc pc' : Nat} {lv : List (Option Value)} {st : List Value} {ws : va_W} (hX : OKX X cc own rm ret D y) {a n : Nat} {f : Nat → Int} {i : Int} (q0 : Nat) (ha : ws[q0]? = some (a, .inl (y.2.2, n, .inl (fun j => iz (f j))))) (hn : n < 2147483648) (hd : decode cc pc = .ok (.baload, 1)) (hp : pc + 1 = pc') (k : GF X cc D z Q F pc' lv (.int (iz (f i.toNat)) :: st) ws) : GF X cc D z Q (bd i n F) pc lv (.int (iz i) :: .ref a :: st) ws := by
  subst hp
  intro o ho H locs ls hP hD hS hl
  unfold bd at ho
  split at ho
  · next h =>
    have k := k o ho H locs ls hP hD hS hl
    obtain ⟨h1, h2⟩ := iz_in h hn
    rw [← h2] at k
    exact va_zald hX.1 hX.2.1 hX.2.2.2.2.2.1 hP q0 2 ha rfl h1 hd k
  · cases ho
theorem g_lald {O : Type} {X : Cx} {cc : ByteArray} {own : String} {rm : Room} {ret : Option FieldType} {D : va_G} {y : ClassId × ClassId × ClassId} {z : Nat × Nat} {Q : O → State → Prop} {F : Option O} {pc pc' : Nat} {lv : List (Option Value)} {st : List Value} {ws : va_W} (hX : OKX X cc own rm ret D y) {a n : Nat} {f : Nat → Int} {i : Int} (q0 : Nat) (ha : ws[q0]? = some (a, .inl (y.2.1, n, .inr (.inl (fun j => lz (f j)))))) (hn : n < 2147483648) (hd : decode cc pc = .ok (.laload, 1)) (hp : pc + 1 = pc') (k : GF X cc D z Q F pc' lv (.long (lz (f i.toNat)) :: st) ws) : GF X cc D z Q (bd i n F) pc lv (.int (iz i) :: .ref a :: st) ws := by
  subst hp
  intro o ho H locs ls hP hD hS hl
  unfold bd at ho
  split at ho
  · next h =>
    have k := k o ho H locs ls hP hD hS hl
    obtain ⟨h1, h2⟩ := iz_in h hn
    rw [← h2] at k
    exact va_lald hX.1 hX.2.1 hX.2.2.2.2.2.1 hP q0 1 ha rfl h1 hd k
  · cases ho
theorem upd_iz (f : Nat → Int) (k : Nat) (x : Int) : upd (fun j => iz (f j)) k (iz x) = fun j => iz (if j = k then x else f j) := by
  funext j
  unfold upd
  split <;> rfl
theorem updL_lz (f : Nat → Int) (k : Nat) (x : Int64) : vp_updL (fun j => lz (f j)) k x = fun j => lz (if j = k then x.toInt else f j) := by
  funext j
  unfold vp_updL
  split
  · exact (lz_toInt x).symm
  · rfl
theorem g_iast {O : Type} {X : Cx} {cc : ByteArray} {own : String} {rm : Room} {ret : Option FieldType} {D : va_G} {y : ClassId × ClassId × ClassId} {z : Nat × Nat} {Q : O → State → Prop} {F : Option O} {pc pc' : Nat} {lv : List (Option Value)} {st : List Value} {ws ws' : va_W} (hX : OKX X cc own rm ret D y) {a n : Nat} {f : Nat → Int} {i x : Int} (q0 : Nat) (ha : ws[q0]? = some (a, .inl (y.1, n, .inl (fun j => iz (f j))))) (hn : n < 2147483648) (hws : ws.set q0 (a, .inl (y.1, n, .inl (fun j => iz (if j = i.toNat then x else f j)))) = ws') (hd : decode cc pc = .ok (.iastore, 1)) (hp : pc + 1 = pc') (k : GF X cc D z Q F pc' lv st ws') : GF X cc D z Q (bd i n F) pc lv (.int (iz x) :: .int (iz i) :: .ref a :: st) ws := by
  subst hp
  intro o ho H locs ls hP hD hS hl
  unfold bd at ho
  split at ho
  · next h =>
    obtain ⟨h1, h2⟩ := iz_in h hn
    refine va_iast hX.1 hX.2.1 hX.2.2.2.2.2.1 hP hD hS q0 0 ha rfl h1 hd (fun H1 locs1 hP1 hD1 hS1 => ?_)
    rw [h2, upd_iz, hws] at hP1 hD1
    exact k o ho H1 locs1 ls hP1 hD1 hS1 hl
  · cases ho
theorem nar_z {x : Int} (h : x = 0 ∨ x = 1) : vp_nar .boolean (iz x) = iz x := by
  rcases h with rfl | rfl <;> decide
theorem g_zast {O : Type} {X : Cx} {cc : ByteArray} {own : String} {rm : Room} {ret : Option FieldType} {D : va_G} {y : ClassId × ClassId × ClassId} {z : Nat × Nat} {Q : O → State → Prop} {F : Option O} {pc pc' : Nat} {lv : List (Option Value)} {st : List Value} {ws ws' : va_W} (hX : OKX X cc own rm ret D y) {a n : Nat} {f : Nat → Int} {i x : Int} (q0 : Nat) (ha : ws[q0]? = some (a, .inl (y.2.2, n, .inl (fun j => iz (f j))))) (hn : n < 2147483648) (hws : ws.set q0 (a, .inl (y.2.2, n, .inl (fun j => iz (if j = i.toNat then x else f j)))) = ws') (hd : decode cc pc = .ok (.bastore, 1)) (hp : pc + 1 = pc') (k : GF X cc D z Q F pc' lv st ws') : GF X cc D z Q (cb x (bd i n F)) pc lv (.int (iz x) :: .int (iz i) :: .ref a :: st) ws := by
  subst hp
  intro o ho H locs ls hP hD hS hl
  unfold cb at ho
  split at ho
  · next hx =>
    unfold bd at ho
    split at ho
    · next h =>
      obtain ⟨h1, h2⟩ := iz_in h hn
      refine va_zast hX.1 hX.2.1 hX.2.2.2.2.2.1 hP hD hS q0 2 ha rfl h1 hd (fun H1 locs1 hP1 hD1 hS1 => ?_)
      rw [h2, nar_z hx, upd_iz, hws] at hP1 hD1
      exact k o ho H1 locs1 ls hP1 hD1 hS1 hl
    · cases ho
  · cases ho
theorem g_last {O : Type} {X : Cx} {cc : ByteArray} {own : String} {rm : Room} {ret : Option FieldType} {D : va_G} {y : ClassId × ClassId × ClassId} {z : Nat × Nat} {Q : O → State → Prop} {F : Option O} {pc pc' : Nat} {lv : List (Option Value)} {st : List Value} {ws ws' : va_W} (hX : OKX X cc own rm ret D y) {a n : Nat} {f : Nat → Int} {i : Int} {x : Int64} (q0 : Nat) (ha : ws[q0]? = some (a, .inl (y.2.1, n, .inr (.inl (fun j => lz (f j)))))) (hn : n < 2147483648) (hws : ws.set q0 (a, .inl (y.2.1, n, .inr (.inl (fun j => lz (if j = i.toNat then x.toInt else f j))))) = ws') (hd : decode cc pc = .ok (.lastore, 1)) (hp : pc + 1 = pc') (k : GF X cc D z Q F pc' lv st ws') : GF X cc D z Q (bd i n F) pc lv (.long x :: .int (iz i) :: .ref a :: st) ws := by
  subst hp
  intro o ho H locs ls hP hD hS hl
  unfold bd at ho
  split at ho
  · next h =>
    obtain ⟨h1, h2⟩ := iz_in h hn
    refine va_last hX.1 hX.2.1 hX.2.2.2.2.2.1 hP hD hS q0 1 ha rfl h1 hd (fun H1 locs1 hP1 hD1 hS1 => ?_)
    rw [h2, updL_lz, hws] at hP1 hD1
    exact k o ho H1 locs1 ls hP1 hD1 hS1 hl
  · cases ho
theorem g_alen {O : Type} {X : Cx} {cc : ByteArray} {own : String} {rm : Room} {ret : Option FieldType} {D : va_G} {y : ClassId × ClassId × ClassId} {z : Nat × Nat} {Q : O → State → Prop} {F : Option O} {pc pc' : Nat} {lv : List (Option Value)} {st : List Value} {ws : va_W} (hX : OKX X cc own rm ret D y) {a : Nat} {x : vp_A} (n : Int) (q0 : Nat) (ha : ws[q0]? = some (a, .inl (y.1, x))) (hv : Int32.ofNat x.1 = iz n) (hd : decode cc pc = .ok (.arraylength, 1)) (hp : pc + 1 = pc') (k : GF X cc D z Q F pc' lv (.int (iz n) :: st) ws) : GF X cc D z Q F pc lv (.ref a :: st) ws := by
  subst hp
  intro o ho H locs ls hP hD hS hl
  exact va_alen hX.1 hX.2.1 hX.2.2.2.2.2.1 hP q0 0 ha rfl hv hd (k o ho H locs ls hP hD hS hl)
/-! ends -/
abbrev atW {σ : Type} (D : va_G) (y : ClassId × ClassId × ClassId) (w : σ → va_W) (A : Nat → Prop) (u : σ) (t : State) : Prop := va_P D vwCl (w u) t.heap ∧ va_K D vwCl (tyX y) t ∧ va_D A (w u)
def QI {σ : Type} (X : Cx) (D : va_G) (y : ClassId × ClassId × ClassId) (w : σ → va_W) : Int × σ → State → Prop := fun o => MQ (cxb X) (va_Qi (fun r u => r = iz o.1 ∧ u = o.2) (atW D y w (cxA X)) (cxA X)) (cxa X) (cxs X) 0 0 (cxA X)
def QV {σ : Type} (X : Cx) (D : va_G) (y : ClassId × ClassId × ClassId) (w : σ → va_W) : σ → State → Prop := fun o => MQ (cxb X) (va_Qv (fun u => u = o) (atW D y w (cxA X)) (cxA X)) (cxa X) (cxs X) 0 0 (cxA X)
def QP (X : Cx) : Int → State → Prop := fun o => MQ (cxb X) (va_Qi (fun r (_ : Unit) => r = iz o) (fun _ _ => True) (cxA X)) (cxa X) (cxs X) 0 0 (cxA X)
theorem g_iret {σ : Type} {X : Cx} {cc : ByteArray} {own : String} {rm : Room} {D : va_G} {y : ClassId × ClassId × ClassId} {pc : Nat} {lv : List (Option Value)} (hX : OKX X cc own rm (some .int) D y) {w : σ → va_W} {Y : σ} {a : Int} (hd : decode cc pc = .ok (.ireturn, 1)) : GF X cc D (0, 0) (QI X D y w) (some (a, Y)) pc lv [.int (iz a)] (w Y) := by
  intro o ho H locs ls hP hD hS hl
  cases ho
  exact W.iret hX.1 hX.2.1 hX.2.2.2.2.2.2.2.2.2 (fun t ht hW => ⟨⟨iz a, Y, rfl, ⟨rfl, rfl⟩, by rw [ht]; exact hP, va_K.moved hW.alike hX.2.2.2.2.2.1, hD⟩, hS.F ht⟩) hS.2.2 hd hX.2.2.2.2.2.2.2.1
theorem g_zret {σ : Type} {X : Cx} {cc : ByteArray} {own : String} {rm : Room} {D : va_G} {y : ClassId × ClassId × ClassId} {pc : Nat} {lv : List (Option Value)} (hX : OKX X cc own rm (some .boolean) D y) {w : σ → va_W} {Y : σ} {a : Int} (hd : decode cc pc = .ok (.ireturn, 1)) : GF X cc D (0, 0) (QI X D y w) (cb a (some (a, Y))) pc lv [.int (iz a)] (w Y) := by
  intro o ho H locs ls hP hD hS hl
  unfold cb at ho
  split at ho
  · next hz =>
    cases ho
    exact W.zret hX.1 hX.2.1 hX.2.2.2.2.2.2.2.2.2 (by rcases hz with rfl | rfl <;> decide) (fun t ht hW => ⟨⟨iz a, Y, rfl, ⟨rfl, rfl⟩, by rw [ht]; exact hP, va_K.moved hW.alike hX.2.2.2.2.2.1, hD⟩, hS.F ht⟩) hS.2.2 hd hX.2.2.2.2.2.2.2.1
  · cases ho
theorem g_vret {σ : Type} {X : Cx} {cc : ByteArray} {own : String} {rm : Room} {D : va_G} {y : ClassId × ClassId × ClassId} {pc : Nat} {lv : List (Option Value)} (hX : OKX X cc own rm none D y) {w : σ → va_W} {Y : σ} (hd : decode cc pc = .ok (.return_, 1)) : GF X cc D (0, 0) (QV X D y w) (some Y) pc lv [] (w Y) := by
  intro o ho H locs ls hP hD hS hl
  cases ho
  exact W.vret hX.1 hX.2.1 hX.2.2.2.2.2.2.2.2.2 (fun t ht hW => ⟨⟨Y, rfl, rfl, by rw [ht]; exact hP, va_K.moved hW.alike hX.2.2.2.2.2.1, hD⟩, hS.F ht⟩) hS.2.2 hd hX.2.2.2.2.2.2.2.1
theorem g_iretP {X : Cx} {cc : ByteArray} {own : String} {rm : Room} {D : va_G} {y : ClassId × ClassId × ClassId} {pc : Nat} {lv : List (Option Value)} {ws : va_W} (hX : OKX X cc own rm (some .int) D y) {a : Int} (hd : decode cc pc = .ok (.ireturn, 1)) : GF X cc D (0, 0) (QP X) (some a) pc lv [.int (iz a)] ws := by
  intro o ho H locs ls hP hD hS hl
  cases ho
  exact W.iret hX.1 hX.2.1 hX.2.2.2.2.2.2.2.2.2 (fun t ht hW => ⟨⟨iz a, (), rfl, rfl, trivial⟩, hS.F ht⟩) hS.2.2 hd hX.2.2.2.2.2.2.2.1
theorem g_zretP {X : Cx} {cc : ByteArray} {own : String} {rm : Room} {D : va_G} {y : ClassId × ClassId × ClassId} {pc : Nat} {lv : List (Option Value)} {ws : va_W} (hX : OKX X cc own rm (some .boolean) D y) {a : Int} (hd : decode cc pc = .ok (.ireturn, 1)) : GF X cc D (0, 0) (QP X) (cb a (some a)) pc lv [.int (iz a)] ws := by
  intro o ho H locs ls hP hD hS hl
  unfold cb at ho
  split at ho
  · next hz =>
    cases ho
    exact W.zret hX.1 hX.2.1 hX.2.2.2.2.2.2.2.2.2 (by rcases hz with rfl | rfl <;> decide) (fun t ht hW => ⟨⟨iz a, (), rfl, rfl, trivial⟩, hS.F ht⟩) hS.2.2 hd hX.2.2.2.2.2.2.2.1
  · cases ho
/-! contracts -/
abbrev PcW {σ : Type} (D : va_G) (y : ClassId × ClassId × ClassId) (av : List Value) (w : σ → va_W) (Y : σ) (sz : Nat) : Array Value → State → Prop := va_Pc av (fun U => U.heap.size = sz ∧ va_P D vwCl (w Y) U.heap ∧ va_K D vwCl (tyX y) U ∧ va_D (fun _ => True) (w Y))
def CtI {σ : Type} (l : Launch) (D : va_G) (y : ClassId × ClassId × ClassId) (yy : MethodName) (cc : ByteArray) (nL : Nat) (ret : Option FieldType) (rm : Room) (av : List Value) (w : σ → va_W) (Y : σ) (fo : Option (Int × σ)) : Prop :=
  ∀ r0 Y0, fo = some (r0, Y0) → ∀ sz, Met l yy (.code yy cc nL ret :: lw_gd) rm (PcW D y av w Y sz) (va_Qi (fun r u => r = iz r0 ∧ u = Y0) (atW D y w (va_A (w Y) sz)) (va_A (w Y) sz)) 0 0 (va_A (w Y) sz)
def CtV {σ : Type} (l : Launch) (D : va_G) (y : ClassId × ClassId × ClassId) (yy : MethodName) (cc : ByteArray) (nL : Nat) (rm : Room) (av : List Value) (w : σ → va_W) (Y : σ) (fo : Option σ) : Prop :=
  ∀ Y0, fo = some Y0 → ∀ sz, Met l yy (.code yy cc nL none :: lw_gd) rm (PcW D y av w Y sz) (va_Qv (fun u => u = Y0) (atW D y w (va_A (w Y) sz)) (va_A (w Y) sz)) 0 0 (va_A (w Y) sz)
def CtP (l : Launch) (D : va_G) (y : ClassId × ClassId × ClassId) (yy : MethodName) (cc : ByteArray) (nL : Nat) (ret : Option FieldType) (rm : Room) (av : List Value) (fo : Option Int) : Prop :=
  ∀ r0, fo = some r0 → ∀ sz, Met l yy (.code yy cc nL ret :: lw_gd) rm (va_Pc av (fun U => U.heap.size = sz ∧ va_K D vwCl (tyX y) U)) (va_Qi (fun r (_ : Unit) => r = iz r0) (fun _ _ => True) (va_A [] sz)) 0 0 (va_A [] sz)
theorem lvP_entry (m : MethodId) (vs : List Value) (n : Nat) (hc : ∀ v ∈ vs, v.category = 1) (hn : vs.length ≤ n) : ∃ ls, entryFrame m vs.toArray n = F0 m 0 ls [] ∧ lvP ls n (vs.map some ++ List.replicate (n - vs.length) none) := by
  have hsl : ∀ us : List Value, (∀ v ∈ us, v.category = 1) → lg_sl us = us.map Slot.val := by
    intro us
    induction us with
    | nil => intro _; rfl
    | cons v us ih =>
      intro h
      have h1 := h v List.mem_cons_self
      have h2 := ih (fun u hu => h u (List.mem_cons_of_mem _ hu))
      unfold lg_sl at h2 ⊢
      rw [List.flatMap_cons, h2, if_neg (by rw [h1]; decide)]
      rfl
  have hle : (lg_sl vs).length ≤ n := by rw [hsl vs hc, List.length_map]; exact hn
  have he := lv_entry vs (n := n) hle
  refine ⟨_, lg_entry_eq m vs n, he.1, by simp; omega, he.2.1, fun i v hv => ?_⟩
  have hi : i < vs.length := by
    by_cases h : i < vs.length
    · exact h
    · rw [List.getElem?_append_right (by simp; omega), List.getElem?_replicate] at hv
      split at hv <;> cases hv
  rw [List.getElem?_append_left (by simp; exact hi), List.getElem?_map] at hv
  have hv2 : vs[i]? = some v := by
    cases hq : vs[i]? with
    | none => rw [hq] at hv; cases hv
    | some u => rw [hq] at hv; cases hv; rfl
  refine ⟨?_, hc v (List.mem_of_getElem? hv2)⟩
  rw [hsl vs hc]
  rw [List.getElem?_toArray, List.getElem?_append_left (by simp; exact hi), List.getElem?_map, hv2]
  rfl
theorem ctI_of {σ : Type} {l : Launch} {D : va_G} {y : ClassId × ClassId × ClassId} {yy : MethodName} {cc : ByteArray} {nL : Nat} {ret : Option FieldType} {rm : Room} {vs : List Value} {w : σ → va_W} {Y : σ} {fo : Option (Int × σ)} {own : String} (hown : yy.cls = own) (hy : plainName yy.cls = true) (hcat : ∀ v ∈ vs, v.category = 1) (hle : Nat.ble vs.length nL = true)
    (h : ∀ X : Cx, cxl X = l → OKX X cc own rm ret D y → GF X cc D (0, 0) (QI X D y w) fo 0 (vs.map some ++ List.replicate (nL - vs.length) none) [] (w Y)) : CtI l D y yy cc nL ret rm vs w Y fo := by
  intro r0 Y0 hfo sz
  refine Met.ofW (cc := cc) (maxL := nL) (ret := ret) hy rfl ?_
  intro p e s m args below meth c s₁ B hml hv
  obtain ⟨rfl, hsz, hP, hK, hD0⟩ := hv
  subst hsz
  subst hown
  have hts := atoms_spec (ws := Cond.code yy cc nL ret :: lw_gd) B.pre
  obtain ⟨ls, he, hl⟩ := lvP_entry m vs nL hcat (Nat.le_of_ble_eq_true hle)
  rw [he]
  exact h ((p, l, e, rm), (s, m, vs.toArray, below), (meth, c, nL, va_A (w Y) s.heap.size)) rfl ⟨B.exec, B.bytes, hml, findClass_of_methodNamed B.named, fun w hw => hts w (List.mem_cons_of_mem _ hw), hK, fun q hq => Or.inr hq, B.notSynchronized, rfl, B.returns⟩ (r0, Y0) hfo s.heap [] ls hP (hD0.self) va_S.rf hl
theorem ctV_of {σ : Type} {l : Launch} {D : va_G} {y : ClassId × ClassId × ClassId} {yy : MethodName} {cc : ByteArray} {nL : Nat} {rm : Room} {vs : List Value} {w : σ → va_W} {Y : σ} {fo : Option σ} {own : String} (hown : yy.cls = own) (hy : plainName yy.cls = true) (hcat : ∀ v ∈ vs, v.category = 1) (hle : Nat.ble vs.length nL = true)
    (h : ∀ X : Cx, cxl X = l → OKX X cc own rm none D y → GF X cc D (0, 0) (QV X D y w) fo 0 (vs.map some ++ List.replicate (nL - vs.length) none) [] (w Y)) : CtV l D y yy cc nL rm vs w Y fo := by
  intro Y0 hfo sz
  refine Met.ofW (cc := cc) (maxL := nL) (ret := none) hy rfl ?_
  intro p e s m args below meth c s₁ B hml hv
  obtain ⟨rfl, hsz, hP, hK, hD0⟩ := hv
  subst hsz
  subst hown
  have hts := atoms_spec (ws := Cond.code yy cc nL none :: lw_gd) B.pre
  obtain ⟨ls, he, hl⟩ := lvP_entry m vs nL hcat (Nat.le_of_ble_eq_true hle)
  rw [he]
  exact h ((p, l, e, rm), (s, m, vs.toArray, below), (meth, c, nL, va_A (w Y) s.heap.size)) rfl ⟨B.exec, B.bytes, hml, findClass_of_methodNamed B.named, fun w hw => hts w (List.mem_cons_of_mem _ hw), hK, fun q hq => Or.inr hq, B.notSynchronized, rfl, B.returns⟩ Y0 hfo s.heap [] ls hP (hD0.self) va_S.rf hl
theorem ctP_of {l : Launch} {D : va_G} {y : ClassId × ClassId × ClassId} {yy : MethodName} {cc : ByteArray} {nL : Nat} {ret : Option FieldType} {rm : Room} {vs : List Value} {fo : Option Int} {own : String} (hown : yy.cls = own) (hy : plainName yy.cls = true) (hcat : ∀ v ∈ vs, v.category = 1) (hle : Nat.ble vs.length nL = true)
    (h : ∀ X : Cx, cxl X = l → OKX X cc own rm ret D y → GF X cc D (0, 0) (QP X) fo 0 (vs.map some ++ List.replicate (nL - vs.length) none) [] []) : CtP l D y yy cc nL ret rm vs fo := by
  intro r0 hfo sz
  refine Met.ofW (cc := cc) (maxL := nL) (ret := ret) hy rfl ?_
  intro p e s m args below meth c s₁ B hml hv
  obtain ⟨rfl, hsz, hK⟩ := hv
  subst hsz
  subst hown
  have hts := atoms_spec (ws := Cond.code yy cc nL ret :: lw_gd) B.pre
  obtain ⟨ls, he, hl⟩ := lvP_entry m vs nL hcat (Nat.le_of_ble_eq_true hle)
  rw [he]
  exact h ((p, l, e, rm), (s, m, vs.toArray, below), (meth, c, nL, va_A [] s.heap.size)) rfl ⟨B.exec, B.bytes, hml, findClass_of_methodNamed B.named, fun w hw => hts w (List.mem_cons_of_mem _ hw), hK, fun q hq => Or.inr hq, B.notSynchronized, rfl, B.returns⟩ r0 hfo s.heap [] ls (fun k q h => by simp at h) ⟨fun i j p q h => by simp at h, fun k q h => by simp at h⟩ va_S.rf hl
end
section
/-! calls over GF -/
theorem good_all {yy : MethodName} {cc : ByteArray} {nL : Nat} {ret : Option FieldType} (h : Cond.code yy cc nL ret ∈ lw_gd) : GoodIn lw_gd (Cond.code yy cc nL ret :: lw_gd) := by
  intro w hw
  have hm : w ∈ lw_gd := by
    rcases List.mem_cons.mp hw with rfl | hw
    · exact h
    · exact hw
  exact ⟨hm, good_of_word (List.mem_filter.mp hm).2⟩
/-- what the tables say of a call of an instance method -/
def VW (own : String) (idx : Nat) (C : String) (yy : MethodName) (bytes : ByteArray) (maxL : Nat) (retc : Option FieldType) (n : Nat) : Prop :=
  Cond.methodLink own idx yy ∈ lw_gd ∧ Cond.instanceMethod yy ∈ lw_gd ∧ Cond.selects C yy yy ∈ lw_gd ∧ Cond.initialized yy.cls ∈ lw_gd ∧ Cond.code yy bytes maxL retc ∈ lw_gd ∧ yy.cls ≠ "java/lang/invoke/MethodHandle" ∧ yy.cls ≠ "java/lang/invoke/VarHandle" ∧ (parseMethodDescriptor yy.desc).map (fun d => d.parameters.length) = some n
def SW (own : String) (idx : Nat) (yy : MethodName) (bytes : ByteArray) (maxL : Nat) (retc : Option FieldType) (n : Nat) : Prop :=
  Cond.methodLink own idx yy ∈ lw_gd ∧ Cond.static yy ∈ lw_gd ∧ Cond.initialized yy.cls ∈ lw_gd ∧ Cond.code yy bytes maxL retc ∈ lw_gd ∧ yy.cls ≠ "java/lang/invoke/MethodHandle" ∧ yy.cls ≠ "java/lang/invoke/VarHandle" ∧ (parseMethodDescriptor yy.desc).map (fun d => d.parameters.length) = some n
abbrev RoomOK (rmc rm : Room) (maxL : Nat) (z : Nat × Nat) : Prop := rmc.cells = 0 ∧ rmc.slots = 0 ∧ rmc.frames + 1 ≤ rm.frames ∧ 8 + (maxL + 11) + rmc.locals ≤ rm.locals ∧ z.1 ≤ rm.cells ∧ z.2 ≤ rm.slots
theorem callB_in {X : Cx} {cc : ByteArray} {own : String} {rm : Room} {ret : Option FieldType} {D : va_G} {y : ClassId × ClassId × ClassId} (hX : OKX X cc own rm ret D y) {idx : Nat} {yy : MethodName} {bytes : ByteArray} {maxL n : Nat} {retc : Option FieldType} {rmc : Room} (hl : Cond.methodLink own idx yy ∈ lw_gd) (hi : Cond.initialized yy.cls ∈ lw_gd) (hc : Cond.code yy bytes maxL retc ∈ lw_gd) (hd : yy.cls ≠ "java/lang/invoke/MethodHandle" ∧ yy.cls ≠ "java/lang/invoke/VarHandle" ∧ (parseMethodDescriptor yy.desc).map (fun d => d.parameters.length) = some n) {z : Nat × Nat} (hr : RoomOK rmc rm maxL z) : CallB (cxR X) (cxs X) (cxa X) own idx yy bytes maxL retc (Cond.code yy bytes maxL retc :: lw_gd) rmc 0 0 n := by
  refine callB_of n hX.2.2.2.2.1 (good_all hc) rfl hr.1 hr.2.1 (hX.2.2.2.2.1 _ hi) (hX.2.2.2.2.1 _ hl) hd ?_
  rw [hX.2.2.2.2.2.2.2.2.1]
  exact ⟨hr.2.2.1, hr.2.2.2.1⟩
/-- a callee's cells in the caller's world, the rest, and the caller's world behind the call -/
def PR {ρ : Type} (ws wcY : va_W) (wcu wput : ρ → va_W) (isC isR isW : List Nat) (wr : va_W) : Prop :=
  isC.map (fun i => ws[i]?) = wcY.map some ∧ isR.map (fun i => ws[i]?) = wr.map some ∧ va_nd isC = true ∧ va_nd isR = true ∧ (∀ i ∈ isR, i ∉ isC) ∧ va_nd isW = true ∧ ∀ u, isW.map (fun i => (wr ++ wcu u)[i]?) = (wput u).map some
theorem fm_of_map {ws ws' : va_W} {is : List Nat} (h : is.map (fun i => ws[i]?) = ws'.map some) : is.filterMap (fun i => ws[i]?) = ws' := by
  have h2 : (is.map (fun i => ws[i]?)).filterMap id = (ws'.map some).filterMap id := by rw [h]
  rw [List.filterMap_map, List.filterMap_map] at h2
  simpa using h2
theorem nil_P {D : va_G} {H : Heap} : va_P D vwCl [] H := fun k q h => by simp at h
theorem nil_D {A : Nat → Prop} : va_D A [] := ⟨fun i j p q h => by simp at h, fun k q h => by simp at h⟩
theorem blindW {σ : Type} {D : va_G} {y : ClassId × ClassId × ClassId} {av : List Value} {w : σ → va_W} {Y : σ} {sz : Nat} : FrameBlind (PcW D y av w Y sz) := fun a U g mk q => by
  obtain ⟨q0, q1, qP, qK, qD⟩ := q
  exact ⟨q0, q1, qP, va_K.moved (u := U) (U := U.calling g mk a) (Vm.Alike.refl U.vm) qK, qD⟩
theorem g_calli {σ ρ O : Type} {X : Cx} {cc : ByteArray} {own : String} {rm : Room} {ret : Option FieldType} {D : va_G} {y : ClassId × ClassId × ClassId} {z : Nat × Nat} {Q : O → State → Prop} {F : Int → σ → Option O} {pc pc' : Nat} {lv : List (Option Value)} {st rest As : List Value} {ws wr : va_W} {isC isR isW : List Nat} {C : String} {T : u_T} {idx ci n N b : Nat} {fs : List Value} {yy : MethodName} {bytes : ByteArray} {maxL : Nat} {retc : Option FieldType} {rmc : Room} {wc : ρ → va_W} {Yc : ρ} {fc : Option (Int × ρ)} {put : ρ → σ} {w : σ → va_W} (hX : OKX X cc own rm ret D y)
    (hM : CtI (cxl X) D y yy bytes maxL retc rmc (.ref b :: As) wc Yc fc) (hpr : PR ws (wc Yc) wc (fun u => w (put u)) isC isR isW wr) (he : (wc Yc)[0]? = some (b, .inr (ci, fs))) (hc : vwCl[ci]? = some (C, T, N)) (hw : VW own idx C yy bytes maxL retc n) (hrm : RoomOK rmc rm maxL z) (hn : As.length = n) (hst : st = As.reverse ++ .ref b :: rest) (hrest : (rest.map fun v => v.category).sum ≤ 8) (hd : decode cc pc = .ok (.invokevirtual idx, 3)) (hp : pc + 3 = pc')
    (k : ∀ r Y1, GF X cc D z Q (F r Y1) pc' lv (.int (iz r) :: rest) (w Y1)) : GF X cc D z Q (cls fc put F) pc lv st ws := by
  subst hp
  intro o ho H locs ls hP hD hS hl
  unfold cls at ho
  cases hfc : fc with
  | none => rw [hfc] at ho; cases ho
  | some q =>
    obtain ⟨r0, u0⟩ := q
    rw [hfc] at ho
    have hm := hM r0 u0 hfc H.size
    obtain ⟨hC, hR, hnC, hnR, hdis, hnW, hW⟩ := hpr
    have hPc := hP.sub (ws' := wc Yc) isC (fm_of_map hC)
    have hFc := va_free (wc := wc Yc) hD hS hX.2.2.2.2.2.2.1 isC hC
    have hDc : va_D (fun _ => True) (wc Yc) := (hD.sub (ws' := wc Yc) isC hnC hC).weaken (fun _ _ _ _ => trivial)
    refine va_calli (va_runV (As := As) (rest := rest) ⟨hX.1, hX.2.1, hX.2.2.1, hX.2.2.2.1, hX.2.2.2.2.1⟩ hm ⟨callB_in hX hw.1 hw.2.2.2.1 hw.2.2.2.2.1 hw.2.2.2.2.2 hrm, hX.2.2.2.2.1 _ hw.2.1, hX.2.2.2.2.1 _ hw.2.2.1⟩ ⟨blindW, va_recv hX.2.2.2.2.2.1 hPc hc he, fun U hU hWm => ⟨rfl, by rw [hU], by rw [hU]; exact hPc, va_K.moved hWm.alike hX.2.2.2.2.2.1, hDc⟩⟩ rfl hn hl.1 hst (lv_room hrest) hd ⟨by rw [hX.2.2.2.2.2.2.2.2.1]; exact hrm.2.2.2.2.1, by rw [hX.2.2.2.2.2.2.2.2.1]; exact hrm.2.2.2.2.2⟩) hS (fun q _ h => hFc q h) hFc (fun r u t H1 locs1 ht hvm hw1 hB hz1 hk1 hS1 => ?_)
    obtain ⟨rfl, rfl⟩ := hw1
    obtain ⟨hP1, hK1, hD1⟩ := hB
    rw [ht] at hP1
    obtain ⟨hP2, hD2⟩ := va_join (wr := wr) (w1 := wc u) hP hD isC isR hC hR hnR hdis hk1 hFc hP1 hD1
    exact k r0 (put u) o ho H1 locs1 ls (hP2.sub isW (fm_of_map (hW u))) (hD2.sub isW hnW (hW u)) hS1 hl
theorem g_callv {σ ρ O : Type} {X : Cx} {cc : ByteArray} {own : String} {rm : Room} {ret : Option FieldType} {D : va_G} {y : ClassId × ClassId × ClassId} {z : Nat × Nat} {Q : O → State → Prop} {F : σ → Option O} {pc pc' : Nat} {lv : List (Option Value)} {st rest As : List Value} {ws wr : va_W} {isC isR isW : List Nat} {C : String} {T : u_T} {idx ci n N b : Nat} {fs : List Value} {yy : MethodName} {bytes : ByteArray} {maxL : Nat} {rmc : Room} {wc : ρ → va_W} {Yc : ρ} {fc : Option ρ} {put : ρ → σ} {w : σ → va_W} (hX : OKX X cc own rm ret D y)
    (hM : CtV (cxl X) D y yy bytes maxL rmc (.ref b :: As) wc Yc fc) (hpr : PR ws (wc Yc) wc (fun u => w (put u)) isC isR isW wr) (he : (wc Yc)[0]? = some (b, .inr (ci, fs))) (hc : vwCl[ci]? = some (C, T, N)) (hw : VW own idx C yy bytes maxL none n) (hrm : RoomOK rmc rm maxL z) (hn : As.length = n) (hst : st = As.reverse ++ .ref b :: rest) (hrest : (rest.map fun v => v.category).sum ≤ 8) (hd : decode cc pc = .ok (.invokevirtual idx, 3)) (hp : pc + 3 = pc')
    (k : ∀ Y1, GF X cc D z Q (F Y1) pc' lv rest (w Y1)) : GF X cc D z Q (clv fc put F) pc lv st ws := by
  subst hp
  intro o ho H locs ls hP hD hS hl
  unfold clv at ho
  cases hfc : fc with
  | none => rw [hfc] at ho; cases ho
  | some u0 =>
    rw [hfc] at ho
    have hm := hM u0 hfc H.size
    obtain ⟨hC, hR, hnC, hnR, hdis, hnW, hW⟩ := hpr
    have hPc := hP.sub (ws' := wc Yc) isC (fm_of_map hC)
    have hFc := va_free (wc := wc Yc) hD hS hX.2.2.2.2.2.2.1 isC hC
    have hDc : va_D (fun _ => True) (wc Yc) := (hD.sub (ws' := wc Yc) isC hnC hC).weaken (fun _ _ _ _ => trivial)
    refine va_callv (va_runV (As := As) (rest := rest) ⟨hX.1, hX.2.1, hX.2.2.1, hX.2.2.2.1, hX.2.2.2.2.1⟩ hm ⟨callB_in hX hw.1 hw.2.2.2.1 hw.2.2.2.2.1 hw.2.2.2.2.2 hrm, hX.2.2.2.2.1 _ hw.2.1, hX.2.2.2.2.1 _ hw.2.2.1⟩ ⟨blindW, va_recv hX.2.2.2.2.2.1 hPc hc he, fun U hU hWm => ⟨rfl, by rw [hU], by rw [hU]; exact hPc, va_K.moved hWm.alike hX.2.2.2.2.2.1, hDc⟩⟩ rfl hn hl.1 hst (lv_room hrest) hd ⟨by rw [hX.2.2.2.2.2.2.2.2.1]; exact hrm.2.2.2.2.1, by rw [hX.2.2.2.2.2.2.2.2.1]; exact hrm.2.2.2.2.2⟩) hS (fun q _ h => hFc q h) hFc (fun u t H1 locs1 ht hvm hw1 hB hz1 hk1 hS1 => ?_)
    subst hw1
    obtain ⟨hP1, hK1, hD1⟩ := hB
    rw [ht] at hP1
    obtain ⟨hP2, hD2⟩ := va_join (wr := wr) (w1 := wc u) hP hD isC isR hC hR hnR hdis hk1 hFc hP1 hD1
    exact k (put u) o ho H1 locs1 ls (hP2.sub isW (fm_of_map (hW u))) (hD2.sub isW hnW (hW u)) hS1 hl
/-- a static method that touches no cell -/
theorem g_callp {O : Type} {X : Cx} {cc : ByteArray} {own : String} {rm : Room} {ret : Option FieldType} {D : va_G} {y : ClassId × ClassId × ClassId} {z : Nat × Nat} {Q : O → State → Prop} {F : Int → Option O} {pc pc' : Nat} {lv : List (Option Value)} {st rest As : List Value} {ws : va_W} {idx n : Nat} {yy : MethodName} {bytes : ByteArray} {maxL : Nat} {retc : Option FieldType} {rmc : Room} {fc : Option Int} (hX : OKX X cc own rm ret D y)
    (hM : CtP (cxl X) D y yy bytes maxL retc rmc As fc) (hw : SW own idx yy bytes maxL retc n) (hrm : RoomOK rmc rm maxL z) (hn : As.length = n) (hst : st = As.reverse ++ rest) (hrest : (rest.map fun v => v.category).sum ≤ 8) (hd : decode cc pc = .ok (.invokestatic idx, 3)) (hp : pc + 3 = pc')
    (k : ∀ r, GF X cc D z Q (F r) pc' lv (.int (iz r) :: rest) ws) : GF X cc D z Q (clp fc F) pc lv st ws := by
  subst hp
  intro o ho H locs ls hP hD hS hl
  unfold clp at ho
  cases hfc : fc with
  | none => rw [hfc] at ho; cases ho
  | some r0 =>
    rw [hfc] at ho
    have hm := hM r0 hfc H.size
    have hFc : ∀ q, va_A [] H.size q → cxA X q := fun q h => by
      rcases h with ⟨k, e, h⟩ | h
      · simp at h
      · exact hX.2.2.2.2.2.2.1 q (Nat.le_trans hS.1 h)
    refine va_calli (va_runS (As := As) (rest := rest) ⟨hX.1, hX.2.1, hX.2.2.1, hX.2.2.2.1, hX.2.2.2.2.1⟩ hm ⟨callB_in hX hw.1 hw.2.2.1 hw.2.2.2.1 hw.2.2.2.2 hrm, hX.2.2.2.2.1 _ hw.2.1⟩ ⟨fun a U g mk q => by obtain ⟨q0, q1, qK⟩ := q; exact ⟨q0, q1, va_K.moved (u := U) (U := U.calling g mk a) (Vm.Alike.refl U.vm) qK⟩, fun U hU hWm => ⟨rfl, by rw [hU], va_K.moved hWm.alike hX.2.2.2.2.2.1⟩⟩ rfl hn hl.1 hst (lv_room hrest) hd ⟨by rw [hX.2.2.2.2.2.2.2.2.1]; exact hrm.2.2.2.2.1, by rw [hX.2.2.2.2.2.2.2.2.1]; exact hrm.2.2.2.2.2⟩) hS (fun q _ h => hFc q h) hFc (fun r u t H1 locs1 ht hvm hw1 hB hz1 hk1 hS1 => ?_)
    subst hw1
    refine k r0 o ho H1 locs1 ls (hP.kept (fun j q hq => hk1 q.1 (hP j q hq).lt (fun h => ?_))) hD hS1 hl
    rcases h with ⟨k, e, h⟩ | h
    · simp at h
    · have := (hP j q hq).lt; omega
end
section
def rmk (k : Nat) : Room := { frames := k, cells := 0, slots := 0, locals := 40 * k }
def FU : Nat := 100000
theorem cat1 {vs : List Value} (h : vs.all (fun v => v.category == 1) = true) : ∀ v ∈ vs, v.category = 1 := fun v hv => by have := List.all_eq_true.mp h v hv; simpa using this
theorem in_X0 : ∀ w ∈ u_ws RX0 TX0 12, w ∈ lw_gd := by decide +kernel
theorem in_X1 : ∀ w ∈ u_ws RX1 TX1 5, w ∈ lw_gd := by decide +kernel
theorem in_X2 : ∀ w ∈ u_ws RX2 TX2 18, w ∈ lw_gd := by decide +kernel
theorem in_X3 : ∀ w ∈ u_ws RX3 TX3 12, w ∈ lw_gd := by decide +kernel
theorem in_X4 : ∀ w ∈ u_ws RX4 TX4 34, w ∈ lw_gd := by decide +kernel
def wR (y : ClassId × ClassId × ClassId) (q : Nat → Nat) (Y : St) : va_W := [((q 0), .inr (1, [.ref (q 1), .ref (q 2), .ref (q 3), .ref (q 4), .int (iz (Y.1 4))])), ((q 1), .inl (y.1, 300, .inl (fun j => iz (Y.2 0 j)))), ((q 2), .inl (y.1, 16, .inl (fun j => iz (Y.2 1 j)))), ((q 3), .inl (y.1, 300, .inl (fun j => iz (Y.2 2 j)))), ((q 4), .inl (y.1, 16, .inl (fun j => iz (Y.2 3 j))))]
def wS (y : ClassId × ClassId × ClassId) (q qr : Nat → Nat) (Y : St × St) : va_W := [((q 0), .inr (2, [.ref (qr 0), .ref (q 1), .ref (q 2), .ref (q 3), .ref (q 4), .ref (q 5), .ref (q 6), .ref (q 7), .ref (q 8), .int (iz (Y.1.1 9)), .int (iz (Y.1.1 10)), .int (iz (Y.1.1 11)), .int (iz (Y.1.1 12)), .int (iz (Y.1.1 13)), .int (iz (Y.1.1 14)), .int (iz (Y.1.1 15)), .int (iz (Y.1.1 16)), .int (iz (Y.1.1 17))])), ((q 1), .inl (y.1, 16, .inl (fun j => iz (Y.1.2 1 j)))), ((q 2), .inl (y.1, 5, .inl (fun j => iz (Y.1.2 2 j)))), ((q 3), .inl (y.1, 16, .inl (fun j => iz (Y.1.2 3 j)))), ((q 4), .inl (y.1, 16, .inl (fun j => iz (Y.1.2 4 j)))), ((q 5), .inl (y.1, 16, .inl (fun j => iz (Y.1.2 5 j)))), ((q 6), .inl (y.1, 16, .inl (fun j => iz (Y.1.2 6 j)))), ((q 7), .inl (y.1, 16, .inl (fun j => iz (Y.1.2 7 j)))), ((q 8), .inl (y.1, 8, .inl (fun j => iz (Y.1.2 8 j)))), ((qr 0), .inr (1, [.ref (qr 1), .ref (qr 2), .ref (qr 3), .ref (qr 4), .int (iz (Y.2.1 4))])), ((qr 1), .inl (y.1, 300, .inl (fun j => iz (Y.2.2 0 j)))), ((qr 2), .inl (y.1, 16, .inl (fun j => iz (Y.2.2 1 j)))), ((qr 3), .inl (y.1, 300, .inl (fun j => iz (Y.2.2 2 j)))), ((qr 4), .inl (y.1, 16, .inl (fun j => iz (Y.2.2 3 j))))]
def wT (y : ClassId × ClassId × ClassId) (q qr : Nat → Nat) (Y : St × St) : va_W := [((q 0), .inr (0, [.ref (qr 0), .ref (q 1), .ref (q 2), .ref (q 3), .ref (q 4), .ref (q 5), .ref (q 6), .ref (q 7), .int (iz (Y.1.1 8)), .int (iz (Y.1.1 9)), .int (iz (Y.1.1 10)), .int (iz (Y.1.1 11))])), ((q 1), .inl (y.1, 16, .inl (fun j => iz (Y.1.2 1 j)))), ((q 2), .inl (y.1, 16, .inl (fun j => iz (Y.1.2 2 j)))), ((q 3), .inl (y.1, 252, .inl (fun j => iz (Y.1.2 3 j)))), ((q 4), .inl (y.1, 1024, .inl (fun j => iz (Y.1.2 4 j)))), ((q 5), .inl (y.1, 1024, .inl (fun j => iz (Y.1.2 5 j)))), ((q 6), .inl (y.2.1, 4800, .inr (.inl (fun j => lz (Y.1.2 6 j))))), ((q 7), .inl (y.1, 300, .inl (fun j => iz (Y.1.2 7 j)))), ((qr 0), .inr (1, [.ref (qr 1), .ref (qr 2), .ref (qr 3), .ref (qr 4), .int (iz (Y.2.1 4))])), ((qr 1), .inl (y.1, 300, .inl (fun j => iz (Y.2.2 0 j)))), ((qr 2), .inl (y.1, 16, .inl (fun j => iz (Y.2.2 1 j)))), ((qr 3), .inl (y.1, 300, .inl (fun j => iz (Y.2.2 2 j)))), ((qr 4), .inl (y.1, 16, .inl (fun j => iz (Y.2.2 3 j))))]
def wJ (y : ClassId × ClassId × ClassId) (q : Nat → Nat) (Y : St × St × St × St × St) : va_W := [((q 0), .inr (3, [.ref (q 5), .ref (q 10), .ref (q 19), .ref (q 28), .ref (q 1), .ref (q 2), .ref (q 3), .ref (q 4), .int (iz (Y.1.1 8)), .int (iz (Y.1.1 9)), .int (iz (Y.1.1 10)), .int (iz (Y.1.1 11))])), ((q 1), .inl (y.1, 5, .inl (fun j => iz (Y.1.2 4 j)))), ((q 2), .inl (y.1, 300, .inl (fun j => iz (Y.1.2 5 j)))), ((q 3), .inl (y.1, 300, .inl (fun j => iz (Y.1.2 6 j)))), ((q 4), .inl (y.1, 300, .inl (fun j => iz (Y.1.2 7 j)))), ((q 5), .inr (1, [.ref (q 6), .ref (q 7), .ref (q 8), .ref (q 9), .int (iz (Y.2.1.1 4))])), ((q 6), .inl (y.1, 300, .inl (fun j => iz (Y.2.1.2 0 j)))), ((q 7), .inl (y.1, 16, .inl (fun j => iz (Y.2.1.2 1 j)))), ((q 8), .inl (y.1, 300, .inl (fun j => iz (Y.2.1.2 2 j)))), ((q 9), .inl (y.1, 16, .inl (fun j => iz (Y.2.1.2 3 j)))), ((q 10), .inr (2, [.ref (q 5), .ref (q 11), .ref (q 12), .ref (q 13), .ref (q 14), .ref (q 15), .ref (q 16), .ref (q 17), .ref (q 18), .int (iz (Y.2.2.1.1 9)), .int (iz (Y.2.2.1.1 10)), .int (iz (Y.2.2.1.1 11)), .int (iz (Y.2.2.1.1 12)), .int (iz (Y.2.2.1.1 13)), .int (iz (Y.2.2.1.1 14)), .int (iz (Y.2.2.1.1 15)), .int (iz (Y.2.2.1.1 16)), .int (iz (Y.2.2.1.1 17))])), ((q 11), .inl (y.1, 16, .inl (fun j => iz (Y.2.2.1.2 1 j)))), ((q 12), .inl (y.1, 5, .inl (fun j => iz (Y.2.2.1.2 2 j)))), ((q 13), .inl (y.1, 16, .inl (fun j => iz (Y.2.2.1.2 3 j)))), ((q 14), .inl (y.1, 16, .inl (fun j => iz (Y.2.2.1.2 4 j)))), ((q 15), .inl (y.1, 16, .inl (fun j => iz (Y.2.2.1.2 5 j)))), ((q 16), .inl (y.1, 16, .inl (fun j => iz (Y.2.2.1.2 6 j)))), ((q 17), .inl (y.1, 16, .inl (fun j => iz (Y.2.2.1.2 7 j)))), ((q 18), .inl (y.1, 8, .inl (fun j => iz (Y.2.2.1.2 8 j)))), ((q 19), .inr (2, [.ref (q 5), .ref (q 20), .ref (q 21), .ref (q 22), .ref (q 23), .ref (q 24), .ref (q 25), .ref (q 26), .ref (q 27), .int (iz (Y.2.2.2.1.1 9)), .int (iz (Y.2.2.2.1.1 10)), .int (iz (Y.2.2.2.1.1 11)), .int (iz (Y.2.2.2.1.1 12)), .int (iz (Y.2.2.2.1.1 13)), .int (iz (Y.2.2.2.1.1 14)), .int (iz (Y.2.2.2.1.1 15)), .int (iz (Y.2.2.2.1.1 16)), .int (iz (Y.2.2.2.1.1 17))])), ((q 20), .inl (y.1, 16, .inl (fun j => iz (Y.2.2.2.1.2 1 j)))), ((q 21), .inl (y.1, 5, .inl (fun j => iz (Y.2.2.2.1.2 2 j)))), ((q 22), .inl (y.1, 16, .inl (fun j => iz (Y.2.2.2.1.2 3 j)))), ((q 23), .inl (y.1, 16, .inl (fun j => iz (Y.2.2.2.1.2 4 j)))), ((q 24), .inl (y.1, 16, .inl (fun j => iz (Y.2.2.2.1.2 5 j)))), ((q 25), .inl (y.1, 16, .inl (fun j => iz (Y.2.2.2.1.2 6 j)))), ((q 26), .inl (y.1, 16, .inl (fun j => iz (Y.2.2.2.1.2 7 j)))), ((q 27), .inl (y.1, 8, .inl (fun j => iz (Y.2.2.2.1.2 8 j)))), ((q 28), .inr (0, [.ref (q 5), .ref (q 29), .ref (q 30), .ref (q 31), .ref (q 32), .ref (q 33), .ref (q 34), .ref (q 35), .int (iz (Y.2.2.2.2.1 8)), .int (iz (Y.2.2.2.2.1 9)), .int (iz (Y.2.2.2.2.1 10)), .int (iz (Y.2.2.2.2.1 11))])), ((q 29), .inl (y.1, 16, .inl (fun j => iz (Y.2.2.2.2.2 1 j)))), ((q 30), .inl (y.1, 16, .inl (fun j => iz (Y.2.2.2.2.2 2 j)))), ((q 31), .inl (y.1, 252, .inl (fun j => iz (Y.2.2.2.2.2 3 j)))), ((q 32), .inl (y.1, 1024, .inl (fun j => iz (Y.2.2.2.2.2 4 j)))), ((q 33), .inl (y.1, 1024, .inl (fun j => iz (Y.2.2.2.2.2 5 j)))), ((q 34), .inl (y.2.1, 4800, .inr (.inl (fun j => lz (Y.2.2.2.2.2 6 j))))), ((q 35), .inl (y.1, 300, .inl (fun j => iz (Y.2.2.2.2.2 7 j))))]
def wM (y : ClassId × ClassId × ClassId) (q : Nat → Nat) (Y : St) : va_W := [((q 0), .inr (4, [.ref (q 1), .ref (q 2), .int (iz (Y.1 2)), .int (iz (Y.1 3)), .int (iz (Y.1 4)), .int (iz (Y.1 5)), .ref (q 3), .ref (q 4), .ref (q 5), .int (iz (Y.1 9)), .ref (q 6), .int (iz (Y.1 11)), .int (iz (Y.1 12)), .ref (q 7), .ref (q 8), .ref (q 9), .ref (q 10), .ref (q 11), .ref (q 12), .ref (q 13), .ref (q 14), .ref (q 15), .int (iz (Y.1 22)), .int (iz (Y.1 23)), .int (iz (Y.1 24)), .int (iz (Y.1 25)), .int (iz (Y.1 26)), .int (iz (Y.1 27)), .int (iz (Y.1 28)), .ref (q 16), .ref (q 17), .int (iz (Y.1 31)), .ref (q 18), .ref (q 19)])), ((q 1), .inl (y.1, 16, .inl (fun j => iz (Y.2 0 j)))), ((q 2), .inl (y.1, 300, .inl (fun j => iz (Y.2 1 j)))), ((q 3), .inl (y.1, 300, .inl (fun j => iz (Y.2 6 j)))), ((q 4), .inl (y.1, 300, .inl (fun j => iz (Y.2 7 j)))), ((q 5), .inl (y.1, 300, .inl (fun j => iz (Y.2 8 j)))), ((q 6), .inl (y.1, 5, .inl (fun j => iz (Y.2 10 j)))), ((q 7), .inl (y.2.2, 16, .inl (fun j => iz (Y.2 13 j)))), ((q 8), .inl (y.1, 16, .inl (fun j => iz (Y.2 14 j)))), ((q 9), .inl (y.1, 16, .inl (fun j => iz (Y.2 15 j)))), ((q 10), .inl (y.1, 16, .inl (fun j => iz (Y.2 16 j)))), ((q 11), .inl (y.2.2, 16, .inl (fun j => iz (Y.2 17 j)))), ((q 12), .inl (y.1, 16, .inl (fun j => iz (Y.2 18 j)))), ((q 13), .inl (y.1, 16, .inl (fun j => iz (Y.2 19 j)))), ((q 14), .inl (y.1, 16, .inl (fun j => iz (Y.2 20 j)))), ((q 15), .inl (y.1, 16, .inl (fun j => iz (Y.2 21 j)))), ((q 16), .inl (y.1, 16, .inl (fun j => iz (Y.2 29 j)))), ((q 17), .inl (y.1, 308224, .inl (fun j => iz (Y.2 30 j)))), ((q 18), .inl (y.2.2, 16, .inl (fun j => iz (Y.2 32 j)))), ((q 19), .inl (y.2.2, 16, .inl (fun j => iz (Y.2 33 j))))]
set_option maxRecDepth 20000 in
theorem mf_X1_30 : Cond.fieldLink RX1 30 (TX1 4).1 (TX1 4).2.1 (TX1 4).2.2.1 ∈ lw_gd := gd_in (List.mem_append_right _ (List.mem_of_getElem? (i := 37) rfl)) rfl
set_option maxRecDepth 20000 in
theorem mf_X1_9 : Cond.fieldLink RX1 9 (TX1 0).1 (TX1 0).2.1 (TX1 0).2.2.1 ∈ lw_gd := gd_in (List.mem_append_right _ (List.mem_of_getElem? (i := 27) rfl)) rfl
set_option maxRecDepth 20000 in
theorem mf_X0_86 : Cond.fieldLink RX0 86 (TX0 8).1 (TX0 8).2.1 (TX0 8).2.2.1 ∈ lw_gd := gd_in (List.mem_append_right _ (List.mem_of_getElem? (i := 130) rfl)) rfl
set_option maxRecDepth 20000 in
theorem mf_X0_9 : Cond.fieldLink RX0 9 (TX0 1).1 (TX0 1).2.1 (TX0 1).2.2.1 ∈ lw_gd := gd_in (List.mem_append_right _ (List.mem_of_getElem? (i := 122) rfl)) rfl
set_option maxRecDepth 20000 in
theorem mf_X0_15 : Cond.fieldLink RX0 15 (TX0 2).1 (TX0 2).2.1 (TX0 2).2.2.1 ∈ lw_gd := gd_in (List.mem_append_right _ (List.mem_of_getElem? (i := 123) rfl)) rfl
set_option maxRecDepth 20000 in
theorem mf_X0_34 : Cond.fieldLink RX0 34 (TX0 0).1 (TX0 0).2.1 (TX0 0).2.2.1 ∈ lw_gd := gd_in (List.mem_append_right _ (List.mem_of_getElem? (i := 121) rfl)) rfl
set_option maxRecDepth 20000 in
theorem mw_X0_82 : VW RX0 82 RX1 yX1_bits cX1_bits 3 (some .int) 0 := ⟨gd_in (List.mem_append_right _ (List.mem_of_getElem? (i := 431) rfl)) rfl, gd_in (List.mem_append_right _ (List.mem_of_getElem? (i := 248) rfl)) rfl, gd_in (List.mem_append_right _ (List.mem_of_getElem? (i := 249) rfl)) rfl, gd_in (List.mem_append_right _ (List.mem_of_getElem? (i := 2) rfl)) rfl, gd_in (List.mem_append_right _ (List.mem_of_getElem? (i := 250) rfl)) rfl, by decide, by decide, by decide⟩
set_option maxRecDepth 20000 in
theorem mc_J6_265 : Cond.constant RJ6 265 (1431655765) ∈ lw_gd := gd_in (List.mem_append_right _ (List.mem_of_getElem? (i := 254) rfl)) rfl
set_option maxRecDepth 20000 in
theorem mc_J6_266 : Cond.constant RJ6 266 (858993459) ∈ lw_gd := gd_in (List.mem_append_right _ (List.mem_of_getElem? (i := 255) rfl)) rfl
set_option maxRecDepth 20000 in
theorem mc_J6_267 : Cond.constant RJ6 267 (252645135) ∈ lw_gd := gd_in (List.mem_append_right _ (List.mem_of_getElem? (i := 256) rfl)) rfl
set_option maxRecDepth 20000 in
theorem mf_X0_24 : Cond.fieldLink RX0 24 (TX0 5).1 (TX0 5).2.1 (TX0 5).2.2.1 ∈ lw_gd := gd_in (List.mem_append_right _ (List.mem_of_getElem? (i := 126) rfl)) rfl
set_option maxRecDepth 20000 in
theorem mw_X0_62 : SW RX0 62 yJ6_bitCount_0f7a4 cJ6_bitCount_0f7a4 1 (some .int) 1 := ⟨gd_in (List.mem_append_right _ (List.mem_of_getElem? (i := 436) rfl)) rfl, gd_in (List.mem_append_right _ (List.mem_of_getElem? (i := 252) rfl)) rfl, gd_in (List.mem_append_right _ (List.mem_of_getElem? (i := 7) rfl)) rfl, gd_in (List.mem_append_right _ (List.mem_of_getElem? (i := 253) rfl)) rfl, by decide, by decide, by decide⟩
set_option maxRecDepth 20000 in
theorem mf_X0_38 : Cond.fieldLink RX0 38 (TX0 10).1 (TX0 10).2.1 (TX0 10).2.2.1 ∈ lw_gd := gd_in (List.mem_append_right _ (List.mem_of_getElem? (i := 132) rfl)) rfl
set_option maxRecDepth 20000 in
theorem mf_X0_89 : Cond.fieldLink RX0 89 (TX0 9).1 (TX0 9).2.1 (TX0 9).2.2.1 ∈ lw_gd := gd_in (List.mem_append_right _ (List.mem_of_getElem? (i := 131) rfl)) rfl
set_option maxRecDepth 20000 in
theorem mf_X0_18 : Cond.fieldLink RX0 18 (TX0 3).1 (TX0 3).2.1 (TX0 3).2.2.1 ∈ lw_gd := gd_in (List.mem_append_right _ (List.mem_of_getElem? (i := 124) rfl)) rfl
set_option maxRecDepth 20000 in
theorem mf_X0_21 : Cond.fieldLink RX0 21 (TX0 4).1 (TX0 4).2.1 (TX0 4).2.2.1 ∈ lw_gd := gd_in (List.mem_append_right _ (List.mem_of_getElem? (i := 125) rfl)) rfl
set_option maxRecDepth 20000 in
theorem mf_X1_15 : Cond.fieldLink RX1 15 (TX1 1).1 (TX1 1).2.1 (TX1 1).2.2.1 ∈ lw_gd := gd_in (List.mem_append_right _ (List.mem_of_getElem? (i := 31) rfl)) rfl
set_option maxRecDepth 20000 in
theorem mf_X0_27 : Cond.fieldLink RX0 27 (TX0 6).1 (TX0 6).2.1 (TX0 6).2.2.1 ∈ lw_gd := gd_in (List.mem_append_right _ (List.mem_of_getElem? (i := 127) rfl)) rfl
set_option maxRecDepth 20000 in
theorem mc_X0_103 : Cond.constantLong RX0 103 (15) ∈ lw_gd := gd_in (List.mem_append_right _ (List.mem_of_getElem? (i := 450) rfl)) rfl
set_option maxRecDepth 20000 in
theorem mc_X0_105 : Cond.constantLong RX0 105 (-1) ∈ lw_gd := gd_in (List.mem_append_right _ (List.mem_of_getElem? (i := 451) rfl)) rfl
set_option maxRecDepth 20000 in
theorem mw_X0_92 : VW RX0 92 RX0 yX0_bestChoice cX0_bestChoice 8 (some .int) 2 := ⟨gd_in (List.mem_append_right _ (List.mem_of_getElem? (i := 442) rfl)) rfl, gd_in (List.mem_append_right _ (List.mem_of_getElem? (i := 443) rfl)) rfl, gd_in (List.mem_append_right _ (List.mem_of_getElem? (i := 444) rfl)) rfl, gd_in (List.mem_append_right _ (List.mem_of_getElem? (i := 5) rfl)) rfl, gd_in (List.mem_append_right _ (List.mem_of_getElem? (i := 445) rfl)) rfl, by decide, by decide, by decide⟩
set_option maxRecDepth 20000 in
theorem mw_X0_96 : VW RX0 96 RX0 yX0_keepChoice cX0_keepChoice 6 none 3 := ⟨gd_in (List.mem_append_right _ (List.mem_of_getElem? (i := 446) rfl)) rfl, gd_in (List.mem_append_right _ (List.mem_of_getElem? (i := 447) rfl)) rfl, gd_in (List.mem_append_right _ (List.mem_of_getElem? (i := 448) rfl)) rfl, gd_in (List.mem_append_right _ (List.mem_of_getElem? (i := 5) rfl)) rfl, gd_in (List.mem_append_right _ (List.mem_of_getElem? (i := 449) rfl)) rfl, by decide, by decide, by decide⟩
set_option maxRecDepth 20000 in
theorem mf_X0_68 : Cond.fieldLink RX0 68 (TX1 0).1 (TX1 0).2.1 (TX1 0).2.2.1 ∈ lw_gd := gd_in (List.mem_append_right _ (List.mem_of_getElem? (i := 28) rfl)) rfl
set_option maxRecDepth 20000 in
theorem mw_X0_71 : VW RX0 71 RX1 yX1_priceAt cX1_priceAt 2 (some .int) 1 := ⟨gd_in (List.mem_append_right _ (List.mem_of_getElem? (i := 437) rfl)) rfl, gd_in (List.mem_append_right _ (List.mem_of_getElem? (i := 262) rfl)) rfl, gd_in (List.mem_append_right _ (List.mem_of_getElem? (i := 263) rfl)) rfl, gd_in (List.mem_append_right _ (List.mem_of_getElem? (i := 2) rfl)) rfl, gd_in (List.mem_append_right _ (List.mem_of_getElem? (i := 264) rfl)) rfl, by decide, by decide, by decide⟩
set_option maxRecDepth 20000 in
theorem mf_X0_57 : Cond.fieldLink RX0 57 (TX1 4).1 (TX1 4).2.1 (TX1 4).2.2.1 ∈ lw_gd := gd_in (List.mem_append_right _ (List.mem_of_getElem? (i := 38) rfl)) rfl
set_option maxRecDepth 20000 in
theorem mw_X0_100 : VW RX0 100 RX0 yX0_keptChoice cX0_keptChoice 4 (some .int) 2 := ⟨gd_in (List.mem_append_right _ (List.mem_of_getElem? (i := 456) rfl)) rfl, gd_in (List.mem_append_right _ (List.mem_of_getElem? (i := 457) rfl)) rfl, gd_in (List.mem_append_right _ (List.mem_of_getElem? (i := 458) rfl)) rfl, gd_in (List.mem_append_right _ (List.mem_of_getElem? (i := 5) rfl)) rfl, gd_in (List.mem_append_right _ (List.mem_of_getElem? (i := 459) rfl)) rfl, by decide, by decide, by decide⟩
set_option maxRecDepth 20000 in
theorem mf_X0_31 : Cond.fieldLink RX0 31 (TX0 7).1 (TX0 7).2.1 (TX0 7).2.2.1 ∈ lw_gd := gd_in (List.mem_append_right _ (List.mem_of_getElem? (i := 128) rfl)) rfl
set_option maxRecDepth 20000 in
theorem mf_X0_42 : Cond.fieldLink RX0 42 (TX0 11).1 (TX0 11).2.1 (TX0 11).2.2.1 ∈ lw_gd := gd_in (List.mem_append_right _ (List.mem_of_getElem? (i := 134) rfl)) rfl
set_option maxRecDepth 20000 in
theorem mw_X0_78 : VW RX0 78 RX0 yX0_followChoices cX0_followChoices 7 none 2 := ⟨gd_in (List.mem_append_right _ (List.mem_of_getElem? (i := 452) rfl)) rfl, gd_in (List.mem_append_right _ (List.mem_of_getElem? (i := 453) rfl)) rfl, gd_in (List.mem_append_right _ (List.mem_of_getElem? (i := 454) rfl)) rfl, gd_in (List.mem_append_right _ (List.mem_of_getElem? (i := 5) rfl)) rfl, gd_in (List.mem_append_right _ (List.mem_of_getElem? (i := 455) rfl)) rfl, by decide, by decide, by decide⟩
set_option maxRecDepth 20000 in
theorem mw_X0_74 : VW RX0 74 RX0 yX0_fillAsking cX0_fillAsking 7 none 1 := ⟨gd_in (List.mem_append_right _ (List.mem_of_getElem? (i := 438) rfl)) rfl, gd_in (List.mem_append_right _ (List.mem_of_getElem? (i := 439) rfl)) rfl, gd_in (List.mem_append_right _ (List.mem_of_getElem? (i := 440) rfl)) rfl, gd_in (List.mem_append_right _ (List.mem_of_getElem? (i := 5) rfl)) rfl, gd_in (List.mem_append_right _ (List.mem_of_getElem? (i := 441) rfl)) rfl, by decide, by decide, by decide⟩
set_option maxRecDepth 20000 in
theorem mw_X0_45 : SW RX0 45 yJ7_fill_53178 cJ7_fill_53178 4 none 2 := ⟨gd_in (List.mem_append_right _ (List.mem_of_getElem? (i := 426) rfl)) rfl, gd_in (List.mem_append_right _ (List.mem_of_getElem? (i := 25) rfl)) rfl, gd_in (List.mem_append_right _ (List.mem_of_getElem? (i := 3) rfl)) rfl, gd_in (List.mem_append_right _ (List.mem_of_getElem? (i := 26) rfl)) rfl, by decide, by decide, by decide⟩
set_option maxRecDepth 20000 in
theorem mw_X0_51 : VW RX0 51 RX0 yX0_numberThings cX0_numberThings 3 none 0 := ⟨gd_in (List.mem_append_right _ (List.mem_of_getElem? (i := 427) rfl)) rfl, gd_in (List.mem_append_right _ (List.mem_of_getElem? (i := 428) rfl)) rfl, gd_in (List.mem_append_right _ (List.mem_of_getElem? (i := 429) rfl)) rfl, gd_in (List.mem_append_right _ (List.mem_of_getElem? (i := 5) rfl)) rfl, gd_in (List.mem_append_right _ (List.mem_of_getElem? (i := 430) rfl)) rfl, by decide, by decide, by decide⟩
set_option maxRecDepth 20000 in
theorem mw_X0_54 : VW RX0 54 RX0 yX0_listFullMasks cX0_listFullMasks 2 none 0 := ⟨gd_in (List.mem_append_right _ (List.mem_of_getElem? (i := 432) rfl)) rfl, gd_in (List.mem_append_right _ (List.mem_of_getElem? (i := 433) rfl)) rfl, gd_in (List.mem_append_right _ (List.mem_of_getElem? (i := 434) rfl)) rfl, gd_in (List.mem_append_right _ (List.mem_of_getElem? (i := 5) rfl)) rfl, gd_in (List.mem_append_right _ (List.mem_of_getElem? (i := 435) rfl)) rfl, by decide, by decide, by decide⟩
set_option maxRecDepth 20000 in
theorem mw_X1_34 : VW RX1 34 RX1 yX1_priceAt cX1_priceAt 2 (some .int) 1 := ⟨gd_in (List.mem_append_right _ (List.mem_of_getElem? (i := 261) rfl)) rfl, gd_in (List.mem_append_right _ (List.mem_of_getElem? (i := 262) rfl)) rfl, gd_in (List.mem_append_right _ (List.mem_of_getElem? (i := 263) rfl)) rfl, gd_in (List.mem_append_right _ (List.mem_of_getElem? (i := 2) rfl)) rfl, gd_in (List.mem_append_right _ (List.mem_of_getElem? (i := 264) rfl)) rfl, by decide, by decide, by decide⟩
set_option maxRecDepth 20000 in
theorem mw_X1_38 : VW RX1 38 RX1 yX1_bits cX1_bits 3 (some .int) 0 := ⟨gd_in (List.mem_append_right _ (List.mem_of_getElem? (i := 247) rfl)) rfl, gd_in (List.mem_append_right _ (List.mem_of_getElem? (i := 248) rfl)) rfl, gd_in (List.mem_append_right _ (List.mem_of_getElem? (i := 249) rfl)) rfl, gd_in (List.mem_append_right _ (List.mem_of_getElem? (i := 2) rfl)) rfl, gd_in (List.mem_append_right _ (List.mem_of_getElem? (i := 250) rfl)) rfl, by decide, by decide, by decide⟩
set_option maxRecDepth 20000 in
theorem mw_X1_42 : SW RX1 42 yJ6_bitCount_0f7a4 cJ6_bitCount_0f7a4 1 (some .int) 1 := ⟨gd_in (List.mem_append_right _ (List.mem_of_getElem? (i := 251) rfl)) rfl, gd_in (List.mem_append_right _ (List.mem_of_getElem? (i := 252) rfl)) rfl, gd_in (List.mem_append_right _ (List.mem_of_getElem? (i := 7) rfl)) rfl, gd_in (List.mem_append_right _ (List.mem_of_getElem? (i := 253) rfl)) rfl, by decide, by decide, by decide⟩
set_option maxRecDepth 20000 in
theorem mf_X1_18 : Cond.fieldLink RX1 18 (TX1 2).1 (TX1 2).2.1 (TX1 2).2.2.1 ∈ lw_gd := gd_in (List.mem_append_right _ (List.mem_of_getElem? (i := 34) rfl)) rfl
set_option maxRecDepth 20000 in
theorem mf_X1_21 : Cond.fieldLink RX1 21 (TX1 3).1 (TX1 3).2.1 (TX1 3).2.2.1 ∈ lw_gd := gd_in (List.mem_append_right _ (List.mem_of_getElem? (i := 36) rfl)) rfl
set_option maxRecDepth 20000 in
theorem mw_X1_24 : SW RX1 24 yJ7_fill_53178 cJ7_fill_53178 4 none 2 := ⟨gd_in (List.mem_append_right _ (List.mem_of_getElem? (i := 24) rfl)) rfl, gd_in (List.mem_append_right _ (List.mem_of_getElem? (i := 25) rfl)) rfl, gd_in (List.mem_append_right _ (List.mem_of_getElem? (i := 3) rfl)) rfl, gd_in (List.mem_append_right _ (List.mem_of_getElem? (i := 26) rfl)) rfl, by decide, by decide, by decide⟩
set_option maxRecDepth 20000 in
theorem mf_X2_44 : Cond.fieldLink RX2 44 (TX2 9).1 (TX2 9).2.1 (TX2 9).2.2.1 ∈ lw_gd := gd_in (List.mem_append_right _ (List.mem_of_getElem? (i := 68) rfl)) rfl
set_option maxRecDepth 20000 in
theorem mf_X2_40 : Cond.fieldLink RX2 40 (TX2 10).1 (TX2 10).2.1 (TX2 10).2.2.1 ∈ lw_gd := gd_in (List.mem_append_right _ (List.mem_of_getElem? (i := 69) rfl)) rfl
set_option maxRecDepth 20000 in
theorem mf_X2_9 : Cond.fieldLink RX2 9 (TX2 1).1 (TX2 1).2.1 (TX2 1).2.2.1 ∈ lw_gd := gd_in (List.mem_append_right _ (List.mem_of_getElem? (i := 60) rfl)) rfl
set_option maxRecDepth 20000 in
theorem mw_X2_47 : SW RX2 47 yJ7_fill_53178 cJ7_fill_53178 4 none 2 := ⟨gd_in (List.mem_append_right _ (List.mem_of_getElem? (i := 279) rfl)) rfl, gd_in (List.mem_append_right _ (List.mem_of_getElem? (i := 25) rfl)) rfl, gd_in (List.mem_append_right _ (List.mem_of_getElem? (i := 3) rfl)) rfl, gd_in (List.mem_append_right _ (List.mem_of_getElem? (i := 26) rfl)) rfl, by decide, by decide, by decide⟩
set_option maxRecDepth 20000 in
theorem mf_X2_15 : Cond.fieldLink RX2 15 (TX2 2).1 (TX2 2).2.1 (TX2 2).2.2.1 ∈ lw_gd := gd_in (List.mem_append_right _ (List.mem_of_getElem? (i := 61) rfl)) rfl
set_option maxRecDepth 20000 in
theorem mf_X2_53 : Cond.fieldLink RX2 53 (TX2 11).1 (TX2 11).2.1 (TX2 11).2.2.1 ∈ lw_gd := gd_in (List.mem_append_right _ (List.mem_of_getElem? (i := 70) rfl)) rfl
set_option maxRecDepth 20000 in
theorem mf_X2_56 : Cond.fieldLink RX2 56 (TX2 12).1 (TX2 12).2.1 (TX2 12).2.2.1 ∈ lw_gd := gd_in (List.mem_append_right _ (List.mem_of_getElem? (i := 71) rfl)) rfl
set_option maxRecDepth 20000 in
theorem mf_X2_59 : Cond.fieldLink RX2 59 (TX2 13).1 (TX2 13).2.1 (TX2 13).2.2.1 ∈ lw_gd := gd_in (List.mem_append_right _ (List.mem_of_getElem? (i := 72) rfl)) rfl
set_option maxRecDepth 20000 in
theorem mf_X2_62 : Cond.fieldLink RX2 62 (TX2 14).1 (TX2 14).2.1 (TX2 14).2.2.1 ∈ lw_gd := gd_in (List.mem_append_right _ (List.mem_of_getElem? (i := 73) rfl)) rfl
set_option maxRecDepth 20000 in
theorem mf_X2_65 : Cond.fieldLink RX2 65 (TX2 15).1 (TX2 15).2.1 (TX2 15).2.2.1 ∈ lw_gd := gd_in (List.mem_append_right _ (List.mem_of_getElem? (i := 74) rfl)) rfl
set_option maxRecDepth 20000 in
theorem mf_X2_68 : Cond.fieldLink RX2 68 (TX2 16).1 (TX2 16).2.1 (TX2 16).2.2.1 ∈ lw_gd := gd_in (List.mem_append_right _ (List.mem_of_getElem? (i := 75) rfl)) rfl
set_option maxRecDepth 20000 in
theorem mf_X2_36 : Cond.fieldLink RX2 36 (TX2 0).1 (TX2 0).2.1 (TX2 0).2.2.1 ∈ lw_gd := gd_in (List.mem_append_right _ (List.mem_of_getElem? (i := 59) rfl)) rfl
set_option maxRecDepth 20000 in
theorem mw_X2_71 : VW RX2 71 RX1 yX1_findNext cX1_findNext 2 none 0 := ⟨gd_in (List.mem_append_right _ (List.mem_of_getElem? (i := 280) rfl)) rfl, gd_in (List.mem_append_right _ (List.mem_of_getElem? (i := 281) rfl)) rfl, gd_in (List.mem_append_right _ (List.mem_of_getElem? (i := 282) rfl)) rfl, gd_in (List.mem_append_right _ (List.mem_of_getElem? (i := 2) rfl)) rfl, gd_in (List.mem_append_right _ (List.mem_of_getElem? (i := 283) rfl)) rfl, by decide, by decide, by decide⟩
set_option maxRecDepth 20000 in
theorem mf_X2_18 : Cond.fieldLink RX2 18 (TX2 3).1 (TX2 3).2.1 (TX2 3).2.2.1 ∈ lw_gd := gd_in (List.mem_append_right _ (List.mem_of_getElem? (i := 62) rfl)) rfl
set_option maxRecDepth 20000 in
theorem mf_X2_24 : Cond.fieldLink RX2 24 (TX2 5).1 (TX2 5).2.1 (TX2 5).2.2.1 ∈ lw_gd := gd_in (List.mem_append_right _ (List.mem_of_getElem? (i := 64) rfl)) rfl
set_option maxRecDepth 20000 in
theorem mw_X2_112 : VW RX2 112 RX2 yX2_hasBooks cX2_hasBooks 1 (some .boolean) 0 := ⟨gd_in (List.mem_append_right _ (List.mem_of_getElem? (i := 297) rfl)) rfl, gd_in (List.mem_append_right _ (List.mem_of_getElem? (i := 298) rfl)) rfl, gd_in (List.mem_append_right _ (List.mem_of_getElem? (i := 299) rfl)) rfl, gd_in (List.mem_append_right _ (List.mem_of_getElem? (i := 4) rfl)) rfl, gd_in (List.mem_append_right _ (List.mem_of_getElem? (i := 300) rfl)) rfl, by decide, by decide, by decide⟩
set_option maxRecDepth 20000 in
theorem mw_X2_116 : VW RX2 116 RX2 yX2_move cX2_move 3 none 2 := ⟨gd_in (List.mem_append_right _ (List.mem_of_getElem? (i := 301) rfl)) rfl, gd_in (List.mem_append_right _ (List.mem_of_getElem? (i := 302) rfl)) rfl, gd_in (List.mem_append_right _ (List.mem_of_getElem? (i := 303) rfl)) rfl, gd_in (List.mem_append_right _ (List.mem_of_getElem? (i := 4) rfl)) rfl, gd_in (List.mem_append_right _ (List.mem_of_getElem? (i := 304) rfl)) rfl, by decide, by decide, by decide⟩
set_option maxRecDepth 20000 in
theorem mw_X2_137 : SW RX2 137 yJ9_max_7cf53 cJ9_max_7cf53 2 (some .int) 2 := ⟨gd_in (List.mem_append_right _ (List.mem_of_getElem? (i := 316) rfl)) rfl, gd_in (List.mem_append_right _ (List.mem_of_getElem? (i := 317) rfl)) rfl, gd_in (List.mem_append_right _ (List.mem_of_getElem? (i := 8) rfl)) rfl, gd_in (List.mem_append_right _ (List.mem_of_getElem? (i := 318) rfl)) rfl, by decide, by decide, by decide⟩
set_option maxRecDepth 20000 in
theorem mw_X2_131 : SW RX2 131 yJ9_min_7cf53 cJ9_min_7cf53 2 (some .int) 2 := ⟨gd_in (List.mem_append_right _ (List.mem_of_getElem? (i := 313) rfl)) rfl, gd_in (List.mem_append_right _ (List.mem_of_getElem? (i := 314) rfl)) rfl, gd_in (List.mem_append_right _ (List.mem_of_getElem? (i := 8) rfl)) rfl, gd_in (List.mem_append_right _ (List.mem_of_getElem? (i := 315) rfl)) rfl, by decide, by decide, by decide⟩
set_option maxRecDepth 20000 in
theorem mw_X2_152 : SW RX2 152 yJ6_bitCount_0f7a4 cJ6_bitCount_0f7a4 1 (some .int) 1 := ⟨gd_in (List.mem_append_right _ (List.mem_of_getElem? (i := 331) rfl)) rfl, gd_in (List.mem_append_right _ (List.mem_of_getElem? (i := 252) rfl)) rfl, gd_in (List.mem_append_right _ (List.mem_of_getElem? (i := 7) rfl)) rfl, gd_in (List.mem_append_right _ (List.mem_of_getElem? (i := 253) rfl)) rfl, by decide, by decide, by decide⟩
set_option maxRecDepth 20000 in
theorem mf_X2_21 : Cond.fieldLink RX2 21 (TX2 4).1 (TX2 4).2.1 (TX2 4).2.2.1 ∈ lw_gd := gd_in (List.mem_append_right _ (List.mem_of_getElem? (i := 63) rfl)) rfl
set_option maxRecDepth 20000 in
theorem mf_X2_27 : Cond.fieldLink RX2 27 (TX2 6).1 (TX2 6).2.1 (TX2 6).2.2.1 ∈ lw_gd := gd_in (List.mem_append_right _ (List.mem_of_getElem? (i := 65) rfl)) rfl
set_option maxRecDepth 20000 in
theorem mf_X2_163 : Cond.fieldLink RX2 163 (TX1 2).1 (TX1 2).2.1 (TX1 2).2.2.1 ∈ lw_gd := gd_in (List.mem_append_right _ (List.mem_of_getElem? (i := 35) rfl)) rfl
set_option maxRecDepth 20000 in
theorem mw_X2_160 : VW RX2 160 RX2 yX2_keyOf cX2_keyOf 2 (some .int) 1 := ⟨gd_in (List.mem_append_right _ (List.mem_of_getElem? (i := 336) rfl)) rfl, gd_in (List.mem_append_right _ (List.mem_of_getElem? (i := 337) rfl)) rfl, gd_in (List.mem_append_right _ (List.mem_of_getElem? (i := 338) rfl)) rfl, gd_in (List.mem_append_right _ (List.mem_of_getElem? (i := 4) rfl)) rfl, gd_in (List.mem_append_right _ (List.mem_of_getElem? (i := 339) rfl)) rfl, by decide, by decide, by decide⟩
set_option maxRecDepth 20000 in
theorem mf_X2_33 : Cond.fieldLink RX2 33 (TX2 8).1 (TX2 8).2.1 (TX2 8).2.2.1 ∈ lw_gd := gd_in (List.mem_append_right _ (List.mem_of_getElem? (i := 67) rfl)) rfl
set_option maxRecDepth 20000 in
theorem mw_X2_157 : VW RX2 157 RX2 yX2_moveHandOn cX2_moveHandOn 1 none 0 := ⟨gd_in (List.mem_append_right _ (List.mem_of_getElem? (i := 344) rfl)) rfl, gd_in (List.mem_append_right _ (List.mem_of_getElem? (i := 345) rfl)) rfl, gd_in (List.mem_append_right _ (List.mem_of_getElem? (i := 346) rfl)) rfl, gd_in (List.mem_append_right _ (List.mem_of_getElem? (i := 4) rfl)) rfl, gd_in (List.mem_append_right _ (List.mem_of_getElem? (i := 347) rfl)) rfl, by decide, by decide, by decide⟩
set_option maxRecDepth 20000 in
theorem mw_X2_143 : VW RX2 143 RX2 yX2_firstOf cX2_firstOf 8 (some .int) 1 := ⟨gd_in (List.mem_append_right _ (List.mem_of_getElem? (i := 332) rfl)) rfl, gd_in (List.mem_append_right _ (List.mem_of_getElem? (i := 333) rfl)) rfl, gd_in (List.mem_append_right _ (List.mem_of_getElem? (i := 334) rfl)) rfl, gd_in (List.mem_append_right _ (List.mem_of_getElem? (i := 4) rfl)) rfl, gd_in (List.mem_append_right _ (List.mem_of_getElem? (i := 335) rfl)) rfl, by decide, by decide, by decide⟩
set_option maxRecDepth 20000 in
theorem mw_X2_140 : VW RX2 140 RX2 yX2_endFullRound cX2_endFullRound 1 none 0 := ⟨gd_in (List.mem_append_right _ (List.mem_of_getElem? (i := 327) rfl)) rfl, gd_in (List.mem_append_right _ (List.mem_of_getElem? (i := 328) rfl)) rfl, gd_in (List.mem_append_right _ (List.mem_of_getElem? (i := 329) rfl)) rfl, gd_in (List.mem_append_right _ (List.mem_of_getElem? (i := 4) rfl)) rfl, gd_in (List.mem_append_right _ (List.mem_of_getElem? (i := 330) rfl)) rfl, by decide, by decide, by decide⟩
set_option maxRecDepth 20000 in
theorem mw_X2_146 : VW RX2 146 RX2 yX2_turnHand cX2_turnHand 2 (some .int) 0 := ⟨gd_in (List.mem_append_right _ (List.mem_of_getElem? (i := 340) rfl)) rfl, gd_in (List.mem_append_right _ (List.mem_of_getElem? (i := 341) rfl)) rfl, gd_in (List.mem_append_right _ (List.mem_of_getElem? (i := 342) rfl)) rfl, gd_in (List.mem_append_right _ (List.mem_of_getElem? (i := 4) rfl)) rfl, gd_in (List.mem_append_right _ (List.mem_of_getElem? (i := 343) rfl)) rfl, by decide, by decide, by decide⟩
set_option maxRecDepth 20000 in
theorem mw_X2_149 : VW RX2 149 RX2 yX2_partThatLoses cX2_partThatLoses 2 (some .int) 1 := ⟨gd_in (List.mem_append_right _ (List.mem_of_getElem? (i := 348) rfl)) rfl, gd_in (List.mem_append_right _ (List.mem_of_getElem? (i := 349) rfl)) rfl, gd_in (List.mem_append_right _ (List.mem_of_getElem? (i := 350) rfl)) rfl, gd_in (List.mem_append_right _ (List.mem_of_getElem? (i := 4) rfl)) rfl, gd_in (List.mem_append_right _ (List.mem_of_getElem? (i := 351) rfl)) rfl, by decide, by decide, by decide⟩
set_option maxRecDepth 20000 in
theorem mw_X2_166 : VW RX2 166 RX2 yX2_bookFor cX2_bookFor 2 (some .int) 1 := ⟨gd_in (List.mem_append_right _ (List.mem_of_getElem? (i := 356) rfl)) rfl, gd_in (List.mem_append_right _ (List.mem_of_getElem? (i := 357) rfl)) rfl, gd_in (List.mem_append_right _ (List.mem_of_getElem? (i := 358) rfl)) rfl, gd_in (List.mem_append_right _ (List.mem_of_getElem? (i := 4) rfl)) rfl, gd_in (List.mem_append_right _ (List.mem_of_getElem? (i := 359) rfl)) rfl, by decide, by decide, by decide⟩
set_option maxRecDepth 20000 in
theorem mf_X2_30 : Cond.fieldLink RX2 30 (TX2 7).1 (TX2 7).2.1 (TX2 7).2.2.1 ∈ lw_gd := gd_in (List.mem_append_right _ (List.mem_of_getElem? (i := 66) rfl)) rfl
set_option maxRecDepth 20000 in
theorem mw_X2_119 : VW RX2 119 RX2 yX2_partFor cX2_partFor 3 (some .int) 1 := ⟨gd_in (List.mem_append_right _ (List.mem_of_getElem? (i := 309) rfl)) rfl, gd_in (List.mem_append_right _ (List.mem_of_getElem? (i := 310) rfl)) rfl, gd_in (List.mem_append_right _ (List.mem_of_getElem? (i := 311) rfl)) rfl, gd_in (List.mem_append_right _ (List.mem_of_getElem? (i := 4) rfl)) rfl, gd_in (List.mem_append_right _ (List.mem_of_getElem? (i := 312) rfl)) rfl, by decide, by decide, by decide⟩
set_option maxRecDepth 20000 in
theorem mw_X2_122 : VW RX2 122 RX2 yX2_lying cX2_lying 1 (some .int) 0 := ⟨gd_in (List.mem_append_right _ (List.mem_of_getElem? (i := 319) rfl)) rfl, gd_in (List.mem_append_right _ (List.mem_of_getElem? (i := 320) rfl)) rfl, gd_in (List.mem_append_right _ (List.mem_of_getElem? (i := 321) rfl)) rfl, gd_in (List.mem_append_right _ (List.mem_of_getElem? (i := 4) rfl)) rfl, gd_in (List.mem_append_right _ (List.mem_of_getElem? (i := 322) rfl)) rfl, by decide, by decide, by decide⟩
set_option maxRecDepth 20000 in
theorem mw_X2_125 : VW RX2 125 RX2 yX2_chooseGoing cX2_chooseGoing 1 (some .int) 0 := ⟨gd_in (List.mem_append_right _ (List.mem_of_getElem? (i := 323) rfl)) rfl, gd_in (List.mem_append_right _ (List.mem_of_getElem? (i := 324) rfl)) rfl, gd_in (List.mem_append_right _ (List.mem_of_getElem? (i := 325) rfl)) rfl, gd_in (List.mem_append_right _ (List.mem_of_getElem? (i := 4) rfl)) rfl, gd_in (List.mem_append_right _ (List.mem_of_getElem? (i := 326) rfl)) rfl, by decide, by decide, by decide⟩
set_option maxRecDepth 20000 in
theorem mw_X2_128 : VW RX2 128 RX2 yX2_takeAway cX2_takeAway 3 none 1 := ⟨gd_in (List.mem_append_right _ (List.mem_of_getElem? (i := 352) rfl)) rfl, gd_in (List.mem_append_right _ (List.mem_of_getElem? (i := 353) rfl)) rfl, gd_in (List.mem_append_right _ (List.mem_of_getElem? (i := 354) rfl)) rfl, gd_in (List.mem_append_right _ (List.mem_of_getElem? (i := 4) rfl)) rfl, gd_in (List.mem_append_right _ (List.mem_of_getElem? (i := 355) rfl)) rfl, by decide, by decide, by decide⟩
set_option maxRecDepth 20000 in
theorem mf_X2_109 : Cond.fieldLink RX2 109 (TX1 1).1 (TX1 1).2.1 (TX1 1).2.2.1 ∈ lw_gd := gd_in (List.mem_append_right _ (List.mem_of_getElem? (i := 33) rfl)) rfl
set_option maxRecDepth 20000 in
theorem mw_X2_91 : VW RX2 91 RX1 yX1_has cX1_has 2 (some .boolean) 1 := ⟨gd_in (List.mem_append_right _ (List.mem_of_getElem? (i := 288) rfl)) rfl, gd_in (List.mem_append_right _ (List.mem_of_getElem? (i := 228) rfl)) rfl, gd_in (List.mem_append_right _ (List.mem_of_getElem? (i := 229) rfl)) rfl, gd_in (List.mem_append_right _ (List.mem_of_getElem? (i := 2) rfl)) rfl, gd_in (List.mem_append_right _ (List.mem_of_getElem? (i := 230) rfl)) rfl, by decide, by decide, by decide⟩
set_option maxRecDepth 20000 in
theorem mf_X2_95 : Cond.fieldLink RX2 95 (TX1 0).1 (TX1 0).2.1 (TX1 0).2.2.1 ∈ lw_gd := gd_in (List.mem_append_right _ (List.mem_of_getElem? (i := 29) rfl)) rfl
set_option maxRecDepth 20000 in
theorem mw_X2_98 : VW RX2 98 RX2 yX2_lies cX2_lies 2 (some .boolean) 1 := ⟨gd_in (List.mem_append_right _ (List.mem_of_getElem? (i := 289) rfl)) rfl, gd_in (List.mem_append_right _ (List.mem_of_getElem? (i := 290) rfl)) rfl, gd_in (List.mem_append_right _ (List.mem_of_getElem? (i := 291) rfl)) rfl, gd_in (List.mem_append_right _ (List.mem_of_getElem? (i := 4) rfl)) rfl, gd_in (List.mem_append_right _ (List.mem_of_getElem? (i := 292) rfl)) rfl, by decide, by decide, by decide⟩
set_option maxRecDepth 20000 in
theorem mf_X2_87 : Cond.fieldLink RX2 87 (TX2 17).1 (TX2 17).2.1 (TX2 17).2.2.1 ∈ lw_gd := gd_in (List.mem_append_right _ (List.mem_of_getElem? (i := 76) rfl)) rfl
set_option maxRecDepth 20000 in
theorem mw_X2_105 : VW RX2 105 RX2 yX2_bring cX2_bring 5 (some .int) 1 := ⟨gd_in (List.mem_append_right _ (List.mem_of_getElem? (i := 305) rfl)) rfl, gd_in (List.mem_append_right _ (List.mem_of_getElem? (i := 306) rfl)) rfl, gd_in (List.mem_append_right _ (List.mem_of_getElem? (i := 307) rfl)) rfl, gd_in (List.mem_append_right _ (List.mem_of_getElem? (i := 4) rfl)) rfl, gd_in (List.mem_append_right _ (List.mem_of_getElem? (i := 308) rfl)) rfl, by decide, by decide, by decide⟩
set_option maxRecDepth 20000 in
theorem mw_X2_101 : VW RX2 101 RX2 yX2_meet cX2_meet 2 none 1 := ⟨gd_in (List.mem_append_right _ (List.mem_of_getElem? (i := 293) rfl)) rfl, gd_in (List.mem_append_right _ (List.mem_of_getElem? (i := 294) rfl)) rfl, gd_in (List.mem_append_right _ (List.mem_of_getElem? (i := 295) rfl)) rfl, gd_in (List.mem_append_right _ (List.mem_of_getElem? (i := 4) rfl)) rfl, gd_in (List.mem_append_right _ (List.mem_of_getElem? (i := 296) rfl)) rfl, by decide, by decide, by decide⟩
set_option maxRecDepth 20000 in
theorem mf_X2_80 : Cond.fieldLink RX2 80 (TX1 4).1 (TX1 4).2.1 (TX1 4).2.2.1 ∈ lw_gd := gd_in (List.mem_append_right _ (List.mem_of_getElem? (i := 39) rfl)) rfl
set_option maxRecDepth 20000 in
theorem mw_X2_83 : VW RX2 83 RX2 yX2_step cX2_step 3 (some .int) 0 := ⟨gd_in (List.mem_append_right _ (List.mem_of_getElem? (i := 388) rfl)) rfl, gd_in (List.mem_append_right _ (List.mem_of_getElem? (i := 285) rfl)) rfl, gd_in (List.mem_append_right _ (List.mem_of_getElem? (i := 286) rfl)) rfl, gd_in (List.mem_append_right _ (List.mem_of_getElem? (i := 4) rfl)) rfl, gd_in (List.mem_append_right _ (List.mem_of_getElem? (i := 287) rfl)) rfl, by decide, by decide, by decide⟩
set_option maxRecDepth 20000 in
theorem mw_X2_76 : VW RX2 76 RX2 yX2_begin cX2_begin 3 none 2 := ⟨gd_in (List.mem_append_right _ (List.mem_of_getElem? (i := 387) rfl)) rfl, gd_in (List.mem_append_right _ (List.mem_of_getElem? (i := 276) rfl)) rfl, gd_in (List.mem_append_right _ (List.mem_of_getElem? (i := 277) rfl)) rfl, gd_in (List.mem_append_right _ (List.mem_of_getElem? (i := 4) rfl)) rfl, gd_in (List.mem_append_right _ (List.mem_of_getElem? (i := 278) rfl)) rfl, by decide, by decide, by decide⟩
set_option maxRecDepth 20000 in
theorem mf_X3_52 : Cond.fieldLink RX3 52 (TX3 11).1 (TX3 11).2.1 (TX3 11).2.2.1 ∈ lw_gd := gd_in (List.mem_append_right _ (List.mem_of_getElem? (i := 173) rfl)) rfl
set_option maxRecDepth 20000 in
theorem mf_X3_31 : Cond.fieldLink RX3 31 (TX3 3).1 (TX3 3).2.1 (TX3 3).2.2.1 ∈ lw_gd := gd_in (List.mem_append_right _ (List.mem_of_getElem? (i := 165) rfl)) rfl
set_option maxRecDepth 20000 in
theorem mf_X3_163 : Cond.fieldLink RX3 163 (TX0 10).1 (TX0 10).2.1 (TX0 10).2.2.1 ∈ lw_gd := gd_in (List.mem_append_right _ (List.mem_of_getElem? (i := 133) rfl)) rfl
set_option maxRecDepth 20000 in
theorem mw_X3_56 : SW RX3 56 yX3_isThing cX3_isThing 1 (some .boolean) 1 := ⟨gd_in (List.mem_append_right _ (List.mem_of_getElem? (i := 203) rfl)) rfl, gd_in (List.mem_append_right _ (List.mem_of_getElem? (i := 204) rfl)) rfl, gd_in (List.mem_append_right _ (List.mem_of_getElem? (i := 1) rfl)) rfl, gd_in (List.mem_append_right _ (List.mem_of_getElem? (i := 205) rfl)) rfl, by decide, by decide, by decide⟩
set_option maxRecDepth 20000 in
theorem mf_X3_10 : Cond.fieldLink RX3 10 (TX3 0).1 (TX3 0).2.1 (TX3 0).2.2.1 ∈ lw_gd := gd_in (List.mem_append_right _ (List.mem_of_getElem? (i := 162) rfl)) rfl
set_option maxRecDepth 20000 in
theorem mf_X3_60 : Cond.fieldLink RX3 60 (TX1 1).1 (TX1 1).2.1 (TX1 1).2.2.1 ∈ lw_gd := gd_in (List.mem_append_right _ (List.mem_of_getElem? (i := 32) rfl)) rfl
set_option maxRecDepth 20000 in
theorem mw_X3_63 : VW RX3 63 RX3 yX3_forget cX3_forget 1 none 0 := ⟨gd_in (List.mem_append_right _ (List.mem_of_getElem? (i := 206) rfl)) rfl, gd_in (List.mem_append_right _ (List.mem_of_getElem? (i := 208) rfl)) rfl, gd_in (List.mem_append_left _ (List.mem_of_getElem? (i := 0) rfl)) rfl, gd_in (List.mem_append_right _ (List.mem_of_getElem? (i := 1) rfl)) rfl, gd_in (List.mem_append_right _ (List.mem_of_getElem? (i := 209) rfl)) rfl, by decide, by decide, by decide⟩
set_option maxRecDepth 20000 in
theorem mf_X3_66 : Cond.fieldLink RX3 66 (TX1 4).1 (TX1 4).2.1 (TX1 4).2.2.1 ∈ lw_gd := gd_in (List.mem_append_right _ (List.mem_of_getElem? (i := 40) rfl)) rfl
set_option maxRecDepth 20000 in
theorem mf_X3_35 : Cond.fieldLink RX3 35 (TX3 4).1 (TX3 4).2.1 (TX3 4).2.2.1 ∈ lw_gd := gd_in (List.mem_append_right _ (List.mem_of_getElem? (i := 166) rfl)) rfl
set_option maxRecDepth 20000 in
theorem mw_X3_69 : VW RX3 69 RX1 yX1_append cX1_append 2 none 1 := ⟨gd_in (List.mem_append_right _ (List.mem_of_getElem? (i := 214) rfl)) rfl, gd_in (List.mem_append_right _ (List.mem_of_getElem? (i := 215) rfl)) rfl, gd_in (List.mem_append_right _ (List.mem_of_getElem? (i := 216) rfl)) rfl, gd_in (List.mem_append_right _ (List.mem_of_getElem? (i := 2) rfl)) rfl, gd_in (List.mem_append_right _ (List.mem_of_getElem? (i := 217) rfl)) rfl, by decide, by decide, by decide⟩
set_option maxRecDepth 20000 in
theorem mc_X3_73 : Cond.constant RX3 73 (1103515245) ∈ lw_gd := gd_in (List.mem_append_right _ (List.mem_of_getElem? (i := 222) rfl)) rfl
set_option maxRecDepth 20000 in
theorem mw_X3_74 : VW RX3 74 RX1 yX1_has cX1_has 2 (some .boolean) 1 := ⟨gd_in (List.mem_append_right _ (List.mem_of_getElem? (i := 227) rfl)) rfl, gd_in (List.mem_append_right _ (List.mem_of_getElem? (i := 228) rfl)) rfl, gd_in (List.mem_append_right _ (List.mem_of_getElem? (i := 229) rfl)) rfl, gd_in (List.mem_append_right _ (List.mem_of_getElem? (i := 2) rfl)) rfl, gd_in (List.mem_append_right _ (List.mem_of_getElem? (i := 230) rfl)) rfl, by decide, by decide, by decide⟩
set_option maxRecDepth 20000 in
theorem mf_X3_77 : Cond.fieldLink RX3 77 (TX1 0).1 (TX1 0).2.1 (TX1 0).2.2.1 ∈ lw_gd := gd_in (List.mem_append_right _ (List.mem_of_getElem? (i := 30) rfl)) rfl
set_option maxRecDepth 20000 in
theorem mw_X3_80 : VW RX3 80 RX1 yX1_unlike cX1_unlike 1 (some .int) 0 := ⟨gd_in (List.mem_append_right _ (List.mem_of_getElem? (i := 243) rfl)) rfl, gd_in (List.mem_append_right _ (List.mem_of_getElem? (i := 244) rfl)) rfl, gd_in (List.mem_append_right _ (List.mem_of_getElem? (i := 245) rfl)) rfl, gd_in (List.mem_append_right _ (List.mem_of_getElem? (i := 2) rfl)) rfl, gd_in (List.mem_append_right _ (List.mem_of_getElem? (i := 246) rfl)) rfl, by decide, by decide, by decide⟩
set_option maxRecDepth 20000 in
theorem mf_X3_48 : Cond.fieldLink RX3 48 (TX3 8).1 (TX3 8).2.1 (TX3 8).2.2.1 ∈ lw_gd := gd_in (List.mem_append_right _ (List.mem_of_getElem? (i := 170) rfl)) rfl
set_option maxRecDepth 20000 in
theorem mw_X3_84 : VW RX3 84 RX1 yX1_priceOfAll cX1_priceOfAll 3 (some .int) 0 := ⟨gd_in (List.mem_append_right _ (List.mem_of_getElem? (i := 257) rfl)) rfl, gd_in (List.mem_append_right _ (List.mem_of_getElem? (i := 258) rfl)) rfl, gd_in (List.mem_append_right _ (List.mem_of_getElem? (i := 259) rfl)) rfl, gd_in (List.mem_append_right _ (List.mem_of_getElem? (i := 2) rfl)) rfl, gd_in (List.mem_append_right _ (List.mem_of_getElem? (i := 260) rfl)) rfl, by decide, by decide, by decide⟩
set_option maxRecDepth 20000 in
theorem mf_X3_97 : Cond.fieldLink RX3 97 (TX3 9).1 (TX3 9).2.1 (TX3 9).2.2.1 ∈ lw_gd := gd_in (List.mem_append_right _ (List.mem_of_getElem? (i := 171) rfl)) rfl
set_option maxRecDepth 20000 in
theorem mf_X3_21 : Cond.fieldLink RX3 21 (TX3 1).1 (TX3 1).2.1 (TX3 1).2.2.1 ∈ lw_gd := gd_in (List.mem_append_right _ (List.mem_of_getElem? (i := 163) rfl)) rfl
set_option maxRecDepth 20000 in
theorem mf_X3_106 : Cond.fieldLink RX3 106 (TX2 17).1 (TX2 17).2.1 (TX2 17).2.2.1 ∈ lw_gd := gd_in (List.mem_append_right _ (List.mem_of_getElem? (i := 77) rfl)) rfl
set_option maxRecDepth 20000 in
theorem mf_X3_100 : Cond.fieldLink RX3 100 (TX3 10).1 (TX3 10).2.1 (TX3 10).2.2.1 ∈ lw_gd := gd_in (List.mem_append_right _ (List.mem_of_getElem? (i := 172) rfl)) rfl
set_option maxRecDepth 20000 in
theorem mw_X3_109 : VW RX3 109 RX1 yX1_priceAt cX1_priceAt 2 (some .int) 1 := ⟨gd_in (List.mem_append_right _ (List.mem_of_getElem? (i := 360) rfl)) rfl, gd_in (List.mem_append_right _ (List.mem_of_getElem? (i := 262) rfl)) rfl, gd_in (List.mem_append_right _ (List.mem_of_getElem? (i := 263) rfl)) rfl, gd_in (List.mem_append_right _ (List.mem_of_getElem? (i := 2) rfl)) rfl, gd_in (List.mem_append_right _ (List.mem_of_getElem? (i := 264) rfl)) rfl, by decide, by decide, by decide⟩
set_option maxRecDepth 20000 in
theorem mf_X3_45 : Cond.fieldLink RX3 45 (TX3 7).1 (TX3 7).2.1 (TX3 7).2.2.1 ∈ lw_gd := gd_in (List.mem_append_right _ (List.mem_of_getElem? (i := 169) rfl)) rfl
set_option maxRecDepth 20000 in
theorem mw_X3_103 : VW RX3 103 RX2 yX2_step cX2_step 3 (some .int) 0 := ⟨gd_in (List.mem_append_right _ (List.mem_of_getElem? (i := 284) rfl)) rfl, gd_in (List.mem_append_right _ (List.mem_of_getElem? (i := 285) rfl)) rfl, gd_in (List.mem_append_right _ (List.mem_of_getElem? (i := 286) rfl)) rfl, gd_in (List.mem_append_right _ (List.mem_of_getElem? (i := 4) rfl)) rfl, gd_in (List.mem_append_right _ (List.mem_of_getElem? (i := 287) rfl)) rfl, by decide, by decide, by decide⟩
set_option maxRecDepth 20000 in
theorem mf_X3_42 : Cond.fieldLink RX3 42 (TX3 6).1 (TX3 6).2.1 (TX3 6).2.2.1 ∈ lw_gd := gd_in (List.mem_append_right _ (List.mem_of_getElem? (i := 168) rfl)) rfl
set_option maxRecDepth 20000 in
theorem mw_X3_87 : SW RX3 87 yX3_isWay cX3_isWay 1 (some .boolean) 1 := ⟨gd_in (List.mem_append_right _ (List.mem_of_getElem? (i := 269) rfl)) rfl, gd_in (List.mem_append_right _ (List.mem_of_getElem? (i := 270) rfl)) rfl, gd_in (List.mem_append_right _ (List.mem_of_getElem? (i := 1) rfl)) rfl, gd_in (List.mem_append_right _ (List.mem_of_getElem? (i := 271) rfl)) rfl, by decide, by decide, by decide⟩
set_option maxRecDepth 20000 in
theorem mw_X3_90 : SW RX3 90 yX3_isPlaces cX3_isPlaces 1 (some .boolean) 1 := ⟨gd_in (List.mem_append_right _ (List.mem_of_getElem? (i := 272) rfl)) rfl, gd_in (List.mem_append_right _ (List.mem_of_getElem? (i := 273) rfl)) rfl, gd_in (List.mem_append_right _ (List.mem_of_getElem? (i := 1) rfl)) rfl, gd_in (List.mem_append_right _ (List.mem_of_getElem? (i := 274) rfl)) rfl, by decide, by decide, by decide⟩
set_option maxRecDepth 20000 in
theorem mw_X3_93 : VW RX3 93 RX2 yX2_begin cX2_begin 3 none 2 := ⟨gd_in (List.mem_append_right _ (List.mem_of_getElem? (i := 275) rfl)) rfl, gd_in (List.mem_append_right _ (List.mem_of_getElem? (i := 276) rfl)) rfl, gd_in (List.mem_append_right _ (List.mem_of_getElem? (i := 277) rfl)) rfl, gd_in (List.mem_append_right _ (List.mem_of_getElem? (i := 4) rfl)) rfl, gd_in (List.mem_append_right _ (List.mem_of_getElem? (i := 278) rfl)) rfl, by decide, by decide, by decide⟩
set_option maxRecDepth 20000 in
theorem mc_X3_113 : Cond.constant RX3 113 (-2147483648) ∈ lw_gd := gd_in (List.mem_append_right _ (List.mem_of_getElem? (i := 377) rfl)) rfl
set_option maxRecDepth 20000 in
theorem mw_X3_114 : VW RX3 114 RX2 yX2_knowsOfThing cX2_knowsOfThing 2 (some .boolean) 1 := ⟨gd_in (List.mem_append_right _ (List.mem_of_getElem? (i := 378) rfl)) rfl, gd_in (List.mem_append_right _ (List.mem_of_getElem? (i := 379) rfl)) rfl, gd_in (List.mem_append_right _ (List.mem_of_getElem? (i := 380) rfl)) rfl, gd_in (List.mem_append_right _ (List.mem_of_getElem? (i := 4) rfl)) rfl, gd_in (List.mem_append_right _ (List.mem_of_getElem? (i := 381) rfl)) rfl, by decide, by decide, by decide⟩
set_option maxRecDepth 20000 in
theorem mw_X3_118 : VW RX3 118 RX2 yX2_standBehind cX2_standBehind 3 none 1 := ⟨gd_in (List.mem_append_right _ (List.mem_of_getElem? (i := 383) rfl)) rfl, gd_in (List.mem_append_right _ (List.mem_of_getElem? (i := 384) rfl)) rfl, gd_in (List.mem_append_right _ (List.mem_of_getElem? (i := 385) rfl)) rfl, gd_in (List.mem_append_right _ (List.mem_of_getElem? (i := 4) rfl)) rfl, gd_in (List.mem_append_right _ (List.mem_of_getElem? (i := 386) rfl)) rfl, by decide, by decide, by decide⟩
set_option maxRecDepth 20000 in
theorem mw_X3_121 : VW RX3 121 RX2 yX2_tellOfThing cX2_tellOfThing 3 (some .int) 2 := ⟨gd_in (List.mem_append_right _ (List.mem_of_getElem? (i := 389) rfl)) rfl, gd_in (List.mem_append_right _ (List.mem_of_getElem? (i := 390) rfl)) rfl, gd_in (List.mem_append_right _ (List.mem_of_getElem? (i := 391) rfl)) rfl, gd_in (List.mem_append_right _ (List.mem_of_getElem? (i := 4) rfl)) rfl, gd_in (List.mem_append_right _ (List.mem_of_getElem? (i := 392) rfl)) rfl, by decide, by decide, by decide⟩
set_option maxRecDepth 20000 in
theorem mc_X3_117 : Cond.constant RX3 117 (-2147483647) ∈ lw_gd := gd_in (List.mem_append_right _ (List.mem_of_getElem? (i := 382) rfl)) rfl
set_option maxRecDepth 20000 in
theorem mw_X3_125 : VW RX3 125 RX2 yX2_knowsOfAll cX2_knowsOfAll 2 (some .boolean) 1 := ⟨gd_in (List.mem_append_right _ (List.mem_of_getElem? (i := 397) rfl)) rfl, gd_in (List.mem_append_right _ (List.mem_of_getElem? (i := 398) rfl)) rfl, gd_in (List.mem_append_right _ (List.mem_of_getElem? (i := 399) rfl)) rfl, gd_in (List.mem_append_right _ (List.mem_of_getElem? (i := 4) rfl)) rfl, gd_in (List.mem_append_right _ (List.mem_of_getElem? (i := 400) rfl)) rfl, by decide, by decide, by decide⟩
set_option maxRecDepth 20000 in
theorem mw_X3_128 : VW RX3 128 RX2 yX2_tellOfAll cX2_tellOfAll 2 (some .int) 1 := ⟨gd_in (List.mem_append_right _ (List.mem_of_getElem? (i := 401) rfl)) rfl, gd_in (List.mem_append_right _ (List.mem_of_getElem? (i := 402) rfl)) rfl, gd_in (List.mem_append_right _ (List.mem_of_getElem? (i := 403) rfl)) rfl, gd_in (List.mem_append_right _ (List.mem_of_getElem? (i := 4) rfl)) rfl, gd_in (List.mem_append_right _ (List.mem_of_getElem? (i := 404) rfl)) rfl, by decide, by decide, by decide⟩
set_option maxRecDepth 20000 in
theorem mf_X3_25 : Cond.fieldLink RX3 25 (TX3 2).1 (TX3 2).2.1 (TX3 2).2.2.1 ∈ lw_gd := gd_in (List.mem_append_right _ (List.mem_of_getElem? (i := 164) rfl)) rfl
set_option maxRecDepth 20000 in
theorem mw_X3_131 : VW RX3 131 RX2 yX2_missesBy cX2_missesBy 5 (some .int) 2 := ⟨gd_in (List.mem_append_right _ (List.mem_of_getElem? (i := 409) rfl)) rfl, gd_in (List.mem_append_right _ (List.mem_of_getElem? (i := 410) rfl)) rfl, gd_in (List.mem_append_right _ (List.mem_of_getElem? (i := 411) rfl)) rfl, gd_in (List.mem_append_right _ (List.mem_of_getElem? (i := 4) rfl)) rfl, gd_in (List.mem_append_right _ (List.mem_of_getElem? (i := 412) rfl)) rfl, by decide, by decide, by decide⟩
set_option maxRecDepth 20000 in
theorem mc_X3_134 : Cond.constantFloat RX3 134 (1176256512) ∈ lw_gd := gd_in (List.mem_append_right _ (List.mem_of_getElem? (i := 417) rfl)) rfl
set_option maxRecDepth 20000 in
theorem mw_X3_135 : VW RX3 135 RX0 yX0_prepare cX0_prepare 5 none 1 := ⟨gd_in (List.mem_append_right _ (List.mem_of_getElem? (i := 422) rfl)) rfl, gd_in (List.mem_append_right _ (List.mem_of_getElem? (i := 423) rfl)) rfl, gd_in (List.mem_append_right _ (List.mem_of_getElem? (i := 424) rfl)) rfl, gd_in (List.mem_append_right _ (List.mem_of_getElem? (i := 5) rfl)) rfl, gd_in (List.mem_append_right _ (List.mem_of_getElem? (i := 425) rfl)) rfl, by decide, by decide, by decide⟩
set_option maxRecDepth 20000 in
theorem mf_X3_138 : Cond.fieldLink RX3 138 (TX0 11).1 (TX0 11).2.1 (TX0 11).2.2.1 ∈ lw_gd := gd_in (List.mem_append_right _ (List.mem_of_getElem? (i := 135) rfl)) rfl
set_option maxRecDepth 20000 in
theorem mf_X3_141 : Cond.fieldLink RX3 141 (TX0 7).1 (TX0 7).2.1 (TX0 7).2.2.1 ∈ lw_gd := gd_in (List.mem_append_right _ (List.mem_of_getElem? (i := 129) rfl)) rfl
set_option maxRecDepth 20000 in
theorem mw_X3_144 : VW RX3 144 RX1 yX1_phaseAt cX1_phaseAt 7 (some .int) 2 := ⟨gd_in (List.mem_append_right _ (List.mem_of_getElem? (i := 468) rfl)) rfl, gd_in (List.mem_append_right _ (List.mem_of_getElem? (i := 469) rfl)) rfl, gd_in (List.mem_append_right _ (List.mem_of_getElem? (i := 470) rfl)) rfl, gd_in (List.mem_append_right _ (List.mem_of_getElem? (i := 2) rfl)) rfl, gd_in (List.mem_append_right _ (List.mem_of_getElem? (i := 471) rfl)) rfl, by decide, by decide, by decide⟩
set_option maxRecDepth 20000 in
theorem mw_X3_147 : VW RX3 147 RX1 yX1_distanceAt cX1_distanceAt 4 (some .int) 1 := ⟨gd_in (List.mem_append_right _ (List.mem_of_getElem? (i := 480) rfl)) rfl, gd_in (List.mem_append_right _ (List.mem_of_getElem? (i := 481) rfl)) rfl, gd_in (List.mem_append_right _ (List.mem_of_getElem? (i := 482) rfl)) rfl, gd_in (List.mem_append_right _ (List.mem_of_getElem? (i := 2) rfl)) rfl, gd_in (List.mem_append_right _ (List.mem_of_getElem? (i := 483) rfl)) rfl, by decide, by decide, by decide⟩
set_option maxRecDepth 20000 in
theorem mw_X3_150 : VW RX3 150 RX2 yX2_leastAbsent cX2_leastAbsent 2 (some .int) 0 := ⟨gd_in (List.mem_append_right _ (List.mem_of_getElem? (i := 492) rfl)) rfl, gd_in (List.mem_append_right _ (List.mem_of_getElem? (i := 493) rfl)) rfl, gd_in (List.mem_append_right _ (List.mem_of_getElem? (i := 494) rfl)) rfl, gd_in (List.mem_append_right _ (List.mem_of_getElem? (i := 4) rfl)) rfl, gd_in (List.mem_append_right _ (List.mem_of_getElem? (i := 495) rfl)) rfl, by decide, by decide, by decide⟩
set_option maxRecDepth 20000 in
theorem mf_X3_39 : Cond.fieldLink RX3 39 (TX3 5).1 (TX3 5).2.1 (TX3 5).2.2.1 ∈ lw_gd := gd_in (List.mem_append_right _ (List.mem_of_getElem? (i := 167) rfl)) rfl
set_option maxRecDepth 20000 in
theorem mw_X3_166 : SW RX3 166 yJ6_bitCount_0f7a4 cJ6_bitCount_0f7a4 1 (some .int) 1 := ⟨gd_in (List.mem_append_right _ (List.mem_of_getElem? (i := 518) rfl)) rfl, gd_in (List.mem_append_right _ (List.mem_of_getElem? (i := 252) rfl)) rfl, gd_in (List.mem_append_right _ (List.mem_of_getElem? (i := 7) rfl)) rfl, gd_in (List.mem_append_right _ (List.mem_of_getElem? (i := 253) rfl)) rfl, by decide, by decide, by decide⟩
set_option maxRecDepth 20000 in
theorem mw_X3_159 : SW RX3 159 yX3_canGo cX3_canGo 5 (some .boolean) 4 := ⟨gd_in (List.mem_append_right _ (List.mem_of_getElem? (i := 515) rfl)) rfl, gd_in (List.mem_append_right _ (List.mem_of_getElem? (i := 516) rfl)) rfl, gd_in (List.mem_append_right _ (List.mem_of_getElem? (i := 1) rfl)) rfl, gd_in (List.mem_append_right _ (List.mem_of_getElem? (i := 517) rfl)) rfl, by decide, by decide, by decide⟩
set_option maxRecDepth 20000 in
theorem mw_X4_69 : SW RX4 69 yX4_in cX4_in 3 (some .boolean) 3 := ⟨gd_in (List.mem_append_right _ (List.mem_of_getElem? (i := 641) rfl)) rfl, gd_in (List.mem_append_right _ (List.mem_of_getElem? (i := 642) rfl)) rfl, gd_in (List.mem_append_right _ (List.mem_of_getElem? (i := 6) rfl)) rfl, gd_in (List.mem_append_right _ (List.mem_of_getElem? (i := 643) rfl)) rfl, by decide, by decide, by decide⟩
set_option maxRecDepth 20000 in
theorem mf_X4_73 : Cond.fieldLink RX4 73 (TX4 2).1 (TX4 2).2.1 (TX4 2).2.2.1 ∈ lw_gd := gd_in (List.mem_append_right _ (List.mem_of_getElem? (i := 532) rfl)) rfl
set_option maxRecDepth 20000 in
theorem mw_X4_77 : SW RX4 77 yX4_isThing cX4_isThing 1 (some .boolean) 1 := ⟨gd_in (List.mem_append_right _ (List.mem_of_getElem? (i := 638) rfl)) rfl, gd_in (List.mem_append_right _ (List.mem_of_getElem? (i := 639) rfl)) rfl, gd_in (List.mem_append_right _ (List.mem_of_getElem? (i := 6) rfl)) rfl, gd_in (List.mem_append_right _ (List.mem_of_getElem? (i := 640) rfl)) rfl, by decide, by decide, by decide⟩
set_option maxRecDepth 20000 in
theorem mf_X4_81 : Cond.fieldLink RX4 81 (TX4 3).1 (TX4 3).2.1 (TX4 3).2.2.1 ∈ lw_gd := gd_in (List.mem_append_right _ (List.mem_of_getElem? (i := 533) rfl)) rfl
set_option maxRecDepth 20000 in
theorem mf_X4_7 : Cond.fieldLink RX4 7 (TX4 0).1 (TX4 0).2.1 (TX4 0).2.2.1 ∈ lw_gd := gd_in (List.mem_append_right _ (List.mem_of_getElem? (i := 530) rfl)) rfl
set_option maxRecDepth 20000 in
theorem mf_X4_13 : Cond.fieldLink RX4 13 (TX4 1).1 (TX4 1).2.1 (TX4 1).2.2.1 ∈ lw_gd := gd_in (List.mem_append_right _ (List.mem_of_getElem? (i := 531) rfl)) rfl
set_option maxRecDepth 20000 in
theorem mf_X4_25 : Cond.fieldLink RX4 25 (TX4 10).1 (TX4 10).2.1 (TX4 10).2.2.1 ∈ lw_gd := gd_in (List.mem_append_right _ (List.mem_of_getElem? (i := 540) rfl)) rfl
set_option maxRecDepth 20000 in
theorem mw_X4_85 : VW RX4 85 RX4 yX4_add cX4_add 2 none 1 := ⟨gd_in (List.mem_append_right _ (List.mem_of_getElem? (i := 648) rfl)) rfl, gd_in (List.mem_append_right _ (List.mem_of_getElem? (i := 650) rfl)) rfl, gd_in (List.mem_append_left _ (List.mem_of_getElem? (i := 1) rfl)) rfl, gd_in (List.mem_append_right _ (List.mem_of_getElem? (i := 6) rfl)) rfl, gd_in (List.mem_append_right _ (List.mem_of_getElem? (i := 651) rfl)) rfl, by decide, by decide, by decide⟩
set_option maxRecDepth 20000 in
theorem mc_X4_89 : Cond.constant RX4 89 (1103515245) ∈ lw_gd := gd_in (List.mem_append_right _ (List.mem_of_getElem? (i := 656) rfl)) rfl
set_option maxRecDepth 20000 in
theorem mw_X4_90 : VW RX4 90 RX4 yX4_isAsking cX4_isAsking 2 (some .boolean) 1 := ⟨gd_in (List.mem_append_right _ (List.mem_of_getElem? (i := 661) rfl)) rfl, gd_in (List.mem_append_right _ (List.mem_of_getElem? (i := 663) rfl)) rfl, gd_in (List.mem_append_left _ (List.mem_of_getElem? (i := 2) rfl)) rfl, gd_in (List.mem_append_right _ (List.mem_of_getElem? (i := 6) rfl)) rfl, gd_in (List.mem_append_right _ (List.mem_of_getElem? (i := 664) rfl)) rfl, by decide, by decide, by decide⟩
set_option maxRecDepth 20000 in
theorem mw_X4_93 : VW RX4 93 RX4 yX4_unlike cX4_unlike 5 (some .int) 0 := ⟨gd_in (List.mem_append_right _ (List.mem_of_getElem? (i := 677) rfl)) rfl, gd_in (List.mem_append_right _ (List.mem_of_getElem? (i := 679) rfl)) rfl, gd_in (List.mem_append_left _ (List.mem_of_getElem? (i := 3) rfl)) rfl, gd_in (List.mem_append_right _ (List.mem_of_getElem? (i := 6) rfl)) rfl, gd_in (List.mem_append_right _ (List.mem_of_getElem? (i := 680) rfl)) rfl, by decide, by decide, by decide⟩
set_option maxRecDepth 20000 in
theorem mf_X4_97 : Cond.fieldLink RX4 97 (TX4 9).1 (TX4 9).2.1 (TX4 9).2.2.1 ∈ lw_gd := gd_in (List.mem_append_right _ (List.mem_of_getElem? (i := 539) rfl)) rfl
set_option maxRecDepth 20000 in
theorem mw_X4_100 : VW RX4 100 RX4 yX4_allPrices cX4_allPrices 3 (some .int) 0 := ⟨gd_in (List.mem_append_right _ (List.mem_of_getElem? (i := 681) rfl)) rfl, gd_in (List.mem_append_right _ (List.mem_of_getElem? (i := 683) rfl)) rfl, gd_in (List.mem_append_left _ (List.mem_of_getElem? (i := 4) rfl)) rfl, gd_in (List.mem_append_right _ (List.mem_of_getElem? (i := 6) rfl)) rfl, gd_in (List.mem_append_right _ (List.mem_of_getElem? (i := 684) rfl)) rfl, by decide, by decide, by decide⟩
set_option maxRecDepth 20000 in
theorem mf_X4_28 : Cond.fieldLink RX4 28 (TX4 13).1 (TX4 13).2.1 (TX4 13).2.2.1 ∈ lw_gd := gd_in (List.mem_append_right _ (List.mem_of_getElem? (i := 543) rfl)) rfl
set_option maxRecDepth 20000 in
theorem mf_X4_41 : Cond.fieldLink RX4 41 (TX4 17).1 (TX4 17).2.1 (TX4 17).2.2.1 ∈ lw_gd := gd_in (List.mem_append_right _ (List.mem_of_getElem? (i := 547) rfl)) rfl
set_option maxRecDepth 20000 in
theorem mf_X4_47 : Cond.fieldLink RX4 47 (TX4 19).1 (TX4 19).2.1 (TX4 19).2.2.1 ∈ lw_gd := gd_in (List.mem_append_right _ (List.mem_of_getElem? (i := 549) rfl)) rfl
set_option maxRecDepth 20000 in
theorem mf_X4_38 : Cond.fieldLink RX4 38 (TX4 16).1 (TX4 16).2.1 (TX4 16).2.2.1 ∈ lw_gd := gd_in (List.mem_append_right _ (List.mem_of_getElem? (i := 546) rfl)) rfl
set_option maxRecDepth 20000 in
theorem mf_X4_53 : Cond.fieldLink RX4 53 (TX4 21).1 (TX4 21).2.1 (TX4 21).2.2.1 ∈ lw_gd := gd_in (List.mem_append_right _ (List.mem_of_getElem? (i := 551) rfl)) rfl
set_option maxRecDepth 20000 in
theorem mf_X4_44 : Cond.fieldLink RX4 44 (TX4 18).1 (TX4 18).2.1 (TX4 18).2.2.1 ∈ lw_gd := gd_in (List.mem_append_right _ (List.mem_of_getElem? (i := 548) rfl)) rfl
set_option maxRecDepth 20000 in
theorem mf_X4_103 : Cond.fieldLink RX4 103 (TX4 11).1 (TX4 11).2.1 (TX4 11).2.2.1 ∈ lw_gd := gd_in (List.mem_append_right _ (List.mem_of_getElem? (i := 541) rfl)) rfl
set_option maxRecDepth 20000 in
theorem mf_X4_106 : Cond.fieldLink RX4 106 (TX4 12).1 (TX4 12).2.1 (TX4 12).2.2.1 ∈ lw_gd := gd_in (List.mem_append_right _ (List.mem_of_getElem? (i := 542) rfl)) rfl
set_option maxRecDepth 20000 in
theorem mf_X4_109 : Cond.fieldLink RX4 109 (TX4 22).1 (TX4 22).2.1 (TX4 22).2.2.1 ∈ lw_gd := gd_in (List.mem_append_right _ (List.mem_of_getElem? (i := 552) rfl)) rfl
set_option maxRecDepth 20000 in
theorem mf_X4_112 : Cond.fieldLink RX4 112 (TX4 23).1 (TX4 23).2.1 (TX4 23).2.2.1 ∈ lw_gd := gd_in (List.mem_append_right _ (List.mem_of_getElem? (i := 553) rfl)) rfl
set_option maxRecDepth 20000 in
theorem mf_X4_115 : Cond.fieldLink RX4 115 (TX4 24).1 (TX4 24).2.1 (TX4 24).2.2.1 ∈ lw_gd := gd_in (List.mem_append_right _ (List.mem_of_getElem? (i := 554) rfl)) rfl
set_option maxRecDepth 20000 in
theorem mf_X4_118 : Cond.fieldLink RX4 118 (TX4 25).1 (TX4 25).2.1 (TX4 25).2.2.1 ∈ lw_gd := gd_in (List.mem_append_right _ (List.mem_of_getElem? (i := 555) rfl)) rfl
set_option maxRecDepth 20000 in
theorem mf_X4_121 : Cond.fieldLink RX4 121 (TX4 26).1 (TX4 26).2.1 (TX4 26).2.2.1 ∈ lw_gd := gd_in (List.mem_append_right _ (List.mem_of_getElem? (i := 556) rfl)) rfl
set_option maxRecDepth 20000 in
theorem mf_X4_50 : Cond.fieldLink RX4 50 (TX4 20).1 (TX4 20).2.1 (TX4 20).2.2.1 ∈ lw_gd := gd_in (List.mem_append_right _ (List.mem_of_getElem? (i := 550) rfl)) rfl
set_option maxRecDepth 20000 in
theorem mf_X4_35 : Cond.fieldLink RX4 35 (TX4 15).1 (TX4 15).2.1 (TX4 15).2.2.1 ∈ lw_gd := gd_in (List.mem_append_right _ (List.mem_of_getElem? (i := 545) rfl)) rfl
set_option maxRecDepth 20000 in
theorem mf_X4_32 : Cond.fieldLink RX4 32 (TX4 14).1 (TX4 14).2.1 (TX4 14).2.2.1 ∈ lw_gd := gd_in (List.mem_append_right _ (List.mem_of_getElem? (i := 544) rfl)) rfl
set_option maxRecDepth 20000 in
theorem mw_X4_124 : VW RX4 124 RX4 yX4_resting cX4_resting 6 (some .int) 2 := ⟨gd_in (List.mem_append_right _ (List.mem_of_getElem? (i := 713) rfl)) rfl, gd_in (List.mem_append_right _ (List.mem_of_getElem? (i := 715) rfl)) rfl, gd_in (List.mem_append_left _ (List.mem_of_getElem? (i := 11) rfl)) rfl, gd_in (List.mem_append_right _ (List.mem_of_getElem? (i := 6) rfl)) rfl, gd_in (List.mem_append_right _ (List.mem_of_getElem? (i := 716) rfl)) rfl, by decide, by decide, by decide⟩
set_option maxRecDepth 20000 in
theorem mw_X4_128 : VW RX4 128 RX4 yX4_atPlace cX4_atPlace 4 (some .int) 1 := ⟨gd_in (List.mem_append_right _ (List.mem_of_getElem? (i := 725) rfl)) rfl, gd_in (List.mem_append_right _ (List.mem_of_getElem? (i := 727) rfl)) rfl, gd_in (List.mem_append_left _ (List.mem_of_getElem? (i := 14) rfl)) rfl, gd_in (List.mem_append_right _ (List.mem_of_getElem? (i := 6) rfl)) rfl, gd_in (List.mem_append_right _ (List.mem_of_getElem? (i := 728) rfl)) rfl, by decide, by decide, by decide⟩
set_option maxRecDepth 20000 in
theorem mw_X4_132 : VW RX4 132 RX4 yX4_partSize cX4_partSize 4 (some .int) 1 := ⟨gd_in (List.mem_append_right _ (List.mem_of_getElem? (i := 737) rfl)) rfl, gd_in (List.mem_append_right _ (List.mem_of_getElem? (i := 739) rfl)) rfl, gd_in (List.mem_append_left _ (List.mem_of_getElem? (i := 17) rfl)) rfl, gd_in (List.mem_append_right _ (List.mem_of_getElem? (i := 6) rfl)) rfl, gd_in (List.mem_append_right _ (List.mem_of_getElem? (i := 740) rfl)) rfl, by decide, by decide, by decide⟩
set_option maxRecDepth 20000 in
theorem mw_X4_135 : VW RX4 135 RX4 yX4_firstIn cX4_firstIn 4 (some .int) 1 := ⟨gd_in (List.mem_append_right _ (List.mem_of_getElem? (i := 741) rfl)) rfl, gd_in (List.mem_append_right _ (List.mem_of_getElem? (i := 743) rfl)) rfl, gd_in (List.mem_append_left _ (List.mem_of_getElem? (i := 18) rfl)) rfl, gd_in (List.mem_append_right _ (List.mem_of_getElem? (i := 6) rfl)) rfl, gd_in (List.mem_append_right _ (List.mem_of_getElem? (i := 744) rfl)) rfl, by decide, by decide, by decide⟩
set_option maxRecDepth 20000 in
theorem mw_X4_138 : VW RX4 138 RX4 yX4_toBook cX4_toBook 4 none 3 := ⟨gd_in (List.mem_append_right _ (List.mem_of_getElem? (i := 745) rfl)) rfl, gd_in (List.mem_append_right _ (List.mem_of_getElem? (i := 747) rfl)) rfl, gd_in (List.mem_append_left _ (List.mem_of_getElem? (i := 19) rfl)) rfl, gd_in (List.mem_append_right _ (List.mem_of_getElem? (i := 6) rfl)) rfl, gd_in (List.mem_append_right _ (List.mem_of_getElem? (i := 748) rfl)) rfl, by decide, by decide, by decide⟩
set_option maxRecDepth 20000 in
theorem mw_X4_142 : VW RX4 142 RX4 yX4_askedNext cX4_askedNext 4 (some .int) 2 := ⟨gd_in (List.mem_append_right _ (List.mem_of_getElem? (i := 753) rfl)) rfl, gd_in (List.mem_append_right _ (List.mem_of_getElem? (i := 755) rfl)) rfl, gd_in (List.mem_append_left _ (List.mem_of_getElem? (i := 21) rfl)) rfl, gd_in (List.mem_append_right _ (List.mem_of_getElem? (i := 6) rfl)) rfl, gd_in (List.mem_append_right _ (List.mem_of_getElem? (i := 756) rfl)) rfl, by decide, by decide, by decide⟩
set_option maxRecDepth 20000 in
theorem mw_X4_159 : VW RX4 159 RX4 yX4_ofTwoParts cX4_ofTwoParts 6 (some .int) 1 := ⟨gd_in (List.mem_append_right _ (List.mem_of_getElem? (i := 733) rfl)) rfl, gd_in (List.mem_append_right _ (List.mem_of_getElem? (i := 735) rfl)) rfl, gd_in (List.mem_append_left _ (List.mem_of_getElem? (i := 16) rfl)) rfl, gd_in (List.mem_append_right _ (List.mem_of_getElem? (i := 6) rfl)) rfl, gd_in (List.mem_append_right _ (List.mem_of_getElem? (i := 736) rfl)) rfl, by decide, by decide, by decide⟩
set_option maxRecDepth 20000 in
theorem mw_X4_146 : VW RX4 146 RX4 yX4_oldest cX4_oldest 3 (some .int) 0 := ⟨gd_in (List.mem_append_right _ (List.mem_of_getElem? (i := 709) rfl)) rfl, gd_in (List.mem_append_right _ (List.mem_of_getElem? (i := 711) rfl)) rfl, gd_in (List.mem_append_left _ (List.mem_of_getElem? (i := 10) rfl)) rfl, gd_in (List.mem_append_right _ (List.mem_of_getElem? (i := 6) rfl)) rfl, gd_in (List.mem_append_right _ (List.mem_of_getElem? (i := 712) rfl)) rfl, by decide, by decide, by decide⟩
set_option maxRecDepth 20000 in
theorem mw_X4_149 : VW RX4 149 RX4 yX4_unmarked cX4_unmarked 3 (some .int) 0 := ⟨gd_in (List.mem_append_right _ (List.mem_of_getElem? (i := 717) rfl)) rfl, gd_in (List.mem_append_right _ (List.mem_of_getElem? (i := 719) rfl)) rfl, gd_in (List.mem_append_left _ (List.mem_of_getElem? (i := 12) rfl)) rfl, gd_in (List.mem_append_right _ (List.mem_of_getElem? (i := 6) rfl)) rfl, gd_in (List.mem_append_right _ (List.mem_of_getElem? (i := 720) rfl)) rfl, by decide, by decide, by decide⟩
set_option maxRecDepth 20000 in
theorem mw_X4_152 : VW RX4 152 RX4 yX4_atHand cX4_atHand 2 (some .int) 0 := ⟨gd_in (List.mem_append_right _ (List.mem_of_getElem? (i := 721) rfl)) rfl, gd_in (List.mem_append_right _ (List.mem_of_getElem? (i := 723) rfl)) rfl, gd_in (List.mem_append_left _ (List.mem_of_getElem? (i := 13) rfl)) rfl, gd_in (List.mem_append_right _ (List.mem_of_getElem? (i := 6) rfl)) rfl, gd_in (List.mem_append_right _ (List.mem_of_getElem? (i := 724) rfl)) rfl, by decide, by decide, by decide⟩
set_option maxRecDepth 20000 in
theorem mw_X4_155 : VW RX4 155 RX4 yX4_least cX4_least 5 (some .int) 1 := ⟨gd_in (List.mem_append_right _ (List.mem_of_getElem? (i := 729) rfl)) rfl, gd_in (List.mem_append_right _ (List.mem_of_getElem? (i := 731) rfl)) rfl, gd_in (List.mem_append_left _ (List.mem_of_getElem? (i := 15) rfl)) rfl, gd_in (List.mem_append_right _ (List.mem_of_getElem? (i := 6) rfl)) rfl, gd_in (List.mem_append_right _ (List.mem_of_getElem? (i := 732) rfl)) rfl, by decide, by decide, by decide⟩
set_option maxRecDepth 20000 in
theorem mw_X4_162 : VW RX4 162 RX4 yX4_latestAhead cX4_latestAhead 6 (some .int) 1 := ⟨gd_in (List.mem_append_right _ (List.mem_of_getElem? (i := 749) rfl)) rfl, gd_in (List.mem_append_right _ (List.mem_of_getElem? (i := 751) rfl)) rfl, gd_in (List.mem_append_left _ (List.mem_of_getElem? (i := 20) rfl)) rfl, gd_in (List.mem_append_right _ (List.mem_of_getElem? (i := 6) rfl)) rfl, gd_in (List.mem_append_right _ (List.mem_of_getElem? (i := 752) rfl)) rfl, by decide, by decide, by decide⟩
set_option maxRecDepth 20000 in
theorem mf_X4_165 : Cond.fieldLink RX4 165 (TX4 27).1 (TX4 27).2.1 (TX4 27).2.2.1 ∈ lw_gd := gd_in (List.mem_append_right _ (List.mem_of_getElem? (i := 557) rfl)) rfl
set_option maxRecDepth 20000 in
theorem mf_X4_168 : Cond.fieldLink RX4 168 (TX4 28).1 (TX4 28).2.1 (TX4 28).2.2.1 ∈ lw_gd := gd_in (List.mem_append_right _ (List.mem_of_getElem? (i := 558) rfl)) rfl
set_option maxRecDepth 20000 in
theorem mw_X4_175 : VW RX4 175 RX4 yX4_fromBook cX4_fromBook 3 (some .boolean) 1 := ⟨gd_in (List.mem_append_right _ (List.mem_of_getElem? (i := 701) rfl)) rfl, gd_in (List.mem_append_right _ (List.mem_of_getElem? (i := 703) rfl)) rfl, gd_in (List.mem_append_left _ (List.mem_of_getElem? (i := 8) rfl)) rfl, gd_in (List.mem_append_right _ (List.mem_of_getElem? (i := 6) rfl)) rfl, gd_in (List.mem_append_right _ (List.mem_of_getElem? (i := 704) rfl)) rfl, by decide, by decide, by decide⟩
set_option maxRecDepth 20000 in
theorem mw_X4_178 : VW RX4 178 RX4 yX4_chosen cX4_chosen 2 (some .int) 1 := ⟨gd_in (List.mem_append_right _ (List.mem_of_getElem? (i := 705) rfl)) rfl, gd_in (List.mem_append_right _ (List.mem_of_getElem? (i := 707) rfl)) rfl, gd_in (List.mem_append_left _ (List.mem_of_getElem? (i := 9) rfl)) rfl, gd_in (List.mem_append_right _ (List.mem_of_getElem? (i := 6) rfl)) rfl, gd_in (List.mem_append_right _ (List.mem_of_getElem? (i := 708) rfl)) rfl, by decide, by decide, by decide⟩
set_option maxRecDepth 20000 in
theorem mw_X4_181 : VW RX4 181 RX4 yX4_leave cX4_leave 2 none 1 := ⟨gd_in (List.mem_append_right _ (List.mem_of_getElem? (i := 757) rfl)) rfl, gd_in (List.mem_append_right _ (List.mem_of_getElem? (i := 759) rfl)) rfl, gd_in (List.mem_append_left _ (List.mem_of_getElem? (i := 22) rfl)) rfl, gd_in (List.mem_append_right _ (List.mem_of_getElem? (i := 6) rfl)) rfl, gd_in (List.mem_append_right _ (List.mem_of_getElem? (i := 760) rfl)) rfl, by decide, by decide, by decide⟩
set_option maxRecDepth 20000 in
theorem mw_X4_171 : VW RX4 171 RX4 yX4_hit cX4_hit 3 none 2 := ⟨gd_in (List.mem_append_right _ (List.mem_of_getElem? (i := 697) rfl)) rfl, gd_in (List.mem_append_right _ (List.mem_of_getElem? (i := 699) rfl)) rfl, gd_in (List.mem_append_left _ (List.mem_of_getElem? (i := 7) rfl)) rfl, gd_in (List.mem_append_right _ (List.mem_of_getElem? (i := 6) rfl)) rfl, gd_in (List.mem_append_right _ (List.mem_of_getElem? (i := 700) rfl)) rfl, by decide, by decide, by decide⟩
set_option maxRecDepth 20000 in
theorem mw_X4_187 : VW RX4 187 RX4 yX4_serveOne cX4_serveOne 5 none 1 := ⟨gd_in (List.mem_append_right _ (List.mem_of_getElem? (i := 693) rfl)) rfl, gd_in (List.mem_append_right _ (List.mem_of_getElem? (i := 695) rfl)) rfl, gd_in (List.mem_append_left _ (List.mem_of_getElem? (i := 6) rfl)) rfl, gd_in (List.mem_append_right _ (List.mem_of_getElem? (i := 6) rfl)) rfl, gd_in (List.mem_append_right _ (List.mem_of_getElem? (i := 696) rfl)) rfl, by decide, by decide, by decide⟩
set_option maxRecDepth 20000 in
theorem mw_X4_184 : VW RX4 184 RX4 yX4_begin cX4_begin 4 none 2 := ⟨gd_in (List.mem_append_right _ (List.mem_of_getElem? (i := 689) rfl)) rfl, gd_in (List.mem_append_right _ (List.mem_of_getElem? (i := 691) rfl)) rfl, gd_in (List.mem_append_left _ (List.mem_of_getElem? (i := 5) rfl)) rfl, gd_in (List.mem_append_right _ (List.mem_of_getElem? (i := 6) rfl)) rfl, gd_in (List.mem_append_right _ (List.mem_of_getElem? (i := 692) rfl)) rfl, by decide, by decide, by decide⟩
set_option maxRecDepth 20000 in
theorem mf_X4_190 : Cond.fieldLink RX4 190 (TX4 4).1 (TX4 4).2.1 (TX4 4).2.2.1 ∈ lw_gd := gd_in (List.mem_append_right _ (List.mem_of_getElem? (i := 534) rfl)) rfl
set_option maxRecDepth 20000 in
theorem mf_X4_193 : Cond.fieldLink RX4 193 (TX4 5).1 (TX4 5).2.1 (TX4 5).2.2.1 ∈ lw_gd := gd_in (List.mem_append_right _ (List.mem_of_getElem? (i := 535) rfl)) rfl
set_option maxRecDepth 20000 in
theorem mf_X4_16 : Cond.fieldLink RX4 16 (TX4 6).1 (TX4 6).2.1 (TX4 6).2.2.1 ∈ lw_gd := gd_in (List.mem_append_right _ (List.mem_of_getElem? (i := 536) rfl)) rfl
set_option maxRecDepth 20000 in
theorem mf_X4_19 : Cond.fieldLink RX4 19 (TX4 7).1 (TX4 7).2.1 (TX4 7).2.2.1 ∈ lw_gd := gd_in (List.mem_append_right _ (List.mem_of_getElem? (i := 537) rfl)) rfl
set_option maxRecDepth 20000 in
theorem mw_X4_196 : VW RX4 196 RX4 yX4_isOfParts cX4_isOfParts 1 (some .boolean) 0 := ⟨gd_in (List.mem_append_right _ (List.mem_of_getElem? (i := 782) rfl)) rfl, gd_in (List.mem_append_right _ (List.mem_of_getElem? (i := 784) rfl)) rfl, gd_in (List.mem_append_left _ (List.mem_of_getElem? (i := 24) rfl)) rfl, gd_in (List.mem_append_right _ (List.mem_of_getElem? (i := 6) rfl)) rfl, gd_in (List.mem_append_right _ (List.mem_of_getElem? (i := 785) rfl)) rfl, by decide, by decide, by decide⟩
set_option maxRecDepth 20000 in
theorem mc_X4_202 : Cond.constant RX4 202 (-2147483648) ∈ lw_gd := gd_in (List.mem_append_right _ (List.mem_of_getElem? (i := 777) rfl)) rfl
set_option maxRecDepth 20000 in
theorem mw_X4_203 : VW RX4 203 RX4 yX4_isOfWay cX4_isOfWay 2 (some .boolean) 1 := ⟨gd_in (List.mem_append_right _ (List.mem_of_getElem? (i := 778) rfl)) rfl, gd_in (List.mem_append_right _ (List.mem_of_getElem? (i := 780) rfl)) rfl, gd_in (List.mem_append_left _ (List.mem_of_getElem? (i := 23) rfl)) rfl, gd_in (List.mem_append_right _ (List.mem_of_getElem? (i := 6) rfl)) rfl, gd_in (List.mem_append_right _ (List.mem_of_getElem? (i := 781) rfl)) rfl, by decide, by decide, by decide⟩
set_option maxRecDepth 20000 in
theorem mw_X4_207 : VW RX4 207 RX4 yX4_serveTo cX4_serveTo 5 none 3 := ⟨gd_in (List.mem_append_right _ (List.mem_of_getElem? (i := 787) rfl)) rfl, gd_in (List.mem_append_right _ (List.mem_of_getElem? (i := 789) rfl)) rfl, gd_in (List.mem_append_left _ (List.mem_of_getElem? (i := 25) rfl)) rfl, gd_in (List.mem_append_right _ (List.mem_of_getElem? (i := 6) rfl)) rfl, gd_in (List.mem_append_right _ (List.mem_of_getElem? (i := 790) rfl)) rfl, by decide, by decide, by decide⟩
set_option maxRecDepth 20000 in
theorem mc_X4_206 : Cond.constant RX4 206 (-2147483647) ∈ lw_gd := gd_in (List.mem_append_right _ (List.mem_of_getElem? (i := 786) rfl)) rfl
set_option maxRecDepth 20000 in
theorem mw_X4_210 : VW RX4 210 RX4 yX4_missesOf cX4_missesOf 5 (some .int) 2 := ⟨gd_in (List.mem_append_right _ (List.mem_of_getElem? (i := 799) rfl)) rfl, gd_in (List.mem_append_right _ (List.mem_of_getElem? (i := 801) rfl)) rfl, gd_in (List.mem_append_left _ (List.mem_of_getElem? (i := 26) rfl)) rfl, gd_in (List.mem_append_right _ (List.mem_of_getElem? (i := 6) rfl)) rfl, gd_in (List.mem_append_right _ (List.mem_of_getElem? (i := 802) rfl)) rfl, by decide, by decide, by decide⟩
set_option maxRecDepth 20000 in
theorem mc_X4_213 : Cond.constantFloat RX4 213 (1176256512) ∈ lw_gd := gd_in (List.mem_append_right _ (List.mem_of_getElem? (i := 807) rfl)) rfl
set_option maxRecDepth 20000 in
theorem mf_X4_60 : Cond.fieldLink RX4 60 (TX4 30).1 (TX4 30).2.1 (TX4 30).2.2.1 ∈ lw_gd := gd_in (List.mem_append_right _ (List.mem_of_getElem? (i := 560) rfl)) rfl
set_option maxRecDepth 20000 in
theorem mw_X4_217 : VW RX4 217 RX4 yX4_behind cX4_behind 6 (some .int) 4 := ⟨gd_in (List.mem_append_right _ (List.mem_of_getElem? (i := 824) rfl)) rfl, gd_in (List.mem_append_right _ (List.mem_of_getElem? (i := 826) rfl)) rfl, gd_in (List.mem_append_left _ (List.mem_of_getElem? (i := 30) rfl)) rfl, gd_in (List.mem_append_right _ (List.mem_of_getElem? (i := 6) rfl)) rfl, gd_in (List.mem_append_right _ (List.mem_of_getElem? (i := 827) rfl)) rfl, by decide, by decide, by decide⟩
set_option maxRecDepth 20000 in
theorem mf_X4_56 : Cond.fieldLink RX4 56 (TX4 29).1 (TX4 29).2.1 (TX4 29).2.2.1 ∈ lw_gd := gd_in (List.mem_append_right _ (List.mem_of_getElem? (i := 559) rfl)) rfl
set_option maxRecDepth 20000 in
theorem mw_X4_214 : VW RX4 214 RX4 yX4_sizeOf cX4_sizeOf 4 (some .int) 1 := ⟨gd_in (List.mem_append_right _ (List.mem_of_getElem? (i := 816) rfl)) rfl, gd_in (List.mem_append_right _ (List.mem_of_getElem? (i := 818) rfl)) rfl, gd_in (List.mem_append_left _ (List.mem_of_getElem? (i := 28) rfl)) rfl, gd_in (List.mem_append_right _ (List.mem_of_getElem? (i := 6) rfl)) rfl, gd_in (List.mem_append_right _ (List.mem_of_getElem? (i := 819) rfl)) rfl, by decide, by decide, by decide⟩
set_option maxRecDepth 20000 in
theorem mc_X4_221 : Cond.constant RX4 221 (2147483647) ∈ lw_gd := gd_in (List.mem_append_right _ (List.mem_of_getElem? (i := 828) rfl)) rfl
set_option maxRecDepth 20000 in
theorem mf_X4_222 : Cond.fieldLink RX4 222 (TX4 31).1 (TX4 31).2.1 (TX4 31).2.2.1 ∈ lw_gd := gd_in (List.mem_append_right _ (List.mem_of_getElem? (i := 561) rfl)) rfl
set_option maxRecDepth 20000 in
theorem mw_X4_225 : VW RX4 225 RX4 yX4_leastFor cX4_leastFor 8 (some .int) 3 := ⟨gd_in (List.mem_append_right _ (List.mem_of_getElem? (i := 820) rfl)) rfl, gd_in (List.mem_append_right _ (List.mem_of_getElem? (i := 822) rfl)) rfl, gd_in (List.mem_append_left _ (List.mem_of_getElem? (i := 29) rfl)) rfl, gd_in (List.mem_append_right _ (List.mem_of_getElem? (i := 6) rfl)) rfl, gd_in (List.mem_append_right _ (List.mem_of_getElem? (i := 823) rfl)) rfl, by decide, by decide, by decide⟩
set_option maxRecDepth 20000 in
theorem mw_X4_229 : VW RX4 229 RX4 yX4_findLeast cX4_findLeast 5 (some .boolean) 1 := ⟨gd_in (List.mem_append_right _ (List.mem_of_getElem? (i := 812) rfl)) rfl, gd_in (List.mem_append_right _ (List.mem_of_getElem? (i := 814) rfl)) rfl, gd_in (List.mem_append_left _ (List.mem_of_getElem? (i := 27) rfl)) rfl, gd_in (List.mem_append_right _ (List.mem_of_getElem? (i := 6) rfl)) rfl, gd_in (List.mem_append_right _ (List.mem_of_getElem? (i := 815) rfl)) rfl, by decide, by decide, by decide⟩
set_option maxRecDepth 20000 in
theorem mw_X4_232 : VW RX4 232 RX4 yX4_thingAt cX4_thingAt 4 (some .int) 1 := ⟨gd_in (List.mem_append_right _ (List.mem_of_getElem? (i := 833) rfl)) rfl, gd_in (List.mem_append_right _ (List.mem_of_getElem? (i := 835) rfl)) rfl, gd_in (List.mem_append_left _ (List.mem_of_getElem? (i := 31) rfl)) rfl, gd_in (List.mem_append_right _ (List.mem_of_getElem? (i := 6) rfl)) rfl, gd_in (List.mem_append_right _ (List.mem_of_getElem? (i := 836) rfl)) rfl, by decide, by decide, by decide⟩
set_option maxRecDepth 20000 in
theorem mf_X4_63 : Cond.fieldLink RX4 63 (TX4 32).1 (TX4 32).2.1 (TX4 32).2.2.1 ∈ lw_gd := gd_in (List.mem_append_right _ (List.mem_of_getElem? (i := 562) rfl)) rfl
set_option maxRecDepth 20000 in
theorem mw_X4_235 : VW RX4 235 RX4 yX4_phaseOf cX4_phaseOf 7 (some .int) 2 := ⟨gd_in (List.mem_append_right _ (List.mem_of_getElem? (i := 841) rfl)) rfl, gd_in (List.mem_append_right _ (List.mem_of_getElem? (i := 843) rfl)) rfl, gd_in (List.mem_append_left _ (List.mem_of_getElem? (i := 32) rfl)) rfl, gd_in (List.mem_append_right _ (List.mem_of_getElem? (i := 6) rfl)) rfl, gd_in (List.mem_append_right _ (List.mem_of_getElem? (i := 844) rfl)) rfl, by decide, by decide, by decide⟩
set_option maxRecDepth 20000 in
theorem mw_X4_238 : VW RX4 238 RX4 yX4_distanceOf cX4_distanceOf 7 (some .int) 1 := ⟨gd_in (List.mem_append_right _ (List.mem_of_getElem? (i := 853) rfl)) rfl, gd_in (List.mem_append_right _ (List.mem_of_getElem? (i := 855) rfl)) rfl, gd_in (List.mem_append_left _ (List.mem_of_getElem? (i := 33) rfl)) rfl, gd_in (List.mem_append_right _ (List.mem_of_getElem? (i := 6) rfl)) rfl, gd_in (List.mem_append_right _ (List.mem_of_getElem? (i := 856) rfl)) rfl, by decide, by decide, by decide⟩
set_option maxRecDepth 20000 in
theorem mf_X4_22 : Cond.fieldLink RX4 22 (TX4 8).1 (TX4 8).2.1 (TX4 8).2.2.1 ∈ lw_gd := gd_in (List.mem_append_right _ (List.mem_of_getElem? (i := 538) rfl)) rfl
set_option maxRecDepth 20000 in
theorem mf_X4_66 : Cond.fieldLink RX4 66 (TX4 33).1 (TX4 33).2.1 (TX4 33).2.2.1 ∈ lw_gd := gd_in (List.mem_append_right _ (List.mem_of_getElem? (i := 563) rfl)) rfl
set_option maxRecDepth 20000 in
theorem mw_copy : Cond.methodLink RX3 153 arraycopyName ∈ lw_gd ∧ Cond.native arraycopyName ∈ lw_gd ∧ Cond.static arraycopyName ∈ lw_gd ∧ Cond.initialized "java/lang/System" ∈ lw_gd := ⟨gd_in (List.mem_append_right _ (List.mem_of_getElem? (i := 504) rfl)) rfl, gd_in (List.mem_append_right _ (List.mem_of_getElem? (i := 506) rfl)) rfl, gd_in (List.mem_append_right _ (List.mem_of_getElem? (i := 505) rfl)) rfl, gd_in (List.mem_append_right _ (List.mem_of_getElem? (i := 9) rfl)) rfl⟩
end
section
/-! Arrays.fill, System.arraycopy -/
theorem bd_pos {O : Type} {i : Int} {n : Nat} {F : Option O} (h : 0 ≤ i ∧ i < (n : Int)) : bd i n F = F := if_pos h
def wF (y : ClassId × ClassId × ClassId) (q n : Nat) (f : Nat → Int) : va_W := [(q, .inl (y.1, n, .inl (fun j => iz (f j))))]
theorem fill_loop {X : Cx} {D : va_G} {y : ClassId × ClassId × ClassId} {q n : Nat} {f : Nat → Int} {x : Int} (hX : OKX X cJ7_fill_53178 RJ7 (rmk 0) none D y) (hn : n < 2147483648) : ∀ (k i : Nat), i + k = n → GF X cJ7_fill_53178 D (0, 0) (QV X D y (wF y q n)) (some (fun j => if j < n then x else f j)) 5 [some (.ref q), some (.int (iz x)), some (.int (iz (i : Int))), some (.int (iz (n : Int)))] [] (wF y q n (fun j => if j < i then x else f j)) := by
  intro k
  induction k with
  | zero =>
    intro i hi
    have hi : i = n := hi
    subst hi
    refine g_iload_n hX dJ7_fill_53178_5 (rfl : 5 + 1 = 6) rfl ?_
    refine g_iload_n hX dJ7_fill_53178_6 (rfl : 6 + 1 = 7) rfl ?_
    rw [show some (fun j => if j < i then x else f j) = (if wr (i : Int) ≤ wr (i : Int) then some (fun j => if j < i then x else f j) else none) from (if_pos (Int.le_refl _)).symm]
    refine g_icmp_ge (tgt := 20) hX dJ7_fill_53178_7 (by decide) (rfl : 7 + 3 = 10) ?_ g_none
    exact g_vret hX dJ7_fill_53178_20
  | succ k ih =>
    intro i hi
    have hlt : ¬ wr (n : Int) ≤ wr (i : Int) := by rw [wr_id (by omega), wr_id (by omega)]; omega
    refine g_iload_n hX dJ7_fill_53178_5 (rfl : 5 + 1 = 6) rfl ?_
    refine g_iload_n hX dJ7_fill_53178_6 (rfl : 6 + 1 = 7) rfl ?_
    rw [show some (fun j => if j < n then x else f j) = (if wr (n : Int) ≤ wr (i : Int) then none else some (fun j => if j < n then x else f j)) from (if_neg hlt).symm]
    refine g_icmp_ge (tgt := 20) hX dJ7_fill_53178_7 (by decide) (rfl : 7 + 3 = 10) g_none ?_
    refine g_aload_n hX dJ7_fill_53178_10 (rfl : 10 + 1 = 11) rfl ?_
    refine g_iload_n hX dJ7_fill_53178_11 (rfl : 11 + 1 = 12) rfl ?_
    refine g_iload_n hX dJ7_fill_53178_12 (rfl : 12 + 1 = 13) rfl ?_
    rw [← bd_pos (i := (i : Int)) (n := n) (F := some (fun j => if j < n then x else f j)) (by omega)]
    refine g_iast (f := fun j => if j < i then x else f j) (ws' := wF y q n (fun j => if j < i + 1 then x else f j)) hX 0 rfl hn ?_ dJ7_fill_53178_13 (rfl : 13 + 1 = 14) ?_
    · unfold wF
      simp only [List.set]
      congr 6
      funext j
      congr 1
      have hi2 : (i : Int).toNat = i := rfl
      rw [hi2]
      by_cases h1 : j = i
      · rw [if_pos h1, if_pos (by omega)]
      · rw [if_neg h1]
        by_cases h2 : j < i
        · rw [if_pos h2, if_pos (by omega)]
        · rw [if_neg h2, if_neg (by omega)]
    · have h := g_iinc (F := fun z => if z = (i : Int) + 1 then some (fun j => if j < n then x else f j) else none) (lv := [some (.ref q), some (.int (iz x)), some (.int (iz (i : Int))), some (.int (iz (n : Int)))]) (lv' := fun z => [some (.ref q), some (.int (iz x)), some (.int (iz z)), some (.int (iz (n : Int)))]) (st := []) (ws := wF y q n (fun j => if j < i + 1 then x else f j)) (Q := QV X D y (wF y q n)) (z := (0, 0)) hX dJ7_fill_53178_14 (rfl : 14 + 3 = 17) rfl (fun _ => rfl) (fun z => g_ite (fun hz => by
        subst hz
        refine g_goto (pc' := 5) hX dJ7_fill_53178_17 (by decide) ?_
        exact ih (i + 1) (by omega)) (fun _ => g_none))
      simp only [nm, ↓reduceIte] at h
      exact h
theorem kFill (l : Launch) (D : va_G) (y : ClassId × ClassId × ClassId) (q n : Nat) (hn : n < 2147483648) (f : Nat → Int) (x : Int) : CtV l D y yJ7_fill_53178 cJ7_fill_53178 4 (rmk 0) [.ref q, .int (iz x)] (wF y q n) f (some (fun j => if j < n then x else f j)) := by
  refine ctV_of (own := RJ7) rfl (by decide) (cat1 rfl) rfl (fun X hl hX => ?_)
  subst hl
  show GF X cJ7_fill_53178 D (0, 0) (QV X D y (wF y q n)) (some (fun j => if j < n then x else f j)) 0 [some (.ref q), some (.int (iz x)), none, none] [] (wF y q n f)
  refine g_iconst hX dJ7_fill_53178_0 (rfl : 0 + 1 = 1) ?_
  have h1 : ∀ z : Int, z = 0 → GF X cJ7_fill_53178 D (0, 0) (QV X D y (wF y q n)) (some (fun j => if j < n then x else f j)) 2 [some (.ref q), some (.int (iz x)), some (.int (iz z)), none] [] (wF y q n f) := by
    intro z hz
    subst hz
    refine g_aload_n hX dJ7_fill_53178_2 (rfl : 2 + 1 = 3) rfl ?_
    refine g_alen hX (n : Int) 0 rfl rfl dJ7_fill_53178_3 (rfl : 3 + 1 = 4) ?_
    have h2 : ∀ z : Int, z = (n : Int) → GF X cJ7_fill_53178 D (0, 0) (QV X D y (wF y q n)) (some (fun j => if j < n then x else f j)) 5 [some (.ref q), some (.int (iz x)), some (.int (iz 0)), some (.int (iz z))] [] (wF y q n f) := by
      intro z hz
      subst hz
      have h3 := fill_loop (q := q) (f := f) (x := x) hX hn n 0 (by omega)
      have h4 : (fun j => if j < 0 then x else f j) = f := by funext j; rw [if_neg (by omega)]
      rw [h4] at h3
      exact h3
    have h5 := g_istore_n (F := fun z => if z = (n : Int) then some (fun j => if j < n then x else f j) else none) (lv := [some (.ref q), some (.int (iz x)), some (.int (iz 0)), none]) (lv' := fun z => [some (.ref q), some (.int (iz x)), some (.int (iz 0)), some (.int (iz z))]) (st := []) (a := (n : Int)) hX dJ7_fill_53178_4 (rfl : 4 + 1 = 5) rfl (fun _ => rfl) (fun z => g_ite (h2 z) (fun _ => g_none))
    simp only [nm, ↓reduceIte] at h5
    exact h5
  have h5 := g_istore_n (F := fun z => if z = 0 then some (fun j => if j < n then x else f j) else none) (lv := [some (.ref q), some (.int (iz x)), none, none]) (lv' := fun z => [some (.ref q), some (.int (iz x)), some (.int (iz z)), none]) (st := []) (a := 0) hX dJ7_fill_53178_1 (rfl : 1 + 1 = 2) rfl (fun _ => rfl) (fun z => g_ite (h1 z) (fun _ => g_none))
  simp only [nm, ↓reduceIte] at h5
  exact h5
/-- Arrays.fill over one array of the caller's world -/
theorem g_fill {O : Type} {X : Cx} {cc : ByteArray} {own : String} {rm : Room} {ret : Option FieldType} {D : va_G} {y : ClassId × ClassId × ClassId} {z : Nat × Nat} {Q : O → State → Prop} {F : Option O} {pc pc' : Nat} {lv : List (Option Value)} {st : List Value} {ws ws' : va_W} {idx a n : Nat} {f : Nat → Int} {x : Int} (hX : OKX X cc own rm ret D y) (q0 : Nat) (ha : ws[q0]? = some (a, .inl (y.1, n, .inl (fun j => iz (f j))))) (hn : n < 2147483648) (hws : ws.set q0 (a, .inl (y.1, n, .inl (fun j => iz (if j < n then x else f j)))) = ws') (hw : SW own idx yJ7_fill_53178 cJ7_fill_53178 4 none 2) (hrm : RoomOK (rmk 0) rm 4 z) (hrest : (st.map fun v => v.category).sum ≤ 8) (hd : decode cc pc = .ok (.invokestatic idx, 3)) (hp : pc + 3 = pc') (k : GF X cc D z Q F pc' lv st ws') : GF X cc D z Q F pc lv (.int (iz x) :: .ref a :: st) ws := by
  subst hp
  intro o ho H locs ls hP hD hS hl
  have hm := kFill (cxl X) D y a n hn f x _ rfl H.size
  have hPc : va_P D vwCl (wF y a n f) H := fun k q hk => by
    have h0 : k = 0 := by
      have := (List.getElem?_eq_some_iff.mp hk).1
      simp [wF] at this
      omega
    subst h0
    cases hk
    exact hP q0 _ ha
  have hDc : va_D (fun _ => True) (wF y a n f) := ⟨fun i j p q hi hj _ => by
    have h1 := (List.getElem?_eq_some_iff.mp hi).1
    have h2 := (List.getElem?_eq_some_iff.mp hj).1
    simp [wF] at h1 h2
    omega, fun _ _ _ => trivial⟩
  have hFc : ∀ q, va_A (wF y a n f) H.size q → cxA X q := fun q h => by
    rcases h with ⟨k, e, h⟩ | h
    · have h0 : k = 0 := by
        have := (List.getElem?_eq_some_iff.mp h).1
        simp [wF] at this
        omega
      subst h0
      cases h
      exact hD.2 q0 _ ha
    · exact hX.2.2.2.2.2.2.1 q (Nat.le_trans hS.1 h)
  refine va_callv (va_runS (As := [.ref a, .int (iz x)]) (rest := st) ⟨hX.1, hX.2.1, hX.2.2.1, hX.2.2.2.1, hX.2.2.2.2.1⟩ hm ⟨callB_in hX hw.1 hw.2.2.1 hw.2.2.2.1 hw.2.2.2.2 hrm, hX.2.2.2.2.1 _ hw.2.1⟩ ⟨blindW, fun U hU hWm => ⟨rfl, by rw [hU], by rw [hU]; exact hPc, va_K.moved hWm.alike hX.2.2.2.2.2.1, hDc⟩⟩ rfl rfl hl.1 rfl (lv_room hrest) hd ⟨by rw [hX.2.2.2.2.2.2.2.2.1]; exact hrm.2.2.2.2.1, by rw [hX.2.2.2.2.2.2.2.2.1]; exact hrm.2.2.2.2.2⟩) hS (fun q _ h => hFc q h) hFc (fun u t H1 locs1 ht hvm hw1 hB hz1 hk1 hS1 => ?_)
  subst hw1
  obtain ⟨hP1, hK1, hD1⟩ := hB
  rw [ht] at hP1
  have hc1 := hP1 0 _ rfl
  have hset : va_P D vwCl (ws.set q0 (a, .inl (y.1, n, .inl (fun j => iz (if j < n then x else f j))))) H1 := by
    intro j q hq
    by_cases hj : q0 = j
    · subst hj
      rw [List.getElem?_set_self (List.getElem?_eq_some_iff.mp ha).1] at hq
      cases hq
      exact hc1
    · rw [List.getElem?_set_ne hj] at hq
      have h1 := hP j q hq
      refine h1.kept (hk1 q.1 h1.lt (fun h => ?_))
      rcases h with ⟨k, e, h⟩ | h
      · have h0 : k = 0 := by
          have := (List.getElem?_eq_some_iff.mp h).1
          simp [wF] at this
          omega
        subst h0
        have he : q.1 = a := by cases h; rfl
        exact hj (hD.1 q0 j _ _ ha hq he.symm)
      · have := h1.lt; omega
  rw [hws] at hset
  have hDs := hD.set (e := .inl (y.1, n, .inl (fun j => iz (if j < n then x else f j)))) ha
  rw [hws] at hDs
  exact k o ho H1 locs1 ls hset hDs hS1 hl
set_option maxRecDepth 100000 in
theorem cp_J {O : Type} {X : Cx} {cc : ByteArray} {rm : Room} {ret : Option FieldType} {D : va_G} {y : ClassId × ClassId × ClassId} {z : Nat × Nat} {Q : O → State → Prop} {pc pc' : Nat} {lv : List (Option Value)} {st : List Value} {q : Nat → Nat} {Y : St × St × St × St × St} (hX : OKX X cc RX3 rm ret D y) {F : St × St × St × St × St → Option O} {n : Int} {idx : Nat} (hw : Cond.methodLink RX3 idx arraycopyName ∈ lw_gd ∧ Cond.native arraycopyName ∈ lw_gd ∧ Cond.static arraycopyName ∈ lw_gd ∧ Cond.initialized "java/lang/System" ∈ lw_gd) (hrm : 1 ≤ rm.frames ∧ 26 ≤ rm.locals) (hrest : (st.map fun v => v.category).sum ≤ 8) (hd : decode cc pc = .ok (.invokestatic idx, 3)) (hp : pc + 3 = pc') (k : ∀ Y1, GF X cc D z Q (F Y1) pc' lv st (wJ y q Y1)) : GF X cc D z Q (bd n 301 (nm ((setR Y.1 5 (fun j => if j < n.toNat then Y.1.2 7 j else Y.1.2 5 j), Y.2)) F)) pc lv (.int (iz n) :: .int (iz 0) :: .ref (q 2) :: .int (iz 0) :: .ref (q 4) :: st) (wJ y q Y) := by
  subst hp
  intro o ho H locs ls hP hD hS hl
  unfold bd at ho
  split at ho
  · next h =>
    obtain ⟨h1, h2⟩ := iz_in h (by decide)
    have h0 : (iz 0).toNatClampNeg = 0 := by decide
    have hnn : ¬ iz n < 0 := fun q => by rw [iz_0] at q; have := (iz_lt _ _).mp q; rw [wr_0, wr_id (by omega)] at this; omega
    have h9 : nativeFrameWords "java/lang/System" "arraycopy" 5 = 7 := by decide
    refine va_copyi (sp := iz 0) (dp := iz 0) (n := iz n) hX.1 hX.2.1 (hX.2.2.1.trans hl.1.symm) hX.2.2.2.1 (hX.2.2.2.2.1 _ hw.1) (hX.2.2.2.2.1 _ hw.2.1) (hX.2.2.2.2.1 _ hw.2.2.1) (hX.2.2.2.2.1 _ hw.2.2.2) hX.2.2.2.2.2.1 hP hD hS 4 2 0 0 (n0 := 300) (n1 := 300) (f := fun j => iz (Y.1.2 7 j)) (g := fun j => iz (Y.1.2 5 j)) (ty := .int) rfl rfl rfl rfl rfl (by decide) (by decide) hnn (by rw [h0, h2]; omega) (by rw [h0, h2]; omega) (fun i _ => rfl) (by rw [hX.2.2.2.2.2.2.2.2.1]; exact hrm.1) (by rw [hX.2.2.2.2.2.2.2.2.1, h9]; omega) hd (fun H1 locs1 hP1 hD1 hS1 => ?_)
    have he : va_cpy (fun j => iz (Y.1.2 7 j)) (fun j => iz (Y.1.2 5 j)) (iz 0).toNatClampNeg (iz 0).toNatClampNeg (iz n).toNatClampNeg = fun j => iz (if j < n.toNat then Y.1.2 7 j else Y.1.2 5 j) := by
      funext j
      unfold va_cpy
      rw [h0, h2]
      by_cases hj : j < n.toNat
      · rw [if_pos ⟨Nat.zero_le _, by omega⟩, if_pos hj]; simp
      · rw [if_neg (by omega), if_neg hj]
    rw [he] at hP1 hD1
    exact k _ o ho H1 locs1 ls hP1 hD1 hS1 hl
  · cases ho
end
section
set_option maxRecDepth 100000 in
theorem pr_SR {y : ClassId × ClassId × ClassId} {q qr : Nat → Nat} {Y : St × St} : PR (wS y q qr Y) ((wR y (qr)) Y.2) (wR y (qr)) (fun u => wS y q qr ((fun u => (Y.1, u)) u)) [9, 10, 11, 12, 13] [0, 1, 2, 3, 4, 5, 6, 7, 8] [0, 1, 2, 3, 4, 5, 6, 7, 8, 9, 10, 11, 12, 13] (([0, 1, 2, 3, 4, 5, 6, 7, 8] : List Nat).filterMap (fun i => (wS y q qr Y)[i]?)) := ⟨rfl, rfl, rfl, rfl, by decide, rfl, fun u => rfl⟩
set_option maxRecDepth 100000 in
theorem ci_SR {O : Type} {X : Cx} {cc : ByteArray} {own : String} {rm : Room} {ret : Option FieldType} {D : va_G} {y : ClassId × ClassId × ClassId} {z : Nat × Nat} {Q : O → State → Prop} {F : Int → St × St → Option O} {fc : Option (Int × (St))} {retc : Option FieldType} {pc pc' : Nat} {lv : List (Option Value)} {st rest As : List Value} {idx n : Nat} {yy : MethodName} {bytes : ByteArray} {maxL : Nat} {rmc : Room} {q qr : Nat → Nat} {Y : St × St} (hX : OKX X cc own rm ret D y) (hM : CtI (cxl X) D y yy bytes maxL retc rmc (.ref (qr 0) :: As) (wR y (qr)) Y.2 fc) (hw : VW own idx RX1 yy bytes maxL retc n) (hrm : RoomOK rmc rm maxL z) (hn : As.length = n) (hst : st = As.reverse ++ .ref (qr 0) :: rest) (hrest : (rest.map fun v => v.category).sum ≤ 8) (hd : decode cc pc = .ok (.invokevirtual idx, 3)) (hp : pc + 3 = pc') (k : ∀ r Y1, GF X cc D z Q (F r Y1) pc' lv (.int (iz r) :: rest) (wS y q qr Y1)) : GF X cc D z Q (cls fc (fun u => (Y.1, u)) F) pc lv st (wS y q qr Y) := g_calli (w := wS y q qr) hX hM pr_SR rfl rfl hw hrm hn hst hrest hd hp k
set_option maxRecDepth 100000 in
theorem cv_SR {O : Type} {X : Cx} {cc : ByteArray} {own : String} {rm : Room} {ret : Option FieldType} {D : va_G} {y : ClassId × ClassId × ClassId} {z : Nat × Nat} {Q : O → State → Prop} {F : St × St → Option O} {fc : Option (St)} {pc pc' : Nat} {lv : List (Option Value)} {st rest As : List Value} {idx n : Nat} {yy : MethodName} {bytes : ByteArray} {maxL : Nat} {rmc : Room} {q qr : Nat → Nat} {Y : St × St} (hX : OKX X cc own rm ret D y) (hM : CtV (cxl X) D y yy bytes maxL rmc (.ref (qr 0) :: As) (wR y (qr)) Y.2 fc) (hw : VW own idx RX1 yy bytes maxL none n) (hrm : RoomOK rmc rm maxL z) (hn : As.length = n) (hst : st = As.reverse ++ .ref (qr 0) :: rest) (hrest : (rest.map fun v => v.category).sum ≤ 8) (hd : decode cc pc = .ok (.invokevirtual idx, 3)) (hp : pc + 3 = pc') (k : ∀ Y1, GF X cc D z Q (F Y1) pc' lv rest (wS y q qr Y1)) : GF X cc D z Q (clv fc (fun u => (Y.1, u)) F) pc lv st (wS y q qr Y) := g_callv (w := wS y q qr) hX hM pr_SR rfl rfl hw hrm hn hst hrest hd hp k
set_option maxRecDepth 100000 in
theorem pr_TR {y : ClassId × ClassId × ClassId} {q qr : Nat → Nat} {Y : St × St} : PR (wT y q qr Y) ((wR y (qr)) Y.2) (wR y (qr)) (fun u => wT y q qr ((fun u => (Y.1, u)) u)) [8, 9, 10, 11, 12] [0, 1, 2, 3, 4, 5, 6, 7] [0, 1, 2, 3, 4, 5, 6, 7, 8, 9, 10, 11, 12] (([0, 1, 2, 3, 4, 5, 6, 7] : List Nat).filterMap (fun i => (wT y q qr Y)[i]?)) := ⟨rfl, rfl, rfl, rfl, by decide, rfl, fun u => rfl⟩
set_option maxRecDepth 100000 in
theorem ci_TR {O : Type} {X : Cx} {cc : ByteArray} {own : String} {rm : Room} {ret : Option FieldType} {D : va_G} {y : ClassId × ClassId × ClassId} {z : Nat × Nat} {Q : O → State → Prop} {F : Int → St × St → Option O} {fc : Option (Int × (St))} {retc : Option FieldType} {pc pc' : Nat} {lv : List (Option Value)} {st rest As : List Value} {idx n : Nat} {yy : MethodName} {bytes : ByteArray} {maxL : Nat} {rmc : Room} {q qr : Nat → Nat} {Y : St × St} (hX : OKX X cc own rm ret D y) (hM : CtI (cxl X) D y yy bytes maxL retc rmc (.ref (qr 0) :: As) (wR y (qr)) Y.2 fc) (hw : VW own idx RX1 yy bytes maxL retc n) (hrm : RoomOK rmc rm maxL z) (hn : As.length = n) (hst : st = As.reverse ++ .ref (qr 0) :: rest) (hrest : (rest.map fun v => v.category).sum ≤ 8) (hd : decode cc pc = .ok (.invokevirtual idx, 3)) (hp : pc + 3 = pc') (k : ∀ r Y1, GF X cc D z Q (F r Y1) pc' lv (.int (iz r) :: rest) (wT y q qr Y1)) : GF X cc D z Q (cls fc (fun u => (Y.1, u)) F) pc lv st (wT y q qr Y) := g_calli (w := wT y q qr) hX hM pr_TR rfl rfl hw hrm hn hst hrest hd hp k
set_option maxRecDepth 100000 in
theorem cv_TR {O : Type} {X : Cx} {cc : ByteArray} {own : String} {rm : Room} {ret : Option FieldType} {D : va_G} {y : ClassId × ClassId × ClassId} {z : Nat × Nat} {Q : O → State → Prop} {F : St × St → Option O} {fc : Option (St)} {pc pc' : Nat} {lv : List (Option Value)} {st rest As : List Value} {idx n : Nat} {yy : MethodName} {bytes : ByteArray} {maxL : Nat} {rmc : Room} {q qr : Nat → Nat} {Y : St × St} (hX : OKX X cc own rm ret D y) (hM : CtV (cxl X) D y yy bytes maxL rmc (.ref (qr 0) :: As) (wR y (qr)) Y.2 fc) (hw : VW own idx RX1 yy bytes maxL none n) (hrm : RoomOK rmc rm maxL z) (hn : As.length = n) (hst : st = As.reverse ++ .ref (qr 0) :: rest) (hrest : (rest.map fun v => v.category).sum ≤ 8) (hd : decode cc pc = .ok (.invokevirtual idx, 3)) (hp : pc + 3 = pc') (k : ∀ Y1, GF X cc D z Q (F Y1) pc' lv rest (wT y q qr Y1)) : GF X cc D z Q (clv fc (fun u => (Y.1, u)) F) pc lv st (wT y q qr Y) := g_callv (w := wT y q qr) hX hM pr_TR rfl rfl hw hrm hn hst hrest hd hp k
set_option maxRecDepth 100000 in
theorem pr_JR {y : ClassId × ClassId × ClassId} {q : Nat → Nat} {Y : St × St × St × St × St} : PR (wJ y q Y) ((wR y (fun k => q (k + 5))) Y.2.1) (wR y (fun k => q (k + 5))) (fun u => wJ y q ((fun u => (Y.1, u, Y.2.2)) u)) [5, 6, 7, 8, 9] [0, 1, 2, 3, 4, 10, 11, 12, 13, 14, 15, 16, 17, 18, 19, 20, 21, 22, 23, 24, 25, 26, 27, 28, 29, 30, 31, 32, 33, 34, 35] [0, 1, 2, 3, 4, 31, 32, 33, 34, 35, 5, 6, 7, 8, 9, 10, 11, 12, 13, 14, 15, 16, 17, 18, 19, 20, 21, 22, 23, 24, 25, 26, 27, 28, 29, 30] (([0, 1, 2, 3, 4, 10, 11, 12, 13, 14, 15, 16, 17, 18, 19, 20, 21, 22, 23, 24, 25, 26, 27, 28, 29, 30, 31, 32, 33, 34, 35] : List Nat).filterMap (fun i => (wJ y q Y)[i]?)) := ⟨rfl, rfl, rfl, rfl, by decide, rfl, fun u => rfl⟩
set_option maxRecDepth 100000 in
theorem ci_JR {O : Type} {X : Cx} {cc : ByteArray} {own : String} {rm : Room} {ret : Option FieldType} {D : va_G} {y : ClassId × ClassId × ClassId} {z : Nat × Nat} {Q : O → State → Prop} {F : Int → St × St × St × St × St → Option O} {fc : Option (Int × (St))} {retc : Option FieldType} {pc pc' : Nat} {lv : List (Option Value)} {st rest As : List Value} {idx n : Nat} {yy : MethodName} {bytes : ByteArray} {maxL : Nat} {rmc : Room} {q : Nat → Nat} {Y : St × St × St × St × St} (hX : OKX X cc own rm ret D y) (hM : CtI (cxl X) D y yy bytes maxL retc rmc (.ref (q 5) :: As) (wR y (fun k => q (k + 5))) Y.2.1 fc) (hw : VW own idx RX1 yy bytes maxL retc n) (hrm : RoomOK rmc rm maxL z) (hn : As.length = n) (hst : st = As.reverse ++ .ref (q 5) :: rest) (hrest : (rest.map fun v => v.category).sum ≤ 8) (hd : decode cc pc = .ok (.invokevirtual idx, 3)) (hp : pc + 3 = pc') (k : ∀ r Y1, GF X cc D z Q (F r Y1) pc' lv (.int (iz r) :: rest) (wJ y q Y1)) : GF X cc D z Q (cls fc (fun u => (Y.1, u, Y.2.2)) F) pc lv st (wJ y q Y) := g_calli (w := wJ y q) hX hM pr_JR rfl rfl hw hrm hn hst hrest hd hp k
set_option maxRecDepth 100000 in
theorem cv_JR {O : Type} {X : Cx} {cc : ByteArray} {own : String} {rm : Room} {ret : Option FieldType} {D : va_G} {y : ClassId × ClassId × ClassId} {z : Nat × Nat} {Q : O → State → Prop} {F : St × St × St × St × St → Option O} {fc : Option (St)} {pc pc' : Nat} {lv : List (Option Value)} {st rest As : List Value} {idx n : Nat} {yy : MethodName} {bytes : ByteArray} {maxL : Nat} {rmc : Room} {q : Nat → Nat} {Y : St × St × St × St × St} (hX : OKX X cc own rm ret D y) (hM : CtV (cxl X) D y yy bytes maxL rmc (.ref (q 5) :: As) (wR y (fun k => q (k + 5))) Y.2.1 fc) (hw : VW own idx RX1 yy bytes maxL none n) (hrm : RoomOK rmc rm maxL z) (hn : As.length = n) (hst : st = As.reverse ++ .ref (q 5) :: rest) (hrest : (rest.map fun v => v.category).sum ≤ 8) (hd : decode cc pc = .ok (.invokevirtual idx, 3)) (hp : pc + 3 = pc') (k : ∀ Y1, GF X cc D z Q (F Y1) pc' lv rest (wJ y q Y1)) : GF X cc D z Q (clv fc (fun u => (Y.1, u, Y.2.2)) F) pc lv st (wJ y q Y) := g_callv (w := wJ y q) hX hM pr_JR rfl rfl hw hrm hn hst hrest hd hp k
set_option maxRecDepth 100000 in
theorem pr_JU {y : ClassId × ClassId × ClassId} {q : Nat → Nat} {Y : St × St × St × St × St} : PR (wJ y q Y) ((wS y (fun k => q (k + 10)) (fun k => q (k + 5))) (Y.2.2.1, Y.2.1)) (wS y (fun k => q (k + 10)) (fun k => q (k + 5))) (fun u => wJ y q ((fun u => (Y.1, u.2, u.1, Y.2.2.2)) u)) [10, 11, 12, 13, 14, 15, 16, 17, 18, 5, 6, 7, 8, 9] [0, 1, 2, 3, 4, 19, 20, 21, 22, 23, 24, 25, 26, 27, 28, 29, 30, 31, 32, 33, 34, 35] [0, 1, 2, 3, 4, 31, 32, 33, 34, 35, 22, 23, 24, 25, 26, 27, 28, 29, 30, 5, 6, 7, 8, 9, 10, 11, 12, 13, 14, 15, 16, 17, 18, 19, 20, 21] (([0, 1, 2, 3, 4, 19, 20, 21, 22, 23, 24, 25, 26, 27, 28, 29, 30, 31, 32, 33, 34, 35] : List Nat).filterMap (fun i => (wJ y q Y)[i]?)) := ⟨rfl, rfl, rfl, rfl, by decide, rfl, fun u => rfl⟩
set_option maxRecDepth 100000 in
theorem ci_JU {O : Type} {X : Cx} {cc : ByteArray} {own : String} {rm : Room} {ret : Option FieldType} {D : va_G} {y : ClassId × ClassId × ClassId} {z : Nat × Nat} {Q : O → State → Prop} {F : Int → St × St × St × St × St → Option O} {fc : Option (Int × (St × St))} {retc : Option FieldType} {pc pc' : Nat} {lv : List (Option Value)} {st rest As : List Value} {idx n : Nat} {yy : MethodName} {bytes : ByteArray} {maxL : Nat} {rmc : Room} {q : Nat → Nat} {Y : St × St × St × St × St} (hX : OKX X cc own rm ret D y) (hM : CtI (cxl X) D y yy bytes maxL retc rmc (.ref (q 10) :: As) (wS y (fun k => q (k + 10)) (fun k => q (k + 5))) (Y.2.2.1, Y.2.1) fc) (hw : VW own idx RX2 yy bytes maxL retc n) (hrm : RoomOK rmc rm maxL z) (hn : As.length = n) (hst : st = As.reverse ++ .ref (q 10) :: rest) (hrest : (rest.map fun v => v.category).sum ≤ 8) (hd : decode cc pc = .ok (.invokevirtual idx, 3)) (hp : pc + 3 = pc') (k : ∀ r Y1, GF X cc D z Q (F r Y1) pc' lv (.int (iz r) :: rest) (wJ y q Y1)) : GF X cc D z Q (cls fc (fun u => (Y.1, u.2, u.1, Y.2.2.2)) F) pc lv st (wJ y q Y) := g_calli (w := wJ y q) hX hM pr_JU rfl rfl hw hrm hn hst hrest hd hp k
set_option maxRecDepth 100000 in
theorem cv_JU {O : Type} {X : Cx} {cc : ByteArray} {own : String} {rm : Room} {ret : Option FieldType} {D : va_G} {y : ClassId × ClassId × ClassId} {z : Nat × Nat} {Q : O → State → Prop} {F : St × St × St × St × St → Option O} {fc : Option (St × St)} {pc pc' : Nat} {lv : List (Option Value)} {st rest As : List Value} {idx n : Nat} {yy : MethodName} {bytes : ByteArray} {maxL : Nat} {rmc : Room} {q : Nat → Nat} {Y : St × St × St × St × St} (hX : OKX X cc own rm ret D y) (hM : CtV (cxl X) D y yy bytes maxL rmc (.ref (q 10) :: As) (wS y (fun k => q (k + 10)) (fun k => q (k + 5))) (Y.2.2.1, Y.2.1) fc) (hw : VW own idx RX2 yy bytes maxL none n) (hrm : RoomOK rmc rm maxL z) (hn : As.length = n) (hst : st = As.reverse ++ .ref (q 10) :: rest) (hrest : (rest.map fun v => v.category).sum ≤ 8) (hd : decode cc pc = .ok (.invokevirtual idx, 3)) (hp : pc + 3 = pc') (k : ∀ Y1, GF X cc D z Q (F Y1) pc' lv rest (wJ y q Y1)) : GF X cc D z Q (clv fc (fun u => (Y.1, u.2, u.1, Y.2.2.2)) F) pc lv st (wJ y q Y) := g_callv (w := wJ y q) hX hM pr_JU rfl rfl hw hrm hn hst hrest hd hp k
set_option maxRecDepth 100000 in
theorem pr_JV {y : ClassId × ClassId × ClassId} {q : Nat → Nat} {Y : St × St × St × St × St} : PR (wJ y q Y) ((wS y (fun k => q (k + 19)) (fun k => q (k + 5))) (Y.2.2.2.1, Y.2.1)) (wS y (fun k => q (k + 19)) (fun k => q (k + 5))) (fun u => wJ y q ((fun u => (Y.1, u.2, Y.2.2.1, u.1, Y.2.2.2.2)) u)) [19, 20, 21, 22, 23, 24, 25, 26, 27, 5, 6, 7, 8, 9] [0, 1, 2, 3, 4, 10, 11, 12, 13, 14, 15, 16, 17, 18, 28, 29, 30, 31, 32, 33, 34, 35] [0, 1, 2, 3, 4, 31, 32, 33, 34, 35, 5, 6, 7, 8, 9, 10, 11, 12, 13, 22, 23, 24, 25, 26, 27, 28, 29, 30, 14, 15, 16, 17, 18, 19, 20, 21] (([0, 1, 2, 3, 4, 10, 11, 12, 13, 14, 15, 16, 17, 18, 28, 29, 30, 31, 32, 33, 34, 35] : List Nat).filterMap (fun i => (wJ y q Y)[i]?)) := ⟨rfl, rfl, rfl, rfl, by decide, rfl, fun u => rfl⟩
set_option maxRecDepth 100000 in
theorem ci_JV {O : Type} {X : Cx} {cc : ByteArray} {own : String} {rm : Room} {ret : Option FieldType} {D : va_G} {y : ClassId × ClassId × ClassId} {z : Nat × Nat} {Q : O → State → Prop} {F : Int → St × St × St × St × St → Option O} {fc : Option (Int × (St × St))} {retc : Option FieldType} {pc pc' : Nat} {lv : List (Option Value)} {st rest As : List Value} {idx n : Nat} {yy : MethodName} {bytes : ByteArray} {maxL : Nat} {rmc : Room} {q : Nat → Nat} {Y : St × St × St × St × St} (hX : OKX X cc own rm ret D y) (hM : CtI (cxl X) D y yy bytes maxL retc rmc (.ref (q 19) :: As) (wS y (fun k => q (k + 19)) (fun k => q (k + 5))) (Y.2.2.2.1, Y.2.1) fc) (hw : VW own idx RX2 yy bytes maxL retc n) (hrm : RoomOK rmc rm maxL z) (hn : As.length = n) (hst : st = As.reverse ++ .ref (q 19) :: rest) (hrest : (rest.map fun v => v.category).sum ≤ 8) (hd : decode cc pc = .ok (.invokevirtual idx, 3)) (hp : pc + 3 = pc') (k : ∀ r Y1, GF X cc D z Q (F r Y1) pc' lv (.int (iz r) :: rest) (wJ y q Y1)) : GF X cc D z Q (cls fc (fun u => (Y.1, u.2, Y.2.2.1, u.1, Y.2.2.2.2)) F) pc lv st (wJ y q Y) := g_calli (w := wJ y q) hX hM pr_JV rfl rfl hw hrm hn hst hrest hd hp k
set_option maxRecDepth 100000 in
theorem cv_JV {O : Type} {X : Cx} {cc : ByteArray} {own : String} {rm : Room} {ret : Option FieldType} {D : va_G} {y : ClassId × ClassId × ClassId} {z : Nat × Nat} {Q : O → State → Prop} {F : St × St × St × St × St → Option O} {fc : Option (St × St)} {pc pc' : Nat} {lv : List (Option Value)} {st rest As : List Value} {idx n : Nat} {yy : MethodName} {bytes : ByteArray} {maxL : Nat} {rmc : Room} {q : Nat → Nat} {Y : St × St × St × St × St} (hX : OKX X cc own rm ret D y) (hM : CtV (cxl X) D y yy bytes maxL rmc (.ref (q 19) :: As) (wS y (fun k => q (k + 19)) (fun k => q (k + 5))) (Y.2.2.2.1, Y.2.1) fc) (hw : VW own idx RX2 yy bytes maxL none n) (hrm : RoomOK rmc rm maxL z) (hn : As.length = n) (hst : st = As.reverse ++ .ref (q 19) :: rest) (hrest : (rest.map fun v => v.category).sum ≤ 8) (hd : decode cc pc = .ok (.invokevirtual idx, 3)) (hp : pc + 3 = pc') (k : ∀ Y1, GF X cc D z Q (F Y1) pc' lv rest (wJ y q Y1)) : GF X cc D z Q (clv fc (fun u => (Y.1, u.2, Y.2.2.1, u.1, Y.2.2.2.2)) F) pc lv st (wJ y q Y) := g_callv (w := wJ y q) hX hM pr_JV rfl rfl hw hrm hn hst hrest hd hp k
set_option maxRecDepth 100000 in
theorem pr_JT {y : ClassId × ClassId × ClassId} {q : Nat → Nat} {Y : St × St × St × St × St} : PR (wJ y q Y) ((wT y (fun k => q (k + 28)) (fun k => q (k + 5))) (Y.2.2.2.2, Y.2.1)) (wT y (fun k => q (k + 28)) (fun k => q (k + 5))) (fun u => wJ y q ((fun u => (Y.1, u.2, Y.2.2.1, Y.2.2.2.1, u.1)) u)) [28, 29, 30, 31, 32, 33, 34, 35, 5, 6, 7, 8, 9] [0, 1, 2, 3, 4, 10, 11, 12, 13, 14, 15, 16, 17, 18, 19, 20, 21, 22, 23, 24, 25, 26, 27] [0, 1, 2, 3, 4, 31, 32, 33, 34, 35, 5, 6, 7, 8, 9, 10, 11, 12, 13, 14, 15, 16, 17, 18, 19, 20, 21, 22, 23, 24, 25, 26, 27, 28, 29, 30] (([0, 1, 2, 3, 4, 10, 11, 12, 13, 14, 15, 16, 17, 18, 19, 20, 21, 22, 23, 24, 25, 26, 27] : List Nat).filterMap (fun i => (wJ y q Y)[i]?)) := ⟨rfl, rfl, rfl, rfl, by decide, rfl, fun u => rfl⟩
set_option maxRecDepth 100000 in
theorem ci_JT {O : Type} {X : Cx} {cc : ByteArray} {own : String} {rm : Room} {ret : Option FieldType} {D : va_G} {y : ClassId × ClassId × ClassId} {z : Nat × Nat} {Q : O → State → Prop} {F : Int → St × St × St × St × St → Option O} {fc : Option (Int × (St × St))} {retc : Option FieldType} {pc pc' : Nat} {lv : List (Option Value)} {st rest As : List Value} {idx n : Nat} {yy : MethodName} {bytes : ByteArray} {maxL : Nat} {rmc : Room} {q : Nat → Nat} {Y : St × St × St × St × St} (hX : OKX X cc own rm ret D y) (hM : CtI (cxl X) D y yy bytes maxL retc rmc (.ref (q 28) :: As) (wT y (fun k => q (k + 28)) (fun k => q (k + 5))) (Y.2.2.2.2, Y.2.1) fc) (hw : VW own idx RX0 yy bytes maxL retc n) (hrm : RoomOK rmc rm maxL z) (hn : As.length = n) (hst : st = As.reverse ++ .ref (q 28) :: rest) (hrest : (rest.map fun v => v.category).sum ≤ 8) (hd : decode cc pc = .ok (.invokevirtual idx, 3)) (hp : pc + 3 = pc') (k : ∀ r Y1, GF X cc D z Q (F r Y1) pc' lv (.int (iz r) :: rest) (wJ y q Y1)) : GF X cc D z Q (cls fc (fun u => (Y.1, u.2, Y.2.2.1, Y.2.2.2.1, u.1)) F) pc lv st (wJ y q Y) := g_calli (w := wJ y q) hX hM pr_JT rfl rfl hw hrm hn hst hrest hd hp k
set_option maxRecDepth 100000 in
theorem cv_JT {O : Type} {X : Cx} {cc : ByteArray} {own : String} {rm : Room} {ret : Option FieldType} {D : va_G} {y : ClassId × ClassId × ClassId} {z : Nat × Nat} {Q : O → State → Prop} {F : St × St × St × St × St → Option O} {fc : Option (St × St)} {pc pc' : Nat} {lv : List (Option Value)} {st rest As : List Value} {idx n : Nat} {yy : MethodName} {bytes : ByteArray} {maxL : Nat} {rmc : Room} {q : Nat → Nat} {Y : St × St × St × St × St} (hX : OKX X cc own rm ret D y) (hM : CtV (cxl X) D y yy bytes maxL rmc (.ref (q 28) :: As) (wT y (fun k => q (k + 28)) (fun k => q (k + 5))) (Y.2.2.2.2, Y.2.1) fc) (hw : VW own idx RX0 yy bytes maxL none n) (hrm : RoomOK rmc rm maxL z) (hn : As.length = n) (hst : st = As.reverse ++ .ref (q 28) :: rest) (hrest : (rest.map fun v => v.category).sum ≤ 8) (hd : decode cc pc = .ok (.invokevirtual idx, 3)) (hp : pc + 3 = pc') (k : ∀ Y1, GF X cc D z Q (F Y1) pc' lv rest (wJ y q Y1)) : GF X cc D z Q (clv fc (fun u => (Y.1, u.2, Y.2.2.1, Y.2.2.2.1, u.1)) F) pc lv st (wJ y q Y) := g_callv (w := wJ y q) hX hM pr_JT rfl rfl hw hrm hn hst hrest hd hp k
set_option maxRecDepth 100000 in
theorem pr_RR {y : ClassId × ClassId × ClassId} {q : Nat → Nat} {Y : St} : PR (wR y q Y) ((wR y (q)) Y) (wR y (q)) (fun u => wR y q ((fun u => u) u)) [0, 1, 2, 3, 4] [] [0, 1, 2, 3, 4] (([] : List Nat).filterMap (fun i => (wR y q Y)[i]?)) := ⟨rfl, rfl, rfl, rfl, by decide, rfl, fun u => rfl⟩
set_option maxRecDepth 100000 in
theorem ci_RR {O : Type} {X : Cx} {cc : ByteArray} {own : String} {rm : Room} {ret : Option FieldType} {D : va_G} {y : ClassId × ClassId × ClassId} {z : Nat × Nat} {Q : O → State → Prop} {F : Int → St → Option O} {fc : Option (Int × (St))} {retc : Option FieldType} {pc pc' : Nat} {lv : List (Option Value)} {st rest As : List Value} {idx n : Nat} {yy : MethodName} {bytes : ByteArray} {maxL : Nat} {rmc : Room} {q : Nat → Nat} {Y : St} (hX : OKX X cc own rm ret D y) (hM : CtI (cxl X) D y yy bytes maxL retc rmc (.ref (q 0) :: As) (wR y (q)) Y fc) (hw : VW own idx RX1 yy bytes maxL retc n) (hrm : RoomOK rmc rm maxL z) (hn : As.length = n) (hst : st = As.reverse ++ .ref (q 0) :: rest) (hrest : (rest.map fun v => v.category).sum ≤ 8) (hd : decode cc pc = .ok (.invokevirtual idx, 3)) (hp : pc + 3 = pc') (k : ∀ r Y1, GF X cc D z Q (F r Y1) pc' lv (.int (iz r) :: rest) (wR y q Y1)) : GF X cc D z Q (cls fc (fun u => u) F) pc lv st (wR y q Y) := g_calli (w := wR y q) hX hM pr_RR rfl rfl hw hrm hn hst hrest hd hp k
set_option maxRecDepth 100000 in
theorem cv_RR {O : Type} {X : Cx} {cc : ByteArray} {own : String} {rm : Room} {ret : Option FieldType} {D : va_G} {y : ClassId × ClassId × ClassId} {z : Nat × Nat} {Q : O → State → Prop} {F : St → Option O} {fc : Option (St)} {pc pc' : Nat} {lv : List (Option Value)} {st rest As : List Value} {idx n : Nat} {yy : MethodName} {bytes : ByteArray} {maxL : Nat} {rmc : Room} {q : Nat → Nat} {Y : St} (hX : OKX X cc own rm ret D y) (hM : CtV (cxl X) D y yy bytes maxL rmc (.ref (q 0) :: As) (wR y (q)) Y fc) (hw : VW own idx RX1 yy bytes maxL none n) (hrm : RoomOK rmc rm maxL z) (hn : As.length = n) (hst : st = As.reverse ++ .ref (q 0) :: rest) (hrest : (rest.map fun v => v.category).sum ≤ 8) (hd : decode cc pc = .ok (.invokevirtual idx, 3)) (hp : pc + 3 = pc') (k : ∀ Y1, GF X cc D z Q (F Y1) pc' lv rest (wR y q Y1)) : GF X cc D z Q (clv fc (fun u => u) F) pc lv st (wR y q Y) := g_callv (w := wR y q) hX hM pr_RR rfl rfl hw hrm hn hst hrest hd hp k
set_option maxRecDepth 100000 in
theorem pr_SS {y : ClassId × ClassId × ClassId} {q qr : Nat → Nat} {Y : St × St} : PR (wS y q qr Y) ((wS y (q) (qr)) Y) (wS y (q) (qr)) (fun u => wS y q qr ((fun u => u) u)) [0, 1, 2, 3, 4, 5, 6, 7, 8, 9, 10, 11, 12, 13] [] [0, 1, 2, 3, 4, 5, 6, 7, 8, 9, 10, 11, 12, 13] (([] : List Nat).filterMap (fun i => (wS y q qr Y)[i]?)) := ⟨rfl, rfl, rfl, rfl, by decide, rfl, fun u => rfl⟩
set_option maxRecDepth 100000 in
theorem ci_SS {O : Type} {X : Cx} {cc : ByteArray} {own : String} {rm : Room} {ret : Option FieldType} {D : va_G} {y : ClassId × ClassId × ClassId} {z : Nat × Nat} {Q : O → State → Prop} {F : Int → St × St → Option O} {fc : Option (Int × (St × St))} {retc : Option FieldType} {pc pc' : Nat} {lv : List (Option Value)} {st rest As : List Value} {idx n : Nat} {yy : MethodName} {bytes : ByteArray} {maxL : Nat} {rmc : Room} {q qr : Nat → Nat} {Y : St × St} (hX : OKX X cc own rm ret D y) (hM : CtI (cxl X) D y yy bytes maxL retc rmc (.ref (q 0) :: As) (wS y (q) (qr)) Y fc) (hw : VW own idx RX2 yy bytes maxL retc n) (hrm : RoomOK rmc rm maxL z) (hn : As.length = n) (hst : st = As.reverse ++ .ref (q 0) :: rest) (hrest : (rest.map fun v => v.category).sum ≤ 8) (hd : decode cc pc = .ok (.invokevirtual idx, 3)) (hp : pc + 3 = pc') (k : ∀ r Y1, GF X cc D z Q (F r Y1) pc' lv (.int (iz r) :: rest) (wS y q qr Y1)) : GF X cc D z Q (cls fc (fun u => u) F) pc lv st (wS y q qr Y) := g_calli (w := wS y q qr) hX hM pr_SS rfl rfl hw hrm hn hst hrest hd hp k
set_option maxRecDepth 100000 in
theorem cv_SS {O : Type} {X : Cx} {cc : ByteArray} {own : String} {rm : Room} {ret : Option FieldType} {D : va_G} {y : ClassId × ClassId × ClassId} {z : Nat × Nat} {Q : O → State → Prop} {F : St × St → Option O} {fc : Option (St × St)} {pc pc' : Nat} {lv : List (Option Value)} {st rest As : List Value} {idx n : Nat} {yy : MethodName} {bytes : ByteArray} {maxL : Nat} {rmc : Room} {q qr : Nat → Nat} {Y : St × St} (hX : OKX X cc own rm ret D y) (hM : CtV (cxl X) D y yy bytes maxL rmc (.ref (q 0) :: As) (wS y (q) (qr)) Y fc) (hw : VW own idx RX2 yy bytes maxL none n) (hrm : RoomOK rmc rm maxL z) (hn : As.length = n) (hst : st = As.reverse ++ .ref (q 0) :: rest) (hrest : (rest.map fun v => v.category).sum ≤ 8) (hd : decode cc pc = .ok (.invokevirtual idx, 3)) (hp : pc + 3 = pc') (k : ∀ Y1, GF X cc D z Q (F Y1) pc' lv rest (wS y q qr Y1)) : GF X cc D z Q (clv fc (fun u => u) F) pc lv st (wS y q qr Y) := g_callv (w := wS y q qr) hX hM pr_SS rfl rfl hw hrm hn hst hrest hd hp k
set_option maxRecDepth 100000 in
theorem pr_TT {y : ClassId × ClassId × ClassId} {q qr : Nat → Nat} {Y : St × St} : PR (wT y q qr Y) ((wT y (q) (qr)) Y) (wT y (q) (qr)) (fun u => wT y q qr ((fun u => u) u)) [0, 1, 2, 3, 4, 5, 6, 7, 8, 9, 10, 11, 12] [] [0, 1, 2, 3, 4, 5, 6, 7, 8, 9, 10, 11, 12] (([] : List Nat).filterMap (fun i => (wT y q qr Y)[i]?)) := ⟨rfl, rfl, rfl, rfl, by decide, rfl, fun u => rfl⟩
set_option maxRecDepth 100000 in
theorem ci_TT {O : Type} {X : Cx} {cc : ByteArray} {own : String} {rm : Room} {ret : Option FieldType} {D : va_G} {y : ClassId × ClassId × ClassId} {z : Nat × Nat} {Q : O → State → Prop} {F : Int → St × St → Option O} {fc : Option (Int × (St × St))} {retc : Option FieldType} {pc pc' : Nat} {lv : List (Option Value)} {st rest As : List Value} {idx n : Nat} {yy : MethodName} {bytes : ByteArray} {maxL : Nat} {rmc : Room} {q qr : Nat → Nat} {Y : St × St} (hX : OKX X cc own rm ret D y) (hM : CtI (cxl X) D y yy bytes maxL retc rmc (.ref (q 0) :: As) (wT y (q) (qr)) Y fc) (hw : VW own idx RX0 yy bytes maxL retc n) (hrm : RoomOK rmc rm maxL z) (hn : As.length = n) (hst : st = As.reverse ++ .ref (q 0) :: rest) (hrest : (rest.map fun v => v.category).sum ≤ 8) (hd : decode cc pc = .ok (.invokevirtual idx, 3)) (hp : pc + 3 = pc') (k : ∀ r Y1, GF X cc D z Q (F r Y1) pc' lv (.int (iz r) :: rest) (wT y q qr Y1)) : GF X cc D z Q (cls fc (fun u => u) F) pc lv st (wT y q qr Y) := g_calli (w := wT y q qr) hX hM pr_TT rfl rfl hw hrm hn hst hrest hd hp k
set_option maxRecDepth 100000 in
theorem cv_TT {O : Type} {X : Cx} {cc : ByteArray} {own : String} {rm : Room} {ret : Option FieldType} {D : va_G} {y : ClassId × ClassId × ClassId} {z : Nat × Nat} {Q : O → State → Prop} {F : St × St → Option O} {fc : Option (St × St)} {pc pc' : Nat} {lv : List (Option Value)} {st rest As : List Value} {idx n : Nat} {yy : MethodName} {bytes : ByteArray} {maxL : Nat} {rmc : Room} {q qr : Nat → Nat} {Y : St × St} (hX : OKX X cc own rm ret D y) (hM : CtV (cxl X) D y yy bytes maxL rmc (.ref (q 0) :: As) (wT y (q) (qr)) Y fc) (hw : VW own idx RX0 yy bytes maxL none n) (hrm : RoomOK rmc rm maxL z) (hn : As.length = n) (hst : st = As.reverse ++ .ref (q 0) :: rest) (hrest : (rest.map fun v => v.category).sum ≤ 8) (hd : decode cc pc = .ok (.invokevirtual idx, 3)) (hp : pc + 3 = pc') (k : ∀ Y1, GF X cc D z Q (F Y1) pc' lv rest (wT y q qr Y1)) : GF X cc D z Q (clv fc (fun u => u) F) pc lv st (wT y q qr Y) := g_callv (w := wT y q qr) hX hM pr_TT rfl rfl hw hrm hn hst hrest hd hp k
set_option maxRecDepth 100000 in
theorem pr_JJ {y : ClassId × ClassId × ClassId} {q : Nat → Nat} {Y : St × St × St × St × St} : PR (wJ y q Y) ((wJ y (q)) Y) (wJ y (q)) (fun u => wJ y q ((fun u => u) u)) [0, 1, 2, 3, 4, 5, 6, 7, 8, 9, 10, 11, 12, 13, 14, 15, 16, 17, 18, 19, 20, 21, 22, 23, 24, 25, 26, 27, 28, 29, 30, 31, 32, 33, 34, 35] [] [0, 1, 2, 3, 4, 5, 6, 7, 8, 9, 10, 11, 12, 13, 14, 15, 16, 17, 18, 19, 20, 21, 22, 23, 24, 25, 26, 27, 28, 29, 30, 31, 32, 33, 34, 35] (([] : List Nat).filterMap (fun i => (wJ y q Y)[i]?)) := ⟨rfl, rfl, rfl, rfl, by decide, rfl, fun u => rfl⟩
set_option maxRecDepth 100000 in
theorem ci_JJ {O : Type} {X : Cx} {cc : ByteArray} {own : String} {rm : Room} {ret : Option FieldType} {D : va_G} {y : ClassId × ClassId × ClassId} {z : Nat × Nat} {Q : O → State → Prop} {F : Int → St × St × St × St × St → Option O} {fc : Option (Int × (St × St × St × St × St))} {retc : Option FieldType} {pc pc' : Nat} {lv : List (Option Value)} {st rest As : List Value} {idx n : Nat} {yy : MethodName} {bytes : ByteArray} {maxL : Nat} {rmc : Room} {q : Nat → Nat} {Y : St × St × St × St × St} (hX : OKX X cc own rm ret D y) (hM : CtI (cxl X) D y yy bytes maxL retc rmc (.ref (q 0) :: As) (wJ y (q)) Y fc) (hw : VW own idx RX3 yy bytes maxL retc n) (hrm : RoomOK rmc rm maxL z) (hn : As.length = n) (hst : st = As.reverse ++ .ref (q 0) :: rest) (hrest : (rest.map fun v => v.category).sum ≤ 8) (hd : decode cc pc = .ok (.invokevirtual idx, 3)) (hp : pc + 3 = pc') (k : ∀ r Y1, GF X cc D z Q (F r Y1) pc' lv (.int (iz r) :: rest) (wJ y q Y1)) : GF X cc D z Q (cls fc (fun u => u) F) pc lv st (wJ y q Y) := g_calli (w := wJ y q) hX hM pr_JJ rfl rfl hw hrm hn hst hrest hd hp k
set_option maxRecDepth 100000 in
theorem cv_JJ {O : Type} {X : Cx} {cc : ByteArray} {own : String} {rm : Room} {ret : Option FieldType} {D : va_G} {y : ClassId × ClassId × ClassId} {z : Nat × Nat} {Q : O → State → Prop} {F : St × St × St × St × St → Option O} {fc : Option (St × St × St × St × St)} {pc pc' : Nat} {lv : List (Option Value)} {st rest As : List Value} {idx n : Nat} {yy : MethodName} {bytes : ByteArray} {maxL : Nat} {rmc : Room} {q : Nat → Nat} {Y : St × St × St × St × St} (hX : OKX X cc own rm ret D y) (hM : CtV (cxl X) D y yy bytes maxL rmc (.ref (q 0) :: As) (wJ y (q)) Y fc) (hw : VW own idx RX3 yy bytes maxL none n) (hrm : RoomOK rmc rm maxL z) (hn : As.length = n) (hst : st = As.reverse ++ .ref (q 0) :: rest) (hrest : (rest.map fun v => v.category).sum ≤ 8) (hd : decode cc pc = .ok (.invokevirtual idx, 3)) (hp : pc + 3 = pc') (k : ∀ Y1, GF X cc D z Q (F Y1) pc' lv rest (wJ y q Y1)) : GF X cc D z Q (clv fc (fun u => u) F) pc lv st (wJ y q Y) := g_callv (w := wJ y q) hX hM pr_JJ rfl rfl hw hrm hn hst hrest hd hp k
set_option maxRecDepth 100000 in
theorem pr_MM {y : ClassId × ClassId × ClassId} {q : Nat → Nat} {Y : St} : PR (wM y q Y) ((wM y (q)) Y) (wM y (q)) (fun u => wM y q ((fun u => u) u)) [0, 1, 2, 3, 4, 5, 6, 7, 8, 9, 10, 11, 12, 13, 14, 15, 16, 17, 18, 19] [] [0, 1, 2, 3, 4, 5, 6, 7, 8, 9, 10, 11, 12, 13, 14, 15, 16, 17, 18, 19] (([] : List Nat).filterMap (fun i => (wM y q Y)[i]?)) := ⟨rfl, rfl, rfl, rfl, by decide, rfl, fun u => rfl⟩
set_option maxRecDepth 100000 in
theorem ci_MM {O : Type} {X : Cx} {cc : ByteArray} {own : String} {rm : Room} {ret : Option FieldType} {D : va_G} {y : ClassId × ClassId × ClassId} {z : Nat × Nat} {Q : O → State → Prop} {F : Int → St → Option O} {fc : Option (Int × (St))} {retc : Option FieldType} {pc pc' : Nat} {lv : List (Option Value)} {st rest As : List Value} {idx n : Nat} {yy : MethodName} {bytes : ByteArray} {maxL : Nat} {rmc : Room} {q : Nat → Nat} {Y : St} (hX : OKX X cc own rm ret D y) (hM : CtI (cxl X) D y yy bytes maxL retc rmc (.ref (q 0) :: As) (wM y (q)) Y fc) (hw : VW own idx RX4 yy bytes maxL retc n) (hrm : RoomOK rmc rm maxL z) (hn : As.length = n) (hst : st = As.reverse ++ .ref (q 0) :: rest) (hrest : (rest.map fun v => v.category).sum ≤ 8) (hd : decode cc pc = .ok (.invokevirtual idx, 3)) (hp : pc + 3 = pc') (k : ∀ r Y1, GF X cc D z Q (F r Y1) pc' lv (.int (iz r) :: rest) (wM y q Y1)) : GF X cc D z Q (cls fc (fun u => u) F) pc lv st (wM y q Y) := g_calli (w := wM y q) hX hM pr_MM rfl rfl hw hrm hn hst hrest hd hp k
set_option maxRecDepth 100000 in
theorem cv_MM {O : Type} {X : Cx} {cc : ByteArray} {own : String} {rm : Room} {ret : Option FieldType} {D : va_G} {y : ClassId × ClassId × ClassId} {z : Nat × Nat} {Q : O → State → Prop} {F : St → Option O} {fc : Option (St)} {pc pc' : Nat} {lv : List (Option Value)} {st rest As : List Value} {idx n : Nat} {yy : MethodName} {bytes : ByteArray} {maxL : Nat} {rmc : Room} {q : Nat → Nat} {Y : St} (hX : OKX X cc own rm ret D y) (hM : CtV (cxl X) D y yy bytes maxL rmc (.ref (q 0) :: As) (wM y (q)) Y fc) (hw : VW own idx RX4 yy bytes maxL none n) (hrm : RoomOK rmc rm maxL z) (hn : As.length = n) (hst : st = As.reverse ++ .ref (q 0) :: rest) (hrest : (rest.map fun v => v.category).sum ≤ 8) (hd : decode cc pc = .ok (.invokevirtual idx, 3)) (hp : pc + 3 = pc') (k : ∀ Y1, GF X cc D z Q (F Y1) pc' lv rest (wM y q Y1)) : GF X cc D z Q (clv fc (fun u => u) F) pc lv st (wM y q Y) := g_callv (w := wM y q) hX hM pr_MM rfl rfl hw hrm hn hst hrest hd hp k
set_option maxRecDepth 100000 in
theorem ge_R_X1_30_R {O : Type} {X : Cx} {cc : ByteArray} {rm : Room} {ret : Option FieldType} {D : va_G} {y : ClassId × ClassId × ClassId} {z : Nat × Nat} {Q : O → State → Prop} {pc pc' : Nat} {lv : List (Option Value)} {st : List Value} {q : Nat → Nat} {Y : St} (hX : OKX X cc RX1 rm ret D y) {F : Option O} (hd : decode cc pc = .ok (.getfield 30, 3)) (hp : pc + 3 = pc') (kk : GF X cc D z Q F pc' lv (.int (iz (Y.1 4)) :: st) (wR y q Y)) : GF X cc D z Q F pc lv (.ref (q 0) :: st) (wR y q Y) := g_get hX 0 4 in_X1 rfl rfl (by decide) mf_X1_30 rfl hd hp kk
set_option maxRecDepth 100000 in
theorem ge_R_X1_9_R {O : Type} {X : Cx} {cc : ByteArray} {rm : Room} {ret : Option FieldType} {D : va_G} {y : ClassId × ClassId × ClassId} {z : Nat × Nat} {Q : O → State → Prop} {pc pc' : Nat} {lv : List (Option Value)} {st : List Value} {q : Nat → Nat} {Y : St} (hX : OKX X cc RX1 rm ret D y) {F : Option O} (hd : decode cc pc = .ok (.getfield 9, 3)) (hp : pc + 3 = pc') (kk : GF X cc D z Q F pc' lv (.ref (q 1) :: st) (wR y q Y)) : GF X cc D z Q F pc lv (.ref (q 0) :: st) (wR y q Y) := g_get hX 0 0 in_X1 rfl rfl (by decide) mf_X1_9 rfl hd hp kk
set_option maxRecDepth 100000 in
theorem al_R_R_0 {O : Type} {X : Cx} {cc : ByteArray} {own : String} {rm : Room} {ret : Option FieldType} {D : va_G} {y : ClassId × ClassId × ClassId} {z : Nat × Nat} {Q : O → State → Prop} {pc pc' : Nat} {lv : List (Option Value)} {st : List Value} {q : Nat → Nat} {Y : St} (hX : OKX X cc own rm ret D y) {F : Option O} {i : Int} (hd : decode cc pc = .ok (.iaload, 1)) (hp : pc + 1 = pc') (kk : GF X cc D z Q F pc' lv (.int (iz (Y.2 0 i.toNat)) :: st) (wR y q Y)) : GF X cc D z Q (bd i 300 F) pc lv (.int (iz i) :: .ref (q 1) :: st) (wR y q Y) := g_iald hX 1 rfl (by decide) hd hp kk
set_option maxRecDepth 100000 in
theorem ge_T_X0_86_T {O : Type} {X : Cx} {cc : ByteArray} {rm : Room} {ret : Option FieldType} {D : va_G} {y : ClassId × ClassId × ClassId} {z : Nat × Nat} {Q : O → State → Prop} {pc pc' : Nat} {lv : List (Option Value)} {st : List Value} {q qr : Nat → Nat} {Y : St × St} (hX : OKX X cc RX0 rm ret D y) {F : Option O} (hd : decode cc pc = .ok (.getfield 86, 3)) (hp : pc + 3 = pc') (kk : GF X cc D z Q F pc' lv (.int (iz (Y.1.1 8)) :: st) (wT y q qr Y)) : GF X cc D z Q F pc lv (.ref (q 0) :: st) (wT y q qr Y) := g_get hX 0 8 in_X0 rfl rfl (by decide) mf_X0_86 rfl hd hp kk
set_option maxRecDepth 100000 in
theorem ge_T_X0_9_T {O : Type} {X : Cx} {cc : ByteArray} {rm : Room} {ret : Option FieldType} {D : va_G} {y : ClassId × ClassId × ClassId} {z : Nat × Nat} {Q : O → State → Prop} {pc pc' : Nat} {lv : List (Option Value)} {st : List Value} {q qr : Nat → Nat} {Y : St × St} (hX : OKX X cc RX0 rm ret D y) {F : Option O} (hd : decode cc pc = .ok (.getfield 9, 3)) (hp : pc + 3 = pc') (kk : GF X cc D z Q F pc' lv (.ref (q 1) :: st) (wT y q qr Y)) : GF X cc D z Q F pc lv (.ref (q 0) :: st) (wT y q qr Y) := g_get hX 0 1 in_X0 rfl rfl (by decide) mf_X0_9 rfl hd hp kk
set_option maxRecDepth 100000 in
theorem as_T_T_1 {O : Type} {X : Cx} {cc : ByteArray} {own : String} {rm : Room} {ret : Option FieldType} {D : va_G} {y : ClassId × ClassId × ClassId} {z : Nat × Nat} {Q : O → State → Prop} {pc pc' : Nat} {lv : List (Option Value)} {st : List Value} {q qr : Nat → Nat} {Y : St × St} (hX : OKX X cc own rm ret D y) {F : St × St → Option O} {i : Int} {x : Int} (hd : decode cc pc = .ok (.iastore, 1)) (hp : pc + 1 = pc') (k : ∀ Y1, GF X cc D z Q (F Y1) pc' lv st (wT y q qr Y1)) : GF X cc D z Q (bd i 16 (nm ((setA Y.1 1 i.toNat x, Y.2)) F)) pc lv (.int (iz x) :: .int (iz i) :: .ref (q 1) :: st) (wT y q qr Y) := g_iast (F := (nm ((setA Y.1 1 i.toNat x, Y.2)) F)) hX 1 rfl (by decide) rfl hd hp (k _)
set_option maxRecDepth 100000 in
theorem ge_T_X0_15_T {O : Type} {X : Cx} {cc : ByteArray} {rm : Room} {ret : Option FieldType} {D : va_G} {y : ClassId × ClassId × ClassId} {z : Nat × Nat} {Q : O → State → Prop} {pc pc' : Nat} {lv : List (Option Value)} {st : List Value} {q qr : Nat → Nat} {Y : St × St} (hX : OKX X cc RX0 rm ret D y) {F : Option O} (hd : decode cc pc = .ok (.getfield 15, 3)) (hp : pc + 3 = pc') (kk : GF X cc D z Q F pc' lv (.ref (q 2) :: st) (wT y q qr Y)) : GF X cc D z Q F pc lv (.ref (q 0) :: st) (wT y q qr Y) := g_get hX 0 2 in_X0 rfl rfl (by decide) mf_X0_15 rfl hd hp kk
set_option maxRecDepth 100000 in
theorem as_T_T_2 {O : Type} {X : Cx} {cc : ByteArray} {own : String} {rm : Room} {ret : Option FieldType} {D : va_G} {y : ClassId × ClassId × ClassId} {z : Nat × Nat} {Q : O → State → Prop} {pc pc' : Nat} {lv : List (Option Value)} {st : List Value} {q qr : Nat → Nat} {Y : St × St} (hX : OKX X cc own rm ret D y) {F : St × St → Option O} {i : Int} {x : Int} (hd : decode cc pc = .ok (.iastore, 1)) (hp : pc + 1 = pc') (k : ∀ Y1, GF X cc D z Q (F Y1) pc' lv st (wT y q qr Y1)) : GF X cc D z Q (bd i 16 (nm ((setA Y.1 2 i.toNat x, Y.2)) F)) pc lv (.int (iz x) :: .int (iz i) :: .ref (q 2) :: st) (wT y q qr Y) := g_iast (F := (nm ((setA Y.1 2 i.toNat x, Y.2)) F)) hX 2 rfl (by decide) rfl hd hp (k _)
set_option maxRecDepth 100000 in
theorem pu_T_X0_86_T {O : Type} {X : Cx} {cc : ByteArray} {rm : Room} {ret : Option FieldType} {D : va_G} {y : ClassId × ClassId × ClassId} {z : Nat × Nat} {Q : O → State → Prop} {pc pc' : Nat} {lv : List (Option Value)} {st : List Value} {q qr : Nat → Nat} {Y : St × St} (hX : OKX X cc RX0 rm ret D y) {F : St × St → Option O} {a : Int} (hd : decode cc pc = .ok (.putfield 86, 3)) (hp : pc + 3 = pc') (k : ∀ Y1, GF X cc D z Q (F Y1) pc' lv st (wT y q qr Y1)) : GF X cc D z Q (nm ((setI Y.1 8 a, Y.2)) F) pc lv (.int (iz a) :: .ref (q 0) :: st) (wT y q qr Y) := g_put (F := (nm ((setI Y.1 8 a, Y.2)) F)) hX tyX0 0 8 in_X0 tyX0_ok nmX0 rfl rfl (by decide) mf_X0_86 rfl rfl rfl rfl rfl rfl hd hp (k _)
set_option maxRecDepth 100000 in
theorem ge_T_X0_34_T {O : Type} {X : Cx} {cc : ByteArray} {rm : Room} {ret : Option FieldType} {D : va_G} {y : ClassId × ClassId × ClassId} {z : Nat × Nat} {Q : O → State → Prop} {pc pc' : Nat} {lv : List (Option Value)} {st : List Value} {q qr : Nat → Nat} {Y : St × St} (hX : OKX X cc RX0 rm ret D y) {F : Option O} (hd : decode cc pc = .ok (.getfield 34, 3)) (hp : pc + 3 = pc') (kk : GF X cc D z Q F pc' lv (.ref (qr 0) :: st) (wT y q qr Y)) : GF X cc D z Q F pc lv (.ref (q 0) :: st) (wT y q qr Y) := g_get hX 0 0 in_X0 rfl rfl (by decide) mf_X0_34 rfl hd hp kk
set_option maxRecDepth 100000 in
theorem ge_T_X0_24_T {O : Type} {X : Cx} {cc : ByteArray} {rm : Room} {ret : Option FieldType} {D : va_G} {y : ClassId × ClassId × ClassId} {z : Nat × Nat} {Q : O → State → Prop} {pc pc' : Nat} {lv : List (Option Value)} {st : List Value} {q qr : Nat → Nat} {Y : St × St} (hX : OKX X cc RX0 rm ret D y) {F : Option O} (hd : decode cc pc = .ok (.getfield 24, 3)) (hp : pc + 3 = pc') (kk : GF X cc D z Q F pc' lv (.ref (q 5) :: st) (wT y q qr Y)) : GF X cc D z Q F pc lv (.ref (q 0) :: st) (wT y q qr Y) := g_get hX 0 5 in_X0 rfl rfl (by decide) mf_X0_24 rfl hd hp kk
set_option maxRecDepth 100000 in
theorem as_T_T_5 {O : Type} {X : Cx} {cc : ByteArray} {own : String} {rm : Room} {ret : Option FieldType} {D : va_G} {y : ClassId × ClassId × ClassId} {z : Nat × Nat} {Q : O → State → Prop} {pc pc' : Nat} {lv : List (Option Value)} {st : List Value} {q qr : Nat → Nat} {Y : St × St} (hX : OKX X cc own rm ret D y) {F : St × St → Option O} {i : Int} {x : Int} (hd : decode cc pc = .ok (.iastore, 1)) (hp : pc + 1 = pc') (k : ∀ Y1, GF X cc D z Q (F Y1) pc' lv st (wT y q qr Y1)) : GF X cc D z Q (bd i 1024 (nm ((setA Y.1 5 i.toNat x, Y.2)) F)) pc lv (.int (iz x) :: .int (iz i) :: .ref (q 5) :: st) (wT y q qr Y) := g_iast (F := (nm ((setA Y.1 5 i.toNat x, Y.2)) F)) hX 5 rfl (by decide) rfl hd hp (k _)
set_option maxRecDepth 100000 in
theorem ge_T_X0_38_T {O : Type} {X : Cx} {cc : ByteArray} {rm : Room} {ret : Option FieldType} {D : va_G} {y : ClassId × ClassId × ClassId} {z : Nat × Nat} {Q : O → State → Prop} {pc pc' : Nat} {lv : List (Option Value)} {st : List Value} {q qr : Nat → Nat} {Y : St × St} (hX : OKX X cc RX0 rm ret D y) {F : Option O} (hd : decode cc pc = .ok (.getfield 38, 3)) (hp : pc + 3 = pc') (kk : GF X cc D z Q F pc' lv (.int (iz (Y.1.1 10)) :: st) (wT y q qr Y)) : GF X cc D z Q F pc lv (.ref (q 0) :: st) (wT y q qr Y) := g_get hX 0 10 in_X0 rfl rfl (by decide) mf_X0_38 rfl hd hp kk
set_option maxRecDepth 100000 in
theorem ge_T_X0_89_T {O : Type} {X : Cx} {cc : ByteArray} {rm : Room} {ret : Option FieldType} {D : va_G} {y : ClassId × ClassId × ClassId} {z : Nat × Nat} {Q : O → State → Prop} {pc pc' : Nat} {lv : List (Option Value)} {st : List Value} {q qr : Nat → Nat} {Y : St × St} (hX : OKX X cc RX0 rm ret D y) {F : Option O} (hd : decode cc pc = .ok (.getfield 89, 3)) (hp : pc + 3 = pc') (kk : GF X cc D z Q F pc' lv (.int (iz (Y.1.1 9)) :: st) (wT y q qr Y)) : GF X cc D z Q F pc lv (.ref (q 0) :: st) (wT y q qr Y) := g_get hX 0 9 in_X0 rfl rfl (by decide) mf_X0_89 rfl hd hp kk
set_option maxRecDepth 100000 in
theorem ge_T_X0_18_T {O : Type} {X : Cx} {cc : ByteArray} {rm : Room} {ret : Option FieldType} {D : va_G} {y : ClassId × ClassId × ClassId} {z : Nat × Nat} {Q : O → State → Prop} {pc pc' : Nat} {lv : List (Option Value)} {st : List Value} {q qr : Nat → Nat} {Y : St × St} (hX : OKX X cc RX0 rm ret D y) {F : Option O} (hd : decode cc pc = .ok (.getfield 18, 3)) (hp : pc + 3 = pc') (kk : GF X cc D z Q F pc' lv (.ref (q 3) :: st) (wT y q qr Y)) : GF X cc D z Q F pc lv (.ref (q 0) :: st) (wT y q qr Y) := g_get hX 0 3 in_X0 rfl rfl (by decide) mf_X0_18 rfl hd hp kk
set_option maxRecDepth 100000 in
theorem as_T_T_3 {O : Type} {X : Cx} {cc : ByteArray} {own : String} {rm : Room} {ret : Option FieldType} {D : va_G} {y : ClassId × ClassId × ClassId} {z : Nat × Nat} {Q : O → State → Prop} {pc pc' : Nat} {lv : List (Option Value)} {st : List Value} {q qr : Nat → Nat} {Y : St × St} (hX : OKX X cc own rm ret D y) {F : St × St → Option O} {i : Int} {x : Int} (hd : decode cc pc = .ok (.iastore, 1)) (hp : pc + 1 = pc') (k : ∀ Y1, GF X cc D z Q (F Y1) pc' lv st (wT y q qr Y1)) : GF X cc D z Q (bd i 252 (nm ((setA Y.1 3 i.toNat x, Y.2)) F)) pc lv (.int (iz x) :: .int (iz i) :: .ref (q 3) :: st) (wT y q qr Y) := g_iast (F := (nm ((setA Y.1 3 i.toNat x, Y.2)) F)) hX 3 rfl (by decide) rfl hd hp (k _)
set_option maxRecDepth 100000 in
theorem ge_T_X0_21_T {O : Type} {X : Cx} {cc : ByteArray} {rm : Room} {ret : Option FieldType} {D : va_G} {y : ClassId × ClassId × ClassId} {z : Nat × Nat} {Q : O → State → Prop} {pc pc' : Nat} {lv : List (Option Value)} {st : List Value} {q qr : Nat → Nat} {Y : St × St} (hX : OKX X cc RX0 rm ret D y) {F : Option O} (hd : decode cc pc = .ok (.getfield 21, 3)) (hp : pc + 3 = pc') (kk : GF X cc D z Q F pc' lv (.ref (q 4) :: st) (wT y q qr Y)) : GF X cc D z Q F pc lv (.ref (q 0) :: st) (wT y q qr Y) := g_get hX 0 4 in_X0 rfl rfl (by decide) mf_X0_21 rfl hd hp kk
set_option maxRecDepth 100000 in
theorem as_T_T_4 {O : Type} {X : Cx} {cc : ByteArray} {own : String} {rm : Room} {ret : Option FieldType} {D : va_G} {y : ClassId × ClassId × ClassId} {z : Nat × Nat} {Q : O → State → Prop} {pc pc' : Nat} {lv : List (Option Value)} {st : List Value} {q qr : Nat → Nat} {Y : St × St} (hX : OKX X cc own rm ret D y) {F : St × St → Option O} {i : Int} {x : Int} (hd : decode cc pc = .ok (.iastore, 1)) (hp : pc + 1 = pc') (k : ∀ Y1, GF X cc D z Q (F Y1) pc' lv st (wT y q qr Y1)) : GF X cc D z Q (bd i 1024 (nm ((setA Y.1 4 i.toNat x, Y.2)) F)) pc lv (.int (iz x) :: .int (iz i) :: .ref (q 4) :: st) (wT y q qr Y) := g_iast (F := (nm ((setA Y.1 4 i.toNat x, Y.2)) F)) hX 4 rfl (by decide) rfl hd hp (k _)
set_option maxRecDepth 100000 in
theorem pu_T_X0_89_T {O : Type} {X : Cx} {cc : ByteArray} {rm : Room} {ret : Option FieldType} {D : va_G} {y : ClassId × ClassId × ClassId} {z : Nat × Nat} {Q : O → State → Prop} {pc pc' : Nat} {lv : List (Option Value)} {st : List Value} {q qr : Nat → Nat} {Y : St × St} (hX : OKX X cc RX0 rm ret D y) {F : St × St → Option O} {a : Int} (hd : decode cc pc = .ok (.putfield 89, 3)) (hp : pc + 3 = pc') (k : ∀ Y1, GF X cc D z Q (F Y1) pc' lv st (wT y q qr Y1)) : GF X cc D z Q (nm ((setI Y.1 9 a, Y.2)) F) pc lv (.int (iz a) :: .ref (q 0) :: st) (wT y q qr Y) := g_put (F := (nm ((setI Y.1 9 a, Y.2)) F)) hX tyX0 0 9 in_X0 tyX0_ok nmX0 rfl rfl (by decide) mf_X0_89 rfl rfl rfl rfl rfl rfl hd hp (k _)
set_option maxRecDepth 100000 in
theorem ge_R_X1_15_R {O : Type} {X : Cx} {cc : ByteArray} {rm : Room} {ret : Option FieldType} {D : va_G} {y : ClassId × ClassId × ClassId} {z : Nat × Nat} {Q : O → State → Prop} {pc pc' : Nat} {lv : List (Option Value)} {st : List Value} {q : Nat → Nat} {Y : St} (hX : OKX X cc RX1 rm ret D y) {F : Option O} (hd : decode cc pc = .ok (.getfield 15, 3)) (hp : pc + 3 = pc') (kk : GF X cc D z Q F pc' lv (.ref (q 2) :: st) (wR y q Y)) : GF X cc D z Q F pc lv (.ref (q 0) :: st) (wR y q Y) := g_get hX 0 1 in_X1 rfl rfl (by decide) mf_X1_15 rfl hd hp kk
set_option maxRecDepth 100000 in
theorem al_R_R_1 {O : Type} {X : Cx} {cc : ByteArray} {own : String} {rm : Room} {ret : Option FieldType} {D : va_G} {y : ClassId × ClassId × ClassId} {z : Nat × Nat} {Q : O → State → Prop} {pc pc' : Nat} {lv : List (Option Value)} {st : List Value} {q : Nat → Nat} {Y : St} (hX : OKX X cc own rm ret D y) {F : Option O} {i : Int} (hd : decode cc pc = .ok (.iaload, 1)) (hp : pc + 1 = pc') (kk : GF X cc D z Q F pc' lv (.int (iz (Y.2 1 i.toNat)) :: st) (wR y q Y)) : GF X cc D z Q (bd i 16 F) pc lv (.int (iz i) :: .ref (q 2) :: st) (wR y q Y) := g_iald hX 2 rfl (by decide) hd hp kk
set_option maxRecDepth 100000 in
theorem al_T_T_5 {O : Type} {X : Cx} {cc : ByteArray} {own : String} {rm : Room} {ret : Option FieldType} {D : va_G} {y : ClassId × ClassId × ClassId} {z : Nat × Nat} {Q : O → State → Prop} {pc pc' : Nat} {lv : List (Option Value)} {st : List Value} {q qr : Nat → Nat} {Y : St × St} (hX : OKX X cc own rm ret D y) {F : Option O} {i : Int} (hd : decode cc pc = .ok (.iaload, 1)) (hp : pc + 1 = pc') (kk : GF X cc D z Q F pc' lv (.int (iz (Y.1.2 5 i.toNat)) :: st) (wT y q qr Y)) : GF X cc D z Q (bd i 1024 F) pc lv (.int (iz i) :: .ref (q 5) :: st) (wT y q qr Y) := g_iald hX 5 rfl (by decide) hd hp kk
set_option maxRecDepth 100000 in
theorem ge_T_X0_27_T {O : Type} {X : Cx} {cc : ByteArray} {rm : Room} {ret : Option FieldType} {D : va_G} {y : ClassId × ClassId × ClassId} {z : Nat × Nat} {Q : O → State → Prop} {pc pc' : Nat} {lv : List (Option Value)} {st : List Value} {q qr : Nat → Nat} {Y : St × St} (hX : OKX X cc RX0 rm ret D y) {F : Option O} (hd : decode cc pc = .ok (.getfield 27, 3)) (hp : pc + 3 = pc') (kk : GF X cc D z Q F pc' lv (.ref (q 6) :: st) (wT y q qr Y)) : GF X cc D z Q F pc lv (.ref (q 0) :: st) (wT y q qr Y) := g_get hX 0 6 in_X0 rfl rfl (by decide) mf_X0_27 rfl hd hp kk
set_option maxRecDepth 100000 in
theorem al_T_T_6 {O : Type} {X : Cx} {cc : ByteArray} {own : String} {rm : Room} {ret : Option FieldType} {D : va_G} {y : ClassId × ClassId × ClassId} {z : Nat × Nat} {Q : O → State → Prop} {pc pc' : Nat} {lv : List (Option Value)} {st : List Value} {q qr : Nat → Nat} {Y : St × St} (hX : OKX X cc own rm ret D y) {F : Option O} {i : Int} (hd : decode cc pc = .ok (.laload, 1)) (hp : pc + 1 = pc') (kk : GF X cc D z Q F pc' lv (.long (lz (Y.1.2 6 i.toNat)) :: st) (wT y q qr Y)) : GF X cc D z Q (bd i 4800 F) pc lv (.int (iz i) :: .ref (q 6) :: st) (wT y q qr Y) := g_lald hX 6 rfl (by decide) hd hp kk
set_option maxRecDepth 100000 in
theorem as_T_T_6 {O : Type} {X : Cx} {cc : ByteArray} {own : String} {rm : Room} {ret : Option FieldType} {D : va_G} {y : ClassId × ClassId × ClassId} {z : Nat × Nat} {Q : O → State → Prop} {pc pc' : Nat} {lv : List (Option Value)} {st : List Value} {q qr : Nat → Nat} {Y : St × St} (hX : OKX X cc own rm ret D y) {F : St × St → Option O} {i : Int} {x : Int64} (hd : decode cc pc = .ok (.lastore, 1)) (hp : pc + 1 = pc') (k : ∀ Y1, GF X cc D z Q (F Y1) pc' lv st (wT y q qr Y1)) : GF X cc D z Q (bd i 4800 (nm ((setA Y.1 6 i.toNat x.toInt, Y.2)) F)) pc lv (.long x :: .int (iz i) :: .ref (q 6) :: st) (wT y q qr Y) := g_last (F := (nm ((setA Y.1 6 i.toNat x.toInt, Y.2)) F)) hX 6 rfl (by decide) rfl hd hp (k _)
set_option maxRecDepth 100000 in
theorem al_T_T_3 {O : Type} {X : Cx} {cc : ByteArray} {own : String} {rm : Room} {ret : Option FieldType} {D : va_G} {y : ClassId × ClassId × ClassId} {z : Nat × Nat} {Q : O → State → Prop} {pc pc' : Nat} {lv : List (Option Value)} {st : List Value} {q qr : Nat → Nat} {Y : St × St} (hX : OKX X cc own rm ret D y) {F : Option O} {i : Int} (hd : decode cc pc = .ok (.iaload, 1)) (hp : pc + 1 = pc') (kk : GF X cc D z Q F pc' lv (.int (iz (Y.1.2 3 i.toNat)) :: st) (wT y q qr Y)) : GF X cc D z Q (bd i 252 F) pc lv (.int (iz i) :: .ref (q 3) :: st) (wT y q qr Y) := g_iald hX 3 rfl (by decide) hd hp kk
set_option maxRecDepth 100000 in
theorem ge_T_X0_68_R {O : Type} {X : Cx} {cc : ByteArray} {rm : Room} {ret : Option FieldType} {D : va_G} {y : ClassId × ClassId × ClassId} {z : Nat × Nat} {Q : O → State → Prop} {pc pc' : Nat} {lv : List (Option Value)} {st : List Value} {q qr : Nat → Nat} {Y : St × St} (hX : OKX X cc RX0 rm ret D y) {F : Option O} (hd : decode cc pc = .ok (.getfield 68, 3)) (hp : pc + 3 = pc') (kk : GF X cc D z Q F pc' lv (.ref (qr 1) :: st) (wT y q qr Y)) : GF X cc D z Q F pc lv (.ref (qr 0) :: st) (wT y q qr Y) := g_get hX 8 0 in_X1 rfl rfl (by decide) mf_X0_68 rfl hd hp kk
set_option maxRecDepth 100000 in
theorem al_T_R_0 {O : Type} {X : Cx} {cc : ByteArray} {own : String} {rm : Room} {ret : Option FieldType} {D : va_G} {y : ClassId × ClassId × ClassId} {z : Nat × Nat} {Q : O → State → Prop} {pc pc' : Nat} {lv : List (Option Value)} {st : List Value} {q qr : Nat → Nat} {Y : St × St} (hX : OKX X cc own rm ret D y) {F : Option O} {i : Int} (hd : decode cc pc = .ok (.iaload, 1)) (hp : pc + 1 = pc') (kk : GF X cc D z Q F pc' lv (.int (iz (Y.2.2 0 i.toNat)) :: st) (wT y q qr Y)) : GF X cc D z Q (bd i 300 F) pc lv (.int (iz i) :: .ref (qr 1) :: st) (wT y q qr Y) := g_iald hX 9 rfl (by decide) hd hp kk
set_option maxRecDepth 100000 in
theorem al_T_T_1 {O : Type} {X : Cx} {cc : ByteArray} {own : String} {rm : Room} {ret : Option FieldType} {D : va_G} {y : ClassId × ClassId × ClassId} {z : Nat × Nat} {Q : O → State → Prop} {pc pc' : Nat} {lv : List (Option Value)} {st : List Value} {q qr : Nat → Nat} {Y : St × St} (hX : OKX X cc own rm ret D y) {F : Option O} {i : Int} (hd : decode cc pc = .ok (.iaload, 1)) (hp : pc + 1 = pc') (kk : GF X cc D z Q F pc' lv (.int (iz (Y.1.2 1 i.toNat)) :: st) (wT y q qr Y)) : GF X cc D z Q (bd i 16 F) pc lv (.int (iz i) :: .ref (q 1) :: st) (wT y q qr Y) := g_iald hX 1 rfl (by decide) hd hp kk
set_option maxRecDepth 100000 in
theorem ge_T_X0_57_R {O : Type} {X : Cx} {cc : ByteArray} {rm : Room} {ret : Option FieldType} {D : va_G} {y : ClassId × ClassId × ClassId} {z : Nat × Nat} {Q : O → State → Prop} {pc pc' : Nat} {lv : List (Option Value)} {st : List Value} {q qr : Nat → Nat} {Y : St × St} (hX : OKX X cc RX0 rm ret D y) {F : Option O} (hd : decode cc pc = .ok (.getfield 57, 3)) (hp : pc + 3 = pc') (kk : GF X cc D z Q F pc' lv (.int (iz (Y.2.1 4)) :: st) (wT y q qr Y)) : GF X cc D z Q F pc lv (.ref (qr 0) :: st) (wT y q qr Y) := g_get hX 8 4 in_X1 rfl rfl (by decide) mf_X0_57 rfl hd hp kk
set_option maxRecDepth 100000 in
theorem al_T_T_4 {O : Type} {X : Cx} {cc : ByteArray} {own : String} {rm : Room} {ret : Option FieldType} {D : va_G} {y : ClassId × ClassId × ClassId} {z : Nat × Nat} {Q : O → State → Prop} {pc pc' : Nat} {lv : List (Option Value)} {st : List Value} {q qr : Nat → Nat} {Y : St × St} (hX : OKX X cc own rm ret D y) {F : Option O} {i : Int} (hd : decode cc pc = .ok (.iaload, 1)) (hp : pc + 1 = pc') (kk : GF X cc D z Q F pc' lv (.int (iz (Y.1.2 4 i.toNat)) :: st) (wT y q qr Y)) : GF X cc D z Q (bd i 1024 F) pc lv (.int (iz i) :: .ref (q 4) :: st) (wT y q qr Y) := g_iald hX 4 rfl (by decide) hd hp kk
set_option maxRecDepth 100000 in
theorem ge_T_X0_31_T {O : Type} {X : Cx} {cc : ByteArray} {rm : Room} {ret : Option FieldType} {D : va_G} {y : ClassId × ClassId × ClassId} {z : Nat × Nat} {Q : O → State → Prop} {pc pc' : Nat} {lv : List (Option Value)} {st : List Value} {q qr : Nat → Nat} {Y : St × St} (hX : OKX X cc RX0 rm ret D y) {F : Option O} (hd : decode cc pc = .ok (.getfield 31, 3)) (hp : pc + 3 = pc') (kk : GF X cc D z Q F pc' lv (.ref (q 7) :: st) (wT y q qr Y)) : GF X cc D z Q F pc lv (.ref (q 0) :: st) (wT y q qr Y) := g_get hX 0 7 in_X0 rfl rfl (by decide) mf_X0_31 rfl hd hp kk
set_option maxRecDepth 100000 in
theorem al_T_T_2 {O : Type} {X : Cx} {cc : ByteArray} {own : String} {rm : Room} {ret : Option FieldType} {D : va_G} {y : ClassId × ClassId × ClassId} {z : Nat × Nat} {Q : O → State → Prop} {pc pc' : Nat} {lv : List (Option Value)} {st : List Value} {q qr : Nat → Nat} {Y : St × St} (hX : OKX X cc own rm ret D y) {F : Option O} {i : Int} (hd : decode cc pc = .ok (.iaload, 1)) (hp : pc + 1 = pc') (kk : GF X cc D z Q F pc' lv (.int (iz (Y.1.2 2 i.toNat)) :: st) (wT y q qr Y)) : GF X cc D z Q (bd i 16 F) pc lv (.int (iz i) :: .ref (q 2) :: st) (wT y q qr Y) := g_iald hX 2 rfl (by decide) hd hp kk
set_option maxRecDepth 100000 in
theorem as_T_T_7 {O : Type} {X : Cx} {cc : ByteArray} {own : String} {rm : Room} {ret : Option FieldType} {D : va_G} {y : ClassId × ClassId × ClassId} {z : Nat × Nat} {Q : O → State → Prop} {pc pc' : Nat} {lv : List (Option Value)} {st : List Value} {q qr : Nat → Nat} {Y : St × St} (hX : OKX X cc own rm ret D y) {F : St × St → Option O} {i : Int} {x : Int} (hd : decode cc pc = .ok (.iastore, 1)) (hp : pc + 1 = pc') (k : ∀ Y1, GF X cc D z Q (F Y1) pc' lv st (wT y q qr Y1)) : GF X cc D z Q (bd i 300 (nm ((setA Y.1 7 i.toNat x, Y.2)) F)) pc lv (.int (iz x) :: .int (iz i) :: .ref (q 7) :: st) (wT y q qr Y) := g_iast (F := (nm ((setA Y.1 7 i.toNat x, Y.2)) F)) hX 7 rfl (by decide) rfl hd hp (k _)
set_option maxRecDepth 100000 in
theorem ge_T_X0_42_T {O : Type} {X : Cx} {cc : ByteArray} {rm : Room} {ret : Option FieldType} {D : va_G} {y : ClassId × ClassId × ClassId} {z : Nat × Nat} {Q : O → State → Prop} {pc pc' : Nat} {lv : List (Option Value)} {st : List Value} {q qr : Nat → Nat} {Y : St × St} (hX : OKX X cc RX0 rm ret D y) {F : Option O} (hd : decode cc pc = .ok (.getfield 42, 3)) (hp : pc + 3 = pc') (kk : GF X cc D z Q F pc' lv (.int (iz (Y.1.1 11)) :: st) (wT y q qr Y)) : GF X cc D z Q F pc lv (.ref (q 0) :: st) (wT y q qr Y) := g_get hX 0 11 in_X0 rfl rfl (by decide) mf_X0_42 rfl hd hp kk
set_option maxRecDepth 100000 in
theorem pu_T_X0_42_T {O : Type} {X : Cx} {cc : ByteArray} {rm : Room} {ret : Option FieldType} {D : va_G} {y : ClassId × ClassId × ClassId} {z : Nat × Nat} {Q : O → State → Prop} {pc pc' : Nat} {lv : List (Option Value)} {st : List Value} {q qr : Nat → Nat} {Y : St × St} (hX : OKX X cc RX0 rm ret D y) {F : St × St → Option O} {a : Int} (hd : decode cc pc = .ok (.putfield 42, 3)) (hp : pc + 3 = pc') (k : ∀ Y1, GF X cc D z Q (F Y1) pc' lv st (wT y q qr Y1)) : GF X cc D z Q (nm ((setI Y.1 11 a, Y.2)) F) pc lv (.int (iz a) :: .ref (q 0) :: st) (wT y q qr Y) := g_put (F := (nm ((setI Y.1 11 a, Y.2)) F)) hX tyX0 0 11 in_X0 tyX0_ok nmX0 rfl rfl (by decide) mf_X0_42 rfl rfl rfl rfl rfl rfl hd hp (k _)
set_option maxRecDepth 100000 in
theorem pu_T_X0_38_T {O : Type} {X : Cx} {cc : ByteArray} {rm : Room} {ret : Option FieldType} {D : va_G} {y : ClassId × ClassId × ClassId} {z : Nat × Nat} {Q : O → State → Prop} {pc pc' : Nat} {lv : List (Option Value)} {st : List Value} {q qr : Nat → Nat} {Y : St × St} (hX : OKX X cc RX0 rm ret D y) {F : St × St → Option O} {a : Int} (hd : decode cc pc = .ok (.putfield 38, 3)) (hp : pc + 3 = pc') (k : ∀ Y1, GF X cc D z Q (F Y1) pc' lv st (wT y q qr Y1)) : GF X cc D z Q (nm ((setI Y.1 10 a, Y.2)) F) pc lv (.int (iz a) :: .ref (q 0) :: st) (wT y q qr Y) := g_put (F := (nm ((setI Y.1 10 a, Y.2)) F)) hX tyX0 0 10 in_X0 tyX0_ok nmX0 rfl rfl (by decide) mf_X0_38 rfl rfl rfl rfl rfl rfl hd hp (k _)
set_option maxRecDepth 100000 in
theorem fi_T_X0_T_7 {O : Type} {X : Cx} {cc : ByteArray} {rm : Room} {ret : Option FieldType} {D : va_G} {y : ClassId × ClassId × ClassId} {z : Nat × Nat} {Q : O → State → Prop} {pc pc' : Nat} {lv : List (Option Value)} {st : List Value} {q qr : Nat → Nat} {Y : St × St} (hX : OKX X cc RX0 rm ret D y) {F : St × St → Option O} {x : Int} (hrm : RoomOK (rmk 0) rm 4 z) (hrest : (st.map fun v => v.category).sum ≤ 8) (hd : decode cc pc = .ok (.invokestatic 45, 3)) (hp : pc + 3 = pc') (k : ∀ Y1, GF X cc D z Q (F Y1) pc' lv st (wT y q qr Y1)) : GF X cc D z Q (nm ((setR Y.1 7 (fun j => if j < 300 then x else Y.1.2 7 j), Y.2)) F) pc lv (.int (iz x) :: .ref (q 7) :: st) (wT y q qr Y) := g_fill (F := (nm ((setR Y.1 7 (fun j => if j < 300 then x else Y.1.2 7 j), Y.2)) F)) hX 7 rfl (by decide) rfl mw_X0_45 hrm hrest hd hp (k _)
set_option maxRecDepth 100000 in
theorem as_R_R_0 {O : Type} {X : Cx} {cc : ByteArray} {own : String} {rm : Room} {ret : Option FieldType} {D : va_G} {y : ClassId × ClassId × ClassId} {z : Nat × Nat} {Q : O → State → Prop} {pc pc' : Nat} {lv : List (Option Value)} {st : List Value} {q : Nat → Nat} {Y : St} (hX : OKX X cc own rm ret D y) {F : St → Option O} {i : Int} {x : Int} (hd : decode cc pc = .ok (.iastore, 1)) (hp : pc + 1 = pc') (k : ∀ Y1, GF X cc D z Q (F Y1) pc' lv st (wR y q Y1)) : GF X cc D z Q (bd i 300 (nm (setA Y 0 i.toNat x) F)) pc lv (.int (iz x) :: .int (iz i) :: .ref (q 1) :: st) (wR y q Y) := g_iast (F := (nm (setA Y 0 i.toNat x) F)) hX 1 rfl (by decide) rfl hd hp (k _)
set_option maxRecDepth 100000 in
theorem pu_R_X1_30_R {O : Type} {X : Cx} {cc : ByteArray} {rm : Room} {ret : Option FieldType} {D : va_G} {y : ClassId × ClassId × ClassId} {z : Nat × Nat} {Q : O → State → Prop} {pc pc' : Nat} {lv : List (Option Value)} {st : List Value} {q : Nat → Nat} {Y : St} (hX : OKX X cc RX1 rm ret D y) {F : St → Option O} {a : Int} (hd : decode cc pc = .ok (.putfield 30, 3)) (hp : pc + 3 = pc') (k : ∀ Y1, GF X cc D z Q (F Y1) pc' lv st (wR y q Y1)) : GF X cc D z Q (nm (setI Y 4 a) F) pc lv (.int (iz a) :: .ref (q 0) :: st) (wR y q Y) := g_put (F := (nm (setI Y 4 a) F)) hX tyX1 0 4 in_X1 tyX1_ok nmX1 rfl rfl (by decide) mf_X1_30 rfl rfl rfl rfl rfl rfl hd hp (k _)
set_option maxRecDepth 100000 in
theorem ge_R_X1_18_R {O : Type} {X : Cx} {cc : ByteArray} {rm : Room} {ret : Option FieldType} {D : va_G} {y : ClassId × ClassId × ClassId} {z : Nat × Nat} {Q : O → State → Prop} {pc pc' : Nat} {lv : List (Option Value)} {st : List Value} {q : Nat → Nat} {Y : St} (hX : OKX X cc RX1 rm ret D y) {F : Option O} (hd : decode cc pc = .ok (.getfield 18, 3)) (hp : pc + 3 = pc') (kk : GF X cc D z Q F pc' lv (.ref (q 3) :: st) (wR y q Y)) : GF X cc D z Q F pc lv (.ref (q 0) :: st) (wR y q Y) := g_get hX 0 2 in_X1 rfl rfl (by decide) mf_X1_18 rfl hd hp kk
set_option maxRecDepth 100000 in
theorem ge_R_X1_21_R {O : Type} {X : Cx} {cc : ByteArray} {rm : Room} {ret : Option FieldType} {D : va_G} {y : ClassId × ClassId × ClassId} {z : Nat × Nat} {Q : O → State → Prop} {pc pc' : Nat} {lv : List (Option Value)} {st : List Value} {q : Nat → Nat} {Y : St} (hX : OKX X cc RX1 rm ret D y) {F : Option O} (hd : decode cc pc = .ok (.getfield 21, 3)) (hp : pc + 3 = pc') (kk : GF X cc D z Q F pc' lv (.ref (q 4) :: st) (wR y q Y)) : GF X cc D z Q F pc lv (.ref (q 0) :: st) (wR y q Y) := g_get hX 0 3 in_X1 rfl rfl (by decide) mf_X1_21 rfl hd hp kk
set_option maxRecDepth 100000 in
theorem al_R_R_3 {O : Type} {X : Cx} {cc : ByteArray} {own : String} {rm : Room} {ret : Option FieldType} {D : va_G} {y : ClassId × ClassId × ClassId} {z : Nat × Nat} {Q : O → State → Prop} {pc pc' : Nat} {lv : List (Option Value)} {st : List Value} {q : Nat → Nat} {Y : St} (hX : OKX X cc own rm ret D y) {F : Option O} {i : Int} (hd : decode cc pc = .ok (.iaload, 1)) (hp : pc + 1 = pc') (kk : GF X cc D z Q F pc' lv (.int (iz (Y.2 3 i.toNat)) :: st) (wR y q Y)) : GF X cc D z Q (bd i 16 F) pc lv (.int (iz i) :: .ref (q 4) :: st) (wR y q Y) := g_iald hX 4 rfl (by decide) hd hp kk
set_option maxRecDepth 100000 in
theorem as_R_R_2 {O : Type} {X : Cx} {cc : ByteArray} {own : String} {rm : Room} {ret : Option FieldType} {D : va_G} {y : ClassId × ClassId × ClassId} {z : Nat × Nat} {Q : O → State → Prop} {pc pc' : Nat} {lv : List (Option Value)} {st : List Value} {q : Nat → Nat} {Y : St} (hX : OKX X cc own rm ret D y) {F : St → Option O} {i : Int} {x : Int} (hd : decode cc pc = .ok (.iastore, 1)) (hp : pc + 1 = pc') (k : ∀ Y1, GF X cc D z Q (F Y1) pc' lv st (wR y q Y1)) : GF X cc D z Q (bd i 300 (nm (setA Y 2 i.toNat x) F)) pc lv (.int (iz x) :: .int (iz i) :: .ref (q 3) :: st) (wR y q Y) := g_iast (F := (nm (setA Y 2 i.toNat x) F)) hX 3 rfl (by decide) rfl hd hp (k _)
set_option maxRecDepth 100000 in
theorem as_R_R_3 {O : Type} {X : Cx} {cc : ByteArray} {own : String} {rm : Room} {ret : Option FieldType} {D : va_G} {y : ClassId × ClassId × ClassId} {z : Nat × Nat} {Q : O → State → Prop} {pc pc' : Nat} {lv : List (Option Value)} {st : List Value} {q : Nat → Nat} {Y : St} (hX : OKX X cc own rm ret D y) {F : St → Option O} {i : Int} {x : Int} (hd : decode cc pc = .ok (.iastore, 1)) (hp : pc + 1 = pc') (k : ∀ Y1, GF X cc D z Q (F Y1) pc' lv st (wR y q Y1)) : GF X cc D z Q (bd i 16 (nm (setA Y 3 i.toNat x) F)) pc lv (.int (iz x) :: .int (iz i) :: .ref (q 4) :: st) (wR y q Y) := g_iast (F := (nm (setA Y 3 i.toNat x) F)) hX 4 rfl (by decide) rfl hd hp (k _)
set_option maxRecDepth 100000 in
theorem fi_R_X1_R_3 {O : Type} {X : Cx} {cc : ByteArray} {rm : Room} {ret : Option FieldType} {D : va_G} {y : ClassId × ClassId × ClassId} {z : Nat × Nat} {Q : O → State → Prop} {pc pc' : Nat} {lv : List (Option Value)} {st : List Value} {q : Nat → Nat} {Y : St} (hX : OKX X cc RX1 rm ret D y) {F : St → Option O} {x : Int} (hrm : RoomOK (rmk 0) rm 4 z) (hrest : (st.map fun v => v.category).sum ≤ 8) (hd : decode cc pc = .ok (.invokestatic 24, 3)) (hp : pc + 3 = pc') (k : ∀ Y1, GF X cc D z Q (F Y1) pc' lv st (wR y q Y1)) : GF X cc D z Q (nm (setR Y 3 (fun j => if j < 16 then x else Y.2 3 j)) F) pc lv (.int (iz x) :: .ref (q 4) :: st) (wR y q Y) := g_fill (F := (nm (setR Y 3 (fun j => if j < 16 then x else Y.2 3 j)) F)) hX 4 rfl (by decide) rfl mw_X1_24 hrm hrest hd hp (k _)
set_option maxRecDepth 100000 in
theorem pu_S_X2_44_S {O : Type} {X : Cx} {cc : ByteArray} {rm : Room} {ret : Option FieldType} {D : va_G} {y : ClassId × ClassId × ClassId} {z : Nat × Nat} {Q : O → State → Prop} {pc pc' : Nat} {lv : List (Option Value)} {st : List Value} {q qr : Nat → Nat} {Y : St × St} (hX : OKX X cc RX2 rm ret D y) {F : St × St → Option O} {a : Int} (hd : decode cc pc = .ok (.putfield 44, 3)) (hp : pc + 3 = pc') (k : ∀ Y1, GF X cc D z Q (F Y1) pc' lv st (wS y q qr Y1)) : GF X cc D z Q (nm ((setI Y.1 9 a, Y.2)) F) pc lv (.int (iz a) :: .ref (q 0) :: st) (wS y q qr Y) := g_put (F := (nm ((setI Y.1 9 a, Y.2)) F)) hX tyX2 0 9 in_X2 tyX2_ok nmX2 rfl rfl (by decide) mf_X2_44 rfl rfl rfl rfl rfl rfl hd hp (k _)
set_option maxRecDepth 100000 in
theorem pu_S_X2_40_S {O : Type} {X : Cx} {cc : ByteArray} {rm : Room} {ret : Option FieldType} {D : va_G} {y : ClassId × ClassId × ClassId} {z : Nat × Nat} {Q : O → State → Prop} {pc pc' : Nat} {lv : List (Option Value)} {st : List Value} {q qr : Nat → Nat} {Y : St × St} (hX : OKX X cc RX2 rm ret D y) {F : St × St → Option O} {a : Int} (hd : decode cc pc = .ok (.putfield 40, 3)) (hp : pc + 3 = pc') (k : ∀ Y1, GF X cc D z Q (F Y1) pc' lv st (wS y q qr Y1)) : GF X cc D z Q (nm ((setI Y.1 10 a, Y.2)) F) pc lv (.int (iz a) :: .ref (q 0) :: st) (wS y q qr Y) := g_put (F := (nm ((setI Y.1 10 a, Y.2)) F)) hX tyX2 0 10 in_X2 tyX2_ok nmX2 rfl rfl (by decide) mf_X2_40 rfl rfl rfl rfl rfl rfl hd hp (k _)
set_option maxRecDepth 100000 in
theorem ge_S_X2_9_S {O : Type} {X : Cx} {cc : ByteArray} {rm : Room} {ret : Option FieldType} {D : va_G} {y : ClassId × ClassId × ClassId} {z : Nat × Nat} {Q : O → State → Prop} {pc pc' : Nat} {lv : List (Option Value)} {st : List Value} {q qr : Nat → Nat} {Y : St × St} (hX : OKX X cc RX2 rm ret D y) {F : Option O} (hd : decode cc pc = .ok (.getfield 9, 3)) (hp : pc + 3 = pc') (kk : GF X cc D z Q F pc' lv (.ref (q 1) :: st) (wS y q qr Y)) : GF X cc D z Q F pc lv (.ref (q 0) :: st) (wS y q qr Y) := g_get hX 0 1 in_X2 rfl rfl (by decide) mf_X2_9 rfl hd hp kk
set_option maxRecDepth 100000 in
theorem fi_S_X2_S_1 {O : Type} {X : Cx} {cc : ByteArray} {rm : Room} {ret : Option FieldType} {D : va_G} {y : ClassId × ClassId × ClassId} {z : Nat × Nat} {Q : O → State → Prop} {pc pc' : Nat} {lv : List (Option Value)} {st : List Value} {q qr : Nat → Nat} {Y : St × St} (hX : OKX X cc RX2 rm ret D y) {F : St × St → Option O} {x : Int} (hrm : RoomOK (rmk 0) rm 4 z) (hrest : (st.map fun v => v.category).sum ≤ 8) (hd : decode cc pc = .ok (.invokestatic 47, 3)) (hp : pc + 3 = pc') (k : ∀ Y1, GF X cc D z Q (F Y1) pc' lv st (wS y q qr Y1)) : GF X cc D z Q (nm ((setR Y.1 1 (fun j => if j < 16 then x else Y.1.2 1 j), Y.2)) F) pc lv (.int (iz x) :: .ref (q 1) :: st) (wS y q qr Y) := g_fill (F := (nm ((setR Y.1 1 (fun j => if j < 16 then x else Y.1.2 1 j), Y.2)) F)) hX 1 rfl (by decide) rfl mw_X2_47 hrm hrest hd hp (k _)
set_option maxRecDepth 100000 in
theorem ge_S_X2_15_S {O : Type} {X : Cx} {cc : ByteArray} {rm : Room} {ret : Option FieldType} {D : va_G} {y : ClassId × ClassId × ClassId} {z : Nat × Nat} {Q : O → State → Prop} {pc pc' : Nat} {lv : List (Option Value)} {st : List Value} {q qr : Nat → Nat} {Y : St × St} (hX : OKX X cc RX2 rm ret D y) {F : Option O} (hd : decode cc pc = .ok (.getfield 15, 3)) (hp : pc + 3 = pc') (kk : GF X cc D z Q F pc' lv (.ref (q 2) :: st) (wS y q qr Y)) : GF X cc D z Q F pc lv (.ref (q 0) :: st) (wS y q qr Y) := g_get hX 0 2 in_X2 rfl rfl (by decide) mf_X2_15 rfl hd hp kk
set_option maxRecDepth 100000 in
theorem fi_S_X2_S_2 {O : Type} {X : Cx} {cc : ByteArray} {rm : Room} {ret : Option FieldType} {D : va_G} {y : ClassId × ClassId × ClassId} {z : Nat × Nat} {Q : O → State → Prop} {pc pc' : Nat} {lv : List (Option Value)} {st : List Value} {q qr : Nat → Nat} {Y : St × St} (hX : OKX X cc RX2 rm ret D y) {F : St × St → Option O} {x : Int} (hrm : RoomOK (rmk 0) rm 4 z) (hrest : (st.map fun v => v.category).sum ≤ 8) (hd : decode cc pc = .ok (.invokestatic 47, 3)) (hp : pc + 3 = pc') (k : ∀ Y1, GF X cc D z Q (F Y1) pc' lv st (wS y q qr Y1)) : GF X cc D z Q (nm ((setR Y.1 2 (fun j => if j < 5 then x else Y.1.2 2 j), Y.2)) F) pc lv (.int (iz x) :: .ref (q 2) :: st) (wS y q qr Y) := g_fill (F := (nm ((setR Y.1 2 (fun j => if j < 5 then x else Y.1.2 2 j), Y.2)) F)) hX 2 rfl (by decide) rfl mw_X2_47 hrm hrest hd hp (k _)
set_option maxRecDepth 100000 in
theorem pu_S_X2_53_S {O : Type} {X : Cx} {cc : ByteArray} {rm : Room} {ret : Option FieldType} {D : va_G} {y : ClassId × ClassId × ClassId} {z : Nat × Nat} {Q : O → State → Prop} {pc pc' : Nat} {lv : List (Option Value)} {st : List Value} {q qr : Nat → Nat} {Y : St × St} (hX : OKX X cc RX2 rm ret D y) {F : St × St → Option O} {a : Int} (hd : decode cc pc = .ok (.putfield 53, 3)) (hp : pc + 3 = pc') (k : ∀ Y1, GF X cc D z Q (F Y1) pc' lv st (wS y q qr Y1)) : GF X cc D z Q (nm ((setI Y.1 11 a, Y.2)) F) pc lv (.int (iz a) :: .ref (q 0) :: st) (wS y q qr Y) := g_put (F := (nm ((setI Y.1 11 a, Y.2)) F)) hX tyX2 0 11 in_X2 tyX2_ok nmX2 rfl rfl (by decide) mf_X2_53 rfl rfl rfl rfl rfl rfl hd hp (k _)
set_option maxRecDepth 100000 in
theorem pu_S_X2_56_S {O : Type} {X : Cx} {cc : ByteArray} {rm : Room} {ret : Option FieldType} {D : va_G} {y : ClassId × ClassId × ClassId} {z : Nat × Nat} {Q : O → State → Prop} {pc pc' : Nat} {lv : List (Option Value)} {st : List Value} {q qr : Nat → Nat} {Y : St × St} (hX : OKX X cc RX2 rm ret D y) {F : St × St → Option O} {a : Int} (hd : decode cc pc = .ok (.putfield 56, 3)) (hp : pc + 3 = pc') (k : ∀ Y1, GF X cc D z Q (F Y1) pc' lv st (wS y q qr Y1)) : GF X cc D z Q (nm ((setI Y.1 12 a, Y.2)) F) pc lv (.int (iz a) :: .ref (q 0) :: st) (wS y q qr Y) := g_put (F := (nm ((setI Y.1 12 a, Y.2)) F)) hX tyX2 0 12 in_X2 tyX2_ok nmX2 rfl rfl (by decide) mf_X2_56 rfl rfl rfl rfl rfl rfl hd hp (k _)
set_option maxRecDepth 100000 in
theorem pu_S_X2_59_S {O : Type} {X : Cx} {cc : ByteArray} {rm : Room} {ret : Option FieldType} {D : va_G} {y : ClassId × ClassId × ClassId} {z : Nat × Nat} {Q : O → State → Prop} {pc pc' : Nat} {lv : List (Option Value)} {st : List Value} {q qr : Nat → Nat} {Y : St × St} (hX : OKX X cc RX2 rm ret D y) {F : St × St → Option O} {a : Int} (hd : decode cc pc = .ok (.putfield 59, 3)) (hp : pc + 3 = pc') (k : ∀ Y1, GF X cc D z Q (F Y1) pc' lv st (wS y q qr Y1)) : GF X cc D z Q (nm ((setI Y.1 13 a, Y.2)) F) pc lv (.int (iz a) :: .ref (q 0) :: st) (wS y q qr Y) := g_put (F := (nm ((setI Y.1 13 a, Y.2)) F)) hX tyX2 0 13 in_X2 tyX2_ok nmX2 rfl rfl (by decide) mf_X2_59 rfl rfl rfl rfl rfl rfl hd hp (k _)
set_option maxRecDepth 100000 in
theorem pu_S_X2_62_S {O : Type} {X : Cx} {cc : ByteArray} {rm : Room} {ret : Option FieldType} {D : va_G} {y : ClassId × ClassId × ClassId} {z : Nat × Nat} {Q : O → State → Prop} {pc pc' : Nat} {lv : List (Option Value)} {st : List Value} {q qr : Nat → Nat} {Y : St × St} (hX : OKX X cc RX2 rm ret D y) {F : St × St → Option O} {a : Int} (hd : decode cc pc = .ok (.putfield 62, 3)) (hp : pc + 3 = pc') (k : ∀ Y1, GF X cc D z Q (F Y1) pc' lv st (wS y q qr Y1)) : GF X cc D z Q (nm ((setI Y.1 14 a, Y.2)) F) pc lv (.int (iz a) :: .ref (q 0) :: st) (wS y q qr Y) := g_put (F := (nm ((setI Y.1 14 a, Y.2)) F)) hX tyX2 0 14 in_X2 tyX2_ok nmX2 rfl rfl (by decide) mf_X2_62 rfl rfl rfl rfl rfl rfl hd hp (k _)
set_option maxRecDepth 100000 in
theorem pu_S_X2_65_S {O : Type} {X : Cx} {cc : ByteArray} {rm : Room} {ret : Option FieldType} {D : va_G} {y : ClassId × ClassId × ClassId} {z : Nat × Nat} {Q : O → State → Prop} {pc pc' : Nat} {lv : List (Option Value)} {st : List Value} {q qr : Nat → Nat} {Y : St × St} (hX : OKX X cc RX2 rm ret D y) {F : St × St → Option O} {a : Int} (hd : decode cc pc = .ok (.putfield 65, 3)) (hp : pc + 3 = pc') (k : ∀ Y1, GF X cc D z Q (F Y1) pc' lv st (wS y q qr Y1)) : GF X cc D z Q (nm ((setI Y.1 15 a, Y.2)) F) pc lv (.int (iz a) :: .ref (q 0) :: st) (wS y q qr Y) := g_put (F := (nm ((setI Y.1 15 a, Y.2)) F)) hX tyX2 0 15 in_X2 tyX2_ok nmX2 rfl rfl (by decide) mf_X2_65 rfl rfl rfl rfl rfl rfl hd hp (k _)
set_option maxRecDepth 100000 in
theorem pu_S_X2_68_S {O : Type} {X : Cx} {cc : ByteArray} {rm : Room} {ret : Option FieldType} {D : va_G} {y : ClassId × ClassId × ClassId} {z : Nat × Nat} {Q : O → State → Prop} {pc pc' : Nat} {lv : List (Option Value)} {st : List Value} {q qr : Nat → Nat} {Y : St × St} (hX : OKX X cc RX2 rm ret D y) {F : St × St → Option O} {a : Int} (hd : decode cc pc = .ok (.putfield 68, 3)) (hp : pc + 3 = pc') (k : ∀ Y1, GF X cc D z Q (F Y1) pc' lv st (wS y q qr Y1)) : GF X cc D z Q (nm ((setI Y.1 16 a, Y.2)) F) pc lv (.int (iz a) :: .ref (q 0) :: st) (wS y q qr Y) := g_put (F := (nm ((setI Y.1 16 a, Y.2)) F)) hX tyX2 0 16 in_X2 tyX2_ok nmX2 rfl rfl (by decide) mf_X2_68 rfl rfl rfl rfl rfl rfl hd hp (k _)
set_option maxRecDepth 100000 in
theorem ge_S_X2_44_S {O : Type} {X : Cx} {cc : ByteArray} {rm : Room} {ret : Option FieldType} {D : va_G} {y : ClassId × ClassId × ClassId} {z : Nat × Nat} {Q : O → State → Prop} {pc pc' : Nat} {lv : List (Option Value)} {st : List Value} {q qr : Nat → Nat} {Y : St × St} (hX : OKX X cc RX2 rm ret D y) {F : Option O} (hd : decode cc pc = .ok (.getfield 44, 3)) (hp : pc + 3 = pc') (kk : GF X cc D z Q F pc' lv (.int (iz (Y.1.1 9)) :: st) (wS y q qr Y)) : GF X cc D z Q F pc lv (.ref (q 0) :: st) (wS y q qr Y) := g_get hX 0 9 in_X2 rfl rfl (by decide) mf_X2_44 rfl hd hp kk
set_option maxRecDepth 100000 in
theorem ge_S_X2_36_S {O : Type} {X : Cx} {cc : ByteArray} {rm : Room} {ret : Option FieldType} {D : va_G} {y : ClassId × ClassId × ClassId} {z : Nat × Nat} {Q : O → State → Prop} {pc pc' : Nat} {lv : List (Option Value)} {st : List Value} {q qr : Nat → Nat} {Y : St × St} (hX : OKX X cc RX2 rm ret D y) {F : Option O} (hd : decode cc pc = .ok (.getfield 36, 3)) (hp : pc + 3 = pc') (kk : GF X cc D z Q F pc' lv (.ref (qr 0) :: st) (wS y q qr Y)) : GF X cc D z Q F pc lv (.ref (q 0) :: st) (wS y q qr Y) := g_get hX 0 0 in_X2 rfl rfl (by decide) mf_X2_36 rfl hd hp kk
set_option maxRecDepth 100000 in
theorem al_S_S_1 {O : Type} {X : Cx} {cc : ByteArray} {own : String} {rm : Room} {ret : Option FieldType} {D : va_G} {y : ClassId × ClassId × ClassId} {z : Nat × Nat} {Q : O → State → Prop} {pc pc' : Nat} {lv : List (Option Value)} {st : List Value} {q qr : Nat → Nat} {Y : St × St} (hX : OKX X cc own rm ret D y) {F : Option O} {i : Int} (hd : decode cc pc = .ok (.iaload, 1)) (hp : pc + 1 = pc') (kk : GF X cc D z Q F pc' lv (.int (iz (Y.1.2 1 i.toNat)) :: st) (wS y q qr Y)) : GF X cc D z Q (bd i 16 F) pc lv (.int (iz i) :: .ref (q 1) :: st) (wS y q qr Y) := g_iald hX 1 rfl (by decide) hd hp kk
set_option maxRecDepth 100000 in
theorem al_S_S_2 {O : Type} {X : Cx} {cc : ByteArray} {own : String} {rm : Room} {ret : Option FieldType} {D : va_G} {y : ClassId × ClassId × ClassId} {z : Nat × Nat} {Q : O → State → Prop} {pc pc' : Nat} {lv : List (Option Value)} {st : List Value} {q qr : Nat → Nat} {Y : St × St} (hX : OKX X cc own rm ret D y) {F : Option O} {i : Int} (hd : decode cc pc = .ok (.iaload, 1)) (hp : pc + 1 = pc') (kk : GF X cc D z Q F pc' lv (.int (iz (Y.1.2 2 i.toNat)) :: st) (wS y q qr Y)) : GF X cc D z Q (bd i 5 F) pc lv (.int (iz i) :: .ref (q 2) :: st) (wS y q qr Y) := g_iald hX 2 rfl (by decide) hd hp kk
set_option maxRecDepth 100000 in
theorem as_S_S_2 {O : Type} {X : Cx} {cc : ByteArray} {own : String} {rm : Room} {ret : Option FieldType} {D : va_G} {y : ClassId × ClassId × ClassId} {z : Nat × Nat} {Q : O → State → Prop} {pc pc' : Nat} {lv : List (Option Value)} {st : List Value} {q qr : Nat → Nat} {Y : St × St} (hX : OKX X cc own rm ret D y) {F : St × St → Option O} {i : Int} {x : Int} (hd : decode cc pc = .ok (.iastore, 1)) (hp : pc + 1 = pc') (k : ∀ Y1, GF X cc D z Q (F Y1) pc' lv st (wS y q qr Y1)) : GF X cc D z Q (bd i 5 (nm ((setA Y.1 2 i.toNat x, Y.2)) F)) pc lv (.int (iz x) :: .int (iz i) :: .ref (q 2) :: st) (wS y q qr Y) := g_iast (F := (nm ((setA Y.1 2 i.toNat x, Y.2)) F)) hX 2 rfl (by decide) rfl hd hp (k _)
set_option maxRecDepth 100000 in
theorem as_S_S_1 {O : Type} {X : Cx} {cc : ByteArray} {own : String} {rm : Room} {ret : Option FieldType} {D : va_G} {y : ClassId × ClassId × ClassId} {z : Nat × Nat} {Q : O → State → Prop} {pc pc' : Nat} {lv : List (Option Value)} {st : List Value} {q qr : Nat → Nat} {Y : St × St} (hX : OKX X cc own rm ret D y) {F : St × St → Option O} {i : Int} {x : Int} (hd : decode cc pc = .ok (.iastore, 1)) (hp : pc + 1 = pc') (k : ∀ Y1, GF X cc D z Q (F Y1) pc' lv st (wS y q qr Y1)) : GF X cc D z Q (bd i 16 (nm ((setA Y.1 1 i.toNat x, Y.2)) F)) pc lv (.int (iz x) :: .int (iz i) :: .ref (q 1) :: st) (wS y q qr Y) := g_iast (F := (nm ((setA Y.1 1 i.toNat x, Y.2)) F)) hX 1 rfl (by decide) rfl hd hp (k _)
set_option maxRecDepth 100000 in
theorem ge_S_X2_18_S {O : Type} {X : Cx} {cc : ByteArray} {rm : Room} {ret : Option FieldType} {D : va_G} {y : ClassId × ClassId × ClassId} {z : Nat × Nat} {Q : O → State → Prop} {pc pc' : Nat} {lv : List (Option Value)} {st : List Value} {q qr : Nat → Nat} {Y : St × St} (hX : OKX X cc RX2 rm ret D y) {F : Option O} (hd : decode cc pc = .ok (.getfield 18, 3)) (hp : pc + 3 = pc') (kk : GF X cc D z Q F pc' lv (.ref (q 3) :: st) (wS y q qr Y)) : GF X cc D z Q F pc lv (.ref (q 0) :: st) (wS y q qr Y) := g_get hX 0 3 in_X2 rfl rfl (by decide) mf_X2_18 rfl hd hp kk
set_option maxRecDepth 100000 in
theorem ge_S_X2_53_S {O : Type} {X : Cx} {cc : ByteArray} {rm : Room} {ret : Option FieldType} {D : va_G} {y : ClassId × ClassId × ClassId} {z : Nat × Nat} {Q : O → State → Prop} {pc pc' : Nat} {lv : List (Option Value)} {st : List Value} {q qr : Nat → Nat} {Y : St × St} (hX : OKX X cc RX2 rm ret D y) {F : Option O} (hd : decode cc pc = .ok (.getfield 53, 3)) (hp : pc + 3 = pc') (kk : GF X cc D z Q F pc' lv (.int (iz (Y.1.1 11)) :: st) (wS y q qr Y)) : GF X cc D z Q F pc lv (.ref (q 0) :: st) (wS y q qr Y) := g_get hX 0 11 in_X2 rfl rfl (by decide) mf_X2_53 rfl hd hp kk
set_option maxRecDepth 100000 in
theorem as_S_S_3 {O : Type} {X : Cx} {cc : ByteArray} {own : String} {rm : Room} {ret : Option FieldType} {D : va_G} {y : ClassId × ClassId × ClassId} {z : Nat × Nat} {Q : O → State → Prop} {pc pc' : Nat} {lv : List (Option Value)} {st : List Value} {q qr : Nat → Nat} {Y : St × St} (hX : OKX X cc own rm ret D y) {F : St × St → Option O} {i : Int} {x : Int} (hd : decode cc pc = .ok (.iastore, 1)) (hp : pc + 1 = pc') (k : ∀ Y1, GF X cc D z Q (F Y1) pc' lv st (wS y q qr Y1)) : GF X cc D z Q (bd i 16 (nm ((setA Y.1 3 i.toNat x, Y.2)) F)) pc lv (.int (iz x) :: .int (iz i) :: .ref (q 3) :: st) (wS y q qr Y) := g_iast (F := (nm ((setA Y.1 3 i.toNat x, Y.2)) F)) hX 3 rfl (by decide) rfl hd hp (k _)
set_option maxRecDepth 100000 in
theorem ge_S_X2_24_S {O : Type} {X : Cx} {cc : ByteArray} {rm : Room} {ret : Option FieldType} {D : va_G} {y : ClassId × ClassId × ClassId} {z : Nat × Nat} {Q : O → State → Prop} {pc pc' : Nat} {lv : List (Option Value)} {st : List Value} {q qr : Nat → Nat} {Y : St × St} (hX : OKX X cc RX2 rm ret D y) {F : Option O} (hd : decode cc pc = .ok (.getfield 24, 3)) (hp : pc + 3 = pc') (kk : GF X cc D z Q F pc' lv (.ref (q 5) :: st) (wS y q qr Y)) : GF X cc D z Q F pc lv (.ref (q 0) :: st) (wS y q qr Y) := g_get hX 0 5 in_X2 rfl rfl (by decide) mf_X2_24 rfl hd hp kk
set_option maxRecDepth 100000 in
theorem al_S_S_5 {O : Type} {X : Cx} {cc : ByteArray} {own : String} {rm : Room} {ret : Option FieldType} {D : va_G} {y : ClassId × ClassId × ClassId} {z : Nat × Nat} {Q : O → State → Prop} {pc pc' : Nat} {lv : List (Option Value)} {st : List Value} {q qr : Nat → Nat} {Y : St × St} (hX : OKX X cc own rm ret D y) {F : Option O} {i : Int} (hd : decode cc pc = .ok (.iaload, 1)) (hp : pc + 1 = pc') (kk : GF X cc D z Q F pc' lv (.int (iz (Y.1.2 5 i.toNat)) :: st) (wS y q qr Y)) : GF X cc D z Q (bd i 16 F) pc lv (.int (iz i) :: .ref (q 5) :: st) (wS y q qr Y) := g_iald hX 5 rfl (by decide) hd hp kk
set_option maxRecDepth 100000 in
theorem as_S_S_5 {O : Type} {X : Cx} {cc : ByteArray} {own : String} {rm : Room} {ret : Option FieldType} {D : va_G} {y : ClassId × ClassId × ClassId} {z : Nat × Nat} {Q : O → State → Prop} {pc pc' : Nat} {lv : List (Option Value)} {st : List Value} {q qr : Nat → Nat} {Y : St × St} (hX : OKX X cc own rm ret D y) {F : St × St → Option O} {i : Int} {x : Int} (hd : decode cc pc = .ok (.iastore, 1)) (hp : pc + 1 = pc') (k : ∀ Y1, GF X cc D z Q (F Y1) pc' lv st (wS y q qr Y1)) : GF X cc D z Q (bd i 16 (nm ((setA Y.1 5 i.toNat x, Y.2)) F)) pc lv (.int (iz x) :: .int (iz i) :: .ref (q 5) :: st) (wS y q qr Y) := g_iast (F := (nm ((setA Y.1 5 i.toNat x, Y.2)) F)) hX 5 rfl (by decide) rfl hd hp (k _)
set_option maxRecDepth 100000 in
theorem ge_S_X2_56_S {O : Type} {X : Cx} {cc : ByteArray} {rm : Room} {ret : Option FieldType} {D : va_G} {y : ClassId × ClassId × ClassId} {z : Nat × Nat} {Q : O → State → Prop} {pc pc' : Nat} {lv : List (Option Value)} {st : List Value} {q qr : Nat → Nat} {Y : St × St} (hX : OKX X cc RX2 rm ret D y) {F : Option O} (hd : decode cc pc = .ok (.getfield 56, 3)) (hp : pc + 3 = pc') (kk : GF X cc D z Q F pc' lv (.int (iz (Y.1.1 12)) :: st) (wS y q qr Y)) : GF X cc D z Q F pc lv (.ref (q 0) :: st) (wS y q qr Y) := g_get hX 0 12 in_X2 rfl rfl (by decide) mf_X2_56 rfl hd hp kk
set_option maxRecDepth 100000 in
theorem ge_S_X2_65_S {O : Type} {X : Cx} {cc : ByteArray} {rm : Room} {ret : Option FieldType} {D : va_G} {y : ClassId × ClassId × ClassId} {z : Nat × Nat} {Q : O → State → Prop} {pc pc' : Nat} {lv : List (Option Value)} {st : List Value} {q qr : Nat → Nat} {Y : St × St} (hX : OKX X cc RX2 rm ret D y) {F : Option O} (hd : decode cc pc = .ok (.getfield 65, 3)) (hp : pc + 3 = pc') (kk : GF X cc D z Q F pc' lv (.int (iz (Y.1.1 15)) :: st) (wS y q qr Y)) : GF X cc D z Q F pc lv (.ref (q 0) :: st) (wS y q qr Y) := g_get hX 0 15 in_X2 rfl rfl (by decide) mf_X2_65 rfl hd hp kk
set_option maxRecDepth 100000 in
theorem ge_S_X2_40_S {O : Type} {X : Cx} {cc : ByteArray} {rm : Room} {ret : Option FieldType} {D : va_G} {y : ClassId × ClassId × ClassId} {z : Nat × Nat} {Q : O → State → Prop} {pc pc' : Nat} {lv : List (Option Value)} {st : List Value} {q qr : Nat → Nat} {Y : St × St} (hX : OKX X cc RX2 rm ret D y) {F : Option O} (hd : decode cc pc = .ok (.getfield 40, 3)) (hp : pc + 3 = pc') (kk : GF X cc D z Q F pc' lv (.int (iz (Y.1.1 10)) :: st) (wS y q qr Y)) : GF X cc D z Q F pc lv (.ref (q 0) :: st) (wS y q qr Y) := g_get hX 0 10 in_X2 rfl rfl (by decide) mf_X2_40 rfl hd hp kk
set_option maxRecDepth 100000 in
theorem ge_S_X2_59_S {O : Type} {X : Cx} {cc : ByteArray} {rm : Room} {ret : Option FieldType} {D : va_G} {y : ClassId × ClassId × ClassId} {z : Nat × Nat} {Q : O → State → Prop} {pc pc' : Nat} {lv : List (Option Value)} {st : List Value} {q qr : Nat → Nat} {Y : St × St} (hX : OKX X cc RX2 rm ret D y) {F : Option O} (hd : decode cc pc = .ok (.getfield 59, 3)) (hp : pc + 3 = pc') (kk : GF X cc D z Q F pc' lv (.int (iz (Y.1.1 13)) :: st) (wS y q qr Y)) : GF X cc D z Q F pc lv (.ref (q 0) :: st) (wS y q qr Y) := g_get hX 0 13 in_X2 rfl rfl (by decide) mf_X2_59 rfl hd hp kk
set_option maxRecDepth 100000 in
theorem ge_S_X2_21_S {O : Type} {X : Cx} {cc : ByteArray} {rm : Room} {ret : Option FieldType} {D : va_G} {y : ClassId × ClassId × ClassId} {z : Nat × Nat} {Q : O → State → Prop} {pc pc' : Nat} {lv : List (Option Value)} {st : List Value} {q qr : Nat → Nat} {Y : St × St} (hX : OKX X cc RX2 rm ret D y) {F : Option O} (hd : decode cc pc = .ok (.getfield 21, 3)) (hp : pc + 3 = pc') (kk : GF X cc D z Q F pc' lv (.ref (q 4) :: st) (wS y q qr Y)) : GF X cc D z Q F pc lv (.ref (q 0) :: st) (wS y q qr Y) := g_get hX 0 4 in_X2 rfl rfl (by decide) mf_X2_21 rfl hd hp kk
set_option maxRecDepth 100000 in
theorem al_S_S_4 {O : Type} {X : Cx} {cc : ByteArray} {own : String} {rm : Room} {ret : Option FieldType} {D : va_G} {y : ClassId × ClassId × ClassId} {z : Nat × Nat} {Q : O → State → Prop} {pc pc' : Nat} {lv : List (Option Value)} {st : List Value} {q qr : Nat → Nat} {Y : St × St} (hX : OKX X cc own rm ret D y) {F : Option O} {i : Int} (hd : decode cc pc = .ok (.iaload, 1)) (hp : pc + 1 = pc') (kk : GF X cc D z Q F pc' lv (.int (iz (Y.1.2 4 i.toNat)) :: st) (wS y q qr Y)) : GF X cc D z Q (bd i 16 F) pc lv (.int (iz i) :: .ref (q 4) :: st) (wS y q qr Y) := g_iald hX 4 rfl (by decide) hd hp kk
set_option maxRecDepth 100000 in
theorem al_S_S_3 {O : Type} {X : Cx} {cc : ByteArray} {own : String} {rm : Room} {ret : Option FieldType} {D : va_G} {y : ClassId × ClassId × ClassId} {z : Nat × Nat} {Q : O → State → Prop} {pc pc' : Nat} {lv : List (Option Value)} {st : List Value} {q qr : Nat → Nat} {Y : St × St} (hX : OKX X cc own rm ret D y) {F : Option O} {i : Int} (hd : decode cc pc = .ok (.iaload, 1)) (hp : pc + 1 = pc') (kk : GF X cc D z Q F pc' lv (.int (iz (Y.1.2 3 i.toNat)) :: st) (wS y q qr Y)) : GF X cc D z Q (bd i 16 F) pc lv (.int (iz i) :: .ref (q 3) :: st) (wS y q qr Y) := g_iald hX 3 rfl (by decide) hd hp kk
set_option maxRecDepth 100000 in
theorem ge_S_X2_27_S {O : Type} {X : Cx} {cc : ByteArray} {rm : Room} {ret : Option FieldType} {D : va_G} {y : ClassId × ClassId × ClassId} {z : Nat × Nat} {Q : O → State → Prop} {pc pc' : Nat} {lv : List (Option Value)} {st : List Value} {q qr : Nat → Nat} {Y : St × St} (hX : OKX X cc RX2 rm ret D y) {F : Option O} (hd : decode cc pc = .ok (.getfield 27, 3)) (hp : pc + 3 = pc') (kk : GF X cc D z Q F pc' lv (.ref (q 6) :: st) (wS y q qr Y)) : GF X cc D z Q F pc lv (.ref (q 0) :: st) (wS y q qr Y) := g_get hX 0 6 in_X2 rfl rfl (by decide) mf_X2_27 rfl hd hp kk
set_option maxRecDepth 100000 in
theorem al_S_S_6 {O : Type} {X : Cx} {cc : ByteArray} {own : String} {rm : Room} {ret : Option FieldType} {D : va_G} {y : ClassId × ClassId × ClassId} {z : Nat × Nat} {Q : O → State → Prop} {pc pc' : Nat} {lv : List (Option Value)} {st : List Value} {q qr : Nat → Nat} {Y : St × St} (hX : OKX X cc own rm ret D y) {F : Option O} {i : Int} (hd : decode cc pc = .ok (.iaload, 1)) (hp : pc + 1 = pc') (kk : GF X cc D z Q F pc' lv (.int (iz (Y.1.2 6 i.toNat)) :: st) (wS y q qr Y)) : GF X cc D z Q (bd i 16 F) pc lv (.int (iz i) :: .ref (q 6) :: st) (wS y q qr Y) := g_iald hX 6 rfl (by decide) hd hp kk
set_option maxRecDepth 100000 in
theorem ge_S_X2_163_R {O : Type} {X : Cx} {cc : ByteArray} {rm : Room} {ret : Option FieldType} {D : va_G} {y : ClassId × ClassId × ClassId} {z : Nat × Nat} {Q : O → State → Prop} {pc pc' : Nat} {lv : List (Option Value)} {st : List Value} {q qr : Nat → Nat} {Y : St × St} (hX : OKX X cc RX2 rm ret D y) {F : Option O} (hd : decode cc pc = .ok (.getfield 163, 3)) (hp : pc + 3 = pc') (kk : GF X cc D z Q F pc' lv (.ref (qr 3) :: st) (wS y q qr Y)) : GF X cc D z Q F pc lv (.ref (qr 0) :: st) (wS y q qr Y) := g_get hX 9 2 in_X1 rfl rfl (by decide) mf_X2_163 rfl hd hp kk
set_option maxRecDepth 100000 in
theorem al_S_R_2 {O : Type} {X : Cx} {cc : ByteArray} {own : String} {rm : Room} {ret : Option FieldType} {D : va_G} {y : ClassId × ClassId × ClassId} {z : Nat × Nat} {Q : O → State → Prop} {pc pc' : Nat} {lv : List (Option Value)} {st : List Value} {q qr : Nat → Nat} {Y : St × St} (hX : OKX X cc own rm ret D y) {F : Option O} {i : Int} (hd : decode cc pc = .ok (.iaload, 1)) (hp : pc + 1 = pc') (kk : GF X cc D z Q F pc' lv (.int (iz (Y.2.2 2 i.toNat)) :: st) (wS y q qr Y)) : GF X cc D z Q (bd i 300 F) pc lv (.int (iz i) :: .ref (qr 3) :: st) (wS y q qr Y) := g_iald hX 12 rfl (by decide) hd hp kk
set_option maxRecDepth 100000 in
theorem ge_S_X2_62_S {O : Type} {X : Cx} {cc : ByteArray} {rm : Room} {ret : Option FieldType} {D : va_G} {y : ClassId × ClassId × ClassId} {z : Nat × Nat} {Q : O → State → Prop} {pc pc' : Nat} {lv : List (Option Value)} {st : List Value} {q qr : Nat → Nat} {Y : St × St} (hX : OKX X cc RX2 rm ret D y) {F : Option O} (hd : decode cc pc = .ok (.getfield 62, 3)) (hp : pc + 3 = pc') (kk : GF X cc D z Q F pc' lv (.int (iz (Y.1.1 14)) :: st) (wS y q qr Y)) : GF X cc D z Q F pc lv (.ref (q 0) :: st) (wS y q qr Y) := g_get hX 0 14 in_X2 rfl rfl (by decide) mf_X2_62 rfl hd hp kk
set_option maxRecDepth 100000 in
theorem ge_S_X2_33_S {O : Type} {X : Cx} {cc : ByteArray} {rm : Room} {ret : Option FieldType} {D : va_G} {y : ClassId × ClassId × ClassId} {z : Nat × Nat} {Q : O → State → Prop} {pc pc' : Nat} {lv : List (Option Value)} {st : List Value} {q qr : Nat → Nat} {Y : St × St} (hX : OKX X cc RX2 rm ret D y) {F : Option O} (hd : decode cc pc = .ok (.getfield 33, 3)) (hp : pc + 3 = pc') (kk : GF X cc D z Q F pc' lv (.ref (q 8) :: st) (wS y q qr Y)) : GF X cc D z Q F pc lv (.ref (q 0) :: st) (wS y q qr Y) := g_get hX 0 8 in_X2 rfl rfl (by decide) mf_X2_33 rfl hd hp kk
set_option maxRecDepth 100000 in
theorem al_S_S_8 {O : Type} {X : Cx} {cc : ByteArray} {own : String} {rm : Room} {ret : Option FieldType} {D : va_G} {y : ClassId × ClassId × ClassId} {z : Nat × Nat} {Q : O → State → Prop} {pc pc' : Nat} {lv : List (Option Value)} {st : List Value} {q qr : Nat → Nat} {Y : St × St} (hX : OKX X cc own rm ret D y) {F : Option O} {i : Int} (hd : decode cc pc = .ok (.iaload, 1)) (hp : pc + 1 = pc') (kk : GF X cc D z Q F pc' lv (.int (iz (Y.1.2 8 i.toNat)) :: st) (wS y q qr Y)) : GF X cc D z Q (bd i 8 F) pc lv (.int (iz i) :: .ref (q 8) :: st) (wS y q qr Y) := g_iald hX 8 rfl (by decide) hd hp kk
set_option maxRecDepth 100000 in
theorem ge_S_X2_30_S {O : Type} {X : Cx} {cc : ByteArray} {rm : Room} {ret : Option FieldType} {D : va_G} {y : ClassId × ClassId × ClassId} {z : Nat × Nat} {Q : O → State → Prop} {pc pc' : Nat} {lv : List (Option Value)} {st : List Value} {q qr : Nat → Nat} {Y : St × St} (hX : OKX X cc RX2 rm ret D y) {F : Option O} (hd : decode cc pc = .ok (.getfield 30, 3)) (hp : pc + 3 = pc') (kk : GF X cc D z Q F pc' lv (.ref (q 7) :: st) (wS y q qr Y)) : GF X cc D z Q F pc lv (.ref (q 0) :: st) (wS y q qr Y) := g_get hX 0 7 in_X2 rfl rfl (by decide) mf_X2_30 rfl hd hp kk
set_option maxRecDepth 100000 in
theorem as_S_S_7 {O : Type} {X : Cx} {cc : ByteArray} {own : String} {rm : Room} {ret : Option FieldType} {D : va_G} {y : ClassId × ClassId × ClassId} {z : Nat × Nat} {Q : O → State → Prop} {pc pc' : Nat} {lv : List (Option Value)} {st : List Value} {q qr : Nat → Nat} {Y : St × St} (hX : OKX X cc own rm ret D y) {F : St × St → Option O} {i : Int} {x : Int} (hd : decode cc pc = .ok (.iastore, 1)) (hp : pc + 1 = pc') (k : ∀ Y1, GF X cc D z Q (F Y1) pc' lv st (wS y q qr Y1)) : GF X cc D z Q (bd i 16 (nm ((setA Y.1 7 i.toNat x, Y.2)) F)) pc lv (.int (iz x) :: .int (iz i) :: .ref (q 7) :: st) (wS y q qr Y) := g_iast (F := (nm ((setA Y.1 7 i.toNat x, Y.2)) F)) hX 7 rfl (by decide) rfl hd hp (k _)
set_option maxRecDepth 100000 in
theorem as_S_S_8 {O : Type} {X : Cx} {cc : ByteArray} {own : String} {rm : Room} {ret : Option FieldType} {D : va_G} {y : ClassId × ClassId × ClassId} {z : Nat × Nat} {Q : O → State → Prop} {pc pc' : Nat} {lv : List (Option Value)} {st : List Value} {q qr : Nat → Nat} {Y : St × St} (hX : OKX X cc own rm ret D y) {F : St × St → Option O} {i : Int} {x : Int} (hd : decode cc pc = .ok (.iastore, 1)) (hp : pc + 1 = pc') (k : ∀ Y1, GF X cc D z Q (F Y1) pc' lv st (wS y q qr Y1)) : GF X cc D z Q (bd i 8 (nm ((setA Y.1 8 i.toNat x, Y.2)) F)) pc lv (.int (iz x) :: .int (iz i) :: .ref (q 8) :: st) (wS y q qr Y) := g_iast (F := (nm ((setA Y.1 8 i.toNat x, Y.2)) F)) hX 8 rfl (by decide) rfl hd hp (k _)
set_option maxRecDepth 100000 in
theorem al_S_S_7 {O : Type} {X : Cx} {cc : ByteArray} {own : String} {rm : Room} {ret : Option FieldType} {D : va_G} {y : ClassId × ClassId × ClassId} {z : Nat × Nat} {Q : O → State → Prop} {pc pc' : Nat} {lv : List (Option Value)} {st : List Value} {q qr : Nat → Nat} {Y : St × St} (hX : OKX X cc own rm ret D y) {F : Option O} {i : Int} (hd : decode cc pc = .ok (.iaload, 1)) (hp : pc + 1 = pc') (kk : GF X cc D z Q F pc' lv (.int (iz (Y.1.2 7 i.toNat)) :: st) (wS y q qr Y)) : GF X cc D z Q (bd i 16 F) pc lv (.int (iz i) :: .ref (q 7) :: st) (wS y q qr Y) := g_iald hX 7 rfl (by decide) hd hp kk
set_option maxRecDepth 100000 in
theorem ge_S_X2_68_S {O : Type} {X : Cx} {cc : ByteArray} {rm : Room} {ret : Option FieldType} {D : va_G} {y : ClassId × ClassId × ClassId} {z : Nat × Nat} {Q : O → State → Prop} {pc pc' : Nat} {lv : List (Option Value)} {st : List Value} {q qr : Nat → Nat} {Y : St × St} (hX : OKX X cc RX2 rm ret D y) {F : Option O} (hd : decode cc pc = .ok (.getfield 68, 3)) (hp : pc + 3 = pc') (kk : GF X cc D z Q F pc' lv (.int (iz (Y.1.1 16)) :: st) (wS y q qr Y)) : GF X cc D z Q F pc lv (.ref (q 0) :: st) (wS y q qr Y) := g_get hX 0 16 in_X2 rfl rfl (by decide) mf_X2_68 rfl hd hp kk
set_option maxRecDepth 100000 in
theorem ge_S_X2_109_R {O : Type} {X : Cx} {cc : ByteArray} {rm : Room} {ret : Option FieldType} {D : va_G} {y : ClassId × ClassId × ClassId} {z : Nat × Nat} {Q : O → State → Prop} {pc pc' : Nat} {lv : List (Option Value)} {st : List Value} {q qr : Nat → Nat} {Y : St × St} (hX : OKX X cc RX2 rm ret D y) {F : Option O} (hd : decode cc pc = .ok (.getfield 109, 3)) (hp : pc + 3 = pc') (kk : GF X cc D z Q F pc' lv (.ref (qr 2) :: st) (wS y q qr Y)) : GF X cc D z Q F pc lv (.ref (qr 0) :: st) (wS y q qr Y) := g_get hX 9 1 in_X1 rfl rfl (by decide) mf_X2_109 rfl hd hp kk
set_option maxRecDepth 100000 in
theorem al_S_R_1 {O : Type} {X : Cx} {cc : ByteArray} {own : String} {rm : Room} {ret : Option FieldType} {D : va_G} {y : ClassId × ClassId × ClassId} {z : Nat × Nat} {Q : O → State → Prop} {pc pc' : Nat} {lv : List (Option Value)} {st : List Value} {q qr : Nat → Nat} {Y : St × St} (hX : OKX X cc own rm ret D y) {F : Option O} {i : Int} (hd : decode cc pc = .ok (.iaload, 1)) (hp : pc + 1 = pc') (kk : GF X cc D z Q F pc' lv (.int (iz (Y.2.2 1 i.toNat)) :: st) (wS y q qr Y)) : GF X cc D z Q (bd i 16 F) pc lv (.int (iz i) :: .ref (qr 2) :: st) (wS y q qr Y) := g_iald hX 11 rfl (by decide) hd hp kk
set_option maxRecDepth 100000 in
theorem as_S_S_6 {O : Type} {X : Cx} {cc : ByteArray} {own : String} {rm : Room} {ret : Option FieldType} {D : va_G} {y : ClassId × ClassId × ClassId} {z : Nat × Nat} {Q : O → State → Prop} {pc pc' : Nat} {lv : List (Option Value)} {st : List Value} {q qr : Nat → Nat} {Y : St × St} (hX : OKX X cc own rm ret D y) {F : St × St → Option O} {i : Int} {x : Int} (hd : decode cc pc = .ok (.iastore, 1)) (hp : pc + 1 = pc') (k : ∀ Y1, GF X cc D z Q (F Y1) pc' lv st (wS y q qr Y1)) : GF X cc D z Q (bd i 16 (nm ((setA Y.1 6 i.toNat x, Y.2)) F)) pc lv (.int (iz x) :: .int (iz i) :: .ref (q 6) :: st) (wS y q qr Y) := g_iast (F := (nm ((setA Y.1 6 i.toNat x, Y.2)) F)) hX 6 rfl (by decide) rfl hd hp (k _)
set_option maxRecDepth 100000 in
theorem as_S_S_4 {O : Type} {X : Cx} {cc : ByteArray} {own : String} {rm : Room} {ret : Option FieldType} {D : va_G} {y : ClassId × ClassId × ClassId} {z : Nat × Nat} {Q : O → State → Prop} {pc pc' : Nat} {lv : List (Option Value)} {st : List Value} {q qr : Nat → Nat} {Y : St × St} (hX : OKX X cc own rm ret D y) {F : St × St → Option O} {i : Int} {x : Int} (hd : decode cc pc = .ok (.iastore, 1)) (hp : pc + 1 = pc') (k : ∀ Y1, GF X cc D z Q (F Y1) pc' lv st (wS y q qr Y1)) : GF X cc D z Q (bd i 16 (nm ((setA Y.1 4 i.toNat x, Y.2)) F)) pc lv (.int (iz x) :: .int (iz i) :: .ref (q 4) :: st) (wS y q qr Y) := g_iast (F := (nm ((setA Y.1 4 i.toNat x, Y.2)) F)) hX 4 rfl (by decide) rfl hd hp (k _)
set_option maxRecDepth 100000 in
theorem ge_S_X2_95_R {O : Type} {X : Cx} {cc : ByteArray} {rm : Room} {ret : Option FieldType} {D : va_G} {y : ClassId × ClassId × ClassId} {z : Nat × Nat} {Q : O → State → Prop} {pc pc' : Nat} {lv : List (Option Value)} {st : List Value} {q qr : Nat → Nat} {Y : St × St} (hX : OKX X cc RX2 rm ret D y) {F : Option O} (hd : decode cc pc = .ok (.getfield 95, 3)) (hp : pc + 3 = pc') (kk : GF X cc D z Q F pc' lv (.ref (qr 1) :: st) (wS y q qr Y)) : GF X cc D z Q F pc lv (.ref (qr 0) :: st) (wS y q qr Y) := g_get hX 9 0 in_X1 rfl rfl (by decide) mf_X2_95 rfl hd hp kk
set_option maxRecDepth 100000 in
theorem al_S_R_0 {O : Type} {X : Cx} {cc : ByteArray} {own : String} {rm : Room} {ret : Option FieldType} {D : va_G} {y : ClassId × ClassId × ClassId} {z : Nat × Nat} {Q : O → State → Prop} {pc pc' : Nat} {lv : List (Option Value)} {st : List Value} {q qr : Nat → Nat} {Y : St × St} (hX : OKX X cc own rm ret D y) {F : Option O} {i : Int} (hd : decode cc pc = .ok (.iaload, 1)) (hp : pc + 1 = pc') (kk : GF X cc D z Q F pc' lv (.int (iz (Y.2.2 0 i.toNat)) :: st) (wS y q qr Y)) : GF X cc D z Q (bd i 300 F) pc lv (.int (iz i) :: .ref (qr 1) :: st) (wS y q qr Y) := g_iald hX 10 rfl (by decide) hd hp kk
set_option maxRecDepth 100000 in
theorem pu_S_X2_87_S {O : Type} {X : Cx} {cc : ByteArray} {rm : Room} {ret : Option FieldType} {D : va_G} {y : ClassId × ClassId × ClassId} {z : Nat × Nat} {Q : O → State → Prop} {pc pc' : Nat} {lv : List (Option Value)} {st : List Value} {q qr : Nat → Nat} {Y : St × St} (hX : OKX X cc RX2 rm ret D y) {F : St × St → Option O} {a : Int} (hd : decode cc pc = .ok (.putfield 87, 3)) (hp : pc + 3 = pc') (k : ∀ Y1, GF X cc D z Q (F Y1) pc' lv st (wS y q qr Y1)) : GF X cc D z Q (cb a (nm ((setI Y.1 17 a, Y.2)) F)) pc lv (.int (iz a) :: .ref (q 0) :: st) (wS y q qr Y) := by
  intro o ho
  unfold cb at ho
  split at ho
  · next hz => exact g_put (F := (nm ((setI Y.1 17 a, Y.2)) F)) hX tyX2 0 17 in_X2 tyX2_ok nmX2 rfl rfl (by decide) mf_X2_87 rfl rfl (by rcases hz with rfl | rfl <;> decide) (by rcases hz with rfl | rfl <;> decide) rfl rfl hd hp (k _) o ho
  · cases ho
set_option maxRecDepth 100000 in
theorem ge_S_X2_87_S {O : Type} {X : Cx} {cc : ByteArray} {rm : Room} {ret : Option FieldType} {D : va_G} {y : ClassId × ClassId × ClassId} {z : Nat × Nat} {Q : O → State → Prop} {pc pc' : Nat} {lv : List (Option Value)} {st : List Value} {q qr : Nat → Nat} {Y : St × St} (hX : OKX X cc RX2 rm ret D y) {F : Option O} (hd : decode cc pc = .ok (.getfield 87, 3)) (hp : pc + 3 = pc') (kk : GF X cc D z Q F pc' lv (.int (iz (Y.1.1 17)) :: st) (wS y q qr Y)) : GF X cc D z Q F pc lv (.ref (q 0) :: st) (wS y q qr Y) := g_get hX 0 17 in_X2 rfl rfl (by decide) mf_X2_87 rfl hd hp kk
set_option maxRecDepth 100000 in
theorem ge_S_X2_80_R {O : Type} {X : Cx} {cc : ByteArray} {rm : Room} {ret : Option FieldType} {D : va_G} {y : ClassId × ClassId × ClassId} {z : Nat × Nat} {Q : O → State → Prop} {pc pc' : Nat} {lv : List (Option Value)} {st : List Value} {q qr : Nat → Nat} {Y : St × St} (hX : OKX X cc RX2 rm ret D y) {F : Option O} (hd : decode cc pc = .ok (.getfield 80, 3)) (hp : pc + 3 = pc') (kk : GF X cc D z Q F pc' lv (.int (iz (Y.2.1 4)) :: st) (wS y q qr Y)) : GF X cc D z Q F pc lv (.ref (qr 0) :: st) (wS y q qr Y) := g_get hX 9 4 in_X1 rfl rfl (by decide) mf_X2_80 rfl hd hp kk
set_option maxRecDepth 100000 in
theorem pu_J_X3_52_J {O : Type} {X : Cx} {cc : ByteArray} {rm : Room} {ret : Option FieldType} {D : va_G} {y : ClassId × ClassId × ClassId} {z : Nat × Nat} {Q : O → State → Prop} {pc pc' : Nat} {lv : List (Option Value)} {st : List Value} {q : Nat → Nat} {Y : St × St × St × St × St} (hX : OKX X cc RX3 rm ret D y) {F : St × St × St × St × St → Option O} {a : Int} (hd : decode cc pc = .ok (.putfield 52, 3)) (hp : pc + 3 = pc') (k : ∀ Y1, GF X cc D z Q (F Y1) pc' lv st (wJ y q Y1)) : GF X cc D z Q (cb a (nm ((setI Y.1 11 a, Y.2)) F)) pc lv (.int (iz a) :: .ref (q 0) :: st) (wJ y q Y) := by
  intro o ho
  unfold cb at ho
  split at ho
  · next hz => exact g_put (F := (nm ((setI Y.1 11 a, Y.2)) F)) hX tyX3 0 11 in_X3 tyX3_ok nmX3 rfl rfl (by decide) mf_X3_52 rfl rfl (by rcases hz with rfl | rfl <;> decide) (by rcases hz with rfl | rfl <;> decide) rfl rfl hd hp (k _) o ho
  · cases ho
set_option maxRecDepth 100000 in
theorem ge_J_X3_31_J {O : Type} {X : Cx} {cc : ByteArray} {rm : Room} {ret : Option FieldType} {D : va_G} {y : ClassId × ClassId × ClassId} {z : Nat × Nat} {Q : O → State → Prop} {pc pc' : Nat} {lv : List (Option Value)} {st : List Value} {q : Nat → Nat} {Y : St × St × St × St × St} (hX : OKX X cc RX3 rm ret D y) {F : Option O} (hd : decode cc pc = .ok (.getfield 31, 3)) (hp : pc + 3 = pc') (kk : GF X cc D z Q F pc' lv (.ref (q 28) :: st) (wJ y q Y)) : GF X cc D z Q F pc lv (.ref (q 0) :: st) (wJ y q Y) := g_get hX 0 3 in_X3 rfl rfl (by decide) mf_X3_31 rfl hd hp kk
set_option maxRecDepth 100000 in
theorem pu_J_X3_163_T {O : Type} {X : Cx} {cc : ByteArray} {rm : Room} {ret : Option FieldType} {D : va_G} {y : ClassId × ClassId × ClassId} {z : Nat × Nat} {Q : O → State → Prop} {pc pc' : Nat} {lv : List (Option Value)} {st : List Value} {q : Nat → Nat} {Y : St × St × St × St × St} (hX : OKX X cc RX3 rm ret D y) {F : St × St × St × St × St → Option O} {a : Int} (hd : decode cc pc = .ok (.putfield 163, 3)) (hp : pc + 3 = pc') (k : ∀ Y1, GF X cc D z Q (F Y1) pc' lv st (wJ y q Y1)) : GF X cc D z Q (nm ((Y.1, Y.2.1, Y.2.2.1, Y.2.2.2.1, setI Y.2.2.2.2 10 a)) F) pc lv (.int (iz a) :: .ref (q 28) :: st) (wJ y q Y) := g_put (F := (nm ((Y.1, Y.2.1, Y.2.2.1, Y.2.2.2.1, setI Y.2.2.2.2 10 a)) F)) hX tyX0 28 10 in_X0 tyX0_ok nmX0 rfl rfl (by decide) mf_X3_163 rfl rfl rfl rfl rfl rfl hd hp (k _)
set_option maxRecDepth 100000 in
theorem ge_J_X3_10_J {O : Type} {X : Cx} {cc : ByteArray} {rm : Room} {ret : Option FieldType} {D : va_G} {y : ClassId × ClassId × ClassId} {z : Nat × Nat} {Q : O → State → Prop} {pc pc' : Nat} {lv : List (Option Value)} {st : List Value} {q : Nat → Nat} {Y : St × St × St × St × St} (hX : OKX X cc RX3 rm ret D y) {F : Option O} (hd : decode cc pc = .ok (.getfield 10, 3)) (hp : pc + 3 = pc') (kk : GF X cc D z Q F pc' lv (.ref (q 5) :: st) (wJ y q Y)) : GF X cc D z Q F pc lv (.ref (q 0) :: st) (wJ y q Y) := g_get hX 0 0 in_X3 rfl rfl (by decide) mf_X3_10 rfl hd hp kk
set_option maxRecDepth 100000 in
theorem ge_J_X3_60_R {O : Type} {X : Cx} {cc : ByteArray} {rm : Room} {ret : Option FieldType} {D : va_G} {y : ClassId × ClassId × ClassId} {z : Nat × Nat} {Q : O → State → Prop} {pc pc' : Nat} {lv : List (Option Value)} {st : List Value} {q : Nat → Nat} {Y : St × St × St × St × St} (hX : OKX X cc RX3 rm ret D y) {F : Option O} (hd : decode cc pc = .ok (.getfield 60, 3)) (hp : pc + 3 = pc') (kk : GF X cc D z Q F pc' lv (.ref (q 7) :: st) (wJ y q Y)) : GF X cc D z Q F pc lv (.ref (q 5) :: st) (wJ y q Y) := g_get hX 5 1 in_X1 rfl rfl (by decide) mf_X3_60 rfl hd hp kk
set_option maxRecDepth 100000 in
theorem as_J_R_1 {O : Type} {X : Cx} {cc : ByteArray} {own : String} {rm : Room} {ret : Option FieldType} {D : va_G} {y : ClassId × ClassId × ClassId} {z : Nat × Nat} {Q : O → State → Prop} {pc pc' : Nat} {lv : List (Option Value)} {st : List Value} {q : Nat → Nat} {Y : St × St × St × St × St} (hX : OKX X cc own rm ret D y) {F : St × St × St × St × St → Option O} {i : Int} {x : Int} (hd : decode cc pc = .ok (.iastore, 1)) (hp : pc + 1 = pc') (k : ∀ Y1, GF X cc D z Q (F Y1) pc' lv st (wJ y q Y1)) : GF X cc D z Q (bd i 16 (nm ((Y.1, setA Y.2.1 1 i.toNat x, Y.2.2)) F)) pc lv (.int (iz x) :: .int (iz i) :: .ref (q 7) :: st) (wJ y q Y) := g_iast (F := (nm ((Y.1, setA Y.2.1 1 i.toNat x, Y.2.2)) F)) hX 7 rfl (by decide) rfl hd hp (k _)
set_option maxRecDepth 100000 in
theorem ge_J_X3_66_R {O : Type} {X : Cx} {cc : ByteArray} {rm : Room} {ret : Option FieldType} {D : va_G} {y : ClassId × ClassId × ClassId} {z : Nat × Nat} {Q : O → State → Prop} {pc pc' : Nat} {lv : List (Option Value)} {st : List Value} {q : Nat → Nat} {Y : St × St × St × St × St} (hX : OKX X cc RX3 rm ret D y) {F : Option O} (hd : decode cc pc = .ok (.getfield 66, 3)) (hp : pc + 3 = pc') (kk : GF X cc D z Q F pc' lv (.int (iz (Y.2.1.1 4)) :: st) (wJ y q Y)) : GF X cc D z Q F pc lv (.ref (q 5) :: st) (wJ y q Y) := g_get hX 5 4 in_X1 rfl rfl (by decide) mf_X3_66 rfl hd hp kk
set_option maxRecDepth 100000 in
theorem ge_J_X3_35_J {O : Type} {X : Cx} {cc : ByteArray} {rm : Room} {ret : Option FieldType} {D : va_G} {y : ClassId × ClassId × ClassId} {z : Nat × Nat} {Q : O → State → Prop} {pc pc' : Nat} {lv : List (Option Value)} {st : List Value} {q : Nat → Nat} {Y : St × St × St × St × St} (hX : OKX X cc RX3 rm ret D y) {F : Option O} (hd : decode cc pc = .ok (.getfield 35, 3)) (hp : pc + 3 = pc') (kk : GF X cc D z Q F pc' lv (.ref (q 1) :: st) (wJ y q Y)) : GF X cc D z Q F pc lv (.ref (q 0) :: st) (wJ y q Y) := g_get hX 0 4 in_X3 rfl rfl (by decide) mf_X3_35 rfl hd hp kk
set_option maxRecDepth 100000 in
theorem al_J_J_4 {O : Type} {X : Cx} {cc : ByteArray} {own : String} {rm : Room} {ret : Option FieldType} {D : va_G} {y : ClassId × ClassId × ClassId} {z : Nat × Nat} {Q : O → State → Prop} {pc pc' : Nat} {lv : List (Option Value)} {st : List Value} {q : Nat → Nat} {Y : St × St × St × St × St} (hX : OKX X cc own rm ret D y) {F : Option O} {i : Int} (hd : decode cc pc = .ok (.iaload, 1)) (hp : pc + 1 = pc') (kk : GF X cc D z Q F pc' lv (.int (iz (Y.1.2 4 i.toNat)) :: st) (wJ y q Y)) : GF X cc D z Q (bd i 5 F) pc lv (.int (iz i) :: .ref (q 1) :: st) (wJ y q Y) := g_iald hX 1 rfl (by decide) hd hp kk
set_option maxRecDepth 100000 in
theorem as_J_J_4 {O : Type} {X : Cx} {cc : ByteArray} {own : String} {rm : Room} {ret : Option FieldType} {D : va_G} {y : ClassId × ClassId × ClassId} {z : Nat × Nat} {Q : O → State → Prop} {pc pc' : Nat} {lv : List (Option Value)} {st : List Value} {q : Nat → Nat} {Y : St × St × St × St × St} (hX : OKX X cc own rm ret D y) {F : St × St × St × St × St → Option O} {i : Int} {x : Int} (hd : decode cc pc = .ok (.iastore, 1)) (hp : pc + 1 = pc') (k : ∀ Y1, GF X cc D z Q (F Y1) pc' lv st (wJ y q Y1)) : GF X cc D z Q (bd i 5 (nm ((setA Y.1 4 i.toNat x, Y.2)) F)) pc lv (.int (iz x) :: .int (iz i) :: .ref (q 1) :: st) (wJ y q Y) := g_iast (F := (nm ((setA Y.1 4 i.toNat x, Y.2)) F)) hX 1 rfl (by decide) rfl hd hp (k _)
set_option maxRecDepth 100000 in
theorem ge_J_X3_77_R {O : Type} {X : Cx} {cc : ByteArray} {rm : Room} {ret : Option FieldType} {D : va_G} {y : ClassId × ClassId × ClassId} {z : Nat × Nat} {Q : O → State → Prop} {pc pc' : Nat} {lv : List (Option Value)} {st : List Value} {q : Nat → Nat} {Y : St × St × St × St × St} (hX : OKX X cc RX3 rm ret D y) {F : Option O} (hd : decode cc pc = .ok (.getfield 77, 3)) (hp : pc + 3 = pc') (kk : GF X cc D z Q F pc' lv (.ref (q 6) :: st) (wJ y q Y)) : GF X cc D z Q F pc lv (.ref (q 5) :: st) (wJ y q Y) := g_get hX 5 0 in_X1 rfl rfl (by decide) mf_X3_77 rfl hd hp kk
set_option maxRecDepth 100000 in
theorem as_J_R_0 {O : Type} {X : Cx} {cc : ByteArray} {own : String} {rm : Room} {ret : Option FieldType} {D : va_G} {y : ClassId × ClassId × ClassId} {z : Nat × Nat} {Q : O → State → Prop} {pc pc' : Nat} {lv : List (Option Value)} {st : List Value} {q : Nat → Nat} {Y : St × St × St × St × St} (hX : OKX X cc own rm ret D y) {F : St × St × St × St × St → Option O} {i : Int} {x : Int} (hd : decode cc pc = .ok (.iastore, 1)) (hp : pc + 1 = pc') (k : ∀ Y1, GF X cc D z Q (F Y1) pc' lv st (wJ y q Y1)) : GF X cc D z Q (bd i 300 (nm ((Y.1, setA Y.2.1 0 i.toNat x, Y.2.2)) F)) pc lv (.int (iz x) :: .int (iz i) :: .ref (q 6) :: st) (wJ y q Y) := g_iast (F := (nm ((Y.1, setA Y.2.1 0 i.toNat x, Y.2.2)) F)) hX 6 rfl (by decide) rfl hd hp (k _)
set_option maxRecDepth 100000 in
theorem pu_J_X3_66_R {O : Type} {X : Cx} {cc : ByteArray} {rm : Room} {ret : Option FieldType} {D : va_G} {y : ClassId × ClassId × ClassId} {z : Nat × Nat} {Q : O → State → Prop} {pc pc' : Nat} {lv : List (Option Value)} {st : List Value} {q : Nat → Nat} {Y : St × St × St × St × St} (hX : OKX X cc RX3 rm ret D y) {F : St × St × St × St × St → Option O} {a : Int} (hd : decode cc pc = .ok (.putfield 66, 3)) (hp : pc + 3 = pc') (k : ∀ Y1, GF X cc D z Q (F Y1) pc' lv st (wJ y q Y1)) : GF X cc D z Q (nm ((Y.1, setI Y.2.1 4 a, Y.2.2)) F) pc lv (.int (iz a) :: .ref (q 5) :: st) (wJ y q Y) := g_put (F := (nm ((Y.1, setI Y.2.1 4 a, Y.2.2)) F)) hX tyX1 5 4 in_X1 tyX1_ok nmX1 rfl rfl (by decide) mf_X3_66 rfl rfl rfl rfl rfl rfl hd hp (k _)
set_option maxRecDepth 100000 in
theorem al_J_R_0 {O : Type} {X : Cx} {cc : ByteArray} {own : String} {rm : Room} {ret : Option FieldType} {D : va_G} {y : ClassId × ClassId × ClassId} {z : Nat × Nat} {Q : O → State → Prop} {pc pc' : Nat} {lv : List (Option Value)} {st : List Value} {q : Nat → Nat} {Y : St × St × St × St × St} (hX : OKX X cc own rm ret D y) {F : Option O} {i : Int} (hd : decode cc pc = .ok (.iaload, 1)) (hp : pc + 1 = pc') (kk : GF X cc D z Q F pc' lv (.int (iz (Y.2.1.2 0 i.toNat)) :: st) (wJ y q Y)) : GF X cc D z Q (bd i 300 F) pc lv (.int (iz i) :: .ref (q 6) :: st) (wJ y q Y) := g_iald hX 6 rfl (by decide) hd hp kk
set_option maxRecDepth 100000 in
theorem ge_J_X3_48_J {O : Type} {X : Cx} {cc : ByteArray} {rm : Room} {ret : Option FieldType} {D : va_G} {y : ClassId × ClassId × ClassId} {z : Nat × Nat} {Q : O → State → Prop} {pc pc' : Nat} {lv : List (Option Value)} {st : List Value} {q : Nat → Nat} {Y : St × St × St × St × St} (hX : OKX X cc RX3 rm ret D y) {F : Option O} (hd : decode cc pc = .ok (.getfield 48, 3)) (hp : pc + 3 = pc') (kk : GF X cc D z Q F pc' lv (.int (iz (Y.1.1 8)) :: st) (wJ y q Y)) : GF X cc D z Q F pc lv (.ref (q 0) :: st) (wJ y q Y) := g_get hX 0 8 in_X3 rfl rfl (by decide) mf_X3_48 rfl hd hp kk
set_option maxRecDepth 100000 in
theorem ge_J_X3_97_J {O : Type} {X : Cx} {cc : ByteArray} {rm : Room} {ret : Option FieldType} {D : va_G} {y : ClassId × ClassId × ClassId} {z : Nat × Nat} {Q : O → State → Prop} {pc pc' : Nat} {lv : List (Option Value)} {st : List Value} {q : Nat → Nat} {Y : St × St × St × St × St} (hX : OKX X cc RX3 rm ret D y) {F : Option O} (hd : decode cc pc = .ok (.getfield 97, 3)) (hp : pc + 3 = pc') (kk : GF X cc D z Q F pc' lv (.int (iz (Y.1.1 9)) :: st) (wJ y q Y)) : GF X cc D z Q F pc lv (.ref (q 0) :: st) (wJ y q Y) := g_get hX 0 9 in_X3 rfl rfl (by decide) mf_X3_97 rfl hd hp kk
set_option maxRecDepth 100000 in
theorem as_J_J_6 {O : Type} {X : Cx} {cc : ByteArray} {own : String} {rm : Room} {ret : Option FieldType} {D : va_G} {y : ClassId × ClassId × ClassId} {z : Nat × Nat} {Q : O → State → Prop} {pc pc' : Nat} {lv : List (Option Value)} {st : List Value} {q : Nat → Nat} {Y : St × St × St × St × St} (hX : OKX X cc own rm ret D y) {F : St × St × St × St × St → Option O} {i : Int} {x : Int} (hd : decode cc pc = .ok (.iastore, 1)) (hp : pc + 1 = pc') (k : ∀ Y1, GF X cc D z Q (F Y1) pc' lv st (wJ y q Y1)) : GF X cc D z Q (bd i 300 (nm ((setA Y.1 6 i.toNat x, Y.2)) F)) pc lv (.int (iz x) :: .int (iz i) :: .ref (q 3) :: st) (wJ y q Y) := g_iast (F := (nm ((setA Y.1 6 i.toNat x, Y.2)) F)) hX 3 rfl (by decide) rfl hd hp (k _)
set_option maxRecDepth 100000 in
theorem ge_J_X3_21_J {O : Type} {X : Cx} {cc : ByteArray} {rm : Room} {ret : Option FieldType} {D : va_G} {y : ClassId × ClassId × ClassId} {z : Nat × Nat} {Q : O → State → Prop} {pc pc' : Nat} {lv : List (Option Value)} {st : List Value} {q : Nat → Nat} {Y : St × St × St × St × St} (hX : OKX X cc RX3 rm ret D y) {F : Option O} (hd : decode cc pc = .ok (.getfield 21, 3)) (hp : pc + 3 = pc') (kk : GF X cc D z Q F pc' lv (.ref (q 10) :: st) (wJ y q Y)) : GF X cc D z Q F pc lv (.ref (q 0) :: st) (wJ y q Y) := g_get hX 0 1 in_X3 rfl rfl (by decide) mf_X3_21 rfl hd hp kk
set_option maxRecDepth 100000 in
theorem ge_J_X3_106_U {O : Type} {X : Cx} {cc : ByteArray} {rm : Room} {ret : Option FieldType} {D : va_G} {y : ClassId × ClassId × ClassId} {z : Nat × Nat} {Q : O → State → Prop} {pc pc' : Nat} {lv : List (Option Value)} {st : List Value} {q : Nat → Nat} {Y : St × St × St × St × St} (hX : OKX X cc RX3 rm ret D y) {F : Option O} (hd : decode cc pc = .ok (.getfield 106, 3)) (hp : pc + 3 = pc') (kk : GF X cc D z Q F pc' lv (.int (iz (Y.2.2.1.1 17)) :: st) (wJ y q Y)) : GF X cc D z Q F pc lv (.ref (q 10) :: st) (wJ y q Y) := g_get hX 10 17 in_X2 rfl rfl (by decide) mf_X3_106 rfl hd hp kk
set_option maxRecDepth 100000 in
theorem pu_J_X3_97_J {O : Type} {X : Cx} {cc : ByteArray} {rm : Room} {ret : Option FieldType} {D : va_G} {y : ClassId × ClassId × ClassId} {z : Nat × Nat} {Q : O → State → Prop} {pc pc' : Nat} {lv : List (Option Value)} {st : List Value} {q : Nat → Nat} {Y : St × St × St × St × St} (hX : OKX X cc RX3 rm ret D y) {F : St × St × St × St × St → Option O} {a : Int} (hd : decode cc pc = .ok (.putfield 97, 3)) (hp : pc + 3 = pc') (k : ∀ Y1, GF X cc D z Q (F Y1) pc' lv st (wJ y q Y1)) : GF X cc D z Q (nm ((setI Y.1 9 a, Y.2)) F) pc lv (.int (iz a) :: .ref (q 0) :: st) (wJ y q Y) := g_put (F := (nm ((setI Y.1 9 a, Y.2)) F)) hX tyX3 0 9 in_X3 tyX3_ok nmX3 rfl rfl (by decide) mf_X3_97 rfl rfl rfl rfl rfl rfl hd hp (k _)
set_option maxRecDepth 100000 in
theorem ge_J_X3_100_J {O : Type} {X : Cx} {cc : ByteArray} {rm : Room} {ret : Option FieldType} {D : va_G} {y : ClassId × ClassId × ClassId} {z : Nat × Nat} {Q : O → State → Prop} {pc pc' : Nat} {lv : List (Option Value)} {st : List Value} {q : Nat → Nat} {Y : St × St × St × St × St} (hX : OKX X cc RX3 rm ret D y) {F : Option O} (hd : decode cc pc = .ok (.getfield 100, 3)) (hp : pc + 3 = pc') (kk : GF X cc D z Q F pc' lv (.int (iz (Y.1.1 10)) :: st) (wJ y q Y)) : GF X cc D z Q F pc lv (.ref (q 0) :: st) (wJ y q Y) := g_get hX 0 10 in_X3 rfl rfl (by decide) mf_X3_100 rfl hd hp kk
set_option maxRecDepth 100000 in
theorem pu_J_X3_100_J {O : Type} {X : Cx} {cc : ByteArray} {rm : Room} {ret : Option FieldType} {D : va_G} {y : ClassId × ClassId × ClassId} {z : Nat × Nat} {Q : O → State → Prop} {pc pc' : Nat} {lv : List (Option Value)} {st : List Value} {q : Nat → Nat} {Y : St × St × St × St × St} (hX : OKX X cc RX3 rm ret D y) {F : St × St × St × St × St → Option O} {a : Int} (hd : decode cc pc = .ok (.putfield 100, 3)) (hp : pc + 3 = pc') (k : ∀ Y1, GF X cc D z Q (F Y1) pc' lv st (wJ y q Y1)) : GF X cc D z Q (nm ((setI Y.1 10 a, Y.2)) F) pc lv (.int (iz a) :: .ref (q 0) :: st) (wJ y q Y) := g_put (F := (nm ((setI Y.1 10 a, Y.2)) F)) hX tyX3 0 10 in_X3 tyX3_ok nmX3 rfl rfl (by decide) mf_X3_100 rfl rfl rfl rfl rfl rfl hd hp (k _)
set_option maxRecDepth 100000 in
theorem ge_J_X3_45_J {O : Type} {X : Cx} {cc : ByteArray} {rm : Room} {ret : Option FieldType} {D : va_G} {y : ClassId × ClassId × ClassId} {z : Nat × Nat} {Q : O → State → Prop} {pc pc' : Nat} {lv : List (Option Value)} {st : List Value} {q : Nat → Nat} {Y : St × St × St × St × St} (hX : OKX X cc RX3 rm ret D y) {F : Option O} (hd : decode cc pc = .ok (.getfield 45, 3)) (hp : pc + 3 = pc') (kk : GF X cc D z Q F pc' lv (.ref (q 4) :: st) (wJ y q Y)) : GF X cc D z Q F pc lv (.ref (q 0) :: st) (wJ y q Y) := g_get hX 0 7 in_X3 rfl rfl (by decide) mf_X3_45 rfl hd hp kk
set_option maxRecDepth 100000 in
theorem as_J_J_7 {O : Type} {X : Cx} {cc : ByteArray} {own : String} {rm : Room} {ret : Option FieldType} {D : va_G} {y : ClassId × ClassId × ClassId} {z : Nat × Nat} {Q : O → State → Prop} {pc pc' : Nat} {lv : List (Option Value)} {st : List Value} {q : Nat → Nat} {Y : St × St × St × St × St} (hX : OKX X cc own rm ret D y) {F : St × St × St × St × St → Option O} {i : Int} {x : Int} (hd : decode cc pc = .ok (.iastore, 1)) (hp : pc + 1 = pc') (k : ∀ Y1, GF X cc D z Q (F Y1) pc' lv st (wJ y q Y1)) : GF X cc D z Q (bd i 300 (nm ((setA Y.1 7 i.toNat x, Y.2)) F)) pc lv (.int (iz x) :: .int (iz i) :: .ref (q 4) :: st) (wJ y q Y) := g_iast (F := (nm ((setA Y.1 7 i.toNat x, Y.2)) F)) hX 4 rfl (by decide) rfl hd hp (k _)
set_option maxRecDepth 100000 in
theorem ge_J_X3_42_J {O : Type} {X : Cx} {cc : ByteArray} {rm : Room} {ret : Option FieldType} {D : va_G} {y : ClassId × ClassId × ClassId} {z : Nat × Nat} {Q : O → State → Prop} {pc pc' : Nat} {lv : List (Option Value)} {st : List Value} {q : Nat → Nat} {Y : St × St × St × St × St} (hX : OKX X cc RX3 rm ret D y) {F : Option O} (hd : decode cc pc = .ok (.getfield 42, 3)) (hp : pc + 3 = pc') (kk : GF X cc D z Q F pc' lv (.ref (q 3) :: st) (wJ y q Y)) : GF X cc D z Q F pc lv (.ref (q 0) :: st) (wJ y q Y) := g_get hX 0 6 in_X3 rfl rfl (by decide) mf_X3_42 rfl hd hp kk
set_option maxRecDepth 100000 in
theorem ge_J_X3_52_J {O : Type} {X : Cx} {cc : ByteArray} {rm : Room} {ret : Option FieldType} {D : va_G} {y : ClassId × ClassId × ClassId} {z : Nat × Nat} {Q : O → State → Prop} {pc pc' : Nat} {lv : List (Option Value)} {st : List Value} {q : Nat → Nat} {Y : St × St × St × St × St} (hX : OKX X cc RX3 rm ret D y) {F : Option O} (hd : decode cc pc = .ok (.getfield 52, 3)) (hp : pc + 3 = pc') (kk : GF X cc D z Q F pc' lv (.int (iz (Y.1.1 11)) :: st) (wJ y q Y)) : GF X cc D z Q F pc lv (.ref (q 0) :: st) (wJ y q Y) := g_get hX 0 11 in_X3 rfl rfl (by decide) mf_X3_52 rfl hd hp kk
set_option maxRecDepth 100000 in
theorem al_J_J_6 {O : Type} {X : Cx} {cc : ByteArray} {own : String} {rm : Room} {ret : Option FieldType} {D : va_G} {y : ClassId × ClassId × ClassId} {z : Nat × Nat} {Q : O → State → Prop} {pc pc' : Nat} {lv : List (Option Value)} {st : List Value} {q : Nat → Nat} {Y : St × St × St × St × St} (hX : OKX X cc own rm ret D y) {F : Option O} {i : Int} (hd : decode cc pc = .ok (.iaload, 1)) (hp : pc + 1 = pc') (kk : GF X cc D z Q F pc' lv (.int (iz (Y.1.2 6 i.toNat)) :: st) (wJ y q Y)) : GF X cc D z Q (bd i 300 F) pc lv (.int (iz i) :: .ref (q 3) :: st) (wJ y q Y) := g_iald hX 3 rfl (by decide) hd hp kk
set_option maxRecDepth 100000 in
theorem al_J_J_7 {O : Type} {X : Cx} {cc : ByteArray} {own : String} {rm : Room} {ret : Option FieldType} {D : va_G} {y : ClassId × ClassId × ClassId} {z : Nat × Nat} {Q : O → State → Prop} {pc pc' : Nat} {lv : List (Option Value)} {st : List Value} {q : Nat → Nat} {Y : St × St × St × St × St} (hX : OKX X cc own rm ret D y) {F : Option O} {i : Int} (hd : decode cc pc = .ok (.iaload, 1)) (hp : pc + 1 = pc') (kk : GF X cc D z Q F pc' lv (.int (iz (Y.1.2 7 i.toNat)) :: st) (wJ y q Y)) : GF X cc D z Q (bd i 300 F) pc lv (.int (iz i) :: .ref (q 4) :: st) (wJ y q Y) := g_iald hX 4 rfl (by decide) hd hp kk
set_option maxRecDepth 100000 in
theorem ge_J_X3_25_J {O : Type} {X : Cx} {cc : ByteArray} {rm : Room} {ret : Option FieldType} {D : va_G} {y : ClassId × ClassId × ClassId} {z : Nat × Nat} {Q : O → State → Prop} {pc pc' : Nat} {lv : List (Option Value)} {st : List Value} {q : Nat → Nat} {Y : St × St × St × St × St} (hX : OKX X cc RX3 rm ret D y) {F : Option O} (hd : decode cc pc = .ok (.getfield 25, 3)) (hp : pc + 3 = pc') (kk : GF X cc D z Q F pc' lv (.ref (q 19) :: st) (wJ y q Y)) : GF X cc D z Q F pc lv (.ref (q 0) :: st) (wJ y q Y) := g_get hX 0 2 in_X3 rfl rfl (by decide) mf_X3_25 rfl hd hp kk
set_option maxRecDepth 100000 in
theorem ge_J_X3_138_T {O : Type} {X : Cx} {cc : ByteArray} {rm : Room} {ret : Option FieldType} {D : va_G} {y : ClassId × ClassId × ClassId} {z : Nat × Nat} {Q : O → State → Prop} {pc pc' : Nat} {lv : List (Option Value)} {st : List Value} {q : Nat → Nat} {Y : St × St × St × St × St} (hX : OKX X cc RX3 rm ret D y) {F : Option O} (hd : decode cc pc = .ok (.getfield 138, 3)) (hp : pc + 3 = pc') (kk : GF X cc D z Q F pc' lv (.int (iz (Y.2.2.2.2.1 11)) :: st) (wJ y q Y)) : GF X cc D z Q F pc lv (.ref (q 28) :: st) (wJ y q Y) := g_get hX 28 11 in_X0 rfl rfl (by decide) mf_X3_138 rfl hd hp kk
set_option maxRecDepth 100000 in
theorem ge_J_X3_141_T {O : Type} {X : Cx} {cc : ByteArray} {rm : Room} {ret : Option FieldType} {D : va_G} {y : ClassId × ClassId × ClassId} {z : Nat × Nat} {Q : O → State → Prop} {pc pc' : Nat} {lv : List (Option Value)} {st : List Value} {q : Nat → Nat} {Y : St × St × St × St × St} (hX : OKX X cc RX3 rm ret D y) {F : Option O} (hd : decode cc pc = .ok (.getfield 141, 3)) (hp : pc + 3 = pc') (kk : GF X cc D z Q F pc' lv (.ref (q 35) :: st) (wJ y q Y)) : GF X cc D z Q F pc lv (.ref (q 28) :: st) (wJ y q Y) := g_get hX 28 7 in_X0 rfl rfl (by decide) mf_X3_141 rfl hd hp kk
set_option maxRecDepth 100000 in
theorem al_J_T_7 {O : Type} {X : Cx} {cc : ByteArray} {own : String} {rm : Room} {ret : Option FieldType} {D : va_G} {y : ClassId × ClassId × ClassId} {z : Nat × Nat} {Q : O → State → Prop} {pc pc' : Nat} {lv : List (Option Value)} {st : List Value} {q : Nat → Nat} {Y : St × St × St × St × St} (hX : OKX X cc own rm ret D y) {F : Option O} {i : Int} (hd : decode cc pc = .ok (.iaload, 1)) (hp : pc + 1 = pc') (kk : GF X cc D z Q F pc' lv (.int (iz (Y.2.2.2.2.2 7 i.toNat)) :: st) (wJ y q Y)) : GF X cc D z Q (bd i 300 F) pc lv (.int (iz i) :: .ref (q 35) :: st) (wJ y q Y) := g_iald hX 35 rfl (by decide) hd hp kk
set_option maxRecDepth 100000 in
theorem ge_J_X3_39_J {O : Type} {X : Cx} {cc : ByteArray} {rm : Room} {ret : Option FieldType} {D : va_G} {y : ClassId × ClassId × ClassId} {z : Nat × Nat} {Q : O → State → Prop} {pc pc' : Nat} {lv : List (Option Value)} {st : List Value} {q : Nat → Nat} {Y : St × St × St × St × St} (hX : OKX X cc RX3 rm ret D y) {F : Option O} (hd : decode cc pc = .ok (.getfield 39, 3)) (hp : pc + 3 = pc') (kk : GF X cc D z Q F pc' lv (.ref (q 2) :: st) (wJ y q Y)) : GF X cc D z Q F pc lv (.ref (q 0) :: st) (wJ y q Y) := g_get hX 0 5 in_X3 rfl rfl (by decide) mf_X3_39 rfl hd hp kk
set_option maxRecDepth 100000 in
theorem as_J_J_5 {O : Type} {X : Cx} {cc : ByteArray} {own : String} {rm : Room} {ret : Option FieldType} {D : va_G} {y : ClassId × ClassId × ClassId} {z : Nat × Nat} {Q : O → State → Prop} {pc pc' : Nat} {lv : List (Option Value)} {st : List Value} {q : Nat → Nat} {Y : St × St × St × St × St} (hX : OKX X cc own rm ret D y) {F : St × St × St × St × St → Option O} {i : Int} {x : Int} (hd : decode cc pc = .ok (.iastore, 1)) (hp : pc + 1 = pc') (k : ∀ Y1, GF X cc D z Q (F Y1) pc' lv st (wJ y q Y1)) : GF X cc D z Q (bd i 300 (nm ((setA Y.1 5 i.toNat x, Y.2)) F)) pc lv (.int (iz x) :: .int (iz i) :: .ref (q 2) :: st) (wJ y q Y) := g_iast (F := (nm ((setA Y.1 5 i.toNat x, Y.2)) F)) hX 2 rfl (by decide) rfl hd hp (k _)
set_option maxRecDepth 100000 in
theorem pu_J_X3_48_J {O : Type} {X : Cx} {cc : ByteArray} {rm : Room} {ret : Option FieldType} {D : va_G} {y : ClassId × ClassId × ClassId} {z : Nat × Nat} {Q : O → State → Prop} {pc pc' : Nat} {lv : List (Option Value)} {st : List Value} {q : Nat → Nat} {Y : St × St × St × St × St} (hX : OKX X cc RX3 rm ret D y) {F : St × St × St × St × St → Option O} {a : Int} (hd : decode cc pc = .ok (.putfield 48, 3)) (hp : pc + 3 = pc') (k : ∀ Y1, GF X cc D z Q (F Y1) pc' lv st (wJ y q Y1)) : GF X cc D z Q (nm ((setI Y.1 8 a, Y.2)) F) pc lv (.int (iz a) :: .ref (q 0) :: st) (wJ y q Y) := g_put (F := (nm ((setI Y.1 8 a, Y.2)) F)) hX tyX3 0 8 in_X3 tyX3_ok nmX3 rfl rfl (by decide) mf_X3_48 rfl rfl rfl rfl rfl rfl hd hp (k _)
set_option maxRecDepth 100000 in
theorem al_J_J_5 {O : Type} {X : Cx} {cc : ByteArray} {own : String} {rm : Room} {ret : Option FieldType} {D : va_G} {y : ClassId × ClassId × ClassId} {z : Nat × Nat} {Q : O → State → Prop} {pc pc' : Nat} {lv : List (Option Value)} {st : List Value} {q : Nat → Nat} {Y : St × St × St × St × St} (hX : OKX X cc own rm ret D y) {F : Option O} {i : Int} (hd : decode cc pc = .ok (.iaload, 1)) (hp : pc + 1 = pc') (kk : GF X cc D z Q F pc' lv (.int (iz (Y.1.2 5 i.toNat)) :: st) (wJ y q Y)) : GF X cc D z Q (bd i 300 F) pc lv (.int (iz i) :: .ref (q 2) :: st) (wJ y q Y) := g_iald hX 2 rfl (by decide) hd hp kk
set_option maxRecDepth 100000 in
theorem ge_M_X4_73_M {O : Type} {X : Cx} {cc : ByteArray} {rm : Room} {ret : Option FieldType} {D : va_G} {y : ClassId × ClassId × ClassId} {z : Nat × Nat} {Q : O → State → Prop} {pc pc' : Nat} {lv : List (Option Value)} {st : List Value} {q : Nat → Nat} {Y : St} (hX : OKX X cc RX4 rm ret D y) {F : Option O} (hd : decode cc pc = .ok (.getfield 73, 3)) (hp : pc + 3 = pc') (kk : GF X cc D z Q F pc' lv (.int (iz (Y.1 2)) :: st) (wM y q Y)) : GF X cc D z Q F pc lv (.ref (q 0) :: st) (wM y q Y) := g_get hX 0 2 in_X4 rfl rfl (by decide) mf_X4_73 rfl hd hp kk
set_option maxRecDepth 100000 in
theorem pu_M_X4_81_M {O : Type} {X : Cx} {cc : ByteArray} {rm : Room} {ret : Option FieldType} {D : va_G} {y : ClassId × ClassId × ClassId} {z : Nat × Nat} {Q : O → State → Prop} {pc pc' : Nat} {lv : List (Option Value)} {st : List Value} {q : Nat → Nat} {Y : St} (hX : OKX X cc RX4 rm ret D y) {F : St → Option O} {a : Int} (hd : decode cc pc = .ok (.putfield 81, 3)) (hp : pc + 3 = pc') (k : ∀ Y1, GF X cc D z Q (F Y1) pc' lv st (wM y q Y1)) : GF X cc D z Q (cb a (nm (setI Y 3 a) F)) pc lv (.int (iz a) :: .ref (q 0) :: st) (wM y q Y) := by
  intro o ho
  unfold cb at ho
  split at ho
  · next hz => exact g_put (F := (nm (setI Y 3 a) F)) hX tyX4 0 3 in_X4 tyX4_ok nmX4 rfl rfl (by decide) mf_X4_81 rfl rfl (by rcases hz with rfl | rfl <;> decide) (by rcases hz with rfl | rfl <;> decide) rfl rfl hd hp (k _) o ho
  · cases ho
set_option maxRecDepth 100000 in
theorem ge_M_X4_7_M {O : Type} {X : Cx} {cc : ByteArray} {rm : Room} {ret : Option FieldType} {D : va_G} {y : ClassId × ClassId × ClassId} {z : Nat × Nat} {Q : O → State → Prop} {pc pc' : Nat} {lv : List (Option Value)} {st : List Value} {q : Nat → Nat} {Y : St} (hX : OKX X cc RX4 rm ret D y) {F : Option O} (hd : decode cc pc = .ok (.getfield 7, 3)) (hp : pc + 3 = pc') (kk : GF X cc D z Q F pc' lv (.ref (q 1) :: st) (wM y q Y)) : GF X cc D z Q F pc lv (.ref (q 0) :: st) (wM y q Y) := g_get hX 0 0 in_X4 rfl rfl (by decide) mf_X4_7 rfl hd hp kk
set_option maxRecDepth 100000 in
theorem as_M_M_0 {O : Type} {X : Cx} {cc : ByteArray} {own : String} {rm : Room} {ret : Option FieldType} {D : va_G} {y : ClassId × ClassId × ClassId} {z : Nat × Nat} {Q : O → State → Prop} {pc pc' : Nat} {lv : List (Option Value)} {st : List Value} {q : Nat → Nat} {Y : St} (hX : OKX X cc own rm ret D y) {F : St → Option O} {i : Int} {x : Int} (hd : decode cc pc = .ok (.iastore, 1)) (hp : pc + 1 = pc') (k : ∀ Y1, GF X cc D z Q (F Y1) pc' lv st (wM y q Y1)) : GF X cc D z Q (bd i 16 (nm (setA Y 0 i.toNat x) F)) pc lv (.int (iz x) :: .int (iz i) :: .ref (q 1) :: st) (wM y q Y) := g_iast (F := (nm (setA Y 0 i.toNat x) F)) hX 1 rfl (by decide) rfl hd hp (k _)
set_option maxRecDepth 100000 in
theorem ge_M_X4_13_M {O : Type} {X : Cx} {cc : ByteArray} {rm : Room} {ret : Option FieldType} {D : va_G} {y : ClassId × ClassId × ClassId} {z : Nat × Nat} {Q : O → State → Prop} {pc pc' : Nat} {lv : List (Option Value)} {st : List Value} {q : Nat → Nat} {Y : St} (hX : OKX X cc RX4 rm ret D y) {F : Option O} (hd : decode cc pc = .ok (.getfield 13, 3)) (hp : pc + 3 = pc') (kk : GF X cc D z Q F pc' lv (.ref (q 2) :: st) (wM y q Y)) : GF X cc D z Q F pc lv (.ref (q 0) :: st) (wM y q Y) := g_get hX 0 1 in_X4 rfl rfl (by decide) mf_X4_13 rfl hd hp kk
set_option maxRecDepth 100000 in
theorem as_M_M_1 {O : Type} {X : Cx} {cc : ByteArray} {own : String} {rm : Room} {ret : Option FieldType} {D : va_G} {y : ClassId × ClassId × ClassId} {z : Nat × Nat} {Q : O → State → Prop} {pc pc' : Nat} {lv : List (Option Value)} {st : List Value} {q : Nat → Nat} {Y : St} (hX : OKX X cc own rm ret D y) {F : St → Option O} {i : Int} {x : Int} (hd : decode cc pc = .ok (.iastore, 1)) (hp : pc + 1 = pc') (k : ∀ Y1, GF X cc D z Q (F Y1) pc' lv st (wM y q Y1)) : GF X cc D z Q (bd i 300 (nm (setA Y 1 i.toNat x) F)) pc lv (.int (iz x) :: .int (iz i) :: .ref (q 2) :: st) (wM y q Y) := g_iast (F := (nm (setA Y 1 i.toNat x) F)) hX 2 rfl (by decide) rfl hd hp (k _)
set_option maxRecDepth 100000 in
theorem pu_M_X4_73_M {O : Type} {X : Cx} {cc : ByteArray} {rm : Room} {ret : Option FieldType} {D : va_G} {y : ClassId × ClassId × ClassId} {z : Nat × Nat} {Q : O → State → Prop} {pc pc' : Nat} {lv : List (Option Value)} {st : List Value} {q : Nat → Nat} {Y : St} (hX : OKX X cc RX4 rm ret D y) {F : St → Option O} {a : Int} (hd : decode cc pc = .ok (.putfield 73, 3)) (hp : pc + 3 = pc') (k : ∀ Y1, GF X cc D z Q (F Y1) pc' lv st (wM y q Y1)) : GF X cc D z Q (nm (setI Y 2 a) F) pc lv (.int (iz a) :: .ref (q 0) :: st) (wM y q Y) := g_put (F := (nm (setI Y 2 a) F)) hX tyX4 0 2 in_X4 tyX4_ok nmX4 rfl rfl (by decide) mf_X4_73 rfl rfl rfl rfl rfl rfl hd hp (k _)
set_option maxRecDepth 100000 in
theorem ge_M_X4_25_M {O : Type} {X : Cx} {cc : ByteArray} {rm : Room} {ret : Option FieldType} {D : va_G} {y : ClassId × ClassId × ClassId} {z : Nat × Nat} {Q : O → State → Prop} {pc pc' : Nat} {lv : List (Option Value)} {st : List Value} {q : Nat → Nat} {Y : St} (hX : OKX X cc RX4 rm ret D y) {F : Option O} (hd : decode cc pc = .ok (.getfield 25, 3)) (hp : pc + 3 = pc') (kk : GF X cc D z Q F pc' lv (.ref (q 6) :: st) (wM y q Y)) : GF X cc D z Q F pc lv (.ref (q 0) :: st) (wM y q Y) := g_get hX 0 10 in_X4 rfl rfl (by decide) mf_X4_25 rfl hd hp kk
set_option maxRecDepth 100000 in
theorem al_M_M_10 {O : Type} {X : Cx} {cc : ByteArray} {own : String} {rm : Room} {ret : Option FieldType} {D : va_G} {y : ClassId × ClassId × ClassId} {z : Nat × Nat} {Q : O → State → Prop} {pc pc' : Nat} {lv : List (Option Value)} {st : List Value} {q : Nat → Nat} {Y : St} (hX : OKX X cc own rm ret D y) {F : Option O} {i : Int} (hd : decode cc pc = .ok (.iaload, 1)) (hp : pc + 1 = pc') (kk : GF X cc D z Q F pc' lv (.int (iz (Y.2 10 i.toNat)) :: st) (wM y q Y)) : GF X cc D z Q (bd i 5 F) pc lv (.int (iz i) :: .ref (q 6) :: st) (wM y q Y) := g_iald hX 6 rfl (by decide) hd hp kk
set_option maxRecDepth 100000 in
theorem as_M_M_10 {O : Type} {X : Cx} {cc : ByteArray} {own : String} {rm : Room} {ret : Option FieldType} {D : va_G} {y : ClassId × ClassId × ClassId} {z : Nat × Nat} {Q : O → State → Prop} {pc pc' : Nat} {lv : List (Option Value)} {st : List Value} {q : Nat → Nat} {Y : St} (hX : OKX X cc own rm ret D y) {F : St → Option O} {i : Int} {x : Int} (hd : decode cc pc = .ok (.iastore, 1)) (hp : pc + 1 = pc') (k : ∀ Y1, GF X cc D z Q (F Y1) pc' lv st (wM y q Y1)) : GF X cc D z Q (bd i 5 (nm (setA Y 10 i.toNat x) F)) pc lv (.int (iz x) :: .int (iz i) :: .ref (q 6) :: st) (wM y q Y) := g_iast (F := (nm (setA Y 10 i.toNat x) F)) hX 6 rfl (by decide) rfl hd hp (k _)
set_option maxRecDepth 100000 in
theorem al_M_M_1 {O : Type} {X : Cx} {cc : ByteArray} {own : String} {rm : Room} {ret : Option FieldType} {D : va_G} {y : ClassId × ClassId × ClassId} {z : Nat × Nat} {Q : O → State → Prop} {pc pc' : Nat} {lv : List (Option Value)} {st : List Value} {q : Nat → Nat} {Y : St} (hX : OKX X cc own rm ret D y) {F : Option O} {i : Int} (hd : decode cc pc = .ok (.iaload, 1)) (hp : pc + 1 = pc') (kk : GF X cc D z Q F pc' lv (.int (iz (Y.2 1 i.toNat)) :: st) (wM y q Y)) : GF X cc D z Q (bd i 300 F) pc lv (.int (iz i) :: .ref (q 2) :: st) (wM y q Y) := g_iald hX 2 rfl (by decide) hd hp kk
set_option maxRecDepth 100000 in
theorem al_M_M_0 {O : Type} {X : Cx} {cc : ByteArray} {own : String} {rm : Room} {ret : Option FieldType} {D : va_G} {y : ClassId × ClassId × ClassId} {z : Nat × Nat} {Q : O → State → Prop} {pc pc' : Nat} {lv : List (Option Value)} {st : List Value} {q : Nat → Nat} {Y : St} (hX : OKX X cc own rm ret D y) {F : Option O} {i : Int} (hd : decode cc pc = .ok (.iaload, 1)) (hp : pc + 1 = pc') (kk : GF X cc D z Q F pc' lv (.int (iz (Y.2 0 i.toNat)) :: st) (wM y q Y)) : GF X cc D z Q (bd i 16 F) pc lv (.int (iz i) :: .ref (q 1) :: st) (wM y q Y) := g_iald hX 1 rfl (by decide) hd hp kk
set_option maxRecDepth 100000 in
theorem ge_M_X4_97_M {O : Type} {X : Cx} {cc : ByteArray} {rm : Room} {ret : Option FieldType} {D : va_G} {y : ClassId × ClassId × ClassId} {z : Nat × Nat} {Q : O → State → Prop} {pc pc' : Nat} {lv : List (Option Value)} {st : List Value} {q : Nat → Nat} {Y : St} (hX : OKX X cc RX4 rm ret D y) {F : Option O} (hd : decode cc pc = .ok (.getfield 97, 3)) (hp : pc + 3 = pc') (kk : GF X cc D z Q F pc' lv (.int (iz (Y.1 9)) :: st) (wM y q Y)) : GF X cc D z Q F pc lv (.ref (q 0) :: st) (wM y q Y) := g_get hX 0 9 in_X4 rfl rfl (by decide) mf_X4_97 rfl hd hp kk
set_option maxRecDepth 100000 in
theorem ge_M_X4_28_M {O : Type} {X : Cx} {cc : ByteArray} {rm : Room} {ret : Option FieldType} {D : va_G} {y : ClassId × ClassId × ClassId} {z : Nat × Nat} {Q : O → State → Prop} {pc pc' : Nat} {lv : List (Option Value)} {st : List Value} {q : Nat → Nat} {Y : St} (hX : OKX X cc RX4 rm ret D y) {F : Option O} (hd : decode cc pc = .ok (.getfield 28, 3)) (hp : pc + 3 = pc') (kk : GF X cc D z Q F pc' lv (.ref (q 7) :: st) (wM y q Y)) : GF X cc D z Q F pc lv (.ref (q 0) :: st) (wM y q Y) := g_get hX 0 13 in_X4 rfl rfl (by decide) mf_X4_28 rfl hd hp kk
set_option maxRecDepth 100000 in
theorem as_M_M_13 {O : Type} {X : Cx} {cc : ByteArray} {own : String} {rm : Room} {ret : Option FieldType} {D : va_G} {y : ClassId × ClassId × ClassId} {z : Nat × Nat} {Q : O → State → Prop} {pc pc' : Nat} {lv : List (Option Value)} {st : List Value} {q : Nat → Nat} {Y : St} (hX : OKX X cc own rm ret D y) {F : St → Option O} {i : Int} {x : Int} (hd : decode cc pc = .ok (.bastore, 1)) (hp : pc + 1 = pc') (k : ∀ Y1, GF X cc D z Q (F Y1) pc' lv st (wM y q Y1)) : GF X cc D z Q (cb x (bd i 16 (nm (setA Y 13 i.toNat x) F))) pc lv (.int (iz x) :: .int (iz i) :: .ref (q 7) :: st) (wM y q Y) := g_zast (F := (nm (setA Y 13 i.toNat x) F)) hX 7 rfl (by decide) rfl hd hp (k _)
set_option maxRecDepth 100000 in
theorem ge_M_X4_41_M {O : Type} {X : Cx} {cc : ByteArray} {rm : Room} {ret : Option FieldType} {D : va_G} {y : ClassId × ClassId × ClassId} {z : Nat × Nat} {Q : O → State → Prop} {pc pc' : Nat} {lv : List (Option Value)} {st : List Value} {q : Nat → Nat} {Y : St} (hX : OKX X cc RX4 rm ret D y) {F : Option O} (hd : decode cc pc = .ok (.getfield 41, 3)) (hp : pc + 3 = pc') (kk : GF X cc D z Q F pc' lv (.ref (q 11) :: st) (wM y q Y)) : GF X cc D z Q F pc lv (.ref (q 0) :: st) (wM y q Y) := g_get hX 0 17 in_X4 rfl rfl (by decide) mf_X4_41 rfl hd hp kk
set_option maxRecDepth 100000 in
theorem as_M_M_17 {O : Type} {X : Cx} {cc : ByteArray} {own : String} {rm : Room} {ret : Option FieldType} {D : va_G} {y : ClassId × ClassId × ClassId} {z : Nat × Nat} {Q : O → State → Prop} {pc pc' : Nat} {lv : List (Option Value)} {st : List Value} {q : Nat → Nat} {Y : St} (hX : OKX X cc own rm ret D y) {F : St → Option O} {i : Int} {x : Int} (hd : decode cc pc = .ok (.bastore, 1)) (hp : pc + 1 = pc') (k : ∀ Y1, GF X cc D z Q (F Y1) pc' lv st (wM y q Y1)) : GF X cc D z Q (cb x (bd i 16 (nm (setA Y 17 i.toNat x) F))) pc lv (.int (iz x) :: .int (iz i) :: .ref (q 11) :: st) (wM y q Y) := g_zast (F := (nm (setA Y 17 i.toNat x) F)) hX 11 rfl (by decide) rfl hd hp (k _)
set_option maxRecDepth 100000 in
theorem ge_M_X4_47_M {O : Type} {X : Cx} {cc : ByteArray} {rm : Room} {ret : Option FieldType} {D : va_G} {y : ClassId × ClassId × ClassId} {z : Nat × Nat} {Q : O → State → Prop} {pc pc' : Nat} {lv : List (Option Value)} {st : List Value} {q : Nat → Nat} {Y : St} (hX : OKX X cc RX4 rm ret D y) {F : Option O} (hd : decode cc pc = .ok (.getfield 47, 3)) (hp : pc + 3 = pc') (kk : GF X cc D z Q F pc' lv (.ref (q 13) :: st) (wM y q Y)) : GF X cc D z Q F pc lv (.ref (q 0) :: st) (wM y q Y) := g_get hX 0 19 in_X4 rfl rfl (by decide) mf_X4_47 rfl hd hp kk
set_option maxRecDepth 100000 in
theorem as_M_M_19 {O : Type} {X : Cx} {cc : ByteArray} {own : String} {rm : Room} {ret : Option FieldType} {D : va_G} {y : ClassId × ClassId × ClassId} {z : Nat × Nat} {Q : O → State → Prop} {pc pc' : Nat} {lv : List (Option Value)} {st : List Value} {q : Nat → Nat} {Y : St} (hX : OKX X cc own rm ret D y) {F : St → Option O} {i : Int} {x : Int} (hd : decode cc pc = .ok (.iastore, 1)) (hp : pc + 1 = pc') (k : ∀ Y1, GF X cc D z Q (F Y1) pc' lv st (wM y q Y1)) : GF X cc D z Q (bd i 16 (nm (setA Y 19 i.toNat x) F)) pc lv (.int (iz x) :: .int (iz i) :: .ref (q 13) :: st) (wM y q Y) := g_iast (F := (nm (setA Y 19 i.toNat x) F)) hX 13 rfl (by decide) rfl hd hp (k _)
set_option maxRecDepth 100000 in
theorem ge_M_X4_38_M {O : Type} {X : Cx} {cc : ByteArray} {rm : Room} {ret : Option FieldType} {D : va_G} {y : ClassId × ClassId × ClassId} {z : Nat × Nat} {Q : O → State → Prop} {pc pc' : Nat} {lv : List (Option Value)} {st : List Value} {q : Nat → Nat} {Y : St} (hX : OKX X cc RX4 rm ret D y) {F : Option O} (hd : decode cc pc = .ok (.getfield 38, 3)) (hp : pc + 3 = pc') (kk : GF X cc D z Q F pc' lv (.ref (q 10) :: st) (wM y q Y)) : GF X cc D z Q F pc lv (.ref (q 0) :: st) (wM y q Y) := g_get hX 0 16 in_X4 rfl rfl (by decide) mf_X4_38 rfl hd hp kk
set_option maxRecDepth 100000 in
theorem as_M_M_16 {O : Type} {X : Cx} {cc : ByteArray} {own : String} {rm : Room} {ret : Option FieldType} {D : va_G} {y : ClassId × ClassId × ClassId} {z : Nat × Nat} {Q : O → State → Prop} {pc pc' : Nat} {lv : List (Option Value)} {st : List Value} {q : Nat → Nat} {Y : St} (hX : OKX X cc own rm ret D y) {F : St → Option O} {i : Int} {x : Int} (hd : decode cc pc = .ok (.iastore, 1)) (hp : pc + 1 = pc') (k : ∀ Y1, GF X cc D z Q (F Y1) pc' lv st (wM y q Y1)) : GF X cc D z Q (bd i 16 (nm (setA Y 16 i.toNat x) F)) pc lv (.int (iz x) :: .int (iz i) :: .ref (q 10) :: st) (wM y q Y) := g_iast (F := (nm (setA Y 16 i.toNat x) F)) hX 10 rfl (by decide) rfl hd hp (k _)
set_option maxRecDepth 100000 in
theorem ge_M_X4_53_M {O : Type} {X : Cx} {cc : ByteArray} {rm : Room} {ret : Option FieldType} {D : va_G} {y : ClassId × ClassId × ClassId} {z : Nat × Nat} {Q : O → State → Prop} {pc pc' : Nat} {lv : List (Option Value)} {st : List Value} {q : Nat → Nat} {Y : St} (hX : OKX X cc RX4 rm ret D y) {F : Option O} (hd : decode cc pc = .ok (.getfield 53, 3)) (hp : pc + 3 = pc') (kk : GF X cc D z Q F pc' lv (.ref (q 15) :: st) (wM y q Y)) : GF X cc D z Q F pc lv (.ref (q 0) :: st) (wM y q Y) := g_get hX 0 21 in_X4 rfl rfl (by decide) mf_X4_53 rfl hd hp kk
set_option maxRecDepth 100000 in
theorem as_M_M_21 {O : Type} {X : Cx} {cc : ByteArray} {own : String} {rm : Room} {ret : Option FieldType} {D : va_G} {y : ClassId × ClassId × ClassId} {z : Nat × Nat} {Q : O → State → Prop} {pc pc' : Nat} {lv : List (Option Value)} {st : List Value} {q : Nat → Nat} {Y : St} (hX : OKX X cc own rm ret D y) {F : St → Option O} {i : Int} {x : Int} (hd : decode cc pc = .ok (.iastore, 1)) (hp : pc + 1 = pc') (k : ∀ Y1, GF X cc D z Q (F Y1) pc' lv st (wM y q Y1)) : GF X cc D z Q (bd i 16 (nm (setA Y 21 i.toNat x) F)) pc lv (.int (iz x) :: .int (iz i) :: .ref (q 15) :: st) (wM y q Y) := g_iast (F := (nm (setA Y 21 i.toNat x) F)) hX 15 rfl (by decide) rfl hd hp (k _)
set_option maxRecDepth 100000 in
theorem ge_M_X4_44_M {O : Type} {X : Cx} {cc : ByteArray} {rm : Room} {ret : Option FieldType} {D : va_G} {y : ClassId × ClassId × ClassId} {z : Nat × Nat} {Q : O → State → Prop} {pc pc' : Nat} {lv : List (Option Value)} {st : List Value} {q : Nat → Nat} {Y : St} (hX : OKX X cc RX4 rm ret D y) {F : Option O} (hd : decode cc pc = .ok (.getfield 44, 3)) (hp : pc + 3 = pc') (kk : GF X cc D z Q F pc' lv (.ref (q 12) :: st) (wM y q Y)) : GF X cc D z Q F pc lv (.ref (q 0) :: st) (wM y q Y) := g_get hX 0 18 in_X4 rfl rfl (by decide) mf_X4_44 rfl hd hp kk
set_option maxRecDepth 100000 in
theorem as_M_M_18 {O : Type} {X : Cx} {cc : ByteArray} {own : String} {rm : Room} {ret : Option FieldType} {D : va_G} {y : ClassId × ClassId × ClassId} {z : Nat × Nat} {Q : O → State → Prop} {pc pc' : Nat} {lv : List (Option Value)} {st : List Value} {q : Nat → Nat} {Y : St} (hX : OKX X cc own rm ret D y) {F : St → Option O} {i : Int} {x : Int} (hd : decode cc pc = .ok (.iastore, 1)) (hp : pc + 1 = pc') (k : ∀ Y1, GF X cc D z Q (F Y1) pc' lv st (wM y q Y1)) : GF X cc D z Q (bd i 16 (nm (setA Y 18 i.toNat x) F)) pc lv (.int (iz x) :: .int (iz i) :: .ref (q 12) :: st) (wM y q Y) := g_iast (F := (nm (setA Y 18 i.toNat x) F)) hX 12 rfl (by decide) rfl hd hp (k _)
set_option maxRecDepth 100000 in
theorem pu_M_X4_103_M {O : Type} {X : Cx} {cc : ByteArray} {rm : Room} {ret : Option FieldType} {D : va_G} {y : ClassId × ClassId × ClassId} {z : Nat × Nat} {Q : O → State → Prop} {pc pc' : Nat} {lv : List (Option Value)} {st : List Value} {q : Nat → Nat} {Y : St} (hX : OKX X cc RX4 rm ret D y) {F : St → Option O} {a : Int} (hd : decode cc pc = .ok (.putfield 103, 3)) (hp : pc + 3 = pc') (k : ∀ Y1, GF X cc D z Q (F Y1) pc' lv st (wM y q Y1)) : GF X cc D z Q (nm (setI Y 11 a) F) pc lv (.int (iz a) :: .ref (q 0) :: st) (wM y q Y) := g_put (F := (nm (setI Y 11 a) F)) hX tyX4 0 11 in_X4 tyX4_ok nmX4 rfl rfl (by decide) mf_X4_103 rfl rfl rfl rfl rfl rfl hd hp (k _)
set_option maxRecDepth 100000 in
theorem pu_M_X4_106_M {O : Type} {X : Cx} {cc : ByteArray} {rm : Room} {ret : Option FieldType} {D : va_G} {y : ClassId × ClassId × ClassId} {z : Nat × Nat} {Q : O → State → Prop} {pc pc' : Nat} {lv : List (Option Value)} {st : List Value} {q : Nat → Nat} {Y : St} (hX : OKX X cc RX4 rm ret D y) {F : St → Option O} {a : Int} (hd : decode cc pc = .ok (.putfield 106, 3)) (hp : pc + 3 = pc') (k : ∀ Y1, GF X cc D z Q (F Y1) pc' lv st (wM y q Y1)) : GF X cc D z Q (nm (setI Y 12 a) F) pc lv (.int (iz a) :: .ref (q 0) :: st) (wM y q Y) := g_put (F := (nm (setI Y 12 a) F)) hX tyX4 0 12 in_X4 tyX4_ok nmX4 rfl rfl (by decide) mf_X4_106 rfl rfl rfl rfl rfl rfl hd hp (k _)
set_option maxRecDepth 100000 in
theorem pu_M_X4_109_M {O : Type} {X : Cx} {cc : ByteArray} {rm : Room} {ret : Option FieldType} {D : va_G} {y : ClassId × ClassId × ClassId} {z : Nat × Nat} {Q : O → State → Prop} {pc pc' : Nat} {lv : List (Option Value)} {st : List Value} {q : Nat → Nat} {Y : St} (hX : OKX X cc RX4 rm ret D y) {F : St → Option O} {a : Int} (hd : decode cc pc = .ok (.putfield 109, 3)) (hp : pc + 3 = pc') (k : ∀ Y1, GF X cc D z Q (F Y1) pc' lv st (wM y q Y1)) : GF X cc D z Q (nm (setI Y 22 a) F) pc lv (.int (iz a) :: .ref (q 0) :: st) (wM y q Y) := g_put (F := (nm (setI Y 22 a) F)) hX tyX4 0 22 in_X4 tyX4_ok nmX4 rfl rfl (by decide) mf_X4_109 rfl rfl rfl rfl rfl rfl hd hp (k _)
set_option maxRecDepth 100000 in
theorem pu_M_X4_112_M {O : Type} {X : Cx} {cc : ByteArray} {rm : Room} {ret : Option FieldType} {D : va_G} {y : ClassId × ClassId × ClassId} {z : Nat × Nat} {Q : O → State → Prop} {pc pc' : Nat} {lv : List (Option Value)} {st : List Value} {q : Nat → Nat} {Y : St} (hX : OKX X cc RX4 rm ret D y) {F : St → Option O} {a : Int} (hd : decode cc pc = .ok (.putfield 112, 3)) (hp : pc + 3 = pc') (k : ∀ Y1, GF X cc D z Q (F Y1) pc' lv st (wM y q Y1)) : GF X cc D z Q (nm (setI Y 23 a) F) pc lv (.int (iz a) :: .ref (q 0) :: st) (wM y q Y) := g_put (F := (nm (setI Y 23 a) F)) hX tyX4 0 23 in_X4 tyX4_ok nmX4 rfl rfl (by decide) mf_X4_112 rfl rfl rfl rfl rfl rfl hd hp (k _)
set_option maxRecDepth 100000 in
theorem pu_M_X4_115_M {O : Type} {X : Cx} {cc : ByteArray} {rm : Room} {ret : Option FieldType} {D : va_G} {y : ClassId × ClassId × ClassId} {z : Nat × Nat} {Q : O → State → Prop} {pc pc' : Nat} {lv : List (Option Value)} {st : List Value} {q : Nat → Nat} {Y : St} (hX : OKX X cc RX4 rm ret D y) {F : St → Option O} {a : Int} (hd : decode cc pc = .ok (.putfield 115, 3)) (hp : pc + 3 = pc') (k : ∀ Y1, GF X cc D z Q (F Y1) pc' lv st (wM y q Y1)) : GF X cc D z Q (nm (setI Y 24 a) F) pc lv (.int (iz a) :: .ref (q 0) :: st) (wM y q Y) := g_put (F := (nm (setI Y 24 a) F)) hX tyX4 0 24 in_X4 tyX4_ok nmX4 rfl rfl (by decide) mf_X4_115 rfl rfl rfl rfl rfl rfl hd hp (k _)
set_option maxRecDepth 100000 in
theorem pu_M_X4_118_M {O : Type} {X : Cx} {cc : ByteArray} {rm : Room} {ret : Option FieldType} {D : va_G} {y : ClassId × ClassId × ClassId} {z : Nat × Nat} {Q : O → State → Prop} {pc pc' : Nat} {lv : List (Option Value)} {st : List Value} {q : Nat → Nat} {Y : St} (hX : OKX X cc RX4 rm ret D y) {F : St → Option O} {a : Int} (hd : decode cc pc = .ok (.putfield 118, 3)) (hp : pc + 3 = pc') (k : ∀ Y1, GF X cc D z Q (F Y1) pc' lv st (wM y q Y1)) : GF X cc D z Q (nm (setI Y 25 a) F) pc lv (.int (iz a) :: .ref (q 0) :: st) (wM y q Y) := g_put (F := (nm (setI Y 25 a) F)) hX tyX4 0 25 in_X4 tyX4_ok nmX4 rfl rfl (by decide) mf_X4_118 rfl rfl rfl rfl rfl rfl hd hp (k _)
set_option maxRecDepth 100000 in
theorem pu_M_X4_121_M {O : Type} {X : Cx} {cc : ByteArray} {rm : Room} {ret : Option FieldType} {D : va_G} {y : ClassId × ClassId × ClassId} {z : Nat × Nat} {Q : O → State → Prop} {pc pc' : Nat} {lv : List (Option Value)} {st : List Value} {q : Nat → Nat} {Y : St} (hX : OKX X cc RX4 rm ret D y) {F : St → Option O} {a : Int} (hd : decode cc pc = .ok (.putfield 121, 3)) (hp : pc + 3 = pc') (k : ∀ Y1, GF X cc D z Q (F Y1) pc' lv st (wM y q Y1)) : GF X cc D z Q (nm (setI Y 26 a) F) pc lv (.int (iz a) :: .ref (q 0) :: st) (wM y q Y) := g_put (F := (nm (setI Y 26 a) F)) hX tyX4 0 26 in_X4 tyX4_ok nmX4 rfl rfl (by decide) mf_X4_121 rfl rfl rfl rfl rfl rfl hd hp (k _)
set_option maxRecDepth 100000 in
theorem al_M_M_19 {O : Type} {X : Cx} {cc : ByteArray} {own : String} {rm : Room} {ret : Option FieldType} {D : va_G} {y : ClassId × ClassId × ClassId} {z : Nat × Nat} {Q : O → State → Prop} {pc pc' : Nat} {lv : List (Option Value)} {st : List Value} {q : Nat → Nat} {Y : St} (hX : OKX X cc own rm ret D y) {F : Option O} {i : Int} (hd : decode cc pc = .ok (.iaload, 1)) (hp : pc + 1 = pc') (kk : GF X cc D z Q F pc' lv (.int (iz (Y.2 19 i.toNat)) :: st) (wM y q Y)) : GF X cc D z Q (bd i 16 F) pc lv (.int (iz i) :: .ref (q 13) :: st) (wM y q Y) := g_iald hX 13 rfl (by decide) hd hp kk
set_option maxRecDepth 100000 in
theorem ge_M_X4_50_M {O : Type} {X : Cx} {cc : ByteArray} {rm : Room} {ret : Option FieldType} {D : va_G} {y : ClassId × ClassId × ClassId} {z : Nat × Nat} {Q : O → State → Prop} {pc pc' : Nat} {lv : List (Option Value)} {st : List Value} {q : Nat → Nat} {Y : St} (hX : OKX X cc RX4 rm ret D y) {F : Option O} (hd : decode cc pc = .ok (.getfield 50, 3)) (hp : pc + 3 = pc') (kk : GF X cc D z Q F pc' lv (.ref (q 14) :: st) (wM y q Y)) : GF X cc D z Q F pc lv (.ref (q 0) :: st) (wM y q Y) := g_get hX 0 20 in_X4 rfl rfl (by decide) mf_X4_50 rfl hd hp kk
set_option maxRecDepth 100000 in
theorem al_M_M_20 {O : Type} {X : Cx} {cc : ByteArray} {own : String} {rm : Room} {ret : Option FieldType} {D : va_G} {y : ClassId × ClassId × ClassId} {z : Nat × Nat} {Q : O → State → Prop} {pc pc' : Nat} {lv : List (Option Value)} {st : List Value} {q : Nat → Nat} {Y : St} (hX : OKX X cc own rm ret D y) {F : Option O} {i : Int} (hd : decode cc pc = .ok (.iaload, 1)) (hp : pc + 1 = pc') (kk : GF X cc D z Q F pc' lv (.int (iz (Y.2 20 i.toNat)) :: st) (wM y q Y)) : GF X cc D z Q (bd i 16 F) pc lv (.int (iz i) :: .ref (q 14) :: st) (wM y q Y) := g_iald hX 14 rfl (by decide) hd hp kk
set_option maxRecDepth 100000 in
theorem ge_M_X4_35_M {O : Type} {X : Cx} {cc : ByteArray} {rm : Room} {ret : Option FieldType} {D : va_G} {y : ClassId × ClassId × ClassId} {z : Nat × Nat} {Q : O → State → Prop} {pc pc' : Nat} {lv : List (Option Value)} {st : List Value} {q : Nat → Nat} {Y : St} (hX : OKX X cc RX4 rm ret D y) {F : Option O} (hd : decode cc pc = .ok (.getfield 35, 3)) (hp : pc + 3 = pc') (kk : GF X cc D z Q F pc' lv (.ref (q 9) :: st) (wM y q Y)) : GF X cc D z Q F pc lv (.ref (q 0) :: st) (wM y q Y) := g_get hX 0 15 in_X4 rfl rfl (by decide) mf_X4_35 rfl hd hp kk
set_option maxRecDepth 100000 in
theorem al_M_M_15 {O : Type} {X : Cx} {cc : ByteArray} {own : String} {rm : Room} {ret : Option FieldType} {D : va_G} {y : ClassId × ClassId × ClassId} {z : Nat × Nat} {Q : O → State → Prop} {pc pc' : Nat} {lv : List (Option Value)} {st : List Value} {q : Nat → Nat} {Y : St} (hX : OKX X cc own rm ret D y) {F : Option O} {i : Int} (hd : decode cc pc = .ok (.iaload, 1)) (hp : pc + 1 = pc') (kk : GF X cc D z Q F pc' lv (.int (iz (Y.2 15 i.toNat)) :: st) (wM y q Y)) : GF X cc D z Q (bd i 16 F) pc lv (.int (iz i) :: .ref (q 9) :: st) (wM y q Y) := g_iald hX 9 rfl (by decide) hd hp kk
set_option maxRecDepth 100000 in
theorem al_M_M_17 {O : Type} {X : Cx} {cc : ByteArray} {own : String} {rm : Room} {ret : Option FieldType} {D : va_G} {y : ClassId × ClassId × ClassId} {z : Nat × Nat} {Q : O → State → Prop} {pc pc' : Nat} {lv : List (Option Value)} {st : List Value} {q : Nat → Nat} {Y : St} (hX : OKX X cc own rm ret D y) {F : Option O} {i : Int} (hd : decode cc pc = .ok (.baload, 1)) (hp : pc + 1 = pc') (kk : GF X cc D z Q F pc' lv (.int (iz (Y.2 17 i.toNat)) :: st) (wM y q Y)) : GF X cc D z Q (bd i 16 F) pc lv (.int (iz i) :: .ref (q 11) :: st) (wM y q Y) := g_zald hX 11 rfl (by decide) hd hp kk
set_option maxRecDepth 100000 in
theorem al_M_M_13 {O : Type} {X : Cx} {cc : ByteArray} {own : String} {rm : Room} {ret : Option FieldType} {D : va_G} {y : ClassId × ClassId × ClassId} {z : Nat × Nat} {Q : O → State → Prop} {pc pc' : Nat} {lv : List (Option Value)} {st : List Value} {q : Nat → Nat} {Y : St} (hX : OKX X cc own rm ret D y) {F : Option O} {i : Int} (hd : decode cc pc = .ok (.baload, 1)) (hp : pc + 1 = pc') (kk : GF X cc D z Q F pc' lv (.int (iz (Y.2 13 i.toNat)) :: st) (wM y q Y)) : GF X cc D z Q (bd i 16 F) pc lv (.int (iz i) :: .ref (q 7) :: st) (wM y q Y) := g_zald hX 7 rfl (by decide) hd hp kk
set_option maxRecDepth 100000 in
theorem ge_M_X4_32_M {O : Type} {X : Cx} {cc : ByteArray} {rm : Room} {ret : Option FieldType} {D : va_G} {y : ClassId × ClassId × ClassId} {z : Nat × Nat} {Q : O → State → Prop} {pc pc' : Nat} {lv : List (Option Value)} {st : List Value} {q : Nat → Nat} {Y : St} (hX : OKX X cc RX4 rm ret D y) {F : Option O} (hd : decode cc pc = .ok (.getfield 32, 3)) (hp : pc + 3 = pc') (kk : GF X cc D z Q F pc' lv (.ref (q 8) :: st) (wM y q Y)) : GF X cc D z Q F pc lv (.ref (q 0) :: st) (wM y q Y) := g_get hX 0 14 in_X4 rfl rfl (by decide) mf_X4_32 rfl hd hp kk
set_option maxRecDepth 100000 in
theorem al_M_M_14 {O : Type} {X : Cx} {cc : ByteArray} {own : String} {rm : Room} {ret : Option FieldType} {D : va_G} {y : ClassId × ClassId × ClassId} {z : Nat × Nat} {Q : O → State → Prop} {pc pc' : Nat} {lv : List (Option Value)} {st : List Value} {q : Nat → Nat} {Y : St} (hX : OKX X cc own rm ret D y) {F : Option O} {i : Int} (hd : decode cc pc = .ok (.iaload, 1)) (hp : pc + 1 = pc') (kk : GF X cc D z Q F pc' lv (.int (iz (Y.2 14 i.toNat)) :: st) (wM y q Y)) : GF X cc D z Q (bd i 16 F) pc lv (.int (iz i) :: .ref (q 8) :: st) (wM y q Y) := g_iald hX 8 rfl (by decide) hd hp kk
set_option maxRecDepth 100000 in
theorem ge_M_X4_112_M {O : Type} {X : Cx} {cc : ByteArray} {rm : Room} {ret : Option FieldType} {D : va_G} {y : ClassId × ClassId × ClassId} {z : Nat × Nat} {Q : O → State → Prop} {pc pc' : Nat} {lv : List (Option Value)} {st : List Value} {q : Nat → Nat} {Y : St} (hX : OKX X cc RX4 rm ret D y) {F : Option O} (hd : decode cc pc = .ok (.getfield 112, 3)) (hp : pc + 3 = pc') (kk : GF X cc D z Q F pc' lv (.int (iz (Y.1 23)) :: st) (wM y q Y)) : GF X cc D z Q F pc lv (.ref (q 0) :: st) (wM y q Y) := g_get hX 0 23 in_X4 rfl rfl (by decide) mf_X4_112 rfl hd hp kk
set_option maxRecDepth 100000 in
theorem al_M_M_18 {O : Type} {X : Cx} {cc : ByteArray} {own : String} {rm : Room} {ret : Option FieldType} {D : va_G} {y : ClassId × ClassId × ClassId} {z : Nat × Nat} {Q : O → State → Prop} {pc pc' : Nat} {lv : List (Option Value)} {st : List Value} {q : Nat → Nat} {Y : St} (hX : OKX X cc own rm ret D y) {F : Option O} {i : Int} (hd : decode cc pc = .ok (.iaload, 1)) (hp : pc + 1 = pc') (kk : GF X cc D z Q F pc' lv (.int (iz (Y.2 18 i.toNat)) :: st) (wM y q Y)) : GF X cc D z Q (bd i 16 F) pc lv (.int (iz i) :: .ref (q 12) :: st) (wM y q Y) := g_iald hX 12 rfl (by decide) hd hp kk
set_option maxRecDepth 100000 in
theorem ge_M_X4_115_M {O : Type} {X : Cx} {cc : ByteArray} {rm : Room} {ret : Option FieldType} {D : va_G} {y : ClassId × ClassId × ClassId} {z : Nat × Nat} {Q : O → State → Prop} {pc pc' : Nat} {lv : List (Option Value)} {st : List Value} {q : Nat → Nat} {Y : St} (hX : OKX X cc RX4 rm ret D y) {F : Option O} (hd : decode cc pc = .ok (.getfield 115, 3)) (hp : pc + 3 = pc') (kk : GF X cc D z Q F pc' lv (.int (iz (Y.1 24)) :: st) (wM y q Y)) : GF X cc D z Q F pc lv (.ref (q 0) :: st) (wM y q Y) := g_get hX 0 24 in_X4 rfl rfl (by decide) mf_X4_115 rfl hd hp kk
set_option maxRecDepth 100000 in
theorem ge_M_X4_106_M {O : Type} {X : Cx} {cc : ByteArray} {rm : Room} {ret : Option FieldType} {D : va_G} {y : ClassId × ClassId × ClassId} {z : Nat × Nat} {Q : O → State → Prop} {pc pc' : Nat} {lv : List (Option Value)} {st : List Value} {q : Nat → Nat} {Y : St} (hX : OKX X cc RX4 rm ret D y) {F : Option O} (hd : decode cc pc = .ok (.getfield 106, 3)) (hp : pc + 3 = pc') (kk : GF X cc D z Q F pc' lv (.int (iz (Y.1 12)) :: st) (wM y q Y)) : GF X cc D z Q F pc lv (.ref (q 0) :: st) (wM y q Y) := g_get hX 0 12 in_X4 rfl rfl (by decide) mf_X4_106 rfl hd hp kk
set_option maxRecDepth 100000 in
theorem al_M_M_16 {O : Type} {X : Cx} {cc : ByteArray} {own : String} {rm : Room} {ret : Option FieldType} {D : va_G} {y : ClassId × ClassId × ClassId} {z : Nat × Nat} {Q : O → State → Prop} {pc pc' : Nat} {lv : List (Option Value)} {st : List Value} {q : Nat → Nat} {Y : St} (hX : OKX X cc own rm ret D y) {F : Option O} {i : Int} (hd : decode cc pc = .ok (.iaload, 1)) (hp : pc + 1 = pc') (kk : GF X cc D z Q F pc' lv (.int (iz (Y.2 16 i.toNat)) :: st) (wM y q Y)) : GF X cc D z Q (bd i 16 F) pc lv (.int (iz i) :: .ref (q 10) :: st) (wM y q Y) := g_iald hX 10 rfl (by decide) hd hp kk
set_option maxRecDepth 100000 in
theorem al_M_M_21 {O : Type} {X : Cx} {cc : ByteArray} {own : String} {rm : Room} {ret : Option FieldType} {D : va_G} {y : ClassId × ClassId × ClassId} {z : Nat × Nat} {Q : O → State → Prop} {pc pc' : Nat} {lv : List (Option Value)} {st : List Value} {q : Nat → Nat} {Y : St} (hX : OKX X cc own rm ret D y) {F : Option O} {i : Int} (hd : decode cc pc = .ok (.iaload, 1)) (hp : pc + 1 = pc') (kk : GF X cc D z Q F pc' lv (.int (iz (Y.2 21 i.toNat)) :: st) (wM y q Y)) : GF X cc D z Q (bd i 16 F) pc lv (.int (iz i) :: .ref (q 15) :: st) (wM y q Y) := g_iald hX 15 rfl (by decide) hd hp kk
set_option maxRecDepth 100000 in
theorem as_M_M_20 {O : Type} {X : Cx} {cc : ByteArray} {own : String} {rm : Room} {ret : Option FieldType} {D : va_G} {y : ClassId × ClassId × ClassId} {z : Nat × Nat} {Q : O → State → Prop} {pc pc' : Nat} {lv : List (Option Value)} {st : List Value} {q : Nat → Nat} {Y : St} (hX : OKX X cc own rm ret D y) {F : St → Option O} {i : Int} {x : Int} (hd : decode cc pc = .ok (.iastore, 1)) (hp : pc + 1 = pc') (k : ∀ Y1, GF X cc D z Q (F Y1) pc' lv st (wM y q Y1)) : GF X cc D z Q (bd i 16 (nm (setA Y 20 i.toNat x) F)) pc lv (.int (iz x) :: .int (iz i) :: .ref (q 14) :: st) (wM y q Y) := g_iast (F := (nm (setA Y 20 i.toNat x) F)) hX 14 rfl (by decide) rfl hd hp (k _)
set_option maxRecDepth 100000 in
theorem ge_M_X4_103_M {O : Type} {X : Cx} {cc : ByteArray} {rm : Room} {ret : Option FieldType} {D : va_G} {y : ClassId × ClassId × ClassId} {z : Nat × Nat} {Q : O → State → Prop} {pc pc' : Nat} {lv : List (Option Value)} {st : List Value} {q : Nat → Nat} {Y : St} (hX : OKX X cc RX4 rm ret D y) {F : Option O} (hd : decode cc pc = .ok (.getfield 103, 3)) (hp : pc + 3 = pc') (kk : GF X cc D z Q F pc' lv (.int (iz (Y.1 11)) :: st) (wM y q Y)) : GF X cc D z Q F pc lv (.ref (q 0) :: st) (wM y q Y) := g_get hX 0 11 in_X4 rfl rfl (by decide) mf_X4_103 rfl hd hp kk
set_option maxRecDepth 100000 in
theorem ge_M_X4_118_M {O : Type} {X : Cx} {cc : ByteArray} {rm : Room} {ret : Option FieldType} {D : va_G} {y : ClassId × ClassId × ClassId} {z : Nat × Nat} {Q : O → State → Prop} {pc pc' : Nat} {lv : List (Option Value)} {st : List Value} {q : Nat → Nat} {Y : St} (hX : OKX X cc RX4 rm ret D y) {F : Option O} (hd : decode cc pc = .ok (.getfield 118, 3)) (hp : pc + 3 = pc') (kk : GF X cc D z Q F pc' lv (.int (iz (Y.1 25)) :: st) (wM y q Y)) : GF X cc D z Q F pc lv (.ref (q 0) :: st) (wM y q Y) := g_get hX 0 25 in_X4 rfl rfl (by decide) mf_X4_118 rfl hd hp kk
set_option maxRecDepth 100000 in
theorem ge_M_X4_121_M {O : Type} {X : Cx} {cc : ByteArray} {rm : Room} {ret : Option FieldType} {D : va_G} {y : ClassId × ClassId × ClassId} {z : Nat × Nat} {Q : O → State → Prop} {pc pc' : Nat} {lv : List (Option Value)} {st : List Value} {q : Nat → Nat} {Y : St} (hX : OKX X cc RX4 rm ret D y) {F : Option O} (hd : decode cc pc = .ok (.getfield 121, 3)) (hp : pc + 3 = pc') (kk : GF X cc D z Q F pc' lv (.int (iz (Y.1 26)) :: st) (wM y q Y)) : GF X cc D z Q F pc lv (.ref (q 0) :: st) (wM y q Y) := g_get hX 0 26 in_X4 rfl rfl (by decide) mf_X4_121 rfl hd hp kk
set_option maxRecDepth 100000 in
theorem ge_M_X4_109_M {O : Type} {X : Cx} {cc : ByteArray} {rm : Room} {ret : Option FieldType} {D : va_G} {y : ClassId × ClassId × ClassId} {z : Nat × Nat} {Q : O → State → Prop} {pc pc' : Nat} {lv : List (Option Value)} {st : List Value} {q : Nat → Nat} {Y : St} (hX : OKX X cc RX4 rm ret D y) {F : Option O} (hd : decode cc pc = .ok (.getfield 109, 3)) (hp : pc + 3 = pc') (kk : GF X cc D z Q F pc' lv (.int (iz (Y.1 22)) :: st) (wM y q Y)) : GF X cc D z Q F pc lv (.ref (q 0) :: st) (wM y q Y) := g_get hX 0 22 in_X4 rfl rfl (by decide) mf_X4_109 rfl hd hp kk
set_option maxRecDepth 100000 in
theorem as_M_M_15 {O : Type} {X : Cx} {cc : ByteArray} {own : String} {rm : Room} {ret : Option FieldType} {D : va_G} {y : ClassId × ClassId × ClassId} {z : Nat × Nat} {Q : O → State → Prop} {pc pc' : Nat} {lv : List (Option Value)} {st : List Value} {q : Nat → Nat} {Y : St} (hX : OKX X cc own rm ret D y) {F : St → Option O} {i : Int} {x : Int} (hd : decode cc pc = .ok (.iastore, 1)) (hp : pc + 1 = pc') (k : ∀ Y1, GF X cc D z Q (F Y1) pc' lv st (wM y q Y1)) : GF X cc D z Q (bd i 16 (nm (setA Y 15 i.toNat x) F)) pc lv (.int (iz x) :: .int (iz i) :: .ref (q 9) :: st) (wM y q Y) := g_iast (F := (nm (setA Y 15 i.toNat x) F)) hX 9 rfl (by decide) rfl hd hp (k _)
set_option maxRecDepth 100000 in
theorem as_M_M_14 {O : Type} {X : Cx} {cc : ByteArray} {own : String} {rm : Room} {ret : Option FieldType} {D : va_G} {y : ClassId × ClassId × ClassId} {z : Nat × Nat} {Q : O → State → Prop} {pc pc' : Nat} {lv : List (Option Value)} {st : List Value} {q : Nat → Nat} {Y : St} (hX : OKX X cc own rm ret D y) {F : St → Option O} {i : Int} {x : Int} (hd : decode cc pc = .ok (.iastore, 1)) (hp : pc + 1 = pc') (k : ∀ Y1, GF X cc D z Q (F Y1) pc' lv st (wM y q Y1)) : GF X cc D z Q (bd i 16 (nm (setA Y 14 i.toNat x) F)) pc lv (.int (iz x) :: .int (iz i) :: .ref (q 8) :: st) (wM y q Y) := g_iast (F := (nm (setA Y 14 i.toNat x) F)) hX 8 rfl (by decide) rfl hd hp (k _)
set_option maxRecDepth 100000 in
theorem pu_M_X4_165_M {O : Type} {X : Cx} {cc : ByteArray} {rm : Room} {ret : Option FieldType} {D : va_G} {y : ClassId × ClassId × ClassId} {z : Nat × Nat} {Q : O → State → Prop} {pc pc' : Nat} {lv : List (Option Value)} {st : List Value} {q : Nat → Nat} {Y : St} (hX : OKX X cc RX4 rm ret D y) {F : St → Option O} {a : Int} (hd : decode cc pc = .ok (.putfield 165, 3)) (hp : pc + 3 = pc') (k : ∀ Y1, GF X cc D z Q (F Y1) pc' lv st (wM y q Y1)) : GF X cc D z Q (nm (setI Y 27 a) F) pc lv (.int (iz a) :: .ref (q 0) :: st) (wM y q Y) := g_put (F := (nm (setI Y 27 a) F)) hX tyX4 0 27 in_X4 tyX4_ok nmX4 rfl rfl (by decide) mf_X4_165 rfl rfl rfl rfl rfl rfl hd hp (k _)
set_option maxRecDepth 100000 in
theorem pu_M_X4_168_M {O : Type} {X : Cx} {cc : ByteArray} {rm : Room} {ret : Option FieldType} {D : va_G} {y : ClassId × ClassId × ClassId} {z : Nat × Nat} {Q : O → State → Prop} {pc pc' : Nat} {lv : List (Option Value)} {st : List Value} {q : Nat → Nat} {Y : St} (hX : OKX X cc RX4 rm ret D y) {F : St → Option O} {a : Int} (hd : decode cc pc = .ok (.putfield 168, 3)) (hp : pc + 3 = pc') (k : ∀ Y1, GF X cc D z Q (F Y1) pc' lv st (wM y q Y1)) : GF X cc D z Q (nm (setI Y 28 a) F) pc lv (.int (iz a) :: .ref (q 0) :: st) (wM y q Y) := g_put (F := (nm (setI Y 28 a) F)) hX tyX4 0 28 in_X4 tyX4_ok nmX4 rfl rfl (by decide) mf_X4_168 rfl rfl rfl rfl rfl rfl hd hp (k _)
set_option maxRecDepth 100000 in
theorem ge_M_X4_168_M {O : Type} {X : Cx} {cc : ByteArray} {rm : Room} {ret : Option FieldType} {D : va_G} {y : ClassId × ClassId × ClassId} {z : Nat × Nat} {Q : O → State → Prop} {pc pc' : Nat} {lv : List (Option Value)} {st : List Value} {q : Nat → Nat} {Y : St} (hX : OKX X cc RX4 rm ret D y) {F : Option O} (hd : decode cc pc = .ok (.getfield 168, 3)) (hp : pc + 3 = pc') (kk : GF X cc D z Q F pc' lv (.int (iz (Y.1 28)) :: st) (wM y q Y)) : GF X cc D z Q F pc lv (.ref (q 0) :: st) (wM y q Y) := g_get hX 0 28 in_X4 rfl rfl (by decide) mf_X4_168 rfl hd hp kk
set_option maxRecDepth 100000 in
theorem ge_M_X4_165_M {O : Type} {X : Cx} {cc : ByteArray} {rm : Room} {ret : Option FieldType} {D : va_G} {y : ClassId × ClassId × ClassId} {z : Nat × Nat} {Q : O → State → Prop} {pc pc' : Nat} {lv : List (Option Value)} {st : List Value} {q : Nat → Nat} {Y : St} (hX : OKX X cc RX4 rm ret D y) {F : Option O} (hd : decode cc pc = .ok (.getfield 165, 3)) (hp : pc + 3 = pc') (kk : GF X cc D z Q F pc' lv (.int (iz (Y.1 27)) :: st) (wM y q Y)) : GF X cc D z Q F pc lv (.ref (q 0) :: st) (wM y q Y) := g_get hX 0 27 in_X4 rfl rfl (by decide) mf_X4_165 rfl hd hp kk
set_option maxRecDepth 100000 in
theorem pu_M_X4_190_M {O : Type} {X : Cx} {cc : ByteArray} {rm : Room} {ret : Option FieldType} {D : va_G} {y : ClassId × ClassId × ClassId} {z : Nat × Nat} {Q : O → State → Prop} {pc pc' : Nat} {lv : List (Option Value)} {st : List Value} {q : Nat → Nat} {Y : St} (hX : OKX X cc RX4 rm ret D y) {F : St → Option O} {a : Int} (hd : decode cc pc = .ok (.putfield 190, 3)) (hp : pc + 3 = pc') (k : ∀ Y1, GF X cc D z Q (F Y1) pc' lv st (wM y q Y1)) : GF X cc D z Q (nm (setI Y 4 a) F) pc lv (.int (iz a) :: .ref (q 0) :: st) (wM y q Y) := g_put (F := (nm (setI Y 4 a) F)) hX tyX4 0 4 in_X4 tyX4_ok nmX4 rfl rfl (by decide) mf_X4_190 rfl rfl rfl rfl rfl rfl hd hp (k _)
set_option maxRecDepth 100000 in
theorem pu_M_X4_193_M {O : Type} {X : Cx} {cc : ByteArray} {rm : Room} {ret : Option FieldType} {D : va_G} {y : ClassId × ClassId × ClassId} {z : Nat × Nat} {Q : O → State → Prop} {pc pc' : Nat} {lv : List (Option Value)} {st : List Value} {q : Nat → Nat} {Y : St} (hX : OKX X cc RX4 rm ret D y) {F : St → Option O} {a : Int} (hd : decode cc pc = .ok (.putfield 193, 3)) (hp : pc + 3 = pc') (k : ∀ Y1, GF X cc D z Q (F Y1) pc' lv st (wM y q Y1)) : GF X cc D z Q (nm (setI Y 5 a) F) pc lv (.int (iz a) :: .ref (q 0) :: st) (wM y q Y) := g_put (F := (nm (setI Y 5 a) F)) hX tyX4 0 5 in_X4 tyX4_ok nmX4 rfl rfl (by decide) mf_X4_193 rfl rfl rfl rfl rfl rfl hd hp (k _)
set_option maxRecDepth 100000 in
theorem ge_M_X4_16_M {O : Type} {X : Cx} {cc : ByteArray} {rm : Room} {ret : Option FieldType} {D : va_G} {y : ClassId × ClassId × ClassId} {z : Nat × Nat} {Q : O → State → Prop} {pc pc' : Nat} {lv : List (Option Value)} {st : List Value} {q : Nat → Nat} {Y : St} (hX : OKX X cc RX4 rm ret D y) {F : Option O} (hd : decode cc pc = .ok (.getfield 16, 3)) (hp : pc + 3 = pc') (kk : GF X cc D z Q F pc' lv (.ref (q 3) :: st) (wM y q Y)) : GF X cc D z Q F pc lv (.ref (q 0) :: st) (wM y q Y) := g_get hX 0 6 in_X4 rfl rfl (by decide) mf_X4_16 rfl hd hp kk
set_option maxRecDepth 100000 in
theorem as_M_M_6 {O : Type} {X : Cx} {cc : ByteArray} {own : String} {rm : Room} {ret : Option FieldType} {D : va_G} {y : ClassId × ClassId × ClassId} {z : Nat × Nat} {Q : O → State → Prop} {pc pc' : Nat} {lv : List (Option Value)} {st : List Value} {q : Nat → Nat} {Y : St} (hX : OKX X cc own rm ret D y) {F : St → Option O} {i : Int} {x : Int} (hd : decode cc pc = .ok (.iastore, 1)) (hp : pc + 1 = pc') (k : ∀ Y1, GF X cc D z Q (F Y1) pc' lv st (wM y q Y1)) : GF X cc D z Q (bd i 300 (nm (setA Y 6 i.toNat x) F)) pc lv (.int (iz x) :: .int (iz i) :: .ref (q 3) :: st) (wM y q Y) := g_iast (F := (nm (setA Y 6 i.toNat x) F)) hX 3 rfl (by decide) rfl hd hp (k _)
set_option maxRecDepth 100000 in
theorem ge_M_X4_19_M {O : Type} {X : Cx} {cc : ByteArray} {rm : Room} {ret : Option FieldType} {D : va_G} {y : ClassId × ClassId × ClassId} {z : Nat × Nat} {Q : O → State → Prop} {pc pc' : Nat} {lv : List (Option Value)} {st : List Value} {q : Nat → Nat} {Y : St} (hX : OKX X cc RX4 rm ret D y) {F : Option O} (hd : decode cc pc = .ok (.getfield 19, 3)) (hp : pc + 3 = pc') (kk : GF X cc D z Q F pc' lv (.ref (q 4) :: st) (wM y q Y)) : GF X cc D z Q F pc lv (.ref (q 0) :: st) (wM y q Y) := g_get hX 0 7 in_X4 rfl rfl (by decide) mf_X4_19 rfl hd hp kk
set_option maxRecDepth 100000 in
theorem as_M_M_7 {O : Type} {X : Cx} {cc : ByteArray} {own : String} {rm : Room} {ret : Option FieldType} {D : va_G} {y : ClassId × ClassId × ClassId} {z : Nat × Nat} {Q : O → State → Prop} {pc pc' : Nat} {lv : List (Option Value)} {st : List Value} {q : Nat → Nat} {Y : St} (hX : OKX X cc own rm ret D y) {F : St → Option O} {i : Int} {x : Int} (hd : decode cc pc = .ok (.iastore, 1)) (hp : pc + 1 = pc') (k : ∀ Y1, GF X cc D z Q (F Y1) pc' lv st (wM y q Y1)) : GF X cc D z Q (bd i 300 (nm (setA Y 7 i.toNat x) F)) pc lv (.int (iz x) :: .int (iz i) :: .ref (q 4) :: st) (wM y q Y) := g_iast (F := (nm (setA Y 7 i.toNat x) F)) hX 4 rfl (by decide) rfl hd hp (k _)
set_option maxRecDepth 100000 in
theorem al_M_M_6 {O : Type} {X : Cx} {cc : ByteArray} {own : String} {rm : Room} {ret : Option FieldType} {D : va_G} {y : ClassId × ClassId × ClassId} {z : Nat × Nat} {Q : O → State → Prop} {pc pc' : Nat} {lv : List (Option Value)} {st : List Value} {q : Nat → Nat} {Y : St} (hX : OKX X cc own rm ret D y) {F : Option O} {i : Int} (hd : decode cc pc = .ok (.iaload, 1)) (hp : pc + 1 = pc') (kk : GF X cc D z Q F pc' lv (.int (iz (Y.2 6 i.toNat)) :: st) (wM y q Y)) : GF X cc D z Q (bd i 300 F) pc lv (.int (iz i) :: .ref (q 3) :: st) (wM y q Y) := g_iald hX 3 rfl (by decide) hd hp kk
set_option maxRecDepth 100000 in
theorem ge_M_X4_81_M {O : Type} {X : Cx} {cc : ByteArray} {rm : Room} {ret : Option FieldType} {D : va_G} {y : ClassId × ClassId × ClassId} {z : Nat × Nat} {Q : O → State → Prop} {pc pc' : Nat} {lv : List (Option Value)} {st : List Value} {q : Nat → Nat} {Y : St} (hX : OKX X cc RX4 rm ret D y) {F : Option O} (hd : decode cc pc = .ok (.getfield 81, 3)) (hp : pc + 3 = pc') (kk : GF X cc D z Q F pc' lv (.int (iz (Y.1 3)) :: st) (wM y q Y)) : GF X cc D z Q F pc lv (.ref (q 0) :: st) (wM y q Y) := g_get hX 0 3 in_X4 rfl rfl (by decide) mf_X4_81 rfl hd hp kk
set_option maxRecDepth 100000 in
theorem al_M_M_7 {O : Type} {X : Cx} {cc : ByteArray} {own : String} {rm : Room} {ret : Option FieldType} {D : va_G} {y : ClassId × ClassId × ClassId} {z : Nat × Nat} {Q : O → State → Prop} {pc pc' : Nat} {lv : List (Option Value)} {st : List Value} {q : Nat → Nat} {Y : St} (hX : OKX X cc own rm ret D y) {F : Option O} {i : Int} (hd : decode cc pc = .ok (.iaload, 1)) (hp : pc + 1 = pc') (kk : GF X cc D z Q F pc' lv (.int (iz (Y.2 7 i.toNat)) :: st) (wM y q Y)) : GF X cc D z Q (bd i 300 F) pc lv (.int (iz i) :: .ref (q 4) :: st) (wM y q Y) := g_iald hX 4 rfl (by decide) hd hp kk
set_option maxRecDepth 100000 in
theorem ge_M_X4_190_M {O : Type} {X : Cx} {cc : ByteArray} {rm : Room} {ret : Option FieldType} {D : va_G} {y : ClassId × ClassId × ClassId} {z : Nat × Nat} {Q : O → State → Prop} {pc pc' : Nat} {lv : List (Option Value)} {st : List Value} {q : Nat → Nat} {Y : St} (hX : OKX X cc RX4 rm ret D y) {F : Option O} (hd : decode cc pc = .ok (.getfield 190, 3)) (hp : pc + 3 = pc') (kk : GF X cc D z Q F pc' lv (.int (iz (Y.1 4)) :: st) (wM y q Y)) : GF X cc D z Q F pc lv (.ref (q 0) :: st) (wM y q Y) := g_get hX 0 4 in_X4 rfl rfl (by decide) mf_X4_190 rfl hd hp kk
set_option maxRecDepth 100000 in
theorem ge_M_X4_193_M {O : Type} {X : Cx} {cc : ByteArray} {rm : Room} {ret : Option FieldType} {D : va_G} {y : ClassId × ClassId × ClassId} {z : Nat × Nat} {Q : O → State → Prop} {pc pc' : Nat} {lv : List (Option Value)} {st : List Value} {q : Nat → Nat} {Y : St} (hX : OKX X cc RX4 rm ret D y) {F : Option O} (hd : decode cc pc = .ok (.getfield 193, 3)) (hp : pc + 3 = pc') (kk : GF X cc D z Q F pc' lv (.int (iz (Y.1 5)) :: st) (wM y q Y)) : GF X cc D z Q F pc lv (.ref (q 0) :: st) (wM y q Y) := g_get hX 0 5 in_X4 rfl rfl (by decide) mf_X4_193 rfl hd hp kk
set_option maxRecDepth 100000 in
theorem ge_M_X4_60_M {O : Type} {X : Cx} {cc : ByteArray} {rm : Room} {ret : Option FieldType} {D : va_G} {y : ClassId × ClassId × ClassId} {z : Nat × Nat} {Q : O → State → Prop} {pc pc' : Nat} {lv : List (Option Value)} {st : List Value} {q : Nat → Nat} {Y : St} (hX : OKX X cc RX4 rm ret D y) {F : Option O} (hd : decode cc pc = .ok (.getfield 60, 3)) (hp : pc + 3 = pc') (kk : GF X cc D z Q F pc' lv (.ref (q 17) :: st) (wM y q Y)) : GF X cc D z Q F pc lv (.ref (q 0) :: st) (wM y q Y) := g_get hX 0 30 in_X4 rfl rfl (by decide) mf_X4_60 rfl hd hp kk
set_option maxRecDepth 100000 in
theorem al_M_M_30 {O : Type} {X : Cx} {cc : ByteArray} {own : String} {rm : Room} {ret : Option FieldType} {D : va_G} {y : ClassId × ClassId × ClassId} {z : Nat × Nat} {Q : O → State → Prop} {pc pc' : Nat} {lv : List (Option Value)} {st : List Value} {q : Nat → Nat} {Y : St} (hX : OKX X cc own rm ret D y) {F : Option O} {i : Int} (hd : decode cc pc = .ok (.iaload, 1)) (hp : pc + 1 = pc') (kk : GF X cc D z Q F pc' lv (.int (iz (Y.2 30 i.toNat)) :: st) (wM y q Y)) : GF X cc D z Q (bd i 308224 F) pc lv (.int (iz i) :: .ref (q 17) :: st) (wM y q Y) := g_iald hX 17 rfl (by decide) hd hp kk
set_option maxRecDepth 100000 in
theorem ge_M_X4_56_M {O : Type} {X : Cx} {cc : ByteArray} {rm : Room} {ret : Option FieldType} {D : va_G} {y : ClassId × ClassId × ClassId} {z : Nat × Nat} {Q : O → State → Prop} {pc pc' : Nat} {lv : List (Option Value)} {st : List Value} {q : Nat → Nat} {Y : St} (hX : OKX X cc RX4 rm ret D y) {F : Option O} (hd : decode cc pc = .ok (.getfield 56, 3)) (hp : pc + 3 = pc') (kk : GF X cc D z Q F pc' lv (.ref (q 16) :: st) (wM y q Y)) : GF X cc D z Q F pc lv (.ref (q 0) :: st) (wM y q Y) := g_get hX 0 29 in_X4 rfl rfl (by decide) mf_X4_56 rfl hd hp kk
set_option maxRecDepth 100000 in
theorem al_M_M_29 {O : Type} {X : Cx} {cc : ByteArray} {own : String} {rm : Room} {ret : Option FieldType} {D : va_G} {y : ClassId × ClassId × ClassId} {z : Nat × Nat} {Q : O → State → Prop} {pc pc' : Nat} {lv : List (Option Value)} {st : List Value} {q : Nat → Nat} {Y : St} (hX : OKX X cc own rm ret D y) {F : Option O} {i : Int} (hd : decode cc pc = .ok (.iaload, 1)) (hp : pc + 1 = pc') (kk : GF X cc D z Q F pc' lv (.int (iz (Y.2 29 i.toNat)) :: st) (wM y q Y)) : GF X cc D z Q (bd i 16 F) pc lv (.int (iz i) :: .ref (q 16) :: st) (wM y q Y) := g_iald hX 16 rfl (by decide) hd hp kk
set_option maxRecDepth 100000 in
theorem as_M_M_30 {O : Type} {X : Cx} {cc : ByteArray} {own : String} {rm : Room} {ret : Option FieldType} {D : va_G} {y : ClassId × ClassId × ClassId} {z : Nat × Nat} {Q : O → State → Prop} {pc pc' : Nat} {lv : List (Option Value)} {st : List Value} {q : Nat → Nat} {Y : St} (hX : OKX X cc own rm ret D y) {F : St → Option O} {i : Int} {x : Int} (hd : decode cc pc = .ok (.iastore, 1)) (hp : pc + 1 = pc') (k : ∀ Y1, GF X cc D z Q (F Y1) pc' lv st (wM y q Y1)) : GF X cc D z Q (bd i 308224 (nm (setA Y 30 i.toNat x) F)) pc lv (.int (iz x) :: .int (iz i) :: .ref (q 17) :: st) (wM y q Y) := g_iast (F := (nm (setA Y 30 i.toNat x) F)) hX 17 rfl (by decide) rfl hd hp (k _)
set_option maxRecDepth 100000 in
theorem ge_M_X4_222_M {O : Type} {X : Cx} {cc : ByteArray} {rm : Room} {ret : Option FieldType} {D : va_G} {y : ClassId × ClassId × ClassId} {z : Nat × Nat} {Q : O → State → Prop} {pc pc' : Nat} {lv : List (Option Value)} {st : List Value} {q : Nat → Nat} {Y : St} (hX : OKX X cc RX4 rm ret D y) {F : Option O} (hd : decode cc pc = .ok (.getfield 222, 3)) (hp : pc + 3 = pc') (kk : GF X cc D z Q F pc' lv (.int (iz (Y.1 31)) :: st) (wM y q Y)) : GF X cc D z Q F pc lv (.ref (q 0) :: st) (wM y q Y) := g_get hX 0 31 in_X4 rfl rfl (by decide) mf_X4_222 rfl hd hp kk
set_option maxRecDepth 100000 in
theorem pu_M_X4_222_M {O : Type} {X : Cx} {cc : ByteArray} {rm : Room} {ret : Option FieldType} {D : va_G} {y : ClassId × ClassId × ClassId} {z : Nat × Nat} {Q : O → State → Prop} {pc pc' : Nat} {lv : List (Option Value)} {st : List Value} {q : Nat → Nat} {Y : St} (hX : OKX X cc RX4 rm ret D y) {F : St → Option O} {a : Int} (hd : decode cc pc = .ok (.putfield 222, 3)) (hp : pc + 3 = pc') (k : ∀ Y1, GF X cc D z Q (F Y1) pc' lv st (wM y q Y1)) : GF X cc D z Q (nm (setI Y 31 a) F) pc lv (.int (iz a) :: .ref (q 0) :: st) (wM y q Y) := g_put (F := (nm (setI Y 31 a) F)) hX tyX4 0 31 in_X4 tyX4_ok nmX4 rfl rfl (by decide) mf_X4_222 rfl rfl rfl rfl rfl rfl hd hp (k _)
set_option maxRecDepth 100000 in
theorem as_M_M_29 {O : Type} {X : Cx} {cc : ByteArray} {own : String} {rm : Room} {ret : Option FieldType} {D : va_G} {y : ClassId × ClassId × ClassId} {z : Nat × Nat} {Q : O → State → Prop} {pc pc' : Nat} {lv : List (Option Value)} {st : List Value} {q : Nat → Nat} {Y : St} (hX : OKX X cc own rm ret D y) {F : St → Option O} {i : Int} {x : Int} (hd : decode cc pc = .ok (.iastore, 1)) (hp : pc + 1 = pc') (k : ∀ Y1, GF X cc D z Q (F Y1) pc' lv st (wM y q Y1)) : GF X cc D z Q (bd i 16 (nm (setA Y 29 i.toNat x) F)) pc lv (.int (iz x) :: .int (iz i) :: .ref (q 16) :: st) (wM y q Y) := g_iast (F := (nm (setA Y 29 i.toNat x) F)) hX 16 rfl (by decide) rfl hd hp (k _)
set_option maxRecDepth 100000 in
theorem ge_M_X4_63_M {O : Type} {X : Cx} {cc : ByteArray} {rm : Room} {ret : Option FieldType} {D : va_G} {y : ClassId × ClassId × ClassId} {z : Nat × Nat} {Q : O → State → Prop} {pc pc' : Nat} {lv : List (Option Value)} {st : List Value} {q : Nat → Nat} {Y : St} (hX : OKX X cc RX4 rm ret D y) {F : Option O} (hd : decode cc pc = .ok (.getfield 63, 3)) (hp : pc + 3 = pc') (kk : GF X cc D z Q F pc' lv (.ref (q 18) :: st) (wM y q Y)) : GF X cc D z Q F pc lv (.ref (q 0) :: st) (wM y q Y) := g_get hX 0 32 in_X4 rfl rfl (by decide) mf_X4_63 rfl hd hp kk
set_option maxRecDepth 100000 in
theorem as_M_M_32 {O : Type} {X : Cx} {cc : ByteArray} {own : String} {rm : Room} {ret : Option FieldType} {D : va_G} {y : ClassId × ClassId × ClassId} {z : Nat × Nat} {Q : O → State → Prop} {pc pc' : Nat} {lv : List (Option Value)} {st : List Value} {q : Nat → Nat} {Y : St} (hX : OKX X cc own rm ret D y) {F : St → Option O} {i : Int} {x : Int} (hd : decode cc pc = .ok (.bastore, 1)) (hp : pc + 1 = pc') (k : ∀ Y1, GF X cc D z Q (F Y1) pc' lv st (wM y q Y1)) : GF X cc D z Q (cb x (bd i 16 (nm (setA Y 32 i.toNat x) F))) pc lv (.int (iz x) :: .int (iz i) :: .ref (q 18) :: st) (wM y q Y) := g_zast (F := (nm (setA Y 32 i.toNat x) F)) hX 18 rfl (by decide) rfl hd hp (k _)
set_option maxRecDepth 100000 in
theorem al_M_M_32 {O : Type} {X : Cx} {cc : ByteArray} {own : String} {rm : Room} {ret : Option FieldType} {D : va_G} {y : ClassId × ClassId × ClassId} {z : Nat × Nat} {Q : O → State → Prop} {pc pc' : Nat} {lv : List (Option Value)} {st : List Value} {q : Nat → Nat} {Y : St} (hX : OKX X cc own rm ret D y) {F : Option O} {i : Int} (hd : decode cc pc = .ok (.baload, 1)) (hp : pc + 1 = pc') (kk : GF X cc D z Q F pc' lv (.int (iz (Y.2 32 i.toNat)) :: st) (wM y q Y)) : GF X cc D z Q (bd i 16 F) pc lv (.int (iz i) :: .ref (q 18) :: st) (wM y q Y) := g_zald hX 18 rfl (by decide) hd hp kk
set_option maxRecDepth 100000 in
theorem ge_M_X4_22_M {O : Type} {X : Cx} {cc : ByteArray} {rm : Room} {ret : Option FieldType} {D : va_G} {y : ClassId × ClassId × ClassId} {z : Nat × Nat} {Q : O → State → Prop} {pc pc' : Nat} {lv : List (Option Value)} {st : List Value} {q : Nat → Nat} {Y : St} (hX : OKX X cc RX4 rm ret D y) {F : Option O} (hd : decode cc pc = .ok (.getfield 22, 3)) (hp : pc + 3 = pc') (kk : GF X cc D z Q F pc' lv (.ref (q 5) :: st) (wM y q Y)) : GF X cc D z Q F pc lv (.ref (q 0) :: st) (wM y q Y) := g_get hX 0 8 in_X4 rfl rfl (by decide) mf_X4_22 rfl hd hp kk
set_option maxRecDepth 100000 in
theorem as_M_M_8 {O : Type} {X : Cx} {cc : ByteArray} {own : String} {rm : Room} {ret : Option FieldType} {D : va_G} {y : ClassId × ClassId × ClassId} {z : Nat × Nat} {Q : O → State → Prop} {pc pc' : Nat} {lv : List (Option Value)} {st : List Value} {q : Nat → Nat} {Y : St} (hX : OKX X cc own rm ret D y) {F : St → Option O} {i : Int} {x : Int} (hd : decode cc pc = .ok (.iastore, 1)) (hp : pc + 1 = pc') (k : ∀ Y1, GF X cc D z Q (F Y1) pc' lv st (wM y q Y1)) : GF X cc D z Q (bd i 300 (nm (setA Y 8 i.toNat x) F)) pc lv (.int (iz x) :: .int (iz i) :: .ref (q 5) :: st) (wM y q Y) := g_iast (F := (nm (setA Y 8 i.toNat x) F)) hX 5 rfl (by decide) rfl hd hp (k _)
set_option maxRecDepth 100000 in
theorem pu_M_X4_97_M {O : Type} {X : Cx} {cc : ByteArray} {rm : Room} {ret : Option FieldType} {D : va_G} {y : ClassId × ClassId × ClassId} {z : Nat × Nat} {Q : O → State → Prop} {pc pc' : Nat} {lv : List (Option Value)} {st : List Value} {q : Nat → Nat} {Y : St} (hX : OKX X cc RX4 rm ret D y) {F : St → Option O} {a : Int} (hd : decode cc pc = .ok (.putfield 97, 3)) (hp : pc + 3 = pc') (k : ∀ Y1, GF X cc D z Q (F Y1) pc' lv st (wM y q Y1)) : GF X cc D z Q (nm (setI Y 9 a) F) pc lv (.int (iz a) :: .ref (q 0) :: st) (wM y q Y) := g_put (F := (nm (setI Y 9 a) F)) hX tyX4 0 9 in_X4 tyX4_ok nmX4 rfl rfl (by decide) mf_X4_97 rfl rfl rfl rfl rfl rfl hd hp (k _)
set_option maxRecDepth 100000 in
theorem ge_M_X4_66_M {O : Type} {X : Cx} {cc : ByteArray} {rm : Room} {ret : Option FieldType} {D : va_G} {y : ClassId × ClassId × ClassId} {z : Nat × Nat} {Q : O → State → Prop} {pc pc' : Nat} {lv : List (Option Value)} {st : List Value} {q : Nat → Nat} {Y : St} (hX : OKX X cc RX4 rm ret D y) {F : Option O} (hd : decode cc pc = .ok (.getfield 66, 3)) (hp : pc + 3 = pc') (kk : GF X cc D z Q F pc' lv (.ref (q 19) :: st) (wM y q Y)) : GF X cc D z Q F pc lv (.ref (q 0) :: st) (wM y q Y) := g_get hX 0 33 in_X4 rfl rfl (by decide) mf_X4_66 rfl hd hp kk
set_option maxRecDepth 100000 in
theorem as_M_M_33 {O : Type} {X : Cx} {cc : ByteArray} {own : String} {rm : Room} {ret : Option FieldType} {D : va_G} {y : ClassId × ClassId × ClassId} {z : Nat × Nat} {Q : O → State → Prop} {pc pc' : Nat} {lv : List (Option Value)} {st : List Value} {q : Nat → Nat} {Y : St} (hX : OKX X cc own rm ret D y) {F : St → Option O} {i : Int} {x : Int} (hd : decode cc pc = .ok (.bastore, 1)) (hp : pc + 1 = pc') (k : ∀ Y1, GF X cc D z Q (F Y1) pc' lv st (wM y q Y1)) : GF X cc D z Q (cb x (bd i 16 (nm (setA Y 33 i.toNat x) F))) pc lv (.int (iz x) :: .int (iz i) :: .ref (q 19) :: st) (wM y q Y) := g_zast (F := (nm (setA Y 33 i.toNat x) F)) hX 19 rfl (by decide) rfl hd hp (k _)
set_option maxRecDepth 100000 in
theorem al_M_M_33 {O : Type} {X : Cx} {cc : ByteArray} {own : String} {rm : Room} {ret : Option FieldType} {D : va_G} {y : ClassId × ClassId × ClassId} {z : Nat × Nat} {Q : O → State → Prop} {pc pc' : Nat} {lv : List (Option Value)} {st : List Value} {q : Nat → Nat} {Y : St} (hX : OKX X cc own rm ret D y) {F : Option O} {i : Int} (hd : decode cc pc = .ok (.baload, 1)) (hp : pc + 1 = pc') (kk : GF X cc D z Q F pc' lv (.int (iz (Y.2 33 i.toNat)) :: st) (wM y q Y)) : GF X cc D z Q (bd i 16 F) pc lv (.int (iz i) :: .ref (q 19) :: st) (wM y q Y) := g_zald hX 19 rfl (by decide) hd hp kk
set_option maxRecDepth 100000 in
theorem al_M_M_8 {O : Type} {X : Cx} {cc : ByteArray} {own : String} {rm : Room} {ret : Option FieldType} {D : va_G} {y : ClassId × ClassId × ClassId} {z : Nat × Nat} {Q : O → State → Prop} {pc pc' : Nat} {lv : List (Option Value)} {st : List Value} {q : Nat → Nat} {Y : St} (hX : OKX X cc own rm ret D y) {F : Option O} {i : Int} (hd : decode cc pc = .ok (.iaload, 1)) (hp : pc + 1 = pc') (kk : GF X cc D z Q F pc' lv (.int (iz (Y.2 8 i.toNat)) :: st) (wM y q Y)) : GF X cc D z Q (bd i 300 F) pc lv (.int (iz i) :: .ref (q 5) :: st) (wM y q Y) := g_iald hX 5 rfl (by decide) hd hp kk
end
