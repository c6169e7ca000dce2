section
-- ===== PART A: goes FIRST, ahead of the names: the tables' words, and 'selects' of the private methods out of them =====
/-- a private method of a class that the tables say can be made, by its rows of tables_1 -/
def lw_okq (q : MethodName × Nat) : Prop := (q.1.cls ≠ "java/lang/invoke/MethodHandle" ∧ q.1.cls ≠ "java/lang/invoke/VarHandle") ∧ Cond.instantiable q.1.cls q.2 ∈ tables_1 ∧ Cond.privateMethod q.1 ∈ tables_1 ∧ Cond.instanceMethod q.1 ∈ tables_1
theorem lw_p0 : lw_okq (⟨"SiteCuts", "lowerBound", "()I"⟩, 7) := ⟨⟨by decide +kernel, by decide +kernel⟩, List.mem_of_getElem? (i := 11) (by decide +kernel), List.mem_of_getElem? (i := 546) (by decide +kernel), List.mem_of_getElem? (i := 547) (by decide +kernel)⟩
theorem lw_p1 : lw_okq (⟨"SiteCuts", "costOrNone", "(I)I"⟩, 7) := ⟨⟨by decide +kernel, by decide +kernel⟩, List.mem_of_getElem? (i := 11) (by decide +kernel), List.mem_of_getElem? (i := 550) (by decide +kernel), List.mem_of_getElem? (i := 551) (by decide +kernel)⟩
theorem lw_p2 : lw_okq (⟨"SiteCuts", "gap", "()I"⟩, 7) := ⟨⟨by decide +kernel, by decide +kernel⟩, List.mem_of_getElem? (i := 11) (by decide +kernel), List.mem_of_getElem? (i := 554) (by decide +kernel), List.mem_of_getElem? (i := 555) (by decide +kernel)⟩
theorem lw_p3 : lw_okq (⟨"SiteCutsModel", "begin", "()V"⟩, 10) := ⟨⟨by decide +kernel, by decide +kernel⟩, List.mem_of_getElem? (i := 589) (by decide +kernel), List.mem_of_getElem? (i := 638) (by decide +kernel), List.mem_of_getElem? (i := 639) (by decide +kernel)⟩
theorem lw_p4 : lw_okq (⟨"SiteCutsModel", "remember", "()V"⟩, 10) := ⟨⟨by decide +kernel, by decide +kernel⟩, List.mem_of_getElem? (i := 589) (by decide +kernel), List.mem_of_getElem? (i := 642) (by decide +kernel), List.mem_of_getElem? (i := 643) (by decide +kernel)⟩
theorem lw_p5 : lw_okq (⟨"SiteCutsModel", "record", "()V"⟩, 10) := ⟨⟨by decide +kernel, by decide +kernel⟩, List.mem_of_getElem? (i := 589) (by decide +kernel), List.mem_of_getElem? (i := 646) (by decide +kernel), List.mem_of_getElem? (i := 647) (by decide +kernel)⟩
theorem lw_p6 : lw_okq (⟨"SiteCutsModel", "dropAll", "()V"⟩, 10) := ⟨⟨by decide +kernel, by decide +kernel⟩, List.mem_of_getElem? (i := 589) (by decide +kernel), List.mem_of_getElem? (i := 657) (by decide +kernel), List.mem_of_getElem? (i := 658) (by decide +kernel)⟩
theorem lw_p7 : lw_okq (⟨"SiteCutsModel", "noSite", "(I)Z"⟩, 10) := ⟨⟨by decide +kernel, by decide +kernel⟩, List.mem_of_getElem? (i := 589) (by decide +kernel), List.mem_of_getElem? (i := 669) (by decide +kernel), List.mem_of_getElem? (i := 670) (by decide +kernel)⟩
theorem lw_p8 : lw_okq (⟨"SiteCutsModel", "change", "(II)I"⟩, 10) := ⟨⟨by decide +kernel, by decide +kernel⟩, List.mem_of_getElem? (i := 589) (by decide +kernel), List.mem_of_getElem? (i := 673) (by decide +kernel), List.mem_of_getElem? (i := 674) (by decide +kernel)⟩
theorem lw_p9 : lw_okq (⟨"SiteCutsModel", "noCustomer", "(I)Z"⟩, 10) := ⟨⟨by decide +kernel, by decide +kernel⟩, List.mem_of_getElem? (i := 589) (by decide +kernel), List.mem_of_getElem? (i := 681) (by decide +kernel), List.mem_of_getElem? (i := 682) (by decide +kernel)⟩
theorem lw_p10 : lw_okq (⟨"SiteCutsModel", "makeStep", "()I"⟩, 10) := ⟨⟨by decide +kernel, by decide +kernel⟩, List.mem_of_getElem? (i := 589) (by decide +kernel), List.mem_of_getElem? (i := 710) (by decide +kernel), List.mem_of_getElem? (i := 711) (by decide +kernel)⟩
theorem lw_p11 : lw_okq (⟨"SiteCutsModel", "masterPlan", "()I"⟩, 10) := ⟨⟨by decide +kernel, by decide +kernel⟩, List.mem_of_getElem? (i := 589) (by decide +kernel), List.mem_of_getElem? (i := 714) (by decide +kernel), List.mem_of_getElem? (i := 715) (by decide +kernel)⟩
theorem lw_p12 : lw_okq (⟨"SiteCutsModel", "isAllowed", "(I)Z"⟩, 10) := ⟨⟨by decide +kernel, by decide +kernel⟩, List.mem_of_getElem? (i := 589) (by decide +kernel), List.mem_of_getElem? (i := 718) (by decide +kernel), List.mem_of_getElem? (i := 719) (by decide +kernel)⟩
theorem lw_p13 : lw_okq (⟨"SiteCutsModel", "excludes", "(I)Z"⟩, 10) := ⟨⟨by decide +kernel, by decide +kernel⟩, List.mem_of_getElem? (i := 589) (by decide +kernel), List.mem_of_getElem? (i := 722) (by decide +kernel), List.mem_of_getElem? (i := 723) (by decide +kernel)⟩
theorem lw_p14 : lw_okq (⟨"SiteCutsModel", "raysMissed", "(I)I"⟩, 10) := ⟨⟨by decide +kernel, by decide +kernel⟩, List.mem_of_getElem? (i := 589) (by decide +kernel), List.mem_of_getElem? (i := 726) (by decide +kernel), List.mem_of_getElem? (i := 727) (by decide +kernel)⟩
theorem lw_p15 : lw_okq (⟨"SiteCutsModel", "isRay", "(I)Z"⟩, 10) := ⟨⟨by decide +kernel, by decide +kernel⟩, List.mem_of_getElem? (i := 589) (by decide +kernel), List.mem_of_getElem? (i := 730) (by decide +kernel), List.mem_of_getElem? (i := 731) (by decide +kernel)⟩
def lw_privs_1 : List (MethodName × Nat) := [(⟨"SiteCuts", "lowerBound", "()I"⟩, 7), (⟨"SiteCuts", "costOrNone", "(I)I"⟩, 7), (⟨"SiteCuts", "gap", "()I"⟩, 7), (⟨"SiteCutsModel", "begin", "()V"⟩, 10), (⟨"SiteCutsModel", "remember", "()V"⟩, 10), (⟨"SiteCutsModel", "record", "()V"⟩, 10), (⟨"SiteCutsModel", "dropAll", "()V"⟩, 10), (⟨"SiteCutsModel", "noSite", "(I)Z"⟩, 10), (⟨"SiteCutsModel", "change", "(II)I"⟩, 10), (⟨"SiteCutsModel", "noCustomer", "(I)Z"⟩, 10), (⟨"SiteCutsModel", "makeStep", "()I"⟩, 10), (⟨"SiteCutsModel", "masterPlan", "()I"⟩, 10), (⟨"SiteCutsModel", "isAllowed", "(I)Z"⟩, 10), (⟨"SiteCutsModel", "excludes", "(I)Z"⟩, 10), (⟨"SiteCutsModel", "raysMissed", "(I)I"⟩, 10), (⟨"SiteCutsModel", "isRay", "(I)Z"⟩, 10)]
theorem lw_r1 : ∀ q ∈ lw_privs_1, lw_okq q := List.forall_mem_cons.mpr ⟨lw_p0, List.forall_mem_cons.mpr ⟨lw_p1, List.forall_mem_cons.mpr ⟨lw_p2, List.forall_mem_cons.mpr ⟨lw_p3, List.forall_mem_cons.mpr ⟨lw_p4, List.forall_mem_cons.mpr ⟨lw_p5, List.forall_mem_cons.mpr ⟨lw_p6, List.forall_mem_cons.mpr ⟨lw_p7, List.forall_mem_cons.mpr ⟨lw_p8, List.forall_mem_cons.mpr ⟨lw_p9, List.forall_mem_cons.mpr ⟨lw_p10, List.forall_mem_cons.mpr ⟨lw_p11, List.forall_mem_cons.mpr ⟨lw_p12, List.forall_mem_cons.mpr ⟨lw_p13, List.forall_mem_cons.mpr ⟨lw_p14, List.forall_mem_cons.mpr ⟨lw_p15, fun _ h => absurd h List.not_mem_nil⟩⟩⟩⟩⟩⟩⟩⟩⟩⟩⟩⟩⟩⟩⟩⟩
theorem lw_p16 : lw_okq (⟨"SiteCutsModel", "asked", "(II)I"⟩, 10) := ⟨⟨by decide +kernel, by decide +kernel⟩, List.mem_of_getElem? (i := 589) (by decide +kernel), List.mem_of_getElem? (i := 734) (by decide +kernel), List.mem_of_getElem? (i := 735) (by decide +kernel)⟩
theorem lw_p17 : lw_okq (⟨"SiteCutsModel", "reachedFrom", "(I)I"⟩, 10) := ⟨⟨by decide +kernel, by decide +kernel⟩, List.mem_of_getElem? (i := 589) (by decide +kernel), List.mem_of_getElem? (i := 738) (by decide +kernel), List.mem_of_getElem? (i := 739) (by decide +kernel)⟩
theorem lw_p18 : lw_okq (⟨"SiteCutsModel", "guess", "(I)I"⟩, 10) := ⟨⟨by decide +kernel, by decide +kernel⟩, List.mem_of_getElem? (i := 589) (by decide +kernel), List.mem_of_getElem? (i := 742) (by decide +kernel), List.mem_of_getElem? (i := 743) (by decide +kernel)⟩
theorem lw_p19 : lw_okq (⟨"SiteCutsModel", "valueOf", "(II)I"⟩, 10) := ⟨⟨by decide +kernel, by decide +kernel⟩, List.mem_of_getElem? (i := 589) (by decide +kernel), List.mem_of_getElem? (i := 746) (by decide +kernel), List.mem_of_getElem? (i := 747) (by decide +kernel)⟩
theorem lw_p20 : lw_okq (⟨"SiteCutsModel", "weightOf", "(II)I"⟩, 10) := ⟨⟨by decide +kernel, by decide +kernel⟩, List.mem_of_getElem? (i := 589) (by decide +kernel), List.mem_of_getElem? (i := 750) (by decide +kernel), List.mem_of_getElem? (i := 751) (by decide +kernel)⟩
theorem lw_p21 : lw_okq (⟨"SiteCutsModel", "prices", "(I)I"⟩, 10) := ⟨⟨by decide +kernel, by decide +kernel⟩, List.mem_of_getElem? (i := 589) (by decide +kernel), List.mem_of_getElem? (i := 754) (by decide +kernel), List.mem_of_getElem? (i := 755) (by decide +kernel)⟩
theorem lw_p22 : lw_okq (⟨"SiteCutsModel", "missed", "(I)I"⟩, 10) := ⟨⟨by decide +kernel, by decide +kernel⟩, List.mem_of_getElem? (i := 589) (by decide +kernel), List.mem_of_getElem? (i := 758) (by decide +kernel), List.mem_of_getElem? (i := 759) (by decide +kernel)⟩
theorem lw_p23 : lw_okq (⟨"SiteCutsModel", "routes", "(I)I"⟩, 10) := ⟨⟨by decide +kernel, by decide +kernel⟩, List.mem_of_getElem? (i := 589) (by decide +kernel), List.mem_of_getElem? (i := 762) (by decide +kernel), List.mem_of_getElem? (i := 763) (by decide +kernel)⟩
theorem lw_p24 : lw_okq (⟨"SiteCutsModel", "server", "(II)I"⟩, 10) := ⟨⟨by decide +kernel, by decide +kernel⟩, List.mem_of_getElem? (i := 589) (by decide +kernel), List.mem_of_getElem? (i := 766) (by decide +kernel), List.mem_of_getElem? (i := 767) (by decide +kernel)⟩
theorem lw_p25 : lw_okq (⟨"SiteCutsModel", "goBack", "()V"⟩, 10) := ⟨⟨by decide +kernel, by decide +kernel⟩, List.mem_of_getElem? (i := 589) (by decide +kernel), List.mem_of_getElem? (i := 774) (by decide +kernel), List.mem_of_getElem? (i := 775) (by decide +kernel)⟩
theorem lw_p26 : lw_okq (⟨"SiteCutsModel", "noCut", "(I)Z"⟩, 10) := ⟨⟨by decide +kernel, by decide +kernel⟩, List.mem_of_getElem? (i := 589) (by decide +kernel), List.mem_of_getElem? (i := 782) (by decide +kernel), List.mem_of_getElem? (i := 783) (by decide +kernel)⟩
theorem lw_p27 : lw_okq (⟨"SiteCutsModel", "dropOne", "(I)V"⟩, 10) := ⟨⟨by decide +kernel, by decide +kernel⟩, List.mem_of_getElem? (i := 589) (by decide +kernel), List.mem_of_getElem? (i := 786) (by decide +kernel), List.mem_of_getElem? (i := 787) (by decide +kernel)⟩
theorem lw_p28 : lw_okq (⟨"SiteCutsModel", "isLoose", "(III)Z"⟩, 10) := ⟨⟨by decide +kernel, by decide +kernel⟩, List.mem_of_getElem? (i := 589) (by decide +kernel), List.mem_of_getElem? (i := 794) (by decide +kernel), List.mem_of_getElem? (i := 795) (by decide +kernel)⟩
theorem lw_p29 : lw_okq (⟨"SiteCutsModel", "readNumbers", "()Z"⟩, 10) := ⟨⟨by decide +kernel, by decide +kernel⟩, List.mem_of_getElem? (i := 589) (by decide +kernel), List.mem_of_getElem? (i := 810) (by decide +kernel), List.mem_of_getElem? (i := 811) (by decide +kernel)⟩
theorem lw_p30 : lw_okq (⟨"SiteCutsModel", "sees", "(II)Z"⟩, 10) := ⟨⟨by decide +kernel, by decide +kernel⟩, List.mem_of_getElem? (i := 589) (by decide +kernel), List.mem_of_getElem? (i := 814) (by decide +kernel), List.mem_of_getElem? (i := 815) (by decide +kernel)⟩
theorem lw_p31 : lw_okq (⟨"SiteCutsModel", "noPlan", "(I)Z"⟩, 10) := ⟨⟨by decide +kernel, by decide +kernel⟩, List.mem_of_getElem? (i := 589) (by decide +kernel), List.mem_of_getElem? (i := 822) (by decide +kernel), List.mem_of_getElem? (i := 823) (by decide +kernel)⟩
def lw_privs_2 : List (MethodName × Nat) := [(⟨"SiteCutsModel", "asked", "(II)I"⟩, 10), (⟨"SiteCutsModel", "reachedFrom", "(I)I"⟩, 10), (⟨"SiteCutsModel", "guess", "(I)I"⟩, 10), (⟨"SiteCutsModel", "valueOf", "(II)I"⟩, 10), (⟨"SiteCutsModel", "weightOf", "(II)I"⟩, 10), (⟨"SiteCutsModel", "prices", "(I)I"⟩, 10), (⟨"SiteCutsModel", "missed", "(I)I"⟩, 10), (⟨"SiteCutsModel", "routes", "(I)I"⟩, 10), (⟨"SiteCutsModel", "server", "(II)I"⟩, 10), (⟨"SiteCutsModel", "goBack", "()V"⟩, 10), (⟨"SiteCutsModel", "noCut", "(I)Z"⟩, 10), (⟨"SiteCutsModel", "dropOne", "(I)V"⟩, 10), (⟨"SiteCutsModel", "isLoose", "(III)Z"⟩, 10), (⟨"SiteCutsModel", "readNumbers", "()Z"⟩, 10), (⟨"SiteCutsModel", "sees", "(II)Z"⟩, 10), (⟨"SiteCutsModel", "noPlan", "(I)Z"⟩, 10)]
theorem lw_r2 : ∀ q ∈ lw_privs_2, lw_okq q := List.forall_mem_cons.mpr ⟨lw_p16, List.forall_mem_cons.mpr ⟨lw_p17, List.forall_mem_cons.mpr ⟨lw_p18, List.forall_mem_cons.mpr ⟨lw_p19, List.forall_mem_cons.mpr ⟨lw_p20, List.forall_mem_cons.mpr ⟨lw_p21, List.forall_mem_cons.mpr ⟨lw_p22, List.forall_mem_cons.mpr ⟨lw_p23, List.forall_mem_cons.mpr ⟨lw_p24, List.forall_mem_cons.mpr ⟨lw_p25, List.forall_mem_cons.mpr ⟨lw_p26, List.forall_mem_cons.mpr ⟨lw_p27, List.forall_mem_cons.mpr ⟨lw_p28, List.forall_mem_cons.mpr ⟨lw_p29, List.forall_mem_cons.mpr ⟨lw_p30, List.forall_mem_cons.mpr ⟨lw_p31, fun _ h => absurd h List.not_mem_nil⟩⟩⟩⟩⟩⟩⟩⟩⟩⟩⟩⟩⟩⟩⟩⟩
theorem lw_p32 : lw_okq (⟨"SiteCutsModel", "plansBy", "(IZ)I"⟩, 10) := ⟨⟨by decide +kernel, by decide +kernel⟩, List.mem_of_getElem? (i := 589) (by decide +kernel), List.mem_of_getElem? (i := 838) (by decide +kernel), List.mem_of_getElem? (i := 839) (by decide +kernel)⟩
theorem lw_p33 : lw_okq (⟨"SiteCutsModel", "isFeasible", "(I)Z"⟩, 10) := ⟨⟨by decide +kernel, by decide +kernel⟩, List.mem_of_getElem? (i := 589) (by decide +kernel), List.mem_of_getElem? (i := 842) (by decide +kernel), List.mem_of_getElem? (i := 843) (by decide +kernel)⟩
theorem lw_p34 : lw_okq (⟨"SiteCutsModel", "allRoutes", "()I"⟩, 10) := ⟨⟨by decide +kernel, by decide +kernel⟩, List.mem_of_getElem? (i := 589) (by decide +kernel), List.mem_of_getElem? (i := 867) (by decide +kernel), List.mem_of_getElem? (i := 868) (by decide +kernel)⟩
theorem lw_p35 : lw_okq (⟨"SiteCutsModel", "pairs", "()I"⟩, 10) := ⟨⟨by decide +kernel, by decide +kernel⟩, List.mem_of_getElem? (i := 589) (by decide +kernel), List.mem_of_getElem? (i := 871) (by decide +kernel), List.mem_of_getElem? (i := 872) (by decide +kernel)⟩
theorem lw_p36 : lw_okq (⟨"SiteCutsModel", "rays", "()I"⟩, 10) := ⟨⟨by decide +kernel, by decide +kernel⟩, List.mem_of_getElem? (i := 589) (by decide +kernel), List.mem_of_getElem? (i := 875) (by decide +kernel), List.mem_of_getElem? (i := 876) (by decide +kernel)⟩
def lw_privs_3 : List (MethodName × Nat) := [(⟨"SiteCutsModel", "plansBy", "(IZ)I"⟩, 10), (⟨"SiteCutsModel", "isFeasible", "(I)Z"⟩, 10), (⟨"SiteCutsModel", "allRoutes", "()I"⟩, 10), (⟨"SiteCutsModel", "pairs", "()I"⟩, 10), (⟨"SiteCutsModel", "rays", "()I"⟩, 10)]
theorem lw_r3 : ∀ q ∈ lw_privs_3, lw_okq q := List.forall_mem_cons.mpr ⟨lw_p32, List.forall_mem_cons.mpr ⟨lw_p33, List.forall_mem_cons.mpr ⟨lw_p34, List.forall_mem_cons.mpr ⟨lw_p35, List.forall_mem_cons.mpr ⟨lw_p36, fun _ h => absurd h List.not_mem_nil⟩⟩⟩⟩⟩
def lw_privs : List (MethodName × Nat) := lw_privs_1 ++ (lw_privs_2 ++ (lw_privs_3))
def lw_tbl : List Cond := k2_sels lw_privs ++ tables_1
theorem lw_privs_ok : ∀ q ∈ lw_privs, lw_okq q := by
  show ∀ q ∈ lw_privs_1 ++ (lw_privs_2 ++ (lw_privs_3)), lw_okq q
  exact List.forall_mem_append.mpr ⟨lw_r1, List.forall_mem_append.mpr ⟨lw_r2, lw_r3⟩⟩
end
section
def RX0 : String := "SiteCuts$CutText"
def TX0 : u_T := fun k => match k with
  | 0 => ("SiteCuts$CutText", "characters", "[C", true)
  | _ => ("SiteCuts$CutText", "length", "I", false)
def tyX0 : Nat → FieldType := fun k => match k with
  | 0 => .array .char
  | _ => .int
abbrev wsX00 : List Cond := u_ws RX0 TX0 2
theorem nmX0 : ∀ a, a < 2 → ∀ b, b < 2 → a ≠ b → (TX0 a).2.1 ≠ (TX0 b).2.1 := by decide +kernel
theorem tyX0_ok : ∀ k, k < 2 → parseFieldDescriptor (TX0 k).2.2.1 = some (tyX0 k) := by decide +kernel
abbrev cX0_init : ByteArray := prog_2_method_1_code
def yX0_init : MethodName := ⟨RX0, "<init>", "()V"⟩
abbrev cX0_isFull : ByteArray := prog_2_method_2_code
def yX0_isFull : MethodName := ⟨RX0, "isFull", "()Z"⟩
abbrev cX0_append : ByteArray := prog_2_method_3_code
def yX0_append : MethodName := ⟨RX0, "append", "(C)V"⟩
abbrev cX0_readNumbers : ByteArray := prog_2_method_4_code
def yX0_readNumbers : MethodName := ⟨RX0, "readNumbers", "([II)I"⟩
abbrev cX0_isCommaAt : ByteArray := prog_2_method_5_code
def yX0_isCommaAt : MethodName := ⟨RX0, "isCommaAt", "(I)Z"⟩
abbrev cX0_isDigitAt : ByteArray := prog_2_method_6_code
def yX0_isDigitAt : MethodName := ⟨RX0, "isDigitAt", "(I)Z"⟩
abbrev cX0_digitAt : ByteArray := prog_2_method_7_code
def yX0_digitAt : MethodName := ⟨RX0, "digitAt", "(I)I"⟩
def RX1 : String := "SiteCuts$Cuts"
def TX1 : u_T := fun k => match k with
  | 0 => ("SiteCuts$Cuts", "amount", "I", false)
  | 1 => ("SiteCuts$Cuts", "customers", "[I", true)
  | 2 => ("SiteCuts$Cuts", "starts", "[I", true)
  | _ => ("SiteCuts$Cuts", "weights", "[[I", true)
def tyX1 : Nat → FieldType := fun k => match k with
  | 0 => .int
  | 1 => .array .int
  | 2 => .array .int
  | _ => .array (.array .int)
abbrev wsX10 : List Cond := u_ws RX1 TX1 4
theorem nmX1 : ∀ a, a < 4 → ∀ b, b < 4 → a ≠ b → (TX1 a).2.1 ≠ (TX1 b).2.1 := by decide +kernel
theorem tyX1_ok : ∀ k, k < 4 → parseFieldDescriptor (TX1 k).2.2.1 = some (tyX1 k) := by decide +kernel
abbrev cX1_init : ByteArray := prog_3_method_1_code
def yX1_init : MethodName := ⟨RX1, "<init>", "()V"⟩
abbrev cX1_copyFrom : ByteArray := prog_3_method_2_code
def yX1_copyFrom : MethodName := ⟨RX1, "copyFrom", "(LSiteCuts$Cuts;)V"⟩
abbrev cX1_copyCut : ByteArray := prog_3_method_3_code
def yX1_copyCut : MethodName := ⟨RX1, "copyCut", "(LSiteCuts$Cuts;II)V"⟩
abbrev cX1_isCut : ByteArray := prog_3_method_4_code
def yX1_isCut : MethodName := ⟨RX1, "isCut", "(I)Z"⟩
abbrev cX1_isFull : ByteArray := prog_3_method_5_code
def yX1_isFull : MethodName := ⟨RX1, "isFull", "()Z"⟩
abbrev cX1_isRay : ByteArray := prog_3_method_6_code
def yX1_isRay : MethodName := ⟨RX1, "isRay", "(I)Z"⟩
abbrev cX1_appendRay : ByteArray := prog_3_method_7_code
def yX1_appendRay : MethodName := ⟨RX1, "appendRay", "(LSiteCuts$Places;I)I"⟩
abbrev cX1_appendPriceCut : ByteArray := prog_3_method_8_code
def yX1_appendPriceCut : MethodName := ⟨RX1, "appendPriceCut", "(LSiteCuts$Places;[I)I"⟩
abbrev cX1_savedBy : ByteArray := prog_3_method_9_code
def yX1_savedBy : MethodName := ⟨RX1, "savedBy", "(LSiteCuts$Places;I[I)I"⟩
abbrev cX1_remove : ByteArray := prog_3_method_10_code
def yX1_remove : MethodName := ⟨RX1, "remove", "(I)V"⟩
abbrev cX1_weightOf : ByteArray := prog_3_method_11_code
def yX1_weightOf : MethodName := ⟨RX1, "weightOf", "(II)I"⟩
abbrev cX1_valueOf : ByteArray := prog_3_method_12_code
def yX1_valueOf : MethodName := ⟨RX1, "valueOf", "(II)I"⟩
abbrev cX1_greatestValue : ByteArray := prog_3_method_13_code
def yX1_greatestValue : MethodName := ⟨RX1, "greatestValue", "(I)I"⟩
abbrev cX1_countRays : ByteArray := prog_3_method_14_code
def yX1_countRays : MethodName := ⟨RX1, "countRays", "()I"⟩
abbrev cX1_countMissedRays : ByteArray := prog_3_method_15_code
def yX1_countMissedRays : MethodName := ⟨RX1, "countMissedRays", "(I)I"⟩
abbrev cX1_isLoose : ByteArray := prog_3_method_16_code
def yX1_isLoose : MethodName := ⟨RX1, "isLoose", "(III)Z"⟩
abbrev cX1_countLoose : ByteArray := prog_3_method_17_code
def yX1_countLoose : MethodName := ⟨RX1, "countLoose", "(I)I"⟩
abbrev cX1_removeLoose : ByteArray := prog_3_method_18_code
def yX1_removeLoose : MethodName := ⟨RX1, "removeLoose", "(I)V"⟩
def RX2 : String := "SiteCuts$History"
def TX2 : u_T := fun k => match k with
  | 0 => ("SiteCuts$History", "states", "[LSiteCuts$State;", true)
  | _ => ("SiteCuts$History", "amount", "I", false)
def tyX2 : Nat → FieldType := fun k => match k with
  | 0 => .array (.object "SiteCuts$State")
  | _ => .int
abbrev wsX20 : List Cond := u_ws RX2 TX2 2
theorem nmX2 : ∀ a, a < 2 → ∀ b, b < 2 → a ≠ b → (TX2 a).2.1 ≠ (TX2 b).2.1 := by decide +kernel
theorem tyX2_ok : ∀ k, k < 2 → parseFieldDescriptor (TX2 k).2.2.1 = some (tyX2 k) := by decide +kernel
abbrev cX2_init : ByteArray := prog_4_method_1_code
def yX2_init : MethodName := ⟨RX2, "<init>", "()V"⟩
abbrev cX2_record : ByteArray := prog_4_method_2_code
def yX2_record : MethodName := ⟨RX2, "record", "(LSiteCuts$State;)V"⟩
abbrev cX2_moveOldestToEnd : ByteArray := prog_4_method_3_code
def yX2_moveOldestToEnd : MethodName := ⟨RX2, "moveOldestToEnd", "()V"⟩
abbrev cX2_takeLatest : ByteArray := prog_4_method_4_code
def yX2_takeLatest : MethodName := ⟨RX2, "takeLatest", "(LSiteCuts$State;)V"⟩
def RX3 : String := "SiteCuts$Places"
def TX3 : u_T := fun k => match k with
  | 0 => ("SiteCuts$Places", "siteCount", "I", false)
  | 1 => ("SiteCuts$Places", "customerCount", "I", false)
  | 2 => ("SiteCuts$Places", "most", "I", false)
  | 3 => ("SiteCuts$Places", "sitePrices", "[I", true)
  | 4 => ("SiteCuts$Places", "demands", "[I", true)
  | 5 => ("SiteCuts$Places", "routePrices", "[[I", true)
  | _ => ("SiteCuts$Places", "excluded", "[I", true)
def tyX3 : Nat → FieldType := fun k => match k with
  | 0 => .int
  | 1 => .int
  | 2 => .int
  | 3 => .array .int
  | 4 => .array .int
  | 5 => .array (.array .int)
  | _ => .array .int
abbrev wsX30 : List Cond := u_ws RX3 TX3 7
theorem nmX3 : ∀ a, a < 7 → ∀ b, b < 7 → a ≠ b → (TX3 a).2.1 ≠ (TX3 b).2.1 := by decide +kernel
theorem tyX3_ok : ∀ k, k < 7 → parseFieldDescriptor (TX3 k).2.2.1 = some (tyX3 k) := by decide +kernel
abbrev cX3_init : ByteArray := prog_5_method_1_code
def yX3_init : MethodName := ⟨RX3, "<init>", "()V"⟩
abbrev cX3_copyFrom : ByteArray := prog_5_method_2_code
def yX3_copyFrom : MethodName := ⟨RX3, "copyFrom", "(LSiteCuts$Places;)V"⟩
abbrev cX3_isSite : ByteArray := prog_5_method_3_code
def yX3_isSite : MethodName := ⟨RX3, "isSite", "(I)Z"⟩
abbrev cX3_isCustomer : ByteArray := prog_5_method_4_code
def yX3_isCustomer : MethodName := ⟨RX3, "isCustomer", "(I)Z"⟩
abbrev cX3_isPlan : ByteArray := prog_5_method_5_code
def yX3_isPlan : MethodName := ⟨RX3, "isPlan", "(I)Z"⟩
abbrev cX3_planCount : ByteArray := prog_5_method_6_code
def yX3_planCount : MethodName := ⟨RX3, "planCount", "()I"⟩
abbrev cX3_appendSite : ByteArray := prog_5_method_7_code
def yX3_appendSite : MethodName := ⟨RX3, "appendSite", "(I)I"⟩
abbrev cX3_appendCustomer : ByteArray := prog_5_method_8_code
def yX3_appendCustomer : MethodName := ⟨RX3, "appendCustomer", "(I)I"⟩
abbrev cX3_areExcluding : ByteArray := prog_5_method_9_code
def yX3_areExcluding : MethodName := ⟨RX3, "areExcluding", "(II)Z"⟩
abbrev cX3_turnExclusion : ByteArray := prog_5_method_10_code
def yX3_turnExclusion : MethodName := ⟨RX3, "turnExclusion", "(II)V"⟩
abbrev cX3_hasRoute : ByteArray := prog_5_method_11_code
def yX3_hasRoute : MethodName := ⟨RX3, "hasRoute", "(II)Z"⟩
abbrev cX3_isAllowed : ByteArray := prog_5_method_12_code
def yX3_isAllowed : MethodName := ⟨RX3, "isAllowed", "(I)Z"⟩
abbrev cX3_hasExcludingSites : ByteArray := prog_5_method_13_code
def yX3_hasExcludingSites : MethodName := ⟨RX3, "hasExcludingSites", "(I)Z"⟩
abbrev cX3_verdictOf : ByteArray := prog_5_method_14_code
def yX3_verdictOf : MethodName := ⟨RX3, "verdictOf", "(I)I"⟩
abbrev cX3_leastRoutePrice : ByteArray := prog_5_method_15_code
def yX3_leastRoutePrice : MethodName := ⟨RX3, "leastRoutePrice", "(II)I"⟩
abbrev cX3_cheapestSite : ByteArray := prog_5_method_16_code
def yX3_cheapestSite : MethodName := ⟨RX3, "cheapestSite", "(II)I"⟩
abbrev cX3_lowestMissedCustomer : ByteArray := prog_5_method_17_code
def yX3_lowestMissedCustomer : MethodName := ⟨RX3, "lowestMissedCustomer", "(I)I"⟩
abbrev cX3_reachesAll : ByteArray := prog_5_method_18_code
def yX3_reachesAll : MethodName := ⟨RX3, "reachesAll", "(I)Z"⟩
abbrev cX3_sitePricesOf : ByteArray := prog_5_method_19_code
def yX3_sitePricesOf : MethodName := ⟨RX3, "sitePricesOf", "(I)I"⟩
abbrev cX3_routeCostOf : ByteArray := prog_5_method_20_code
def yX3_routeCostOf : MethodName := ⟨RX3, "routeCostOf", "(I)I"⟩
abbrev cX3_costOf : ByteArray := prog_5_method_21_code
def yX3_costOf : MethodName := ⟨RX3, "costOf", "(I)I"⟩
abbrev cX3_isFeasible : ByteArray := prog_5_method_22_code
def yX3_isFeasible : MethodName := ⟨RX3, "isFeasible", "(I)Z"⟩
abbrev cX3_findBestPlan : ByteArray := prog_5_method_23_code
def yX3_findBestPlan : MethodName := ⟨RX3, "findBestPlan", "()I"⟩
abbrev cX3_countFeasiblePlans : ByteArray := prog_5_method_24_code
def yX3_countFeasiblePlans : MethodName := ⟨RX3, "countFeasiblePlans", "()I"⟩
abbrev cX3_countRoutes : ByteArray := prog_5_method_25_code
def yX3_countRoutes : MethodName := ⟨RX3, "countRoutes", "()I"⟩
abbrev cX3_countExcludingPairs : ByteArray := prog_5_method_26_code
def yX3_countExcludingPairs : MethodName := ⟨RX3, "countExcludingPairs", "()I"⟩
def RX4 : String := "SiteCuts$State"
def TX4 : u_T := fun k => match k with
  | 0 => ("SiteCuts$State", "places", "LSiteCuts$Places;", true)
  | 1 => ("SiteCuts$State", "cuts", "LSiteCuts$Cuts;", true)
  | 2 => ("SiteCuts$State", "best", "I", false)
  | _ => ("SiteCuts$State", "steps", "I", false)
def tyX4 : Nat → FieldType := fun k => match k with
  | 0 => .object "SiteCuts$Places"
  | 1 => .object "SiteCuts$Cuts"
  | 2 => .int
  | _ => .int
abbrev wsX40 : List Cond := u_ws RX4 TX4 4
theorem nmX4 : ∀ a, a < 4 → ∀ b, b < 4 → a ≠ b → (TX4 a).2.1 ≠ (TX4 b).2.1 := by decide +kernel
theorem tyX4_ok : ∀ k, k < 4 → parseFieldDescriptor (TX4 k).2.2.1 = some (tyX4 k) := by decide +kernel
abbrev cX4_init : ByteArray := prog_6_method_1_code
def yX4_init : MethodName := ⟨RX4, "<init>", "()V"⟩
abbrev cX4_copyFrom : ByteArray := prog_6_method_2_code
def yX4_copyFrom : MethodName := ⟨RX4, "copyFrom", "(LSiteCuts$State;)V"⟩
abbrev cX4_forgetBest : ByteArray := prog_6_method_3_code
def yX4_forgetBest : MethodName := ⟨RX4, "forgetBest", "()V"⟩
abbrev cX4_forgetCuts : ByteArray := prog_6_method_4_code
def yX4_forgetCuts : MethodName := ⟨RX4, "forgetCuts", "()V"⟩
abbrev cX4_guessOf : ByteArray := prog_6_method_5_code
def yX4_guessOf : MethodName := ⟨RX4, "guessOf", "(I)I"⟩
abbrev cX4_isForMaster : ByteArray := prog_6_method_6_code
def yX4_isForMaster : MethodName := ⟨RX4, "isForMaster", "(I)Z"⟩
abbrev cX4_findMasterPlan : ByteArray := prog_6_method_7_code
def yX4_findMasterPlan : MethodName := ⟨RX4, "findMasterPlan", "()I"⟩
abbrev cX4_makeStep : ByteArray := prog_6_method_8_code
def yX4_makeStep : MethodName := ⟨RX4, "makeStep", "([I)I"⟩
abbrev cX4_improveBest : ByteArray := prog_6_method_9_code
def yX4_improveBest : MethodName := ⟨RX4, "improveBest", "(I)V"⟩
abbrev cX4_countPlansThatBreak : ByteArray := prog_6_method_10_code
def yX4_countPlansThatBreak : MethodName := ⟨RX4, "countPlansThatBreak", "(I)I"⟩
abbrev cX4_isBroken : ByteArray := prog_6_method_11_code
def yX4_isBroken : MethodName := ⟨RX4, "isBroken", "(II)Z"⟩
abbrev cX4_countPlansThatAreTight : ByteArray := prog_6_method_12_code
def yX4_countPlansThatAreTight : MethodName := ⟨RX4, "countPlansThatAreTight", "(I)I"⟩
abbrev cX4_isTight : ByteArray := prog_6_method_13_code
def yX4_isTight : MethodName := ⟨RX4, "isTight", "(II)Z"⟩
def RX5 : String := "SiteCuts"
def TX5 : u_T := fun k => match k with
  | 0 => ("SiteCuts", "now", "LSiteCuts$State;", true)
  | 1 => ("SiteCuts", "before", "LSiteCuts$State;", true)
  | 2 => ("SiteCuts", "snapshot", "LSiteCuts$State;", true)
  | 3 => ("SiteCuts", "hasSnapshot", "Z", false)
  | 4 => ("SiteCuts", "history", "LSiteCuts$History;", true)
  | 5 => ("SiteCuts", "text", "LSiteCuts$CutText;", true)
  | _ => ("SiteCuts", "numbers", "[I", true)
def tyX5 : Nat → FieldType := fun k => match k with
  | 0 => .object "SiteCuts$State"
  | 1 => .object "SiteCuts$State"
  | 2 => .object "SiteCuts$State"
  | 3 => .boolean
  | 4 => .object "SiteCuts$History"
  | 5 => .object "SiteCuts$CutText"
  | _ => .array .int
abbrev wsX50 : List Cond := u_ws RX5 TX5 7
theorem nmX5 : ∀ a, a < 7 → ∀ b, b < 7 → a ≠ b → (TX5 a).2.1 ≠ (TX5 b).2.1 := by decide +kernel
theorem tyX5_ok : ∀ k, k < 7 → parseFieldDescriptor (TX5 k).2.2.1 = some (tyX5 k) := by decide +kernel
abbrev cX5_init : ByteArray := prog_1_method_1_code
def yX5_init : MethodName := ⟨RX5, "<init>", "()V"⟩
abbrev cX5_addSite : ByteArray := prog_1_method_2_code
def yX5_addSite : MethodName := ⟨RX5, "addSite", "(I)I"⟩
abbrev cX5_addCustomer : ByteArray := prog_1_method_3_code
def yX5_addCustomer : MethodName := ⟨RX5, "addCustomer", "(I)I"⟩
abbrev cX5_setPrice : ByteArray := prog_1_method_4_code
def yX5_setPrice : MethodName := ⟨RX5, "setPrice", "(II)I"⟩
abbrev cX5_setDemand : ByteArray := prog_1_method_5_code
def yX5_setDemand : MethodName := ⟨RX5, "setDemand", "(II)I"⟩
abbrev cX5_setRoute : ByteArray := prog_1_method_6_code
def yX5_setRoute : MethodName := ⟨RX5, "setRoute", "(III)I"⟩
abbrev cX5_setMost : ByteArray := prog_1_method_7_code
def yX5_setMost : MethodName := ⟨RX5, "setMost", "(I)I"⟩
abbrev cX5_exclude : ByteArray := prog_1_method_8_code
def yX5_exclude : MethodName := ⟨RX5, "exclude", "(IIZ)I"⟩
abbrev cX5_step : ByteArray := prog_1_method_9_code
def yX5_step : MethodName := ⟨RX5, "step", "()I"⟩
abbrev cX5_solve : ByteArray := prog_1_method_10_code
def yX5_solve : MethodName := ⟨RX5, "solve", "()I"⟩
abbrev cX5_readCut : ByteArray := prog_1_method_11_code
def yX5_readCut : MethodName := ⟨RX5, "readCut", "()I"⟩
abbrev cX5_drop : ByteArray := prog_1_method_12_code
def yX5_drop : MethodName := ⟨RX5, "drop", "(I)I"⟩
abbrev cX5_dropLoose : ByteArray := prog_1_method_13_code
def yX5_dropLoose : MethodName := ⟨RX5, "dropLoose", "()I"⟩
abbrev cX5_type : ByteArray := prog_1_method_14_code
def yX5_type : MethodName := ⟨RX5, "type", "(C)I"⟩
abbrev cX5_clearText : ByteArray := prog_1_method_15_code
def yX5_clearText : MethodName := ⟨RX5, "clearText", "()I"⟩
abbrev cX5_undo : ByteArray := prog_1_method_16_code
def yX5_undo : MethodName := ⟨RX5, "undo", "()I"⟩
abbrev cX5_keep : ByteArray := prog_1_method_17_code
def yX5_keep : MethodName := ⟨RX5, "keep", "()I"⟩
abbrev cX5_restore : ByteArray := prog_1_method_18_code
def yX5_restore : MethodName := ⟨RX5, "restore", "()I"⟩
abbrev cX5_judge : ByteArray := prog_1_method_19_code
def yX5_judge : MethodName := ⟨RX5, "judge", "(I)I"⟩
abbrev cX5_plan : ByteArray := prog_1_method_20_code
def yX5_plan : MethodName := ⟨RX5, "plan", "(II)I"⟩
abbrev cX5_serves : ByteArray := prog_1_method_21_code
def yX5_serves : MethodName := ⟨RX5, "serves", "(II)I"⟩
abbrev cX5_cut : ByteArray := prog_1_method_22_code
def yX5_cut : MethodName := ⟨RX5, "cut", "(II)I"⟩
abbrev cX5_weight : ByteArray := prog_1_method_23_code
def yX5_weight : MethodName := ⟨RX5, "weight", "(II)I"⟩
abbrev cX5_value : ByteArray := prog_1_method_24_code
def yX5_value : MethodName := ⟨RX5, "value", "(II)I"⟩
abbrev cX5_master : ByteArray := prog_1_method_25_code
def yX5_master : MethodName := ⟨RX5, "master", "(I)I"⟩
abbrev cX5_byAll : ByteArray := prog_1_method_26_code
def yX5_byAll : MethodName := ⟨RX5, "byAll", "(I)I"⟩
abbrev cX5_count : ByteArray := prog_1_method_27_code
def yX5_count : MethodName := ⟨RX5, "count", "(I)I"⟩
abbrev cX5_lowerBound : ByteArray := prog_1_method_28_code
def yX5_lowerBound : MethodName := ⟨RX5, "lowerBound", "()I"⟩
abbrev cX5_costOrNone : ByteArray := prog_1_method_29_code
def yX5_costOrNone : MethodName := ⟨RX5, "costOrNone", "(I)I"⟩
abbrev cX5_gap : ByteArray := prog_1_method_30_code
def yX5_gap : MethodName := ⟨RX5, "gap", "()I"⟩
abbrev cX5_planOrNone : ByteArray := prog_1_method_31_code
def yX5_planOrNone : MethodName := ⟨RX5, "planOrNone", "(I)I"⟩
abbrev cX5_isCutAdded : ByteArray := prog_1_method_32_code
def yX5_isCutAdded : MethodName := ⟨RX5, "isCutAdded", "(I)Z"⟩
abbrev cX5_isSitePrice : ByteArray := prog_1_method_33_code
def yX5_isSitePrice : MethodName := ⟨RX5, "isSitePrice", "(I)Z"⟩
abbrev cX5_isDemand : ByteArray := prog_1_method_34_code
def yX5_isDemand : MethodName := ⟨RX5, "isDemand", "(I)Z"⟩
abbrev cX5_isIn : ByteArray := prog_1_method_35_code
def yX5_isIn : MethodName := ⟨RX5, "isIn", "(II)Z"⟩
def RX6 : String := "SiteCutsModel"
def TX6 : u_T := fun k => match k with
  | 0 => ("SiteCutsModel", "row", "[I", true)
  | 1 => ("SiteCutsModel", "past", "[I", true)
  | 2 => ("SiteCutsModel", "aside", "[I", true)
  | 3 => ("SiteCutsModel", "before", "[I", true)
  | 4 => ("SiteCutsModel", "states", "I", false)
  | 5 => ("SiteCutsModel", "isAside", "Z", false)
  | 6 => ("SiteCutsModel", "text", "[C", true)
  | 7 => ("SiteCutsModel", "length", "I", false)
  | 8 => ("SiteCutsModel", "at", "I", false)
  | _ => ("SiteCutsModel", "read", "[I", true)
def tyX6 : Nat → FieldType := fun k => match k with
  | 0 => .array .int
  | 1 => .array .int
  | 2 => .array .int
  | 3 => .array .int
  | 4 => .int
  | 5 => .boolean
  | 6 => .array .char
  | 7 => .int
  | 8 => .int
  | _ => .array .int
abbrev wsX60 : List Cond := u_ws RX6 TX6 10
theorem nmX6 : ∀ a, a < 10 → ∀ b, b < 10 → a ≠ b → (TX6 a).2.1 ≠ (TX6 b).2.1 := by decide +kernel
theorem tyX6_ok : ∀ k, k < 10 → parseFieldDescriptor (TX6 k).2.2.1 = some (tyX6 k) := by decide +kernel
abbrev cX6_init : ByteArray := prog_8_method_1_code
def yX6_init : MethodName := ⟨RX6, "<init>", "()V"⟩
abbrev cX6_in : ByteArray := prog_8_method_2_code
def yX6_in : MethodName := ⟨RX6, "in", "(III)Z"⟩
abbrev cX6_isIn : ByteArray := prog_8_method_3_code
def yX6_isIn : MethodName := ⟨RX6, "isIn", "(II)Z"⟩
abbrev cX6_many : ByteArray := prog_8_method_4_code
def yX6_many : MethodName := ⟨RX6, "many", "(I)I"⟩
abbrev cX6_remember : ByteArray := prog_8_method_5_code
def yX6_remember : MethodName := ⟨RX6, "remember", "()V"⟩
abbrev cX6_goBack : ByteArray := prog_8_method_6_code
def yX6_goBack : MethodName := ⟨RX6, "goBack", "()V"⟩
abbrev cX6_record : ByteArray := prog_8_method_7_code
def yX6_record : MethodName := ⟨RX6, "record", "()V"⟩
abbrev cX6_begin : ByteArray := prog_8_method_8_code
def yX6_begin : MethodName := ⟨RX6, "begin", "()V"⟩
abbrev cX6_undo : ByteArray := prog_8_method_9_code
def yX6_undo : MethodName := ⟨RX6, "undo", "()I"⟩
abbrev cX6_keep : ByteArray := prog_8_method_10_code
def yX6_keep : MethodName := ⟨RX6, "keep", "()I"⟩
abbrev cX6_restore : ByteArray := prog_8_method_11_code
def yX6_restore : MethodName := ⟨RX6, "restore", "()I"⟩
abbrev cX6_noSite : ByteArray := prog_8_method_12_code
def yX6_noSite : MethodName := ⟨RX6, "noSite", "(I)Z"⟩
abbrev cX6_noCustomer : ByteArray := prog_8_method_13_code
def yX6_noCustomer : MethodName := ⟨RX6, "noCustomer", "(I)Z"⟩
abbrev cX6_route : ByteArray := prog_8_method_14_code
def yX6_route : MethodName := ⟨RX6, "route", "(II)I"⟩
abbrev cX6_dropAll : ByteArray := prog_8_method_15_code
def yX6_dropAll : MethodName := ⟨RX6, "dropAll", "()V"⟩
abbrev cX6_addSite : ByteArray := prog_8_method_16_code
def yX6_addSite : MethodName := ⟨RX6, "addSite", "(I)I"⟩
abbrev cX6_addCustomer : ByteArray := prog_8_method_17_code
def yX6_addCustomer : MethodName := ⟨RX6, "addCustomer", "(I)I"⟩
abbrev cX6_change : ByteArray := prog_8_method_18_code
def yX6_change : MethodName := ⟨RX6, "change", "(II)I"⟩
abbrev cX6_setPrice : ByteArray := prog_8_method_19_code
def yX6_setPrice : MethodName := ⟨RX6, "setPrice", "(II)I"⟩
abbrev cX6_setDemand : ByteArray := prog_8_method_20_code
def yX6_setDemand : MethodName := ⟨RX6, "setDemand", "(II)I"⟩
abbrev cX6_setRoute : ByteArray := prog_8_method_21_code
def yX6_setRoute : MethodName := ⟨RX6, "setRoute", "(III)I"⟩
abbrev cX6_setMost : ByteArray := prog_8_method_22_code
def yX6_setMost : MethodName := ⟨RX6, "setMost", "(I)I"⟩
abbrev cX6_exclude : ByteArray := prog_8_method_23_code
def yX6_exclude : MethodName := ⟨RX6, "exclude", "(IIZ)I"⟩
abbrev cX6_noPlan : ByteArray := prog_8_method_24_code
def yX6_noPlan : MethodName := ⟨RX6, "noPlan", "(I)Z"⟩
abbrev cX6_excludes : ByteArray := prog_8_method_25_code
def yX6_excludes : MethodName := ⟨RX6, "excludes", "(I)Z"⟩
abbrev cX6_isAllowed : ByteArray := prog_8_method_26_code
def yX6_isAllowed : MethodName := ⟨RX6, "isAllowed", "(I)Z"⟩
abbrev cX6_reachedFrom : ByteArray := prog_8_method_27_code
def yX6_reachedFrom : MethodName := ⟨RX6, "reachedFrom", "(I)I"⟩
abbrev cX6_missed : ByteArray := prog_8_method_28_code
def yX6_missed : MethodName := ⟨RX6, "missed", "(I)I"⟩
abbrev cX6_server : ByteArray := prog_8_method_29_code
def yX6_server : MethodName := ⟨RX6, "server", "(II)I"⟩
abbrev cX6_prices : ByteArray := prog_8_method_30_code
def yX6_prices : MethodName := ⟨RX6, "prices", "(I)I"⟩
abbrev cX6_routes : ByteArray := prog_8_method_31_code
def yX6_routes : MethodName := ⟨RX6, "routes", "(I)I"⟩
abbrev cX6_isFeasible : ByteArray := prog_8_method_32_code
def yX6_isFeasible : MethodName := ⟨RX6, "isFeasible", "(I)Z"⟩
abbrev cX6_noCut : ByteArray := prog_8_method_33_code
def yX6_noCut : MethodName := ⟨RX6, "noCut", "(I)Z"⟩
abbrev cX6_isRay : ByteArray := prog_8_method_34_code
def yX6_isRay : MethodName := ⟨RX6, "isRay", "(I)Z"⟩
abbrev cX6_weightOf : ByteArray := prog_8_method_35_code
def yX6_weightOf : MethodName := ⟨RX6, "weightOf", "(II)I"⟩
abbrev cX6_valueOf : ByteArray := prog_8_method_36_code
def yX6_valueOf : MethodName := ⟨RX6, "valueOf", "(II)I"⟩
abbrev cX6_asked : ByteArray := prog_8_method_37_code
def yX6_asked : MethodName := ⟨RX6, "asked", "(II)I"⟩
abbrev cX6_raysMissed : ByteArray := prog_8_method_38_code
def yX6_raysMissed : MethodName := ⟨RX6, "raysMissed", "(I)I"⟩
abbrev cX6_guess : ByteArray := prog_8_method_39_code
def yX6_guess : MethodName := ⟨RX6, "guess", "(I)I"⟩
abbrev cX6_masterPlan : ByteArray := prog_8_method_40_code
def yX6_masterPlan : MethodName := ⟨RX6, "masterPlan", "()I"⟩
abbrev cX6_makeStep : ByteArray := prog_8_method_41_code
def yX6_makeStep : MethodName := ⟨RX6, "makeStep", "()I"⟩
abbrev cX6_step : ByteArray := prog_8_method_42_code
def yX6_step : MethodName := ⟨RX6, "step", "()I"⟩
abbrev cX6_solve : ByteArray := prog_8_method_43_code
def yX6_solve : MethodName := ⟨RX6, "solve", "()I"⟩
abbrev cX6_dropOne : ByteArray := prog_8_method_44_code
def yX6_dropOne : MethodName := ⟨RX6, "dropOne", "(I)V"⟩
abbrev cX6_drop : ByteArray := prog_8_method_45_code
def yX6_drop : MethodName := ⟨RX6, "drop", "(I)I"⟩
abbrev cX6_isLoose : ByteArray := prog_8_method_46_code
def yX6_isLoose : MethodName := ⟨RX6, "isLoose", "(III)Z"⟩
abbrev cX6_dropLoose : ByteArray := prog_8_method_47_code
def yX6_dropLoose : MethodName := ⟨RX6, "dropLoose", "()I"⟩
abbrev cX6_type : ByteArray := prog_8_method_48_code
def yX6_type : MethodName := ⟨RX6, "type", "(C)I"⟩
abbrev cX6_clearText : ByteArray := prog_8_method_49_code
def yX6_clearText : MethodName := ⟨RX6, "clearText", "()I"⟩
abbrev cX6_sees : ByteArray := prog_8_method_50_code
def yX6_sees : MethodName := ⟨RX6, "sees", "(II)Z"⟩
abbrev cX6_readNumbers : ByteArray := prog_8_method_51_code
def yX6_readNumbers : MethodName := ⟨RX6, "readNumbers", "()Z"⟩
abbrev cX6_readCut : ByteArray := prog_8_method_52_code
def yX6_readCut : MethodName := ⟨RX6, "readCut", "()I"⟩
abbrev cX6_judge : ByteArray := prog_8_method_53_code
def yX6_judge : MethodName := ⟨RX6, "judge", "(I)I"⟩
abbrev cX6_plan : ByteArray := prog_8_method_54_code
def yX6_plan : MethodName := ⟨RX6, "plan", "(II)I"⟩
abbrev cX6_serves : ByteArray := prog_8_method_55_code
def yX6_serves : MethodName := ⟨RX6, "serves", "(II)I"⟩
abbrev cX6_plansBy : ByteArray := prog_8_method_56_code
def yX6_plansBy : MethodName := ⟨RX6, "plansBy", "(IZ)I"⟩
abbrev cX6_cut : ByteArray := prog_8_method_57_code
def yX6_cut : MethodName := ⟨RX6, "cut", "(II)I"⟩
abbrev cX6_weight : ByteArray := prog_8_method_58_code
def yX6_weight : MethodName := ⟨RX6, "weight", "(II)I"⟩
abbrev cX6_value : ByteArray := prog_8_method_59_code
def yX6_value : MethodName := ⟨RX6, "value", "(II)I"⟩
abbrev cX6_master : ByteArray := prog_8_method_60_code
def yX6_master : MethodName := ⟨RX6, "master", "(I)I"⟩
abbrev cX6_byAll : ByteArray := prog_8_method_61_code
def yX6_byAll : MethodName := ⟨RX6, "byAll", "(I)I"⟩
abbrev cX6_rays : ByteArray := prog_8_method_62_code
def yX6_rays : MethodName := ⟨RX6, "rays", "()I"⟩
abbrev cX6_pairs : ByteArray := prog_8_method_63_code
def yX6_pairs : MethodName := ⟨RX6, "pairs", "()I"⟩
abbrev cX6_allRoutes : ByteArray := prog_8_method_64_code
def yX6_allRoutes : MethodName := ⟨RX6, "allRoutes", "()I"⟩
abbrev cX6_count : ByteArray := prog_8_method_65_code
def yX6_count : MethodName := ⟨RX6, "count", "(I)I"⟩
def RJ6 : String := "java/lang/Integer"
def TJ6 : u_T := fun k => match k with
  | _ => ("", "", "", false)
def tyJ6 : Nat → FieldType := fun k => match k with
  | _ => .int
abbrev cJ6_bitCount_0f7a4 : ByteArray := prog_9_method_49_code
def yJ6_bitCount_0f7a4 : MethodName := ⟨RJ6, "bitCount", "(I)I"⟩
def RJ9 : String := "java/lang/Math"
def TJ9 : u_T := fun k => match k with
  | _ => ("", "", "", false)
def tyJ9 : Nat → FieldType := fun k => match k with
  | _ => .int
def RL : String := "SiteCutsLaw"
abbrev cL_law : ByteArray := code
def yL_law : MethodName := ⟨RL, "law", "([I)Z"⟩
abbrev vwCl : List vw_C := [(RX0, TX0, 2), (RX1, TX1, 4), (RX2, TX2, 2), (RX3, TX3, 7), (RX4, TX4, 4), (RX5, TX5, 7), (RX6, TX6, 10)]
end
section
def GW : List Cond := lw_tbl.filter goodWord
theorem GW_good : GW.all goodWord = true := List.all_eq_true.mpr (fun _ h => (List.mem_filter.mp h).2)
theorem GW_in : ∀ w ∈ GW, w ∈ lw_tbl := fun _ h => (List.mem_filter.mp h).1
theorem GW_of {w : Cond} (h : w ∈ lw_tbl) (g : goodWord w = true) : w ∈ GW := List.mem_filter.mpr ⟨h, g⟩
theorem m0 : Cond.classLink RL 7 RX5 ∈ GW := GW_of (List.mem_of_getElem? (i := 47) (by decide +kernel)) rfl
theorem m1 : Cond.instantiable RX5 7 ∈ GW := GW_of (List.mem_of_getElem? (i := 48) (by decide +kernel)) rfl
theorem m2 : Cond.initialized RX5 ∈ GW := GW_of (List.mem_of_getElem? (i := 38) (by decide +kernel)) rfl
theorem m3 : Cond.classLink RL 10 RX6 ∈ GW := GW_of (List.mem_of_getElem? (i := 625) (by decide +kernel)) rfl
theorem m4 : Cond.instantiable RX6 10 ∈ GW := GW_of (List.mem_of_getElem? (i := 626) (by decide +kernel)) rfl
theorem m5 : Cond.initialized RX6 ∈ GW := GW_of (List.mem_of_getElem? (i := 44) (by decide +kernel)) rfl
theorem m6 : Cond.methodLink RL 9 yX5_init ∈ GW := GW_of (List.mem_of_getElem? (i := 49) (by decide +kernel)) rfl
theorem m7 : Cond.instanceMethod yX5_init ∈ GW := GW_of (List.mem_of_getElem? (i := 50) (by decide +kernel)) rfl
theorem m8 : Cond.code yX5_init cX5_init 1 none ∈ GW := GW_of (List.mem_of_getElem? (i := 51) (by decide +kernel)) rfl
theorem m9 : Cond.methodLink RX5 1 objectInit ∈ GW := GW_of (List.mem_of_getElem? (i := 52) (by decide +kernel)) rfl
theorem m10 : Cond.instanceMethod objectInit ∈ GW := GW_of (List.mem_of_getElem? (i := 53) (by decide +kernel)) rfl
theorem m11 : Cond.code objectInit ⟨#[0xb1]⟩ 1 none ∈ GW := GW_of (List.mem_of_getElem? (i := 54) (by decide +kernel)) rfl
theorem m12 : Cond.classLink RX5 7 RX4 ∈ GW := GW_of (List.mem_of_getElem? (i := 55) (by decide +kernel)) rfl
theorem m13 : Cond.instantiable RX4 4 ∈ GW := GW_of (List.mem_of_getElem? (i := 56) (by decide +kernel)) rfl
theorem m14 : Cond.initialized RX4 ∈ GW := GW_of (List.mem_of_getElem? (i := 39) (by decide +kernel)) rfl
theorem m15 : Cond.fieldLink RX5 10 "SiteCuts" "now" "LSiteCuts$State;" ∈ GW := GW_of (List.mem_of_getElem? (i := 178) (by decide +kernel)) rfl
theorem m16 : Cond.fieldLink RX5 16 "SiteCuts" "before" "LSiteCuts$State;" ∈ GW := GW_of (List.mem_of_getElem? (i := 179) (by decide +kernel)) rfl
theorem m17 : Cond.fieldLink RX5 19 "SiteCuts" "snapshot" "LSiteCuts$State;" ∈ GW := GW_of (List.mem_of_getElem? (i := 180) (by decide +kernel)) rfl
theorem m18 : Cond.fieldLink RX5 22 "SiteCuts" "hasSnapshot" "Z" ∈ GW := GW_of (List.mem_of_getElem? (i := 181) (by decide +kernel)) rfl
theorem m19 : Cond.classLink RX5 26 RX2 ∈ GW := GW_of (List.mem_of_getElem? (i := 146) (by decide +kernel)) rfl
theorem m20 : Cond.instantiable RX2 2 ∈ GW := GW_of (List.mem_of_getElem? (i := 147) (by decide +kernel)) rfl
theorem m21 : Cond.initialized RX2 ∈ GW := GW_of (List.mem_of_getElem? (i := 42) (by decide +kernel)) rfl
theorem m22 : Cond.fieldLink RX5 29 "SiteCuts" "history" "LSiteCuts$History;" ∈ GW := GW_of (List.mem_of_getElem? (i := 182) (by decide +kernel)) rfl
theorem m23 : Cond.classLink RX5 33 RX0 ∈ GW := GW_of (List.mem_of_getElem? (i := 163) (by decide +kernel)) rfl
theorem m24 : Cond.instantiable RX0 2 ∈ GW := GW_of (List.mem_of_getElem? (i := 164) (by decide +kernel)) rfl
theorem m25 : Cond.initialized RX0 ∈ GW := GW_of (List.mem_of_getElem? (i := 43) (by decide +kernel)) rfl
theorem m26 : Cond.fieldLink RX5 36 "SiteCuts" "text" "LSiteCuts$CutText;" ∈ GW := GW_of (List.mem_of_getElem? (i := 183) (by decide +kernel)) rfl
theorem m27 : Cond.arrayClass .int ∈ GW := GW_of (List.mem_of_getElem? (i := 103) (by decide +kernel)) rfl
theorem m28 : Cond.fieldLink RX5 40 "SiteCuts" "numbers" "[I" ∈ GW := GW_of (List.mem_of_getElem? (i := 184) (by decide +kernel)) rfl
theorem m29 : Cond.methodLink RX5 9 yX4_init ∈ GW := GW_of (List.mem_of_getElem? (i := 57) (by decide +kernel)) rfl
theorem m30 : Cond.instanceMethod yX4_init ∈ GW := GW_of (List.mem_of_getElem? (i := 58) (by decide +kernel)) rfl
theorem m31 : Cond.code yX4_init cX4_init 1 none ∈ GW := GW_of (List.mem_of_getElem? (i := 59) (by decide +kernel)) rfl
theorem m32 : Cond.methodLink RX4 3 objectInit ∈ GW := GW_of (List.mem_of_getElem? (i := 60) (by decide +kernel)) rfl
theorem m33 : Cond.classLink RX4 9 RX3 ∈ GW := GW_of (List.mem_of_getElem? (i := 61) (by decide +kernel)) rfl
theorem m34 : Cond.instantiable RX3 7 ∈ GW := GW_of (List.mem_of_getElem? (i := 62) (by decide +kernel)) rfl
theorem m35 : Cond.initialized RX3 ∈ GW := GW_of (List.mem_of_getElem? (i := 40) (by decide +kernel)) rfl
theorem m36 : Cond.fieldLink RX4 12 "SiteCuts$State" "places" "LSiteCuts$Places;" ∈ GW := GW_of (List.mem_of_getElem? (i := 129) (by decide +kernel)) rfl
theorem m37 : Cond.classLink RX4 18 RX1 ∈ GW := GW_of (List.mem_of_getElem? (i := 104) (by decide +kernel)) rfl
theorem m38 : Cond.instantiable RX1 4 ∈ GW := GW_of (List.mem_of_getElem? (i := 105) (by decide +kernel)) rfl
theorem m39 : Cond.initialized RX1 ∈ GW := GW_of (List.mem_of_getElem? (i := 41) (by decide +kernel)) rfl
theorem m40 : Cond.fieldLink RX4 21 "SiteCuts$State" "cuts" "LSiteCuts$Cuts;" ∈ GW := GW_of (List.mem_of_getElem? (i := 131) (by decide +kernel)) rfl
theorem m41 : Cond.fieldLink RX4 25 "SiteCuts$State" "best" "I" ∈ GW := GW_of (List.mem_of_getElem? (i := 133) (by decide +kernel)) rfl
theorem m42 : Cond.fieldLink RX4 29 "SiteCuts$State" "steps" "I" ∈ GW := GW_of (List.mem_of_getElem? (i := 135) (by decide +kernel)) rfl
theorem m43 : Cond.methodLink RX4 11 yX3_init ∈ GW := GW_of (List.mem_of_getElem? (i := 63) (by decide +kernel)) rfl
theorem m44 : Cond.instanceMethod yX3_init ∈ GW := GW_of (List.mem_of_getElem? (i := 64) (by decide +kernel)) rfl
theorem m45 : Cond.code yX3_init cX3_init 1 none ∈ GW := GW_of (List.mem_of_getElem? (i := 65) (by decide +kernel)) rfl
theorem m46 : Cond.methodLink RX3 3 objectInit ∈ GW := GW_of (List.mem_of_getElem? (i := 66) (by decide +kernel)) rfl
theorem m47 : Cond.fieldLink RX3 9 "SiteCuts$Places" "siteCount" "I" ∈ GW := GW_of (List.mem_of_getElem? (i := 69) (by decide +kernel)) rfl
theorem m48 : Cond.fieldLink RX3 15 "SiteCuts$Places" "customerCount" "I" ∈ GW := GW_of (List.mem_of_getElem? (i := 72) (by decide +kernel)) rfl
theorem m49 : Cond.fieldLink RX3 18 "SiteCuts$Places" "most" "I" ∈ GW := GW_of (List.mem_of_getElem? (i := 76) (by decide +kernel)) rfl
theorem m50 : Cond.fieldLink RX3 21 "SiteCuts$Places" "sitePrices" "[I" ∈ GW := GW_of (List.mem_of_getElem? (i := 78) (by decide +kernel)) rfl
theorem m51 : Cond.fieldLink RX3 25 "SiteCuts$Places" "demands" "[I" ∈ GW := GW_of (List.mem_of_getElem? (i := 80) (by decide +kernel)) rfl
theorem m52 : Cond.classLink RX3 28 "[[I" ∈ GW := GW_of (List.mem_of_getElem? (i := 67) (by decide +kernel)) rfl
theorem m53 : Cond.fieldLink RX3 30 "SiteCuts$Places" "routePrices" "[[I" ∈ GW := GW_of (List.mem_of_getElem? (i := 83) (by decide +kernel)) rfl
theorem m54 : Cond.fieldLink RX3 33 "SiteCuts$Places" "excluded" "[I" ∈ GW := GW_of (List.mem_of_getElem? (i := 86) (by decide +kernel)) rfl
theorem m55 : Cond.methodLink RX4 20 yX1_init ∈ GW := GW_of (List.mem_of_getElem? (i := 106) (by decide +kernel)) rfl
theorem m56 : Cond.instanceMethod yX1_init ∈ GW := GW_of (List.mem_of_getElem? (i := 107) (by decide +kernel)) rfl
theorem m57 : Cond.code yX1_init cX1_init 1 none ∈ GW := GW_of (List.mem_of_getElem? (i := 108) (by decide +kernel)) rfl
theorem m58 : Cond.methodLink RX1 3 objectInit ∈ GW := GW_of (List.mem_of_getElem? (i := 109) (by decide +kernel)) rfl
theorem m59 : Cond.fieldLink RX1 9 "SiteCuts$Cuts" "amount" "I" ∈ GW := GW_of (List.mem_of_getElem? (i := 111) (by decide +kernel)) rfl
theorem m60 : Cond.fieldLink RX1 15 "SiteCuts$Cuts" "customers" "[I" ∈ GW := GW_of (List.mem_of_getElem? (i := 114) (by decide +kernel)) rfl
theorem m61 : Cond.fieldLink RX1 19 "SiteCuts$Cuts" "starts" "[I" ∈ GW := GW_of (List.mem_of_getElem? (i := 116) (by decide +kernel)) rfl
theorem m62 : Cond.classLink RX1 22 "[[I" ∈ GW := GW_of (List.mem_of_getElem? (i := 110) (by decide +kernel)) rfl
theorem m63 : Cond.fieldLink RX1 24 "SiteCuts$Cuts" "weights" "[[I" ∈ GW := GW_of (List.mem_of_getElem? (i := 118) (by decide +kernel)) rfl
theorem m64 : Cond.methodLink RX5 28 yX2_init ∈ GW := GW_of (List.mem_of_getElem? (i := 148) (by decide +kernel)) rfl
theorem m65 : Cond.instanceMethod yX2_init ∈ GW := GW_of (List.mem_of_getElem? (i := 149) (by decide +kernel)) rfl
theorem m66 : Cond.code yX2_init cX2_init 2 none ∈ GW := GW_of (List.mem_of_getElem? (i := 150) (by decide +kernel)) rfl
theorem m67 : Cond.methodLink RX2 3 objectInit ∈ GW := GW_of (List.mem_of_getElem? (i := 151) (by decide +kernel)) rfl
theorem m68 : Cond.classLink RX2 9 RX4 ∈ GW := GW_of (List.mem_of_getElem? (i := 152) (by decide +kernel)) rfl
theorem m69 : Cond.fieldLink RX2 11 "SiteCuts$History" "states" "[LSiteCuts$State;" ∈ GW := GW_of (List.mem_of_getElem? (i := 155) (by decide +kernel)) rfl
theorem m70 : Cond.fieldLink RX2 18 "SiteCuts$History" "amount" "I" ∈ GW := GW_of (List.mem_of_getElem? (i := 156) (by decide +kernel)) rfl
theorem m71 : Cond.methodLink RX2 17 yX4_init ∈ GW := GW_of (List.mem_of_getElem? (i := 154) (by decide +kernel)) rfl
theorem m72 : Cond.methodLink RX5 35 yX0_init ∈ GW := GW_of (List.mem_of_getElem? (i := 165) (by decide +kernel)) rfl
theorem m73 : Cond.instanceMethod yX0_init ∈ GW := GW_of (List.mem_of_getElem? (i := 166) (by decide +kernel)) rfl
theorem m74 : Cond.code yX0_init cX0_init 1 none ∈ GW := GW_of (List.mem_of_getElem? (i := 167) (by decide +kernel)) rfl
theorem m75 : Cond.methodLink RX0 3 objectInit ∈ GW := GW_of (List.mem_of_getElem? (i := 168) (by decide +kernel)) rfl
theorem m76 : Cond.arrayClass .char ∈ GW := GW_of (List.mem_of_getElem? (i := 177) (by decide +kernel)) rfl
theorem m77 : Cond.fieldLink RX0 9 "SiteCuts$CutText" "characters" "[C" ∈ GW := GW_of (List.mem_of_getElem? (i := 169) (by decide +kernel)) rfl
theorem m78 : Cond.fieldLink RX0 15 "SiteCuts$CutText" "length" "I" ∈ GW := GW_of (List.mem_of_getElem? (i := 170) (by decide +kernel)) rfl
theorem m79 : Cond.methodLink RL 12 yX6_init ∈ GW := GW_of (List.mem_of_getElem? (i := 627) (by decide +kernel)) rfl
theorem m80 : Cond.instanceMethod yX6_init ∈ GW := GW_of (List.mem_of_getElem? (i := 628) (by decide +kernel)) rfl
theorem m81 : Cond.code yX6_init cX6_init 2 none ∈ GW := GW_of (List.mem_of_getElem? (i := 629) (by decide +kernel)) rfl
theorem m82 : Cond.methodLink RX6 1 objectInit ∈ GW := GW_of (List.mem_of_getElem? (i := 630) (by decide +kernel)) rfl
theorem m83 : Cond.fieldLink RX6 7 "SiteCutsModel" "row" "[I" ∈ GW := GW_of (List.mem_of_getElem? (i := 631) (by decide +kernel)) rfl
theorem m84 : Cond.fieldLink RX6 13 "SiteCutsModel" "past" "[I" ∈ GW := GW_of (List.mem_of_getElem? (i := 632) (by decide +kernel)) rfl
theorem m85 : Cond.fieldLink RX6 16 "SiteCutsModel" "aside" "[I" ∈ GW := GW_of (List.mem_of_getElem? (i := 633) (by decide +kernel)) rfl
theorem m86 : Cond.fieldLink RX6 19 "SiteCutsModel" "before" "[I" ∈ GW := GW_of (List.mem_of_getElem? (i := 634) (by decide +kernel)) rfl
theorem m87 : Cond.fieldLink RX6 22 "SiteCutsModel" "text" "[C" ∈ GW := GW_of (List.mem_of_getElem? (i := 637) (by decide +kernel)) rfl
theorem m88 : Cond.fieldLink RX6 26 "SiteCutsModel" "read" "[I" ∈ GW := GW_of (List.mem_of_getElem? (i := 640) (by decide +kernel)) rfl
theorem m89 : Cond.methodLink RL 13 yX5_addSite ∈ GW := GW_of (List.mem_of_getElem? (i := 200) (by decide +kernel)) rfl
theorem m90 : Cond.instanceMethod yX5_addSite ∈ GW := GW_of (List.mem_of_getElem? (i := 201) (by decide +kernel)) rfl
theorem m91 : Cond.selects RX5 yX5_addSite yX5_addSite ∈ GW := GW_of (List.mem_of_getElem? (i := 202) (by decide +kernel)) rfl
theorem m92 : Cond.code yX5_addSite cX5_addSite 2 (some .int) ∈ GW := GW_of (List.mem_of_getElem? (i := 203) (by decide +kernel)) rfl
theorem m93 : Cond.fieldLink RX5 48 "SiteCuts$State" "places" "LSiteCuts$Places;" ∈ GW := GW_of (List.mem_of_getElem? (i := 130) (by decide +kernel)) rfl
theorem m94 : Cond.fieldLink RX5 52 "SiteCuts$Places" "siteCount" "I" ∈ GW := GW_of (List.mem_of_getElem? (i := 70) (by decide +kernel)) rfl
theorem m95 : Cond.methodLink RX5 44 yX5_isSitePrice ∈ GW := GW_of (List.mem_of_getElem? (i := 204) (by decide +kernel)) rfl
theorem m96 : Cond.static yX5_isSitePrice ∈ GW := GW_of (List.mem_of_getElem? (i := 205) (by decide +kernel)) rfl
theorem m97 : Cond.code yX5_isSitePrice cX5_isSitePrice 1 (some .boolean) ∈ GW := GW_of (List.mem_of_getElem? (i := 206) (by decide +kernel)) rfl
theorem m98 : Cond.methodLink RX5 58 yX2_record ∈ GW := GW_of (List.mem_of_getElem? (i := 207) (by decide +kernel)) rfl
theorem m99 : Cond.instanceMethod yX2_record ∈ GW := GW_of (List.mem_of_getElem? (i := 208) (by decide +kernel)) rfl
theorem m100 : Cond.selects RX2 yX2_record yX2_record ∈ GW := GW_of (List.mem_of_getElem? (i := 209) (by decide +kernel)) rfl
theorem m101 : Cond.code yX2_record cX2_record 2 none ∈ GW := GW_of (List.mem_of_getElem? (i := 210) (by decide +kernel)) rfl
theorem m102 : Cond.methodLink RX2 22 yX2_moveOldestToEnd ∈ GW := GW_of (List.mem_of_getElem? (i := 211) (by decide +kernel)) rfl
theorem m103 : Cond.instanceMethod yX2_moveOldestToEnd ∈ GW := GW_of (List.mem_of_getElem? (i := 212) (by decide +kernel)) rfl
theorem m104 : Cond.selects RX2 yX2_moveOldestToEnd yX2_moveOldestToEnd ∈ GW := GW_of (List.mem_of_getElem? (i := 213) (by decide +kernel)) rfl
theorem m105 : Cond.code yX2_moveOldestToEnd cX2_moveOldestToEnd 3 none ∈ GW := GW_of (List.mem_of_getElem? (i := 214) (by decide +kernel)) rfl
theorem m106 : Cond.methodLink RX2 25 yX4_copyFrom ∈ GW := GW_of (List.mem_of_getElem? (i := 215) (by decide +kernel)) rfl
theorem m107 : Cond.instanceMethod yX4_copyFrom ∈ GW := GW_of (List.mem_of_getElem? (i := 216) (by decide +kernel)) rfl
theorem m108 : Cond.selects RX4 yX4_copyFrom yX4_copyFrom ∈ GW := GW_of (List.mem_of_getElem? (i := 217) (by decide +kernel)) rfl
theorem m109 : Cond.code yX4_copyFrom cX4_copyFrom 2 none ∈ GW := GW_of (List.mem_of_getElem? (i := 218) (by decide +kernel)) rfl
theorem m110 : Cond.methodLink RX4 32 yX3_copyFrom ∈ GW := GW_of (List.mem_of_getElem? (i := 219) (by decide +kernel)) rfl
theorem m111 : Cond.instanceMethod yX3_copyFrom ∈ GW := GW_of (List.mem_of_getElem? (i := 220) (by decide +kernel)) rfl
theorem m112 : Cond.selects RX3 yX3_copyFrom yX3_copyFrom ∈ GW := GW_of (List.mem_of_getElem? (i := 221) (by decide +kernel)) rfl
theorem m113 : Cond.code yX3_copyFrom cX3_copyFrom 4 none ∈ GW := GW_of (List.mem_of_getElem? (i := 222) (by decide +kernel)) rfl
theorem m114 : Cond.methodLink RX4 36 yX1_copyFrom ∈ GW := GW_of (List.mem_of_getElem? (i := 223) (by decide +kernel)) rfl
theorem m115 : Cond.instanceMethod yX1_copyFrom ∈ GW := GW_of (List.mem_of_getElem? (i := 224) (by decide +kernel)) rfl
theorem m116 : Cond.selects RX1 yX1_copyFrom yX1_copyFrom ∈ GW := GW_of (List.mem_of_getElem? (i := 225) (by decide +kernel)) rfl
theorem m117 : Cond.code yX1_copyFrom cX1_copyFrom 3 none ∈ GW := GW_of (List.mem_of_getElem? (i := 226) (by decide +kernel)) rfl
theorem m118 : Cond.methodLink RX1 27 yX1_copyCut ∈ GW := GW_of (List.mem_of_getElem? (i := 227) (by decide +kernel)) rfl
theorem m119 : Cond.instanceMethod yX1_copyCut ∈ GW := GW_of (List.mem_of_getElem? (i := 228) (by decide +kernel)) rfl
theorem m120 : Cond.selects RX1 yX1_copyCut yX1_copyCut ∈ GW := GW_of (List.mem_of_getElem? (i := 229) (by decide +kernel)) rfl
theorem m121 : Cond.code yX1_copyCut cX1_copyCut 5 none ∈ GW := GW_of (List.mem_of_getElem? (i := 230) (by decide +kernel)) rfl
theorem m122 : Cond.methodLink RX5 62 yX4_forgetCuts ∈ GW := GW_of (List.mem_of_getElem? (i := 231) (by decide +kernel)) rfl
theorem m123 : Cond.instanceMethod yX4_forgetCuts ∈ GW := GW_of (List.mem_of_getElem? (i := 232) (by decide +kernel)) rfl
theorem m124 : Cond.selects RX4 yX4_forgetCuts yX4_forgetCuts ∈ GW := GW_of (List.mem_of_getElem? (i := 233) (by decide +kernel)) rfl
theorem m125 : Cond.code yX4_forgetCuts cX4_forgetCuts 1 none ∈ GW := GW_of (List.mem_of_getElem? (i := 234) (by decide +kernel)) rfl
theorem m126 : Cond.fieldLink RX4 39 "SiteCuts$Cuts" "amount" "I" ∈ GW := GW_of (List.mem_of_getElem? (i := 112) (by decide +kernel)) rfl
theorem m127 : Cond.methodLink RX4 42 yX4_forgetBest ∈ GW := GW_of (List.mem_of_getElem? (i := 235) (by decide +kernel)) rfl
theorem m128 : Cond.instanceMethod yX4_forgetBest ∈ GW := GW_of (List.mem_of_getElem? (i := 236) (by decide +kernel)) rfl
theorem m129 : Cond.selects RX4 yX4_forgetBest yX4_forgetBest ∈ GW := GW_of (List.mem_of_getElem? (i := 237) (by decide +kernel)) rfl
theorem m130 : Cond.code yX4_forgetBest cX4_forgetBest 1 none ∈ GW := GW_of (List.mem_of_getElem? (i := 238) (by decide +kernel)) rfl
theorem m131 : Cond.methodLink RX5 65 yX3_appendSite ∈ GW := GW_of (List.mem_of_getElem? (i := 239) (by decide +kernel)) rfl
theorem m132 : Cond.instanceMethod yX3_appendSite ∈ GW := GW_of (List.mem_of_getElem? (i := 240) (by decide +kernel)) rfl
theorem m133 : Cond.selects RX3 yX3_appendSite yX3_appendSite ∈ GW := GW_of (List.mem_of_getElem? (i := 241) (by decide +kernel)) rfl
theorem m134 : Cond.code yX3_appendSite cX3_appendSite 4 (some .int) ∈ GW := GW_of (List.mem_of_getElem? (i := 242) (by decide +kernel)) rfl
theorem m135 : Cond.methodLink RL 17 yX6_addSite ∈ GW := GW_of (List.mem_of_getElem? (i := 686) (by decide +kernel)) rfl
theorem m136 : Cond.instanceMethod yX6_addSite ∈ GW := GW_of (List.mem_of_getElem? (i := 687) (by decide +kernel)) rfl
theorem m137 : Cond.selects RX6 yX6_addSite yX6_addSite ∈ GW := GW_of (List.mem_of_getElem? (i := 688) (by decide +kernel)) rfl
theorem m138 : Cond.code yX6_addSite cX6_addSite 3 (some .int) ∈ GW := GW_of (List.mem_of_getElem? (i := 689) (by decide +kernel)) rfl
theorem m139 : Cond.methodLink RX6 46 yX6_in ∈ GW := GW_of (List.mem_of_getElem? (i := 690) (by decide +kernel)) rfl
theorem m140 : Cond.static yX6_in ∈ GW := GW_of (List.mem_of_getElem? (i := 691) (by decide +kernel)) rfl
theorem m141 : Cond.code yX6_in cX6_in 3 (some .boolean) ∈ GW := GW_of (List.mem_of_getElem? (i := 692) (by decide +kernel)) rfl
theorem m142 : Cond.methodLink RX6 43 yX6_begin ∈ GW := GW_of (List.mem_of_getElem? (i := 674) (by decide +kernel)) rfl
theorem m143 : Cond.instanceMethod yX6_begin ∈ GW := GW_of (List.mem_of_getElem? (i := 676) (by decide +kernel)) rfl
theorem m144 : Cond.selects RX6 yX6_begin yX6_begin ∈ GW := GW_of (List.mem_of_getElem? (i := 3) (by decide +kernel)) rfl
theorem m145 : Cond.code yX6_begin cX6_begin 1 none ∈ GW := GW_of (List.mem_of_getElem? (i := 677) (by decide +kernel)) rfl
theorem m146 : Cond.methodLink RX6 33 yX6_remember ∈ GW := GW_of (List.mem_of_getElem? (i := 678) (by decide +kernel)) rfl
theorem m147 : Cond.instanceMethod yX6_remember ∈ GW := GW_of (List.mem_of_getElem? (i := 680) (by decide +kernel)) rfl
theorem m148 : Cond.selects RX6 yX6_remember yX6_remember ∈ GW := GW_of (List.mem_of_getElem? (i := 4) (by decide +kernel)) rfl
theorem m149 : Cond.code yX6_remember cX6_remember 2 none ∈ GW := GW_of (List.mem_of_getElem? (i := 681) (by decide +kernel)) rfl
theorem m150 : Cond.methodLink RX6 36 yX6_record ∈ GW := GW_of (List.mem_of_getElem? (i := 682) (by decide +kernel)) rfl
theorem m151 : Cond.instanceMethod yX6_record ∈ GW := GW_of (List.mem_of_getElem? (i := 684) (by decide +kernel)) rfl
theorem m152 : Cond.selects RX6 yX6_record yX6_record ∈ GW := GW_of (List.mem_of_getElem? (i := 5) (by decide +kernel)) rfl
theorem m153 : Cond.code yX6_record cX6_record 2 none ∈ GW := GW_of (List.mem_of_getElem? (i := 685) (by decide +kernel)) rfl
theorem m154 : Cond.fieldLink RX6 29 "SiteCutsModel" "states" "I" ∈ GW := GW_of (List.mem_of_getElem? (i := 635) (by decide +kernel)) rfl
theorem m155 : Cond.methodLink RX6 50 yX6_dropAll ∈ GW := GW_of (List.mem_of_getElem? (i := 693) (by decide +kernel)) rfl
theorem m156 : Cond.instanceMethod yX6_dropAll ∈ GW := GW_of (List.mem_of_getElem? (i := 695) (by decide +kernel)) rfl
theorem m157 : Cond.selects RX6 yX6_dropAll yX6_dropAll ∈ GW := GW_of (List.mem_of_getElem? (i := 6) (by decide +kernel)) rfl
theorem m158 : Cond.code yX6_dropAll cX6_dropAll 2 none ∈ GW := GW_of (List.mem_of_getElem? (i := 696) (by decide +kernel)) rfl
theorem m159 : Cond.methodLink RL 18 yX5_addCustomer ∈ GW := GW_of (List.mem_of_getElem? (i := 243) (by decide +kernel)) rfl
theorem m160 : Cond.instanceMethod yX5_addCustomer ∈ GW := GW_of (List.mem_of_getElem? (i := 244) (by decide +kernel)) rfl
theorem m161 : Cond.selects RX5 yX5_addCustomer yX5_addCustomer ∈ GW := GW_of (List.mem_of_getElem? (i := 245) (by decide +kernel)) rfl
theorem m162 : Cond.code yX5_addCustomer cX5_addCustomer 2 (some .int) ∈ GW := GW_of (List.mem_of_getElem? (i := 246) (by decide +kernel)) rfl
theorem m163 : Cond.fieldLink RX5 72 "SiteCuts$Places" "customerCount" "I" ∈ GW := GW_of (List.mem_of_getElem? (i := 73) (by decide +kernel)) rfl
theorem m164 : Cond.methodLink RX5 69 yX5_isDemand ∈ GW := GW_of (List.mem_of_getElem? (i := 247) (by decide +kernel)) rfl
theorem m165 : Cond.static yX5_isDemand ∈ GW := GW_of (List.mem_of_getElem? (i := 248) (by decide +kernel)) rfl
theorem m166 : Cond.code yX5_isDemand cX5_isDemand 1 (some .boolean) ∈ GW := GW_of (List.mem_of_getElem? (i := 249) (by decide +kernel)) rfl
theorem m167 : Cond.methodLink RX5 75 yX3_appendCustomer ∈ GW := GW_of (List.mem_of_getElem? (i := 250) (by decide +kernel)) rfl
theorem m168 : Cond.instanceMethod yX3_appendCustomer ∈ GW := GW_of (List.mem_of_getElem? (i := 251) (by decide +kernel)) rfl
theorem m169 : Cond.selects RX3 yX3_appendCustomer yX3_appendCustomer ∈ GW := GW_of (List.mem_of_getElem? (i := 252) (by decide +kernel)) rfl
theorem m170 : Cond.code yX3_appendCustomer cX3_appendCustomer 4 (some .int) ∈ GW := GW_of (List.mem_of_getElem? (i := 253) (by decide +kernel)) rfl
theorem m171 : Cond.methodLink RL 21 yX6_addCustomer ∈ GW := GW_of (List.mem_of_getElem? (i := 697) (by decide +kernel)) rfl
theorem m172 : Cond.instanceMethod yX6_addCustomer ∈ GW := GW_of (List.mem_of_getElem? (i := 698) (by decide +kernel)) rfl
theorem m173 : Cond.selects RX6 yX6_addCustomer yX6_addCustomer ∈ GW := GW_of (List.mem_of_getElem? (i := 699) (by decide +kernel)) rfl
theorem m174 : Cond.code yX6_addCustomer cX6_addCustomer 3 (some .int) ∈ GW := GW_of (List.mem_of_getElem? (i := 700) (by decide +kernel)) rfl
theorem m175 : Cond.methodLink RL 22 yX5_setPrice ∈ GW := GW_of (List.mem_of_getElem? (i := 254) (by decide +kernel)) rfl
theorem m176 : Cond.instanceMethod yX5_setPrice ∈ GW := GW_of (List.mem_of_getElem? (i := 255) (by decide +kernel)) rfl
theorem m177 : Cond.selects RX5 yX5_setPrice yX5_setPrice ∈ GW := GW_of (List.mem_of_getElem? (i := 256) (by decide +kernel)) rfl
theorem m178 : Cond.code yX5_setPrice cX5_setPrice 4 (some .int) ∈ GW := GW_of (List.mem_of_getElem? (i := 257) (by decide +kernel)) rfl
theorem m179 : Cond.fieldLink RX5 81 "SiteCuts$Places" "sitePrices" "[I" ∈ GW := GW_of (List.mem_of_getElem? (i := 79) (by decide +kernel)) rfl
theorem m180 : Cond.methodLink RX5 78 yX3_isSite ∈ GW := GW_of (List.mem_of_getElem? (i := 258) (by decide +kernel)) rfl
theorem m181 : Cond.instanceMethod yX3_isSite ∈ GW := GW_of (List.mem_of_getElem? (i := 259) (by decide +kernel)) rfl
theorem m182 : Cond.selects RX3 yX3_isSite yX3_isSite ∈ GW := GW_of (List.mem_of_getElem? (i := 260) (by decide +kernel)) rfl
theorem m183 : Cond.code yX3_isSite cX3_isSite 2 (some .boolean) ∈ GW := GW_of (List.mem_of_getElem? (i := 261) (by decide +kernel)) rfl
theorem m184 : Cond.methodLink RL 26 yX6_setPrice ∈ GW := GW_of (List.mem_of_getElem? (i := 701) (by decide +kernel)) rfl
theorem m185 : Cond.instanceMethod yX6_setPrice ∈ GW := GW_of (List.mem_of_getElem? (i := 702) (by decide +kernel)) rfl
theorem m186 : Cond.selects RX6 yX6_setPrice yX6_setPrice ∈ GW := GW_of (List.mem_of_getElem? (i := 703) (by decide +kernel)) rfl
theorem m187 : Cond.code yX6_setPrice cX6_setPrice 3 (some .int) ∈ GW := GW_of (List.mem_of_getElem? (i := 704) (by decide +kernel)) rfl
theorem m188 : Cond.methodLink RX6 53 yX6_noSite ∈ GW := GW_of (List.mem_of_getElem? (i := 705) (by decide +kernel)) rfl
theorem m189 : Cond.instanceMethod yX6_noSite ∈ GW := GW_of (List.mem_of_getElem? (i := 707) (by decide +kernel)) rfl
theorem m190 : Cond.selects RX6 yX6_noSite yX6_noSite ∈ GW := GW_of (List.mem_of_getElem? (i := 7) (by decide +kernel)) rfl
theorem m191 : Cond.code yX6_noSite cX6_noSite 2 (some .boolean) ∈ GW := GW_of (List.mem_of_getElem? (i := 708) (by decide +kernel)) rfl
theorem m192 : Cond.methodLink RX6 57 yX6_change ∈ GW := GW_of (List.mem_of_getElem? (i := 709) (by decide +kernel)) rfl
theorem m193 : Cond.instanceMethod yX6_change ∈ GW := GW_of (List.mem_of_getElem? (i := 711) (by decide +kernel)) rfl
theorem m194 : Cond.selects RX6 yX6_change yX6_change ∈ GW := GW_of (List.mem_of_getElem? (i := 8) (by decide +kernel)) rfl
theorem m195 : Cond.code yX6_change cX6_change 4 (some .int) ∈ GW := GW_of (List.mem_of_getElem? (i := 712) (by decide +kernel)) rfl
theorem m196 : Cond.methodLink RL 27 yX5_setDemand ∈ GW := GW_of (List.mem_of_getElem? (i := 262) (by decide +kernel)) rfl
theorem m197 : Cond.instanceMethod yX5_setDemand ∈ GW := GW_of (List.mem_of_getElem? (i := 263) (by decide +kernel)) rfl
theorem m198 : Cond.selects RX5 yX5_setDemand yX5_setDemand ∈ GW := GW_of (List.mem_of_getElem? (i := 264) (by decide +kernel)) rfl
theorem m199 : Cond.code yX5_setDemand cX5_setDemand 4 (some .int) ∈ GW := GW_of (List.mem_of_getElem? (i := 265) (by decide +kernel)) rfl
theorem m200 : Cond.fieldLink RX5 87 "SiteCuts$Places" "demands" "[I" ∈ GW := GW_of (List.mem_of_getElem? (i := 81) (by decide +kernel)) rfl
theorem m201 : Cond.methodLink RX5 84 yX3_isCustomer ∈ GW := GW_of (List.mem_of_getElem? (i := 266) (by decide +kernel)) rfl
theorem m202 : Cond.instanceMethod yX3_isCustomer ∈ GW := GW_of (List.mem_of_getElem? (i := 267) (by decide +kernel)) rfl
theorem m203 : Cond.selects RX3 yX3_isCustomer yX3_isCustomer ∈ GW := GW_of (List.mem_of_getElem? (i := 268) (by decide +kernel)) rfl
theorem m204 : Cond.code yX3_isCustomer cX3_isCustomer 2 (some .boolean) ∈ GW := GW_of (List.mem_of_getElem? (i := 269) (by decide +kernel)) rfl
theorem m205 : Cond.methodLink RL 30 yX6_setDemand ∈ GW := GW_of (List.mem_of_getElem? (i := 713) (by decide +kernel)) rfl
theorem m206 : Cond.instanceMethod yX6_setDemand ∈ GW := GW_of (List.mem_of_getElem? (i := 714) (by decide +kernel)) rfl
theorem m207 : Cond.selects RX6 yX6_setDemand yX6_setDemand ∈ GW := GW_of (List.mem_of_getElem? (i := 715) (by decide +kernel)) rfl
theorem m208 : Cond.code yX6_setDemand cX6_setDemand 3 (some .int) ∈ GW := GW_of (List.mem_of_getElem? (i := 716) (by decide +kernel)) rfl
theorem m209 : Cond.methodLink RX6 61 yX6_noCustomer ∈ GW := GW_of (List.mem_of_getElem? (i := 717) (by decide +kernel)) rfl
theorem m210 : Cond.instanceMethod yX6_noCustomer ∈ GW := GW_of (List.mem_of_getElem? (i := 719) (by decide +kernel)) rfl
theorem m211 : Cond.selects RX6 yX6_noCustomer yX6_noCustomer ∈ GW := GW_of (List.mem_of_getElem? (i := 9) (by decide +kernel)) rfl
theorem m212 : Cond.code yX6_noCustomer cX6_noCustomer 2 (some .boolean) ∈ GW := GW_of (List.mem_of_getElem? (i := 720) (by decide +kernel)) rfl
theorem m213 : Cond.methodLink RL 31 yX5_setRoute ∈ GW := GW_of (List.mem_of_getElem? (i := 270) (by decide +kernel)) rfl
theorem m214 : Cond.instanceMethod yX5_setRoute ∈ GW := GW_of (List.mem_of_getElem? (i := 271) (by decide +kernel)) rfl
theorem m215 : Cond.selects RX5 yX5_setRoute yX5_setRoute ∈ GW := GW_of (List.mem_of_getElem? (i := 272) (by decide +kernel)) rfl
theorem m216 : Cond.code yX5_setRoute cX5_setRoute 5 (some .int) ∈ GW := GW_of (List.mem_of_getElem? (i := 273) (by decide +kernel)) rfl
theorem m217 : Cond.fieldLink RX5 90 "SiteCuts$Places" "routePrices" "[[I" ∈ GW := GW_of (List.mem_of_getElem? (i := 84) (by decide +kernel)) rfl
theorem m218 : Cond.methodLink RL 35 yX6_setRoute ∈ GW := GW_of (List.mem_of_getElem? (i := 721) (by decide +kernel)) rfl
theorem m219 : Cond.instanceMethod yX6_setRoute ∈ GW := GW_of (List.mem_of_getElem? (i := 722) (by decide +kernel)) rfl
theorem m220 : Cond.selects RX6 yX6_setRoute yX6_setRoute ∈ GW := GW_of (List.mem_of_getElem? (i := 723) (by decide +kernel)) rfl
theorem m221 : Cond.code yX6_setRoute cX6_setRoute 4 (some .int) ∈ GW := GW_of (List.mem_of_getElem? (i := 724) (by decide +kernel)) rfl
theorem m222 : Cond.methodLink RX6 64 yX6_route ∈ GW := GW_of (List.mem_of_getElem? (i := 725) (by decide +kernel)) rfl
theorem m223 : Cond.static yX6_route ∈ GW := GW_of (List.mem_of_getElem? (i := 726) (by decide +kernel)) rfl
theorem m224 : Cond.code yX6_route cX6_route 2 (some .int) ∈ GW := GW_of (List.mem_of_getElem? (i := 727) (by decide +kernel)) rfl
theorem m225 : Cond.methodLink RL 36 yX5_setMost ∈ GW := GW_of (List.mem_of_getElem? (i := 274) (by decide +kernel)) rfl
theorem m226 : Cond.instanceMethod yX5_setMost ∈ GW := GW_of (List.mem_of_getElem? (i := 275) (by decide +kernel)) rfl
theorem m227 : Cond.selects RX5 yX5_setMost yX5_setMost ∈ GW := GW_of (List.mem_of_getElem? (i := 276) (by decide +kernel)) rfl
theorem m228 : Cond.code yX5_setMost cX5_setMost 3 (some .int) ∈ GW := GW_of (List.mem_of_getElem? (i := 277) (by decide +kernel)) rfl
theorem m229 : Cond.fieldLink RX5 94 "SiteCuts$Places" "most" "I" ∈ GW := GW_of (List.mem_of_getElem? (i := 77) (by decide +kernel)) rfl
theorem m230 : Cond.methodLink RX5 97 yX4_forgetBest ∈ GW := GW_of (List.mem_of_getElem? (i := 278) (by decide +kernel)) rfl
theorem m231 : Cond.methodLink RL 39 yX6_setMost ∈ GW := GW_of (List.mem_of_getElem? (i := 728) (by decide +kernel)) rfl
theorem m232 : Cond.instanceMethod yX6_setMost ∈ GW := GW_of (List.mem_of_getElem? (i := 729) (by decide +kernel)) rfl
theorem m233 : Cond.selects RX6 yX6_setMost yX6_setMost ∈ GW := GW_of (List.mem_of_getElem? (i := 730) (by decide +kernel)) rfl
theorem m234 : Cond.code yX6_setMost cX6_setMost 3 (some .int) ∈ GW := GW_of (List.mem_of_getElem? (i := 731) (by decide +kernel)) rfl
theorem m235 : Cond.methodLink RL 40 yX5_exclude ∈ GW := GW_of (List.mem_of_getElem? (i := 279) (by decide +kernel)) rfl
theorem m236 : Cond.instanceMethod yX5_exclude ∈ GW := GW_of (List.mem_of_getElem? (i := 280) (by decide +kernel)) rfl
theorem m237 : Cond.selects RX5 yX5_exclude yX5_exclude ∈ GW := GW_of (List.mem_of_getElem? (i := 281) (by decide +kernel)) rfl
theorem m238 : Cond.code yX5_exclude cX5_exclude 4 (some .int) ∈ GW := GW_of (List.mem_of_getElem? (i := 282) (by decide +kernel)) rfl
theorem m239 : Cond.fieldLink RX5 108 "SiteCuts$Places" "excluded" "[I" ∈ GW := GW_of (List.mem_of_getElem? (i := 87) (by decide +kernel)) rfl
theorem m240 : Cond.methodLink RX5 100 yX3_areExcluding ∈ GW := GW_of (List.mem_of_getElem? (i := 283) (by decide +kernel)) rfl
theorem m241 : Cond.instanceMethod yX3_areExcluding ∈ GW := GW_of (List.mem_of_getElem? (i := 284) (by decide +kernel)) rfl
theorem m242 : Cond.selects RX3 yX3_areExcluding yX3_areExcluding ∈ GW := GW_of (List.mem_of_getElem? (i := 285) (by decide +kernel)) rfl
theorem m243 : Cond.code yX3_areExcluding cX3_areExcluding 3 (some .boolean) ∈ GW := GW_of (List.mem_of_getElem? (i := 286) (by decide +kernel)) rfl
theorem m244 : Cond.static yX5_isIn ∈ GW := GW_of (List.mem_of_getElem? (i := 288) (by decide +kernel)) rfl
theorem m245 : Cond.code yX5_isIn cX5_isIn 2 (some .boolean) ∈ GW := GW_of (List.mem_of_getElem? (i := 289) (by decide +kernel)) rfl
theorem m246 : Cond.methodLink RX5 104 yX3_turnExclusion ∈ GW := GW_of (List.mem_of_getElem? (i := 290) (by decide +kernel)) rfl
theorem m247 : Cond.instanceMethod yX3_turnExclusion ∈ GW := GW_of (List.mem_of_getElem? (i := 291) (by decide +kernel)) rfl
theorem m248 : Cond.selects RX3 yX3_turnExclusion yX3_turnExclusion ∈ GW := GW_of (List.mem_of_getElem? (i := 292) (by decide +kernel)) rfl
theorem m249 : Cond.code yX3_turnExclusion cX3_turnExclusion 3 none ∈ GW := GW_of (List.mem_of_getElem? (i := 293) (by decide +kernel)) rfl
theorem m250 : Cond.methodLink RX5 111 yJ6_bitCount_0f7a4 ∈ GW := GW_of (List.mem_of_getElem? (i := 294) (by decide +kernel)) rfl
theorem m251 : Cond.static yJ6_bitCount_0f7a4 ∈ GW := GW_of (List.mem_of_getElem? (i := 295) (by decide +kernel)) rfl
theorem m252 : Cond.initialized RJ6 ∈ GW := GW_of (List.mem_of_getElem? (i := 45) (by decide +kernel)) rfl
theorem m253 : Cond.code yJ6_bitCount_0f7a4 cJ6_bitCount_0f7a4 1 (some .int) ∈ GW := GW_of (List.mem_of_getElem? (i := 296) (by decide +kernel)) rfl
theorem m254 : Cond.constant RJ6 265 (1431655765) ∈ GW := GW_of (List.mem_of_getElem? (i := 297) (by decide +kernel)) rfl
theorem m255 : Cond.constant RJ6 266 (858993459) ∈ GW := GW_of (List.mem_of_getElem? (i := 298) (by decide +kernel)) rfl
theorem m256 : Cond.constant RJ6 267 (252645135) ∈ GW := GW_of (List.mem_of_getElem? (i := 299) (by decide +kernel)) rfl
theorem m257 : Cond.methodLink RL 44 yX6_exclude ∈ GW := GW_of (List.mem_of_getElem? (i := 732) (by decide +kernel)) rfl
theorem m258 : Cond.instanceMethod yX6_exclude ∈ GW := GW_of (List.mem_of_getElem? (i := 733) (by decide +kernel)) rfl
theorem m259 : Cond.selects RX6 yX6_exclude yX6_exclude ∈ GW := GW_of (List.mem_of_getElem? (i := 734) (by decide +kernel)) rfl
theorem m260 : Cond.code yX6_exclude cX6_exclude 4 (some .int) ∈ GW := GW_of (List.mem_of_getElem? (i := 735) (by decide +kernel)) rfl
theorem m261 : Cond.methodLink RX6 67 yX6_isIn ∈ GW := GW_of (List.mem_of_getElem? (i := 736) (by decide +kernel)) rfl
theorem m262 : Cond.static yX6_isIn ∈ GW := GW_of (List.mem_of_getElem? (i := 737) (by decide +kernel)) rfl
theorem m263 : Cond.code yX6_isIn cX6_isIn 2 (some .boolean) ∈ GW := GW_of (List.mem_of_getElem? (i := 738) (by decide +kernel)) rfl
theorem m264 : Cond.methodLink RX6 71 yX6_many ∈ GW := GW_of (List.mem_of_getElem? (i := 739) (by decide +kernel)) rfl
theorem m265 : Cond.static yX6_many ∈ GW := GW_of (List.mem_of_getElem? (i := 740) (by decide +kernel)) rfl
theorem m266 : Cond.code yX6_many cX6_many 3 (some .int) ∈ GW := GW_of (List.mem_of_getElem? (i := 741) (by decide +kernel)) rfl
theorem m267 : Cond.methodLink RL 45 yX5_step ∈ GW := GW_of (List.mem_of_getElem? (i := 300) (by decide +kernel)) rfl
theorem m268 : Cond.instanceMethod yX5_step ∈ GW := GW_of (List.mem_of_getElem? (i := 301) (by decide +kernel)) rfl
theorem m269 : Cond.selects RX5 yX5_step yX5_step ∈ GW := GW_of (List.mem_of_getElem? (i := 302) (by decide +kernel)) rfl
theorem m270 : Cond.code yX5_step cX5_step 2 (some .int) ∈ GW := GW_of (List.mem_of_getElem? (i := 303) (by decide +kernel)) rfl
theorem m271 : Cond.methodLink RX5 116 yX4_copyFrom ∈ GW := GW_of (List.mem_of_getElem? (i := 304) (by decide +kernel)) rfl
theorem m272 : Cond.methodLink RX5 119 yX4_makeStep ∈ GW := GW_of (List.mem_of_getElem? (i := 305) (by decide +kernel)) rfl
theorem m273 : Cond.instanceMethod yX4_makeStep ∈ GW := GW_of (List.mem_of_getElem? (i := 306) (by decide +kernel)) rfl
theorem m274 : Cond.selects RX4 yX4_makeStep yX4_makeStep ∈ GW := GW_of (List.mem_of_getElem? (i := 307) (by decide +kernel)) rfl
theorem m275 : Cond.code yX4_makeStep cX4_makeStep 6 (some .int) ∈ GW := GW_of (List.mem_of_getElem? (i := 308) (by decide +kernel)) rfl
theorem m276 : Cond.fieldLink RX4 69 "SiteCuts$Places" "customerCount" "I" ∈ GW := GW_of (List.mem_of_getElem? (i := 74) (by decide +kernel)) rfl
theorem m277 : Cond.methodLink RX4 72 yX4_findMasterPlan ∈ GW := GW_of (List.mem_of_getElem? (i := 309) (by decide +kernel)) rfl
theorem m278 : Cond.instanceMethod yX4_findMasterPlan ∈ GW := GW_of (List.mem_of_getElem? (i := 310) (by decide +kernel)) rfl
theorem m279 : Cond.selects RX4 yX4_findMasterPlan yX4_findMasterPlan ∈ GW := GW_of (List.mem_of_getElem? (i := 311) (by decide +kernel)) rfl
theorem m280 : Cond.code yX4_findMasterPlan cX4_findMasterPlan 5 (some .int) ∈ GW := GW_of (List.mem_of_getElem? (i := 312) (by decide +kernel)) rfl
theorem m281 : Cond.methodLink RX4 59 yX3_planCount ∈ GW := GW_of (List.mem_of_getElem? (i := 313) (by decide +kernel)) rfl
theorem m282 : Cond.instanceMethod yX3_planCount ∈ GW := GW_of (List.mem_of_getElem? (i := 314) (by decide +kernel)) rfl
theorem m283 : Cond.selects RX3 yX3_planCount yX3_planCount ∈ GW := GW_of (List.mem_of_getElem? (i := 315) (by decide +kernel)) rfl
theorem m284 : Cond.code yX3_planCount cX3_planCount 1 (some .int) ∈ GW := GW_of (List.mem_of_getElem? (i := 316) (by decide +kernel)) rfl
theorem m285 : Cond.methodLink RX4 63 yX4_isForMaster ∈ GW := GW_of (List.mem_of_getElem? (i := 317) (by decide +kernel)) rfl
theorem m286 : Cond.instanceMethod yX4_isForMaster ∈ GW := GW_of (List.mem_of_getElem? (i := 318) (by decide +kernel)) rfl
theorem m287 : Cond.selects RX4 yX4_isForMaster yX4_isForMaster ∈ GW := GW_of (List.mem_of_getElem? (i := 319) (by decide +kernel)) rfl
theorem m288 : Cond.code yX4_isForMaster cX4_isForMaster 2 (some .boolean) ∈ GW := GW_of (List.mem_of_getElem? (i := 320) (by decide +kernel)) rfl
theorem m289 : Cond.methodLink RX4 52 yX3_isAllowed ∈ GW := GW_of (List.mem_of_getElem? (i := 321) (by decide +kernel)) rfl
theorem m290 : Cond.instanceMethod yX3_isAllowed ∈ GW := GW_of (List.mem_of_getElem? (i := 322) (by decide +kernel)) rfl
theorem m291 : Cond.selects RX3 yX3_isAllowed yX3_isAllowed ∈ GW := GW_of (List.mem_of_getElem? (i := 323) (by decide +kernel)) rfl
theorem m292 : Cond.code yX3_isAllowed cX3_isAllowed 2 (some .boolean) ∈ GW := GW_of (List.mem_of_getElem? (i := 324) (by decide +kernel)) rfl
theorem m293 : Cond.methodLink RX3 44 yJ6_bitCount_0f7a4 ∈ GW := GW_of (List.mem_of_getElem? (i := 325) (by decide +kernel)) rfl
theorem m294 : Cond.methodLink RX3 50 yX3_hasExcludingSites ∈ GW := GW_of (List.mem_of_getElem? (i := 326) (by decide +kernel)) rfl
theorem m295 : Cond.instanceMethod yX3_hasExcludingSites ∈ GW := GW_of (List.mem_of_getElem? (i := 327) (by decide +kernel)) rfl
theorem m296 : Cond.selects RX3 yX3_hasExcludingSites yX3_hasExcludingSites ∈ GW := GW_of (List.mem_of_getElem? (i := 328) (by decide +kernel)) rfl
theorem m297 : Cond.code yX3_hasExcludingSites cX3_hasExcludingSites 3 (some .boolean) ∈ GW := GW_of (List.mem_of_getElem? (i := 329) (by decide +kernel)) rfl
theorem m298 : Cond.methodLink RX4 56 yX1_countMissedRays ∈ GW := GW_of (List.mem_of_getElem? (i := 330) (by decide +kernel)) rfl
theorem m299 : Cond.instanceMethod yX1_countMissedRays ∈ GW := GW_of (List.mem_of_getElem? (i := 331) (by decide +kernel)) rfl
theorem m300 : Cond.selects RX1 yX1_countMissedRays yX1_countMissedRays ∈ GW := GW_of (List.mem_of_getElem? (i := 332) (by decide +kernel)) rfl
theorem m301 : Cond.code yX1_countMissedRays cX1_countMissedRays 4 (some .int) ∈ GW := GW_of (List.mem_of_getElem? (i := 333) (by decide +kernel)) rfl
theorem m302 : Cond.methodLink RX1 65 yX1_isRay ∈ GW := GW_of (List.mem_of_getElem? (i := 334) (by decide +kernel)) rfl
theorem m303 : Cond.instanceMethod yX1_isRay ∈ GW := GW_of (List.mem_of_getElem? (i := 335) (by decide +kernel)) rfl
theorem m304 : Cond.selects RX1 yX1_isRay yX1_isRay ∈ GW := GW_of (List.mem_of_getElem? (i := 336) (by decide +kernel)) rfl
theorem m305 : Cond.code yX1_isRay cX1_isRay 2 (some .boolean) ∈ GW := GW_of (List.mem_of_getElem? (i := 337) (by decide +kernel)) rfl
theorem m306 : Cond.methodLink RX1 62 yX1_weightOf ∈ GW := GW_of (List.mem_of_getElem? (i := 338) (by decide +kernel)) rfl
theorem m307 : Cond.instanceMethod yX1_weightOf ∈ GW := GW_of (List.mem_of_getElem? (i := 339) (by decide +kernel)) rfl
theorem m308 : Cond.selects RX1 yX1_weightOf yX1_weightOf ∈ GW := GW_of (List.mem_of_getElem? (i := 340) (by decide +kernel)) rfl
theorem m309 : Cond.code yX1_weightOf cX1_weightOf 5 (some .int) ∈ GW := GW_of (List.mem_of_getElem? (i := 341) (by decide +kernel)) rfl
theorem m310 : Cond.methodLink RX4 66 yX4_guessOf ∈ GW := GW_of (List.mem_of_getElem? (i := 343) (by decide +kernel)) rfl
theorem m311 : Cond.instanceMethod yX4_guessOf ∈ GW := GW_of (List.mem_of_getElem? (i := 344) (by decide +kernel)) rfl
theorem m312 : Cond.selects RX4 yX4_guessOf yX4_guessOf ∈ GW := GW_of (List.mem_of_getElem? (i := 345) (by decide +kernel)) rfl
theorem m313 : Cond.code yX4_guessOf cX4_guessOf 2 (some .int) ∈ GW := GW_of (List.mem_of_getElem? (i := 346) (by decide +kernel)) rfl
theorem m314 : Cond.methodLink RX4 45 yX3_sitePricesOf ∈ GW := GW_of (List.mem_of_getElem? (i := 347) (by decide +kernel)) rfl
theorem m315 : Cond.instanceMethod yX3_sitePricesOf ∈ GW := GW_of (List.mem_of_getElem? (i := 348) (by decide +kernel)) rfl
theorem m316 : Cond.selects RX3 yX3_sitePricesOf yX3_sitePricesOf ∈ GW := GW_of (List.mem_of_getElem? (i := 349) (by decide +kernel)) rfl
theorem m317 : Cond.code yX3_sitePricesOf cX3_sitePricesOf 4 (some .int) ∈ GW := GW_of (List.mem_of_getElem? (i := 350) (by decide +kernel)) rfl
theorem m318 : Cond.methodLink RX4 49 yX1_greatestValue ∈ GW := GW_of (List.mem_of_getElem? (i := 351) (by decide +kernel)) rfl
theorem m319 : Cond.instanceMethod yX1_greatestValue ∈ GW := GW_of (List.mem_of_getElem? (i := 352) (by decide +kernel)) rfl
theorem m320 : Cond.selects RX1 yX1_greatestValue yX1_greatestValue ∈ GW := GW_of (List.mem_of_getElem? (i := 353) (by decide +kernel)) rfl
theorem m321 : Cond.code yX1_greatestValue cX1_greatestValue 4 (some .int) ∈ GW := GW_of (List.mem_of_getElem? (i := 354) (by decide +kernel)) rfl
theorem m322 : Cond.methodLink RX1 53 Lib.Math.max.name ∈ GW := GW_of (List.mem_of_getElem? (i := 359) (by decide +kernel)) rfl
theorem m323 : Cond.static Lib.Math.max.name ∈ GW := GW_of (List.mem_of_getElem? (i := 360) (by decide +kernel)) rfl
theorem m324 : Cond.initialized "java/lang/Math" ∈ GW := GW_of (List.mem_of_getElem? (i := 46) (by decide +kernel)) rfl
theorem m325 : Cond.code Lib.Math.max.name Lib.Math.max.code 2 (some .int) ∈ GW := GW_of (List.mem_of_getElem? (i := 361) (by decide +kernel)) rfl
theorem m326 : Cond.methodLink RX1 69 yX1_valueOf ∈ GW := GW_of (List.mem_of_getElem? (i := 355) (by decide +kernel)) rfl
theorem m327 : Cond.instanceMethod yX1_valueOf ∈ GW := GW_of (List.mem_of_getElem? (i := 356) (by decide +kernel)) rfl
theorem m328 : Cond.selects RX1 yX1_valueOf yX1_valueOf ∈ GW := GW_of (List.mem_of_getElem? (i := 357) (by decide +kernel)) rfl
theorem m329 : Cond.code yX1_valueOf cX1_valueOf 3 (some .int) ∈ GW := GW_of (List.mem_of_getElem? (i := 358) (by decide +kernel)) rfl
theorem m330 : Cond.methodLink RX4 75 yX3_lowestMissedCustomer ∈ GW := GW_of (List.mem_of_getElem? (i := 362) (by decide +kernel)) rfl
theorem m331 : Cond.instanceMethod yX3_lowestMissedCustomer ∈ GW := GW_of (List.mem_of_getElem? (i := 363) (by decide +kernel)) rfl
theorem m332 : Cond.selects RX3 yX3_lowestMissedCustomer yX3_lowestMissedCustomer ∈ GW := GW_of (List.mem_of_getElem? (i := 364) (by decide +kernel)) rfl
theorem m333 : Cond.code yX3_lowestMissedCustomer cX3_lowestMissedCustomer 3 (some .int) ∈ GW := GW_of (List.mem_of_getElem? (i := 365) (by decide +kernel)) rfl
theorem m334 : Cond.methodLink RX3 63 yX3_leastRoutePrice ∈ GW := GW_of (List.mem_of_getElem? (i := 366) (by decide +kernel)) rfl
theorem m335 : Cond.instanceMethod yX3_leastRoutePrice ∈ GW := GW_of (List.mem_of_getElem? (i := 367) (by decide +kernel)) rfl
theorem m336 : Cond.selects RX3 yX3_leastRoutePrice yX3_leastRoutePrice ∈ GW := GW_of (List.mem_of_getElem? (i := 368) (by decide +kernel)) rfl
theorem m337 : Cond.code yX3_leastRoutePrice cX3_leastRoutePrice 5 (some .int) ∈ GW := GW_of (List.mem_of_getElem? (i := 369) (by decide +kernel)) rfl
theorem m338 : Cond.methodLink RX3 57 Lib.Math.min.name ∈ GW := GW_of (List.mem_of_getElem? (i := 370) (by decide +kernel)) rfl
theorem m339 : Cond.static Lib.Math.min.name ∈ GW := GW_of (List.mem_of_getElem? (i := 371) (by decide +kernel)) rfl
theorem m340 : Cond.code Lib.Math.min.name Lib.Math.min.code 2 (some .int) ∈ GW := GW_of (List.mem_of_getElem? (i := 372) (by decide +kernel)) rfl
theorem m341 : Cond.methodLink RX4 78 yX3_costOf ∈ GW := GW_of (List.mem_of_getElem? (i := 373) (by decide +kernel)) rfl
theorem m342 : Cond.instanceMethod yX3_costOf ∈ GW := GW_of (List.mem_of_getElem? (i := 374) (by decide +kernel)) rfl
theorem m343 : Cond.selects RX3 yX3_costOf yX3_costOf ∈ GW := GW_of (List.mem_of_getElem? (i := 375) (by decide +kernel)) rfl
theorem m344 : Cond.code yX3_costOf cX3_costOf 2 (some .int) ∈ GW := GW_of (List.mem_of_getElem? (i := 376) (by decide +kernel)) rfl
theorem m345 : Cond.methodLink RX3 72 yX3_sitePricesOf ∈ GW := GW_of (List.mem_of_getElem? (i := 377) (by decide +kernel)) rfl
theorem m346 : Cond.methodLink RX3 75 yX3_routeCostOf ∈ GW := GW_of (List.mem_of_getElem? (i := 378) (by decide +kernel)) rfl
theorem m347 : Cond.instanceMethod yX3_routeCostOf ∈ GW := GW_of (List.mem_of_getElem? (i := 379) (by decide +kernel)) rfl
theorem m348 : Cond.selects RX3 yX3_routeCostOf yX3_routeCostOf ∈ GW := GW_of (List.mem_of_getElem? (i := 380) (by decide +kernel)) rfl
theorem m349 : Cond.code yX3_routeCostOf cX3_routeCostOf 4 (some .int) ∈ GW := GW_of (List.mem_of_getElem? (i := 381) (by decide +kernel)) rfl
theorem m350 : Cond.methodLink RX4 81 yX1_isFull ∈ GW := GW_of (List.mem_of_getElem? (i := 382) (by decide +kernel)) rfl
theorem m351 : Cond.instanceMethod yX1_isFull ∈ GW := GW_of (List.mem_of_getElem? (i := 383) (by decide +kernel)) rfl
theorem m352 : Cond.selects RX1 yX1_isFull yX1_isFull ∈ GW := GW_of (List.mem_of_getElem? (i := 384) (by decide +kernel)) rfl
theorem m353 : Cond.code yX1_isFull cX1_isFull 1 (some .boolean) ∈ GW := GW_of (List.mem_of_getElem? (i := 385) (by decide +kernel)) rfl
theorem m354 : Cond.methodLink RX4 85 yX1_appendRay ∈ GW := GW_of (List.mem_of_getElem? (i := 386) (by decide +kernel)) rfl
theorem m355 : Cond.instanceMethod yX1_appendRay ∈ GW := GW_of (List.mem_of_getElem? (i := 387) (by decide +kernel)) rfl
theorem m356 : Cond.selects RX1 yX1_appendRay yX1_appendRay ∈ GW := GW_of (List.mem_of_getElem? (i := 388) (by decide +kernel)) rfl
theorem m357 : Cond.code yX1_appendRay cX1_appendRay 5 (some .int) ∈ GW := GW_of (List.mem_of_getElem? (i := 389) (by decide +kernel)) rfl
theorem m358 : Cond.fieldLink RX1 31 "SiteCuts$Places" "siteCount" "I" ∈ GW := GW_of (List.mem_of_getElem? (i := 71) (by decide +kernel)) rfl
theorem m359 : Cond.methodLink RX1 36 yX3_hasRoute ∈ GW := GW_of (List.mem_of_getElem? (i := 390) (by decide +kernel)) rfl
theorem m360 : Cond.instanceMethod yX3_hasRoute ∈ GW := GW_of (List.mem_of_getElem? (i := 391) (by decide +kernel)) rfl
theorem m361 : Cond.selects RX3 yX3_hasRoute yX3_hasRoute ∈ GW := GW_of (List.mem_of_getElem? (i := 392) (by decide +kernel)) rfl
theorem m362 : Cond.code yX3_hasRoute cX3_hasRoute 3 (some .boolean) ∈ GW := GW_of (List.mem_of_getElem? (i := 393) (by decide +kernel)) rfl
theorem m363 : Cond.methodLink RX4 89 yX4_improveBest ∈ GW := GW_of (List.mem_of_getElem? (i := 394) (by decide +kernel)) rfl
theorem m364 : Cond.instanceMethod yX4_improveBest ∈ GW := GW_of (List.mem_of_getElem? (i := 395) (by decide +kernel)) rfl
theorem m365 : Cond.selects RX4 yX4_improveBest yX4_improveBest ∈ GW := GW_of (List.mem_of_getElem? (i := 396) (by decide +kernel)) rfl
theorem m366 : Cond.code yX4_improveBest cX4_improveBest 2 none ∈ GW := GW_of (List.mem_of_getElem? (i := 397) (by decide +kernel)) rfl
theorem m367 : Cond.methodLink RX4 93 yX3_leastRoutePrice ∈ GW := GW_of (List.mem_of_getElem? (i := 398) (by decide +kernel)) rfl
theorem m368 : Cond.methodLink RX4 97 yX1_appendPriceCut ∈ GW := GW_of (List.mem_of_getElem? (i := 399) (by decide +kernel)) rfl
theorem m369 : Cond.instanceMethod yX1_appendPriceCut ∈ GW := GW_of (List.mem_of_getElem? (i := 400) (by decide +kernel)) rfl
theorem m370 : Cond.selects RX1 yX1_appendPriceCut yX1_appendPriceCut ∈ GW := GW_of (List.mem_of_getElem? (i := 401) (by decide +kernel)) rfl
theorem m371 : Cond.code yX1_appendPriceCut cX1_appendPriceCut 5 (some .int) ∈ GW := GW_of (List.mem_of_getElem? (i := 402) (by decide +kernel)) rfl
theorem m372 : Cond.fieldLink RX1 40 "SiteCuts$Places" "customerCount" "I" ∈ GW := GW_of (List.mem_of_getElem? (i := 75) (by decide +kernel)) rfl
theorem m373 : Cond.fieldLink RX1 43 "SiteCuts$Places" "demands" "[I" ∈ GW := GW_of (List.mem_of_getElem? (i := 82) (by decide +kernel)) rfl
theorem m374 : Cond.methodLink RX1 46 yX1_savedBy ∈ GW := GW_of (List.mem_of_getElem? (i := 403) (by decide +kernel)) rfl
theorem m375 : Cond.static yX1_savedBy ∈ GW := GW_of (List.mem_of_getElem? (i := 404) (by decide +kernel)) rfl
theorem m376 : Cond.code yX1_savedBy cX1_savedBy 6 (some .int) ∈ GW := GW_of (List.mem_of_getElem? (i := 405) (by decide +kernel)) rfl
theorem m377 : Cond.fieldLink RX1 50 "SiteCuts$Places" "routePrices" "[[I" ∈ GW := GW_of (List.mem_of_getElem? (i := 85) (by decide +kernel)) rfl
theorem m378 : Cond.methodLink RL 49 yX6_step ∈ GW := GW_of (List.mem_of_getElem? (i := 742) (by decide +kernel)) rfl
theorem m379 : Cond.instanceMethod yX6_step ∈ GW := GW_of (List.mem_of_getElem? (i := 743) (by decide +kernel)) rfl
theorem m380 : Cond.selects RX6 yX6_step yX6_step ∈ GW := GW_of (List.mem_of_getElem? (i := 744) (by decide +kernel)) rfl
theorem m381 : Cond.code yX6_step cX6_step 2 (some .int) ∈ GW := GW_of (List.mem_of_getElem? (i := 745) (by decide +kernel)) rfl
theorem m382 : Cond.methodLink RX6 118 yX6_makeStep ∈ GW := GW_of (List.mem_of_getElem? (i := 746) (by decide +kernel)) rfl
theorem m383 : Cond.instanceMethod yX6_makeStep ∈ GW := GW_of (List.mem_of_getElem? (i := 748) (by decide +kernel)) rfl
theorem m384 : Cond.selects RX6 yX6_makeStep yX6_makeStep ∈ GW := GW_of (List.mem_of_getElem? (i := 10) (by decide +kernel)) rfl
theorem m385 : Cond.code yX6_makeStep cX6_makeStep 7 (some .int) ∈ GW := GW_of (List.mem_of_getElem? (i := 749) (by decide +kernel)) rfl
theorem m386 : Cond.methodLink RX6 111 yX6_masterPlan ∈ GW := GW_of (List.mem_of_getElem? (i := 750) (by decide +kernel)) rfl
theorem m387 : Cond.instanceMethod yX6_masterPlan ∈ GW := GW_of (List.mem_of_getElem? (i := 752) (by decide +kernel)) rfl
theorem m388 : Cond.selects RX6 yX6_masterPlan yX6_masterPlan ∈ GW := GW_of (List.mem_of_getElem? (i := 11) (by decide +kernel)) rfl
theorem m389 : Cond.code yX6_masterPlan cX6_masterPlan 5 (some .int) ∈ GW := GW_of (List.mem_of_getElem? (i := 753) (by decide +kernel)) rfl
theorem m390 : Cond.methodLink RX6 84 yX6_isAllowed ∈ GW := GW_of (List.mem_of_getElem? (i := 754) (by decide +kernel)) rfl
theorem m391 : Cond.instanceMethod yX6_isAllowed ∈ GW := GW_of (List.mem_of_getElem? (i := 756) (by decide +kernel)) rfl
theorem m392 : Cond.selects RX6 yX6_isAllowed yX6_isAllowed ∈ GW := GW_of (List.mem_of_getElem? (i := 12) (by decide +kernel)) rfl
theorem m393 : Cond.code yX6_isAllowed cX6_isAllowed 2 (some .boolean) ∈ GW := GW_of (List.mem_of_getElem? (i := 757) (by decide +kernel)) rfl
theorem m394 : Cond.methodLink RX6 75 yX6_excludes ∈ GW := GW_of (List.mem_of_getElem? (i := 758) (by decide +kernel)) rfl
theorem m395 : Cond.instanceMethod yX6_excludes ∈ GW := GW_of (List.mem_of_getElem? (i := 760) (by decide +kernel)) rfl
theorem m396 : Cond.selects RX6 yX6_excludes yX6_excludes ∈ GW := GW_of (List.mem_of_getElem? (i := 13) (by decide +kernel)) rfl
theorem m397 : Cond.code yX6_excludes cX6_excludes 4 (some .boolean) ∈ GW := GW_of (List.mem_of_getElem? (i := 761) (by decide +kernel)) rfl
theorem m398 : Cond.methodLink RX6 105 yX6_raysMissed ∈ GW := GW_of (List.mem_of_getElem? (i := 762) (by decide +kernel)) rfl
theorem m399 : Cond.instanceMethod yX6_raysMissed ∈ GW := GW_of (List.mem_of_getElem? (i := 764) (by decide +kernel)) rfl
theorem m400 : Cond.selects RX6 yX6_raysMissed yX6_raysMissed ∈ GW := GW_of (List.mem_of_getElem? (i := 14) (by decide +kernel)) rfl
theorem m401 : Cond.code yX6_raysMissed cX6_raysMissed 4 (some .int) ∈ GW := GW_of (List.mem_of_getElem? (i := 765) (by decide +kernel)) rfl
theorem m402 : Cond.methodLink RX6 93 yX6_isRay ∈ GW := GW_of (List.mem_of_getElem? (i := 766) (by decide +kernel)) rfl
theorem m403 : Cond.instanceMethod yX6_isRay ∈ GW := GW_of (List.mem_of_getElem? (i := 768) (by decide +kernel)) rfl
theorem m404 : Cond.selects RX6 yX6_isRay yX6_isRay ∈ GW := GW_of (List.mem_of_getElem? (i := 15) (by decide +kernel)) rfl
theorem m405 : Cond.code yX6_isRay cX6_isRay 2 (some .boolean) ∈ GW := GW_of (List.mem_of_getElem? (i := 769) (by decide +kernel)) rfl
theorem m406 : Cond.methodLink RX6 96 yX6_asked ∈ GW := GW_of (List.mem_of_getElem? (i := 770) (by decide +kernel)) rfl
theorem m407 : Cond.instanceMethod yX6_asked ∈ GW := GW_of (List.mem_of_getElem? (i := 772) (by decide +kernel)) rfl
theorem m408 : Cond.selects RX6 yX6_asked yX6_asked ∈ GW := GW_of (List.mem_of_getElem? (i := 16) (by decide +kernel)) rfl
theorem m409 : Cond.code yX6_asked cX6_asked 3 (some .int) ∈ GW := GW_of (List.mem_of_getElem? (i := 773) (by decide +kernel)) rfl
theorem m410 : Cond.methodLink RX6 78 yX6_reachedFrom ∈ GW := GW_of (List.mem_of_getElem? (i := 774) (by decide +kernel)) rfl
theorem m411 : Cond.instanceMethod yX6_reachedFrom ∈ GW := GW_of (List.mem_of_getElem? (i := 776) (by decide +kernel)) rfl
theorem m412 : Cond.selects RX6 yX6_reachedFrom yX6_reachedFrom ∈ GW := GW_of (List.mem_of_getElem? (i := 17) (by decide +kernel)) rfl
theorem m413 : Cond.code yX6_reachedFrom cX6_reachedFrom 4 (some .int) ∈ GW := GW_of (List.mem_of_getElem? (i := 777) (by decide +kernel)) rfl
theorem m414 : Cond.methodLink RX6 108 yX6_guess ∈ GW := GW_of (List.mem_of_getElem? (i := 778) (by decide +kernel)) rfl
theorem m415 : Cond.instanceMethod yX6_guess ∈ GW := GW_of (List.mem_of_getElem? (i := 780) (by decide +kernel)) rfl
theorem m416 : Cond.selects RX6 yX6_guess yX6_guess ∈ GW := GW_of (List.mem_of_getElem? (i := 18) (by decide +kernel)) rfl
theorem m417 : Cond.code yX6_guess cX6_guess 5 (some .int) ∈ GW := GW_of (List.mem_of_getElem? (i := 781) (by decide +kernel)) rfl
theorem m418 : Cond.methodLink RX6 99 yX6_valueOf ∈ GW := GW_of (List.mem_of_getElem? (i := 782) (by decide +kernel)) rfl
theorem m419 : Cond.instanceMethod yX6_valueOf ∈ GW := GW_of (List.mem_of_getElem? (i := 784) (by decide +kernel)) rfl
theorem m420 : Cond.selects RX6 yX6_valueOf yX6_valueOf ∈ GW := GW_of (List.mem_of_getElem? (i := 19) (by decide +kernel)) rfl
theorem m421 : Cond.code yX6_valueOf cX6_valueOf 5 (some .int) ∈ GW := GW_of (List.mem_of_getElem? (i := 785) (by decide +kernel)) rfl
theorem m422 : Cond.methodLink RX6 90 yX6_weightOf ∈ GW := GW_of (List.mem_of_getElem? (i := 786) (by decide +kernel)) rfl
theorem m423 : Cond.instanceMethod yX6_weightOf ∈ GW := GW_of (List.mem_of_getElem? (i := 788) (by decide +kernel)) rfl
theorem m424 : Cond.selects RX6 yX6_weightOf yX6_weightOf ∈ GW := GW_of (List.mem_of_getElem? (i := 20) (by decide +kernel)) rfl
theorem m425 : Cond.code yX6_weightOf cX6_weightOf 6 (some .int) ∈ GW := GW_of (List.mem_of_getElem? (i := 789) (by decide +kernel)) rfl
theorem m426 : Cond.methodLink RX6 102 yX6_prices ∈ GW := GW_of (List.mem_of_getElem? (i := 790) (by decide +kernel)) rfl
theorem m427 : Cond.instanceMethod yX6_prices ∈ GW := GW_of (List.mem_of_getElem? (i := 792) (by decide +kernel)) rfl
theorem m428 : Cond.selects RX6 yX6_prices yX6_prices ∈ GW := GW_of (List.mem_of_getElem? (i := 21) (by decide +kernel)) rfl
theorem m429 : Cond.code yX6_prices cX6_prices 4 (some .int) ∈ GW := GW_of (List.mem_of_getElem? (i := 793) (by decide +kernel)) rfl
theorem m430 : Cond.methodLink RX6 87 yX6_missed ∈ GW := GW_of (List.mem_of_getElem? (i := 794) (by decide +kernel)) rfl
theorem m431 : Cond.instanceMethod yX6_missed ∈ GW := GW_of (List.mem_of_getElem? (i := 796) (by decide +kernel)) rfl
theorem m432 : Cond.selects RX6 yX6_missed yX6_missed ∈ GW := GW_of (List.mem_of_getElem? (i := 22) (by decide +kernel)) rfl
theorem m433 : Cond.code yX6_missed cX6_missed 3 (some .int) ∈ GW := GW_of (List.mem_of_getElem? (i := 797) (by decide +kernel)) rfl
theorem m434 : Cond.methodLink RX6 115 yX6_routes ∈ GW := GW_of (List.mem_of_getElem? (i := 798) (by decide +kernel)) rfl
theorem m435 : Cond.instanceMethod yX6_routes ∈ GW := GW_of (List.mem_of_getElem? (i := 800) (by decide +kernel)) rfl
theorem m436 : Cond.selects RX6 yX6_routes yX6_routes ∈ GW := GW_of (List.mem_of_getElem? (i := 23) (by decide +kernel)) rfl
theorem m437 : Cond.code yX6_routes cX6_routes 4 (some .int) ∈ GW := GW_of (List.mem_of_getElem? (i := 801) (by decide +kernel)) rfl
theorem m438 : Cond.methodLink RX6 81 yX6_server ∈ GW := GW_of (List.mem_of_getElem? (i := 802) (by decide +kernel)) rfl
theorem m439 : Cond.instanceMethod yX6_server ∈ GW := GW_of (List.mem_of_getElem? (i := 804) (by decide +kernel)) rfl
theorem m440 : Cond.selects RX6 yX6_server yX6_server ∈ GW := GW_of (List.mem_of_getElem? (i := 24) (by decide +kernel)) rfl
theorem m441 : Cond.code yX6_server cX6_server 6 (some .int) ∈ GW := GW_of (List.mem_of_getElem? (i := 805) (by decide +kernel)) rfl
theorem m442 : Cond.methodLink RL 50 yX5_solve ∈ GW := GW_of (List.mem_of_getElem? (i := 406) (by decide +kernel)) rfl
theorem m443 : Cond.instanceMethod yX5_solve ∈ GW := GW_of (List.mem_of_getElem? (i := 407) (by decide +kernel)) rfl
theorem m444 : Cond.selects RX5 yX5_solve yX5_solve ∈ GW := GW_of (List.mem_of_getElem? (i := 408) (by decide +kernel)) rfl
theorem m445 : Cond.code yX5_solve cX5_solve 3 (some .int) ∈ GW := GW_of (List.mem_of_getElem? (i := 409) (by decide +kernel)) rfl
theorem m446 : Cond.fieldLink RX5 126 "SiteCuts$State" "cuts" "LSiteCuts$Cuts;" ∈ GW := GW_of (List.mem_of_getElem? (i := 132) (by decide +kernel)) rfl
theorem m447 : Cond.fieldLink RX5 130 "SiteCuts$Cuts" "amount" "I" ∈ GW := GW_of (List.mem_of_getElem? (i := 113) (by decide +kernel)) rfl
theorem m448 : Cond.methodLink RX5 123 yX5_isCutAdded ∈ GW := GW_of (List.mem_of_getElem? (i := 410) (by decide +kernel)) rfl
theorem m449 : Cond.static yX5_isCutAdded ∈ GW := GW_of (List.mem_of_getElem? (i := 411) (by decide +kernel)) rfl
theorem m450 : Cond.code yX5_isCutAdded cX5_isCutAdded 1 (some .boolean) ∈ GW := GW_of (List.mem_of_getElem? (i := 412) (by decide +kernel)) rfl
theorem m451 : Cond.methodLink RL 53 yX6_solve ∈ GW := GW_of (List.mem_of_getElem? (i := 806) (by decide +kernel)) rfl
theorem m452 : Cond.instanceMethod yX6_solve ∈ GW := GW_of (List.mem_of_getElem? (i := 807) (by decide +kernel)) rfl
theorem m453 : Cond.selects RX6 yX6_solve yX6_solve ∈ GW := GW_of (List.mem_of_getElem? (i := 808) (by decide +kernel)) rfl
theorem m454 : Cond.code yX6_solve cX6_solve 4 (some .int) ∈ GW := GW_of (List.mem_of_getElem? (i := 809) (by decide +kernel)) rfl
theorem m455 : Cond.methodLink RX6 121 yX6_goBack ∈ GW := GW_of (List.mem_of_getElem? (i := 810) (by decide +kernel)) rfl
theorem m456 : Cond.instanceMethod yX6_goBack ∈ GW := GW_of (List.mem_of_getElem? (i := 812) (by decide +kernel)) rfl
theorem m457 : Cond.selects RX6 yX6_goBack yX6_goBack ∈ GW := GW_of (List.mem_of_getElem? (i := 25) (by decide +kernel)) rfl
theorem m458 : Cond.code yX6_goBack cX6_goBack 2 none ∈ GW := GW_of (List.mem_of_getElem? (i := 813) (by decide +kernel)) rfl
theorem m459 : Cond.methodLink RL 54 yX5_readCut ∈ GW := GW_of (List.mem_of_getElem? (i := 413) (by decide +kernel)) rfl
theorem m460 : Cond.instanceMethod yX5_readCut ∈ GW := GW_of (List.mem_of_getElem? (i := 414) (by decide +kernel)) rfl
theorem m461 : Cond.selects RX5 yX5_readCut yX5_readCut ∈ GW := GW_of (List.mem_of_getElem? (i := 415) (by decide +kernel)) rfl
theorem m462 : Cond.code yX5_readCut cX5_readCut 2 (some .int) ∈ GW := GW_of (List.mem_of_getElem? (i := 416) (by decide +kernel)) rfl
theorem m463 : Cond.methodLink RX5 135 yX0_readNumbers ∈ GW := GW_of (List.mem_of_getElem? (i := 417) (by decide +kernel)) rfl
theorem m464 : Cond.instanceMethod yX0_readNumbers ∈ GW := GW_of (List.mem_of_getElem? (i := 418) (by decide +kernel)) rfl
theorem m465 : Cond.selects RX0 yX0_readNumbers yX0_readNumbers ∈ GW := GW_of (List.mem_of_getElem? (i := 419) (by decide +kernel)) rfl
theorem m466 : Cond.code yX0_readNumbers cX0_readNumbers 6 (some .int) ∈ GW := GW_of (List.mem_of_getElem? (i := 420) (by decide +kernel)) rfl
theorem m467 : Cond.methodLink RX0 19 yX0_isCommaAt ∈ GW := GW_of (List.mem_of_getElem? (i := 421) (by decide +kernel)) rfl
theorem m468 : Cond.instanceMethod yX0_isCommaAt ∈ GW := GW_of (List.mem_of_getElem? (i := 422) (by decide +kernel)) rfl
theorem m469 : Cond.selects RX0 yX0_isCommaAt yX0_isCommaAt ∈ GW := GW_of (List.mem_of_getElem? (i := 423) (by decide +kernel)) rfl
theorem m470 : Cond.code yX0_isCommaAt cX0_isCommaAt 2 (some .boolean) ∈ GW := GW_of (List.mem_of_getElem? (i := 424) (by decide +kernel)) rfl
theorem m471 : Cond.methodLink RX0 23 yX0_isDigitAt ∈ GW := GW_of (List.mem_of_getElem? (i := 425) (by decide +kernel)) rfl
theorem m472 : Cond.instanceMethod yX0_isDigitAt ∈ GW := GW_of (List.mem_of_getElem? (i := 426) (by decide +kernel)) rfl
theorem m473 : Cond.selects RX0 yX0_isDigitAt yX0_isDigitAt ∈ GW := GW_of (List.mem_of_getElem? (i := 427) (by decide +kernel)) rfl
theorem m474 : Cond.code yX0_isDigitAt cX0_isDigitAt 2 (some .boolean) ∈ GW := GW_of (List.mem_of_getElem? (i := 428) (by decide +kernel)) rfl
theorem m475 : Cond.methodLink RX0 26 yX0_digitAt ∈ GW := GW_of (List.mem_of_getElem? (i := 429) (by decide +kernel)) rfl
theorem m476 : Cond.instanceMethod yX0_digitAt ∈ GW := GW_of (List.mem_of_getElem? (i := 430) (by decide +kernel)) rfl
theorem m477 : Cond.selects RX0 yX0_digitAt yX0_digitAt ∈ GW := GW_of (List.mem_of_getElem? (i := 431) (by decide +kernel)) rfl
theorem m478 : Cond.code yX0_digitAt cX0_digitAt 2 (some .int) ∈ GW := GW_of (List.mem_of_getElem? (i := 432) (by decide +kernel)) rfl
theorem m479 : Cond.methodLink RX5 139 yX1_isFull ∈ GW := GW_of (List.mem_of_getElem? (i := 433) (by decide +kernel)) rfl
theorem m480 : Cond.methodLink RX5 143 yX1_appendPriceCut ∈ GW := GW_of (List.mem_of_getElem? (i := 434) (by decide +kernel)) rfl
theorem m481 : Cond.methodLink RL 57 yX6_readCut ∈ GW := GW_of (List.mem_of_getElem? (i := 842) (by decide +kernel)) rfl
theorem m482 : Cond.instanceMethod yX6_readCut ∈ GW := GW_of (List.mem_of_getElem? (i := 843) (by decide +kernel)) rfl
theorem m483 : Cond.selects RX6 yX6_readCut yX6_readCut ∈ GW := GW_of (List.mem_of_getElem? (i := 844) (by decide +kernel)) rfl
theorem m484 : Cond.code yX6_readCut cX6_readCut 3 (some .int) ∈ GW := GW_of (List.mem_of_getElem? (i := 845) (by decide +kernel)) rfl
theorem m485 : Cond.fieldLink RX6 137 "SiteCutsModel" "at" "I" ∈ GW := GW_of (List.mem_of_getElem? (i := 639) (by decide +kernel)) rfl
theorem m486 : Cond.methodLink RX6 143 yX6_readNumbers ∈ GW := GW_of (List.mem_of_getElem? (i := 846) (by decide +kernel)) rfl
theorem m487 : Cond.instanceMethod yX6_readNumbers ∈ GW := GW_of (List.mem_of_getElem? (i := 848) (by decide +kernel)) rfl
theorem m488 : Cond.selects RX6 yX6_readNumbers yX6_readNumbers ∈ GW := GW_of (List.mem_of_getElem? (i := 29) (by decide +kernel)) rfl
theorem m489 : Cond.code yX6_readNumbers cX6_readNumbers 3 (some .boolean) ∈ GW := GW_of (List.mem_of_getElem? (i := 849) (by decide +kernel)) rfl
theorem m490 : Cond.fieldLink RX6 134 "SiteCutsModel" "length" "I" ∈ GW := GW_of (List.mem_of_getElem? (i := 638) (by decide +kernel)) rfl
theorem m491 : Cond.methodLink RX6 140 yX6_sees ∈ GW := GW_of (List.mem_of_getElem? (i := 850) (by decide +kernel)) rfl
theorem m492 : Cond.instanceMethod yX6_sees ∈ GW := GW_of (List.mem_of_getElem? (i := 852) (by decide +kernel)) rfl
theorem m493 : Cond.selects RX6 yX6_sees yX6_sees ∈ GW := GW_of (List.mem_of_getElem? (i := 30) (by decide +kernel)) rfl
theorem m494 : Cond.code yX6_sees cX6_sees 3 (some .boolean) ∈ GW := GW_of (List.mem_of_getElem? (i := 853) (by decide +kernel)) rfl
theorem m495 : Cond.methodLink RL 58 yX5_drop ∈ GW := GW_of (List.mem_of_getElem? (i := 435) (by decide +kernel)) rfl
theorem m496 : Cond.instanceMethod yX5_drop ∈ GW := GW_of (List.mem_of_getElem? (i := 436) (by decide +kernel)) rfl
theorem m497 : Cond.selects RX5 yX5_drop yX5_drop ∈ GW := GW_of (List.mem_of_getElem? (i := 437) (by decide +kernel)) rfl
theorem m498 : Cond.code yX5_drop cX5_drop 2 (some .int) ∈ GW := GW_of (List.mem_of_getElem? (i := 438) (by decide +kernel)) rfl
theorem m499 : Cond.methodLink RX5 147 yX1_isCut ∈ GW := GW_of (List.mem_of_getElem? (i := 439) (by decide +kernel)) rfl
theorem m500 : Cond.instanceMethod yX1_isCut ∈ GW := GW_of (List.mem_of_getElem? (i := 440) (by decide +kernel)) rfl
theorem m501 : Cond.selects RX1 yX1_isCut yX1_isCut ∈ GW := GW_of (List.mem_of_getElem? (i := 441) (by decide +kernel)) rfl
theorem m502 : Cond.code yX1_isCut cX1_isCut 2 (some .boolean) ∈ GW := GW_of (List.mem_of_getElem? (i := 442) (by decide +kernel)) rfl
theorem m503 : Cond.methodLink RX5 150 yX1_remove ∈ GW := GW_of (List.mem_of_getElem? (i := 443) (by decide +kernel)) rfl
theorem m504 : Cond.instanceMethod yX1_remove ∈ GW := GW_of (List.mem_of_getElem? (i := 444) (by decide +kernel)) rfl
theorem m505 : Cond.selects RX1 yX1_remove yX1_remove ∈ GW := GW_of (List.mem_of_getElem? (i := 445) (by decide +kernel)) rfl
theorem m506 : Cond.code yX1_remove cX1_remove 3 none ∈ GW := GW_of (List.mem_of_getElem? (i := 446) (by decide +kernel)) rfl
theorem m507 : Cond.methodLink RL 61 yX6_drop ∈ GW := GW_of (List.mem_of_getElem? (i := 814) (by decide +kernel)) rfl
theorem m508 : Cond.instanceMethod yX6_drop ∈ GW := GW_of (List.mem_of_getElem? (i := 815) (by decide +kernel)) rfl
theorem m509 : Cond.selects RX6 yX6_drop yX6_drop ∈ GW := GW_of (List.mem_of_getElem? (i := 816) (by decide +kernel)) rfl
theorem m510 : Cond.code yX6_drop cX6_drop 2 (some .int) ∈ GW := GW_of (List.mem_of_getElem? (i := 817) (by decide +kernel)) rfl
theorem m511 : Cond.methodLink RX6 124 yX6_noCut ∈ GW := GW_of (List.mem_of_getElem? (i := 818) (by decide +kernel)) rfl
theorem m512 : Cond.instanceMethod yX6_noCut ∈ GW := GW_of (List.mem_of_getElem? (i := 820) (by decide +kernel)) rfl
theorem m513 : Cond.selects RX6 yX6_noCut yX6_noCut ∈ GW := GW_of (List.mem_of_getElem? (i := 26) (by decide +kernel)) rfl
theorem m514 : Cond.code yX6_noCut cX6_noCut 2 (some .boolean) ∈ GW := GW_of (List.mem_of_getElem? (i := 821) (by decide +kernel)) rfl
theorem m515 : Cond.methodLink RX6 127 yX6_dropOne ∈ GW := GW_of (List.mem_of_getElem? (i := 822) (by decide +kernel)) rfl
theorem m516 : Cond.instanceMethod yX6_dropOne ∈ GW := GW_of (List.mem_of_getElem? (i := 824) (by decide +kernel)) rfl
theorem m517 : Cond.selects RX6 yX6_dropOne yX6_dropOne ∈ GW := GW_of (List.mem_of_getElem? (i := 27) (by decide +kernel)) rfl
theorem m518 : Cond.code yX6_dropOne cX6_dropOne 3 none ∈ GW := GW_of (List.mem_of_getElem? (i := 825) (by decide +kernel)) rfl
theorem m519 : Cond.methodLink RL 62 yX5_dropLoose ∈ GW := GW_of (List.mem_of_getElem? (i := 447) (by decide +kernel)) rfl
theorem m520 : Cond.instanceMethod yX5_dropLoose ∈ GW := GW_of (List.mem_of_getElem? (i := 448) (by decide +kernel)) rfl
theorem m521 : Cond.selects RX5 yX5_dropLoose yX5_dropLoose ∈ GW := GW_of (List.mem_of_getElem? (i := 449) (by decide +kernel)) rfl
theorem m522 : Cond.code yX5_dropLoose cX5_dropLoose 3 (some .int) ∈ GW := GW_of (List.mem_of_getElem? (i := 450) (by decide +kernel)) rfl
theorem m523 : Cond.methodLink RX5 154 yX4_findMasterPlan ∈ GW := GW_of (List.mem_of_getElem? (i := 451) (by decide +kernel)) rfl
theorem m524 : Cond.methodLink RX5 158 yX1_countLoose ∈ GW := GW_of (List.mem_of_getElem? (i := 452) (by decide +kernel)) rfl
theorem m525 : Cond.instanceMethod yX1_countLoose ∈ GW := GW_of (List.mem_of_getElem? (i := 453) (by decide +kernel)) rfl
theorem m526 : Cond.selects RX1 yX1_countLoose yX1_countLoose ∈ GW := GW_of (List.mem_of_getElem? (i := 454) (by decide +kernel)) rfl
theorem m527 : Cond.code yX1_countLoose cX1_countLoose 5 (some .int) ∈ GW := GW_of (List.mem_of_getElem? (i := 455) (by decide +kernel)) rfl
theorem m528 : Cond.methodLink RX1 72 yX1_greatestValue ∈ GW := GW_of (List.mem_of_getElem? (i := 456) (by decide +kernel)) rfl
theorem m529 : Cond.methodLink RX1 76 yX1_isLoose ∈ GW := GW_of (List.mem_of_getElem? (i := 457) (by decide +kernel)) rfl
theorem m530 : Cond.instanceMethod yX1_isLoose ∈ GW := GW_of (List.mem_of_getElem? (i := 458) (by decide +kernel)) rfl
theorem m531 : Cond.selects RX1 yX1_isLoose yX1_isLoose ∈ GW := GW_of (List.mem_of_getElem? (i := 459) (by decide +kernel)) rfl
theorem m532 : Cond.code yX1_isLoose cX1_isLoose 4 (some .boolean) ∈ GW := GW_of (List.mem_of_getElem? (i := 460) (by decide +kernel)) rfl
theorem m533 : Cond.methodLink RX5 161 yX1_removeLoose ∈ GW := GW_of (List.mem_of_getElem? (i := 461) (by decide +kernel)) rfl
theorem m534 : Cond.instanceMethod yX1_removeLoose ∈ GW := GW_of (List.mem_of_getElem? (i := 462) (by decide +kernel)) rfl
theorem m535 : Cond.selects RX1 yX1_removeLoose yX1_removeLoose ∈ GW := GW_of (List.mem_of_getElem? (i := 463) (by decide +kernel)) rfl
theorem m536 : Cond.code yX1_removeLoose cX1_removeLoose 5 none ∈ GW := GW_of (List.mem_of_getElem? (i := 464) (by decide +kernel)) rfl
theorem m537 : Cond.methodLink RL 65 yX6_dropLoose ∈ GW := GW_of (List.mem_of_getElem? (i := 826) (by decide +kernel)) rfl
theorem m538 : Cond.instanceMethod yX6_dropLoose ∈ GW := GW_of (List.mem_of_getElem? (i := 827) (by decide +kernel)) rfl
theorem m539 : Cond.selects RX6 yX6_dropLoose yX6_dropLoose ∈ GW := GW_of (List.mem_of_getElem? (i := 828) (by decide +kernel)) rfl
theorem m540 : Cond.code yX6_dropLoose cX6_dropLoose 5 (some .int) ∈ GW := GW_of (List.mem_of_getElem? (i := 829) (by decide +kernel)) rfl
theorem m541 : Cond.methodLink RX6 131 yX6_isLoose ∈ GW := GW_of (List.mem_of_getElem? (i := 830) (by decide +kernel)) rfl
theorem m542 : Cond.instanceMethod yX6_isLoose ∈ GW := GW_of (List.mem_of_getElem? (i := 832) (by decide +kernel)) rfl
theorem m543 : Cond.selects RX6 yX6_isLoose yX6_isLoose ∈ GW := GW_of (List.mem_of_getElem? (i := 28) (by decide +kernel)) rfl
theorem m544 : Cond.code yX6_isLoose cX6_isLoose 4 (some .boolean) ∈ GW := GW_of (List.mem_of_getElem? (i := 833) (by decide +kernel)) rfl
theorem m545 : Cond.methodLink RL 66 yX5_type ∈ GW := GW_of (List.mem_of_getElem? (i := 465) (by decide +kernel)) rfl
theorem m546 : Cond.instanceMethod yX5_type ∈ GW := GW_of (List.mem_of_getElem? (i := 466) (by decide +kernel)) rfl
theorem m547 : Cond.selects RX5 yX5_type yX5_type ∈ GW := GW_of (List.mem_of_getElem? (i := 467) (by decide +kernel)) rfl
theorem m548 : Cond.code yX5_type cX5_type 2 (some .int) ∈ GW := GW_of (List.mem_of_getElem? (i := 468) (by decide +kernel)) rfl
theorem m549 : Cond.fieldLink RX5 169 "SiteCuts$CutText" "length" "I" ∈ GW := GW_of (List.mem_of_getElem? (i := 171) (by decide +kernel)) rfl
theorem m550 : Cond.methodLink RX5 164 yX0_isFull ∈ GW := GW_of (List.mem_of_getElem? (i := 469) (by decide +kernel)) rfl
theorem m551 : Cond.instanceMethod yX0_isFull ∈ GW := GW_of (List.mem_of_getElem? (i := 470) (by decide +kernel)) rfl
theorem m552 : Cond.selects RX0 yX0_isFull yX0_isFull ∈ GW := GW_of (List.mem_of_getElem? (i := 471) (by decide +kernel)) rfl
theorem m553 : Cond.code yX0_isFull cX0_isFull 1 (some .boolean) ∈ GW := GW_of (List.mem_of_getElem? (i := 472) (by decide +kernel)) rfl
theorem m554 : Cond.methodLink RX5 165 yX0_append ∈ GW := GW_of (List.mem_of_getElem? (i := 473) (by decide +kernel)) rfl
theorem m555 : Cond.instanceMethod yX0_append ∈ GW := GW_of (List.mem_of_getElem? (i := 474) (by decide +kernel)) rfl
theorem m556 : Cond.selects RX0 yX0_append yX0_append ∈ GW := GW_of (List.mem_of_getElem? (i := 475) (by decide +kernel)) rfl
theorem m557 : Cond.code yX0_append cX0_append 2 none ∈ GW := GW_of (List.mem_of_getElem? (i := 476) (by decide +kernel)) rfl
theorem m558 : Cond.methodLink RL 70 yX6_type ∈ GW := GW_of (List.mem_of_getElem? (i := 834) (by decide +kernel)) rfl
theorem m559 : Cond.instanceMethod yX6_type ∈ GW := GW_of (List.mem_of_getElem? (i := 835) (by decide +kernel)) rfl
theorem m560 : Cond.selects RX6 yX6_type yX6_type ∈ GW := GW_of (List.mem_of_getElem? (i := 836) (by decide +kernel)) rfl
theorem m561 : Cond.code yX6_type cX6_type 2 (some .int) ∈ GW := GW_of (List.mem_of_getElem? (i := 837) (by decide +kernel)) rfl
theorem m562 : Cond.methodLink RL 71 yX5_clearText ∈ GW := GW_of (List.mem_of_getElem? (i := 477) (by decide +kernel)) rfl
theorem m563 : Cond.instanceMethod yX5_clearText ∈ GW := GW_of (List.mem_of_getElem? (i := 478) (by decide +kernel)) rfl
theorem m564 : Cond.selects RX5 yX5_clearText yX5_clearText ∈ GW := GW_of (List.mem_of_getElem? (i := 479) (by decide +kernel)) rfl
theorem m565 : Cond.code yX5_clearText cX5_clearText 2 (some .int) ∈ GW := GW_of (List.mem_of_getElem? (i := 480) (by decide +kernel)) rfl
theorem m566 : Cond.methodLink RL 74 yX6_clearText ∈ GW := GW_of (List.mem_of_getElem? (i := 838) (by decide +kernel)) rfl
theorem m567 : Cond.instanceMethod yX6_clearText ∈ GW := GW_of (List.mem_of_getElem? (i := 839) (by decide +kernel)) rfl
theorem m568 : Cond.selects RX6 yX6_clearText yX6_clearText ∈ GW := GW_of (List.mem_of_getElem? (i := 840) (by decide +kernel)) rfl
theorem m569 : Cond.code yX6_clearText cX6_clearText 2 (some .int) ∈ GW := GW_of (List.mem_of_getElem? (i := 841) (by decide +kernel)) rfl
theorem m570 : Cond.methodLink RL 75 yX5_undo ∈ GW := GW_of (List.mem_of_getElem? (i := 481) (by decide +kernel)) rfl
theorem m571 : Cond.instanceMethod yX5_undo ∈ GW := GW_of (List.mem_of_getElem? (i := 482) (by decide +kernel)) rfl
theorem m572 : Cond.selects RX5 yX5_undo yX5_undo ∈ GW := GW_of (List.mem_of_getElem? (i := 483) (by decide +kernel)) rfl
theorem m573 : Cond.code yX5_undo cX5_undo 1 (some .int) ∈ GW := GW_of (List.mem_of_getElem? (i := 484) (by decide +kernel)) rfl
theorem m574 : Cond.fieldLink RX5 172 "SiteCuts$History" "amount" "I" ∈ GW := GW_of (List.mem_of_getElem? (i := 157) (by decide +kernel)) rfl
theorem m575 : Cond.methodLink RX5 173 yX2_takeLatest ∈ GW := GW_of (List.mem_of_getElem? (i := 485) (by decide +kernel)) rfl
theorem m576 : Cond.instanceMethod yX2_takeLatest ∈ GW := GW_of (List.mem_of_getElem? (i := 486) (by decide +kernel)) rfl
theorem m577 : Cond.selects RX2 yX2_takeLatest yX2_takeLatest ∈ GW := GW_of (List.mem_of_getElem? (i := 487) (by decide +kernel)) rfl
theorem m578 : Cond.code yX2_takeLatest cX2_takeLatest 2 none ∈ GW := GW_of (List.mem_of_getElem? (i := 488) (by decide +kernel)) rfl
theorem m579 : Cond.methodLink RL 78 yX6_undo ∈ GW := GW_of (List.mem_of_getElem? (i := 662) (by decide +kernel)) rfl
theorem m580 : Cond.instanceMethod yX6_undo ∈ GW := GW_of (List.mem_of_getElem? (i := 663) (by decide +kernel)) rfl
theorem m581 : Cond.selects RX6 yX6_undo yX6_undo ∈ GW := GW_of (List.mem_of_getElem? (i := 664) (by decide +kernel)) rfl
theorem m582 : Cond.code yX6_undo cX6_undo 2 (some .int) ∈ GW := GW_of (List.mem_of_getElem? (i := 665) (by decide +kernel)) rfl
theorem m583 : Cond.methodLink RL 79 yX5_keep ∈ GW := GW_of (List.mem_of_getElem? (i := 489) (by decide +kernel)) rfl
theorem m584 : Cond.instanceMethod yX5_keep ∈ GW := GW_of (List.mem_of_getElem? (i := 490) (by decide +kernel)) rfl
theorem m585 : Cond.selects RX5 yX5_keep yX5_keep ∈ GW := GW_of (List.mem_of_getElem? (i := 491) (by decide +kernel)) rfl
theorem m586 : Cond.code yX5_keep cX5_keep 1 (some .int) ∈ GW := GW_of (List.mem_of_getElem? (i := 492) (by decide +kernel)) rfl
theorem m587 : Cond.methodLink RL 82 yX6_keep ∈ GW := GW_of (List.mem_of_getElem? (i := 666) (by decide +kernel)) rfl
theorem m588 : Cond.instanceMethod yX6_keep ∈ GW := GW_of (List.mem_of_getElem? (i := 667) (by decide +kernel)) rfl
theorem m589 : Cond.selects RX6 yX6_keep yX6_keep ∈ GW := GW_of (List.mem_of_getElem? (i := 668) (by decide +kernel)) rfl
theorem m590 : Cond.code yX6_keep cX6_keep 2 (some .int) ∈ GW := GW_of (List.mem_of_getElem? (i := 669) (by decide +kernel)) rfl
theorem m591 : Cond.fieldLink RX6 39 "SiteCutsModel" "isAside" "Z" ∈ GW := GW_of (List.mem_of_getElem? (i := 636) (by decide +kernel)) rfl
theorem m592 : Cond.methodLink RL 83 yX5_restore ∈ GW := GW_of (List.mem_of_getElem? (i := 493) (by decide +kernel)) rfl
theorem m593 : Cond.instanceMethod yX5_restore ∈ GW := GW_of (List.mem_of_getElem? (i := 494) (by decide +kernel)) rfl
theorem m594 : Cond.selects RX5 yX5_restore yX5_restore ∈ GW := GW_of (List.mem_of_getElem? (i := 495) (by decide +kernel)) rfl
theorem m595 : Cond.code yX5_restore cX5_restore 1 (some .int) ∈ GW := GW_of (List.mem_of_getElem? (i := 496) (by decide +kernel)) rfl
theorem m596 : Cond.methodLink RL 86 yX6_restore ∈ GW := GW_of (List.mem_of_getElem? (i := 670) (by decide +kernel)) rfl
theorem m597 : Cond.instanceMethod yX6_restore ∈ GW := GW_of (List.mem_of_getElem? (i := 671) (by decide +kernel)) rfl
theorem m598 : Cond.selects RX6 yX6_restore yX6_restore ∈ GW := GW_of (List.mem_of_getElem? (i := 672) (by decide +kernel)) rfl
theorem m599 : Cond.code yX6_restore cX6_restore 2 (some .int) ∈ GW := GW_of (List.mem_of_getElem? (i := 673) (by decide +kernel)) rfl
theorem m600 : Cond.methodLink RL 87 yX5_judge ∈ GW := GW_of (List.mem_of_getElem? (i := 497) (by decide +kernel)) rfl
theorem m601 : Cond.instanceMethod yX5_judge ∈ GW := GW_of (List.mem_of_getElem? (i := 498) (by decide +kernel)) rfl
theorem m602 : Cond.selects RX5 yX5_judge yX5_judge ∈ GW := GW_of (List.mem_of_getElem? (i := 499) (by decide +kernel)) rfl
theorem m603 : Cond.code yX5_judge cX5_judge 2 (some .int) ∈ GW := GW_of (List.mem_of_getElem? (i := 500) (by decide +kernel)) rfl
theorem m604 : Cond.methodLink RX5 176 yX3_isPlan ∈ GW := GW_of (List.mem_of_getElem? (i := 501) (by decide +kernel)) rfl
theorem m605 : Cond.instanceMethod yX3_isPlan ∈ GW := GW_of (List.mem_of_getElem? (i := 502) (by decide +kernel)) rfl
theorem m606 : Cond.selects RX3 yX3_isPlan yX3_isPlan ∈ GW := GW_of (List.mem_of_getElem? (i := 503) (by decide +kernel)) rfl
theorem m607 : Cond.code yX3_isPlan cX3_isPlan 2 (some .boolean) ∈ GW := GW_of (List.mem_of_getElem? (i := 504) (by decide +kernel)) rfl
theorem m608 : Cond.methodLink RX3 36 yX3_planCount ∈ GW := GW_of (List.mem_of_getElem? (i := 505) (by decide +kernel)) rfl
theorem m609 : Cond.methodLink RX5 179 yX3_verdictOf ∈ GW := GW_of (List.mem_of_getElem? (i := 506) (by decide +kernel)) rfl
theorem m610 : Cond.instanceMethod yX3_verdictOf ∈ GW := GW_of (List.mem_of_getElem? (i := 507) (by decide +kernel)) rfl
theorem m611 : Cond.selects RX3 yX3_verdictOf yX3_verdictOf ∈ GW := GW_of (List.mem_of_getElem? (i := 508) (by decide +kernel)) rfl
theorem m612 : Cond.code yX3_verdictOf cX3_verdictOf 2 (some .int) ∈ GW := GW_of (List.mem_of_getElem? (i := 509) (by decide +kernel)) rfl
theorem m613 : Cond.methodLink RX3 54 yX3_reachesAll ∈ GW := GW_of (List.mem_of_getElem? (i := 510) (by decide +kernel)) rfl
theorem m614 : Cond.instanceMethod yX3_reachesAll ∈ GW := GW_of (List.mem_of_getElem? (i := 511) (by decide +kernel)) rfl
theorem m615 : Cond.selects RX3 yX3_reachesAll yX3_reachesAll ∈ GW := GW_of (List.mem_of_getElem? (i := 512) (by decide +kernel)) rfl
theorem m616 : Cond.code yX3_reachesAll cX3_reachesAll 2 (some .boolean) ∈ GW := GW_of (List.mem_of_getElem? (i := 513) (by decide +kernel)) rfl
theorem m617 : Cond.methodLink RX3 69 yX3_lowestMissedCustomer ∈ GW := GW_of (List.mem_of_getElem? (i := 514) (by decide +kernel)) rfl
theorem m618 : Cond.methodLink RL 90 yX6_judge ∈ GW := GW_of (List.mem_of_getElem? (i := 854) (by decide +kernel)) rfl
theorem m619 : Cond.instanceMethod yX6_judge ∈ GW := GW_of (List.mem_of_getElem? (i := 855) (by decide +kernel)) rfl
theorem m620 : Cond.selects RX6 yX6_judge yX6_judge ∈ GW := GW_of (List.mem_of_getElem? (i := 856) (by decide +kernel)) rfl
theorem m621 : Cond.code yX6_judge cX6_judge 2 (some .int) ∈ GW := GW_of (List.mem_of_getElem? (i := 857) (by decide +kernel)) rfl
theorem m622 : Cond.methodLink RX6 147 yX6_noPlan ∈ GW := GW_of (List.mem_of_getElem? (i := 858) (by decide +kernel)) rfl
theorem m623 : Cond.instanceMethod yX6_noPlan ∈ GW := GW_of (List.mem_of_getElem? (i := 860) (by decide +kernel)) rfl
theorem m624 : Cond.selects RX6 yX6_noPlan yX6_noPlan ∈ GW := GW_of (List.mem_of_getElem? (i := 31) (by decide +kernel)) rfl
theorem m625 : Cond.code yX6_noPlan cX6_noPlan 2 (some .boolean) ∈ GW := GW_of (List.mem_of_getElem? (i := 861) (by decide +kernel)) rfl
theorem m626 : Cond.methodLink RL 91 yX5_plan ∈ GW := GW_of (List.mem_of_getElem? (i := 515) (by decide +kernel)) rfl
theorem m627 : Cond.instanceMethod yX5_plan ∈ GW := GW_of (List.mem_of_getElem? (i := 516) (by decide +kernel)) rfl
theorem m628 : Cond.selects RX5 yX5_plan yX5_plan ∈ GW := GW_of (List.mem_of_getElem? (i := 517) (by decide +kernel)) rfl
theorem m629 : Cond.code yX5_plan cX5_plan 4 (some .int) ∈ GW := GW_of (List.mem_of_getElem? (i := 518) (by decide +kernel)) rfl
theorem m630 : Cond.methodLink RX5 182 yX3_reachesAll ∈ GW := GW_of (List.mem_of_getElem? (i := 519) (by decide +kernel)) rfl
theorem m631 : Cond.methodLink RX5 185 yX3_costOf ∈ GW := GW_of (List.mem_of_getElem? (i := 520) (by decide +kernel)) rfl
theorem m632 : Cond.methodLink RX5 188 yX3_sitePricesOf ∈ GW := GW_of (List.mem_of_getElem? (i := 521) (by decide +kernel)) rfl
theorem m633 : Cond.methodLink RX5 191 yX3_routeCostOf ∈ GW := GW_of (List.mem_of_getElem? (i := 522) (by decide +kernel)) rfl
theorem m634 : Cond.methodLink RX5 194 yX4_guessOf ∈ GW := GW_of (List.mem_of_getElem? (i := 523) (by decide +kernel)) rfl
theorem m635 : Cond.methodLink RX5 197 yX1_countMissedRays ∈ GW := GW_of (List.mem_of_getElem? (i := 524) (by decide +kernel)) rfl
theorem m636 : Cond.methodLink RL 94 yX6_plan ∈ GW := GW_of (List.mem_of_getElem? (i := 862) (by decide +kernel)) rfl
theorem m637 : Cond.instanceMethod yX6_plan ∈ GW := GW_of (List.mem_of_getElem? (i := 863) (by decide +kernel)) rfl
theorem m638 : Cond.selects RX6 yX6_plan yX6_plan ∈ GW := GW_of (List.mem_of_getElem? (i := 864) (by decide +kernel)) rfl
theorem m639 : Cond.code yX6_plan cX6_plan 3 (some .int) ∈ GW := GW_of (List.mem_of_getElem? (i := 865) (by decide +kernel)) rfl
theorem m640 : Cond.methodLink RL 95 yX5_serves ∈ GW := GW_of (List.mem_of_getElem? (i := 525) (by decide +kernel)) rfl
theorem m641 : Cond.instanceMethod yX5_serves ∈ GW := GW_of (List.mem_of_getElem? (i := 526) (by decide +kernel)) rfl
theorem m642 : Cond.selects RX5 yX5_serves yX5_serves ∈ GW := GW_of (List.mem_of_getElem? (i := 527) (by decide +kernel)) rfl
theorem m643 : Cond.code yX5_serves cX5_serves 4 (some .int) ∈ GW := GW_of (List.mem_of_getElem? (i := 528) (by decide +kernel)) rfl
theorem m644 : Cond.methodLink RX5 200 yX3_cheapestSite ∈ GW := GW_of (List.mem_of_getElem? (i := 529) (by decide +kernel)) rfl
theorem m645 : Cond.instanceMethod yX3_cheapestSite ∈ GW := GW_of (List.mem_of_getElem? (i := 530) (by decide +kernel)) rfl
theorem m646 : Cond.selects RX3 yX3_cheapestSite yX3_cheapestSite ∈ GW := GW_of (List.mem_of_getElem? (i := 531) (by decide +kernel)) rfl
theorem m647 : Cond.code yX3_cheapestSite cX3_cheapestSite 5 (some .int) ∈ GW := GW_of (List.mem_of_getElem? (i := 532) (by decide +kernel)) rfl
theorem m648 : Cond.methodLink RX3 66 yX3_hasRoute ∈ GW := GW_of (List.mem_of_getElem? (i := 533) (by decide +kernel)) rfl
theorem m649 : Cond.methodLink RL 98 yX6_serves ∈ GW := GW_of (List.mem_of_getElem? (i := 866) (by decide +kernel)) rfl
theorem m650 : Cond.instanceMethod yX6_serves ∈ GW := GW_of (List.mem_of_getElem? (i := 867) (by decide +kernel)) rfl
theorem m651 : Cond.selects RX6 yX6_serves yX6_serves ∈ GW := GW_of (List.mem_of_getElem? (i := 868) (by decide +kernel)) rfl
theorem m652 : Cond.code yX6_serves cX6_serves 3 (some .int) ∈ GW := GW_of (List.mem_of_getElem? (i := 869) (by decide +kernel)) rfl
theorem m653 : Cond.methodLink RL 99 yX5_cut ∈ GW := GW_of (List.mem_of_getElem? (i := 534) (by decide +kernel)) rfl
theorem m654 : Cond.instanceMethod yX5_cut ∈ GW := GW_of (List.mem_of_getElem? (i := 535) (by decide +kernel)) rfl
theorem m655 : Cond.selects RX5 yX5_cut yX5_cut ∈ GW := GW_of (List.mem_of_getElem? (i := 536) (by decide +kernel)) rfl
theorem m656 : Cond.code yX5_cut cX5_cut 3 (some .int) ∈ GW := GW_of (List.mem_of_getElem? (i := 537) (by decide +kernel)) rfl
theorem m657 : Cond.fieldLink RX5 207 "SiteCuts$Cuts" "customers" "[I" ∈ GW := GW_of (List.mem_of_getElem? (i := 115) (by decide +kernel)) rfl
theorem m658 : Cond.fieldLink RX5 210 "SiteCuts$Cuts" "starts" "[I" ∈ GW := GW_of (List.mem_of_getElem? (i := 117) (by decide +kernel)) rfl
theorem m659 : Cond.methodLink RX5 204 yX1_isRay ∈ GW := GW_of (List.mem_of_getElem? (i := 538) (by decide +kernel)) rfl
theorem m660 : Cond.methodLink RX5 213 yX4_countPlansThatBreak ∈ GW := GW_of (List.mem_of_getElem? (i := 539) (by decide +kernel)) rfl
theorem m661 : Cond.instanceMethod yX4_countPlansThatBreak ∈ GW := GW_of (List.mem_of_getElem? (i := 540) (by decide +kernel)) rfl
theorem m662 : Cond.selects RX4 yX4_countPlansThatBreak yX4_countPlansThatBreak ∈ GW := GW_of (List.mem_of_getElem? (i := 541) (by decide +kernel)) rfl
theorem m663 : Cond.code yX4_countPlansThatBreak cX4_countPlansThatBreak 4 (some .int) ∈ GW := GW_of (List.mem_of_getElem? (i := 542) (by decide +kernel)) rfl
theorem m664 : Cond.methodLink RX4 101 yX3_isFeasible ∈ GW := GW_of (List.mem_of_getElem? (i := 543) (by decide +kernel)) rfl
theorem m665 : Cond.instanceMethod yX3_isFeasible ∈ GW := GW_of (List.mem_of_getElem? (i := 544) (by decide +kernel)) rfl
theorem m666 : Cond.selects RX3 yX3_isFeasible yX3_isFeasible ∈ GW := GW_of (List.mem_of_getElem? (i := 545) (by decide +kernel)) rfl
theorem m667 : Cond.code yX3_isFeasible cX3_isFeasible 2 (some .boolean) ∈ GW := GW_of (List.mem_of_getElem? (i := 546) (by decide +kernel)) rfl
theorem m668 : Cond.methodLink RX3 78 yX3_isAllowed ∈ GW := GW_of (List.mem_of_getElem? (i := 547) (by decide +kernel)) rfl
theorem m669 : Cond.methodLink RX4 104 yX4_isBroken ∈ GW := GW_of (List.mem_of_getElem? (i := 548) (by decide +kernel)) rfl
theorem m670 : Cond.instanceMethod yX4_isBroken ∈ GW := GW_of (List.mem_of_getElem? (i := 549) (by decide +kernel)) rfl
theorem m671 : Cond.selects RX4 yX4_isBroken yX4_isBroken ∈ GW := GW_of (List.mem_of_getElem? (i := 550) (by decide +kernel)) rfl
theorem m672 : Cond.code yX4_isBroken cX4_isBroken 3 (some .boolean) ∈ GW := GW_of (List.mem_of_getElem? (i := 551) (by decide +kernel)) rfl
theorem m673 : Cond.methodLink RX4 108 yX1_isRay ∈ GW := GW_of (List.mem_of_getElem? (i := 552) (by decide +kernel)) rfl
theorem m674 : Cond.methodLink RX4 111 yX1_weightOf ∈ GW := GW_of (List.mem_of_getElem? (i := 553) (by decide +kernel)) rfl
theorem m675 : Cond.methodLink RX4 114 yX1_valueOf ∈ GW := GW_of (List.mem_of_getElem? (i := 554) (by decide +kernel)) rfl
theorem m676 : Cond.methodLink RX4 117 yX3_routeCostOf ∈ GW := GW_of (List.mem_of_getElem? (i := 555) (by decide +kernel)) rfl
theorem m677 : Cond.methodLink RX5 216 yX4_countPlansThatAreTight ∈ GW := GW_of (List.mem_of_getElem? (i := 556) (by decide +kernel)) rfl
theorem m678 : Cond.instanceMethod yX4_countPlansThatAreTight ∈ GW := GW_of (List.mem_of_getElem? (i := 557) (by decide +kernel)) rfl
theorem m679 : Cond.selects RX4 yX4_countPlansThatAreTight yX4_countPlansThatAreTight ∈ GW := GW_of (List.mem_of_getElem? (i := 558) (by decide +kernel)) rfl
theorem m680 : Cond.code yX4_countPlansThatAreTight cX4_countPlansThatAreTight 4 (some .int) ∈ GW := GW_of (List.mem_of_getElem? (i := 559) (by decide +kernel)) rfl
theorem m681 : Cond.methodLink RX4 120 yX4_isTight ∈ GW := GW_of (List.mem_of_getElem? (i := 560) (by decide +kernel)) rfl
theorem m682 : Cond.instanceMethod yX4_isTight ∈ GW := GW_of (List.mem_of_getElem? (i := 561) (by decide +kernel)) rfl
theorem m683 : Cond.selects RX4 yX4_isTight yX4_isTight ∈ GW := GW_of (List.mem_of_getElem? (i := 562) (by decide +kernel)) rfl
theorem m684 : Cond.code yX4_isTight cX4_isTight 3 (some .boolean) ∈ GW := GW_of (List.mem_of_getElem? (i := 563) (by decide +kernel)) rfl
theorem m685 : Cond.methodLink RL 102 yX6_cut ∈ GW := GW_of (List.mem_of_getElem? (i := 870) (by decide +kernel)) rfl
theorem m686 : Cond.instanceMethod yX6_cut ∈ GW := GW_of (List.mem_of_getElem? (i := 871) (by decide +kernel)) rfl
theorem m687 : Cond.selects RX6 yX6_cut yX6_cut ∈ GW := GW_of (List.mem_of_getElem? (i := 872) (by decide +kernel)) rfl
theorem m688 : Cond.code yX6_cut cX6_cut 3 (some .int) ∈ GW := GW_of (List.mem_of_getElem? (i := 873) (by decide +kernel)) rfl
theorem m689 : Cond.methodLink RX6 153 yX6_plansBy ∈ GW := GW_of (List.mem_of_getElem? (i := 874) (by decide +kernel)) rfl
theorem m690 : Cond.instanceMethod yX6_plansBy ∈ GW := GW_of (List.mem_of_getElem? (i := 876) (by decide +kernel)) rfl
theorem m691 : Cond.selects RX6 yX6_plansBy yX6_plansBy ∈ GW := GW_of (List.mem_of_getElem? (i := 32) (by decide +kernel)) rfl
theorem m692 : Cond.code yX6_plansBy cX6_plansBy 7 (some .int) ∈ GW := GW_of (List.mem_of_getElem? (i := 877) (by decide +kernel)) rfl
theorem m693 : Cond.methodLink RX6 150 yX6_isFeasible ∈ GW := GW_of (List.mem_of_getElem? (i := 878) (by decide +kernel)) rfl
theorem m694 : Cond.instanceMethod yX6_isFeasible ∈ GW := GW_of (List.mem_of_getElem? (i := 880) (by decide +kernel)) rfl
theorem m695 : Cond.selects RX6 yX6_isFeasible yX6_isFeasible ∈ GW := GW_of (List.mem_of_getElem? (i := 33) (by decide +kernel)) rfl
theorem m696 : Cond.code yX6_isFeasible cX6_isFeasible 2 (some .boolean) ∈ GW := GW_of (List.mem_of_getElem? (i := 881) (by decide +kernel)) rfl
theorem m697 : Cond.methodLink RL 103 yX5_weight ∈ GW := GW_of (List.mem_of_getElem? (i := 564) (by decide +kernel)) rfl
theorem m698 : Cond.instanceMethod yX5_weight ∈ GW := GW_of (List.mem_of_getElem? (i := 565) (by decide +kernel)) rfl
theorem m699 : Cond.selects RX5 yX5_weight yX5_weight ∈ GW := GW_of (List.mem_of_getElem? (i := 566) (by decide +kernel)) rfl
theorem m700 : Cond.code yX5_weight cX5_weight 3 (some .int) ∈ GW := GW_of (List.mem_of_getElem? (i := 567) (by decide +kernel)) rfl
theorem m701 : Cond.fieldLink RX5 219 "SiteCuts$Cuts" "weights" "[[I" ∈ GW := GW_of (List.mem_of_getElem? (i := 119) (by decide +kernel)) rfl
theorem m702 : Cond.methodLink RL 106 yX6_weight ∈ GW := GW_of (List.mem_of_getElem? (i := 882) (by decide +kernel)) rfl
theorem m703 : Cond.instanceMethod yX6_weight ∈ GW := GW_of (List.mem_of_getElem? (i := 883) (by decide +kernel)) rfl
theorem m704 : Cond.selects RX6 yX6_weight yX6_weight ∈ GW := GW_of (List.mem_of_getElem? (i := 884) (by decide +kernel)) rfl
theorem m705 : Cond.code yX6_weight cX6_weight 3 (some .int) ∈ GW := GW_of (List.mem_of_getElem? (i := 885) (by decide +kernel)) rfl
theorem m706 : Cond.methodLink RL 107 yX5_value ∈ GW := GW_of (List.mem_of_getElem? (i := 568) (by decide +kernel)) rfl
theorem m707 : Cond.instanceMethod yX5_value ∈ GW := GW_of (List.mem_of_getElem? (i := 569) (by decide +kernel)) rfl
theorem m708 : Cond.selects RX5 yX5_value yX5_value ∈ GW := GW_of (List.mem_of_getElem? (i := 570) (by decide +kernel)) rfl
theorem m709 : Cond.code yX5_value cX5_value 3 (some .int) ∈ GW := GW_of (List.mem_of_getElem? (i := 571) (by decide +kernel)) rfl
theorem m710 : Cond.constant RX5 228 (1000000) ∈ GW := GW_of (List.mem_of_getElem? (i := 574) (by decide +kernel)) rfl
theorem m711 : Cond.methodLink RX5 222 yX1_weightOf ∈ GW := GW_of (List.mem_of_getElem? (i := 572) (by decide +kernel)) rfl
theorem m712 : Cond.methodLink RX5 225 yX1_valueOf ∈ GW := GW_of (List.mem_of_getElem? (i := 573) (by decide +kernel)) rfl
theorem m713 : Cond.methodLink RL 110 yX6_value ∈ GW := GW_of (List.mem_of_getElem? (i := 886) (by decide +kernel)) rfl
theorem m714 : Cond.instanceMethod yX6_value ∈ GW := GW_of (List.mem_of_getElem? (i := 887) (by decide +kernel)) rfl
theorem m715 : Cond.selects RX6 yX6_value yX6_value ∈ GW := GW_of (List.mem_of_getElem? (i := 888) (by decide +kernel)) rfl
theorem m716 : Cond.code yX6_value cX6_value 3 (some .int) ∈ GW := GW_of (List.mem_of_getElem? (i := 889) (by decide +kernel)) rfl
theorem m717 : Cond.constant RX6 157 (1000000) ∈ GW := GW_of (List.mem_of_getElem? (i := 890) (by decide +kernel)) rfl
theorem m718 : Cond.methodLink RL 111 yX5_master ∈ GW := GW_of (List.mem_of_getElem? (i := 575) (by decide +kernel)) rfl
theorem m719 : Cond.instanceMethod yX5_master ∈ GW := GW_of (List.mem_of_getElem? (i := 576) (by decide +kernel)) rfl
theorem m720 : Cond.selects RX5 yX5_master yX5_master ∈ GW := GW_of (List.mem_of_getElem? (i := 577) (by decide +kernel)) rfl
theorem m721 : Cond.code yX5_master cX5_master 2 (some .int) ∈ GW := GW_of (List.mem_of_getElem? (i := 578) (by decide +kernel)) rfl
theorem m722 : Cond.fieldLink RX5 235 "SiteCuts$State" "best" "I" ∈ GW := GW_of (List.mem_of_getElem? (i := 134) (by decide +kernel)) rfl
theorem m723 : Cond.methodLink RX5 229 yX5_planOrNone ∈ GW := GW_of (List.mem_of_getElem? (i := 579) (by decide +kernel)) rfl
theorem m724 : Cond.static yX5_planOrNone ∈ GW := GW_of (List.mem_of_getElem? (i := 580) (by decide +kernel)) rfl
theorem m725 : Cond.code yX5_planOrNone cX5_planOrNone 1 (some .int) ∈ GW := GW_of (List.mem_of_getElem? (i := 581) (by decide +kernel)) rfl
theorem m726 : Cond.methodLink RX5 232 yX5_lowerBound ∈ GW := GW_of (List.mem_of_getElem? (i := 582) (by decide +kernel)) rfl
theorem m727 : Cond.instanceMethod yX5_lowerBound ∈ GW := GW_of (List.mem_of_getElem? (i := 584) (by decide +kernel)) rfl
theorem m728 : Cond.selects RX5 yX5_lowerBound yX5_lowerBound ∈ GW := GW_of (List.mem_of_getElem? (i := 0) (by decide +kernel)) rfl
theorem m729 : Cond.code yX5_lowerBound cX5_lowerBound 2 (some .int) ∈ GW := GW_of (List.mem_of_getElem? (i := 585) (by decide +kernel)) rfl
theorem m730 : Cond.methodLink RX5 238 yX5_costOrNone ∈ GW := GW_of (List.mem_of_getElem? (i := 586) (by decide +kernel)) rfl
theorem m731 : Cond.instanceMethod yX5_costOrNone ∈ GW := GW_of (List.mem_of_getElem? (i := 588) (by decide +kernel)) rfl
theorem m732 : Cond.selects RX5 yX5_costOrNone yX5_costOrNone ∈ GW := GW_of (List.mem_of_getElem? (i := 1) (by decide +kernel)) rfl
theorem m733 : Cond.code yX5_costOrNone cX5_costOrNone 2 (some .int) ∈ GW := GW_of (List.mem_of_getElem? (i := 589) (by decide +kernel)) rfl
theorem m734 : Cond.methodLink RX5 241 yX5_gap ∈ GW := GW_of (List.mem_of_getElem? (i := 590) (by decide +kernel)) rfl
theorem m735 : Cond.instanceMethod yX5_gap ∈ GW := GW_of (List.mem_of_getElem? (i := 592) (by decide +kernel)) rfl
theorem m736 : Cond.selects RX5 yX5_gap yX5_gap ∈ GW := GW_of (List.mem_of_getElem? (i := 2) (by decide +kernel)) rfl
theorem m737 : Cond.code yX5_gap cX5_gap 2 (some .int) ∈ GW := GW_of (List.mem_of_getElem? (i := 593) (by decide +kernel)) rfl
theorem m738 : Cond.methodLink RL 114 yX6_master ∈ GW := GW_of (List.mem_of_getElem? (i := 891) (by decide +kernel)) rfl
theorem m739 : Cond.instanceMethod yX6_master ∈ GW := GW_of (List.mem_of_getElem? (i := 892) (by decide +kernel)) rfl
theorem m740 : Cond.selects RX6 yX6_master yX6_master ∈ GW := GW_of (List.mem_of_getElem? (i := 893) (by decide +kernel)) rfl
theorem m741 : Cond.code yX6_master cX6_master 6 (some .int) ∈ GW := GW_of (List.mem_of_getElem? (i := 894) (by decide +kernel)) rfl
theorem m742 : Cond.methodLink RL 115 yX5_byAll ∈ GW := GW_of (List.mem_of_getElem? (i := 594) (by decide +kernel)) rfl
theorem m743 : Cond.instanceMethod yX5_byAll ∈ GW := GW_of (List.mem_of_getElem? (i := 595) (by decide +kernel)) rfl
theorem m744 : Cond.selects RX5 yX5_byAll yX5_byAll ∈ GW := GW_of (List.mem_of_getElem? (i := 596) (by decide +kernel)) rfl
theorem m745 : Cond.code yX5_byAll cX5_byAll 2 (some .int) ∈ GW := GW_of (List.mem_of_getElem? (i := 597) (by decide +kernel)) rfl
theorem m746 : Cond.methodLink RX5 244 yX3_findBestPlan ∈ GW := GW_of (List.mem_of_getElem? (i := 598) (by decide +kernel)) rfl
theorem m747 : Cond.instanceMethod yX3_findBestPlan ∈ GW := GW_of (List.mem_of_getElem? (i := 599) (by decide +kernel)) rfl
theorem m748 : Cond.selects RX3 yX3_findBestPlan yX3_findBestPlan ∈ GW := GW_of (List.mem_of_getElem? (i := 600) (by decide +kernel)) rfl
theorem m749 : Cond.code yX3_findBestPlan cX3_findBestPlan 4 (some .int) ∈ GW := GW_of (List.mem_of_getElem? (i := 601) (by decide +kernel)) rfl
theorem m750 : Cond.methodLink RX3 81 yX3_isFeasible ∈ GW := GW_of (List.mem_of_getElem? (i := 602) (by decide +kernel)) rfl
theorem m751 : Cond.methodLink RX3 84 yX3_costOf ∈ GW := GW_of (List.mem_of_getElem? (i := 603) (by decide +kernel)) rfl
theorem m752 : Cond.methodLink RX5 247 yX3_countFeasiblePlans ∈ GW := GW_of (List.mem_of_getElem? (i := 604) (by decide +kernel)) rfl
theorem m753 : Cond.instanceMethod yX3_countFeasiblePlans ∈ GW := GW_of (List.mem_of_getElem? (i := 605) (by decide +kernel)) rfl
theorem m754 : Cond.selects RX3 yX3_countFeasiblePlans yX3_countFeasiblePlans ∈ GW := GW_of (List.mem_of_getElem? (i := 606) (by decide +kernel)) rfl
theorem m755 : Cond.code yX3_countFeasiblePlans cX3_countFeasiblePlans 3 (some .int) ∈ GW := GW_of (List.mem_of_getElem? (i := 607) (by decide +kernel)) rfl
theorem m756 : Cond.methodLink RL 118 yX6_byAll ∈ GW := GW_of (List.mem_of_getElem? (i := 895) (by decide +kernel)) rfl
theorem m757 : Cond.instanceMethod yX6_byAll ∈ GW := GW_of (List.mem_of_getElem? (i := 896) (by decide +kernel)) rfl
theorem m758 : Cond.selects RX6 yX6_byAll yX6_byAll ∈ GW := GW_of (List.mem_of_getElem? (i := 897) (by decide +kernel)) rfl
theorem m759 : Cond.code yX6_byAll cX6_byAll 7 (some .int) ∈ GW := GW_of (List.mem_of_getElem? (i := 898) (by decide +kernel)) rfl
theorem m760 : Cond.methodLink RL 119 yX5_count ∈ GW := GW_of (List.mem_of_getElem? (i := 608) (by decide +kernel)) rfl
theorem m761 : Cond.instanceMethod yX5_count ∈ GW := GW_of (List.mem_of_getElem? (i := 609) (by decide +kernel)) rfl
theorem m762 : Cond.selects RX5 yX5_count yX5_count ∈ GW := GW_of (List.mem_of_getElem? (i := 610) (by decide +kernel)) rfl
theorem m763 : Cond.code yX5_count cX5_count 2 (some .int) ∈ GW := GW_of (List.mem_of_getElem? (i := 611) (by decide +kernel)) rfl
theorem m764 : Cond.fieldLink RX5 259 "SiteCuts$State" "steps" "I" ∈ GW := GW_of (List.mem_of_getElem? (i := 136) (by decide +kernel)) rfl
theorem m765 : Cond.methodLink RX5 250 yX3_countRoutes ∈ GW := GW_of (List.mem_of_getElem? (i := 612) (by decide +kernel)) rfl
theorem m766 : Cond.instanceMethod yX3_countRoutes ∈ GW := GW_of (List.mem_of_getElem? (i := 613) (by decide +kernel)) rfl
theorem m767 : Cond.selects RX3 yX3_countRoutes yX3_countRoutes ∈ GW := GW_of (List.mem_of_getElem? (i := 614) (by decide +kernel)) rfl
theorem m768 : Cond.code yX3_countRoutes cX3_countRoutes 4 (some .int) ∈ GW := GW_of (List.mem_of_getElem? (i := 615) (by decide +kernel)) rfl
theorem m769 : Cond.methodLink RX5 253 yX3_countExcludingPairs ∈ GW := GW_of (List.mem_of_getElem? (i := 616) (by decide +kernel)) rfl
theorem m770 : Cond.instanceMethod yX3_countExcludingPairs ∈ GW := GW_of (List.mem_of_getElem? (i := 617) (by decide +kernel)) rfl
theorem m771 : Cond.selects RX3 yX3_countExcludingPairs yX3_countExcludingPairs ∈ GW := GW_of (List.mem_of_getElem? (i := 618) (by decide +kernel)) rfl
theorem m772 : Cond.code yX3_countExcludingPairs cX3_countExcludingPairs 4 (some .int) ∈ GW := GW_of (List.mem_of_getElem? (i := 619) (by decide +kernel)) rfl
theorem m773 : Cond.methodLink RX3 87 yX3_areExcluding ∈ GW := GW_of (List.mem_of_getElem? (i := 620) (by decide +kernel)) rfl
theorem m774 : Cond.methodLink RX5 256 yX1_countRays ∈ GW := GW_of (List.mem_of_getElem? (i := 621) (by decide +kernel)) rfl
theorem m775 : Cond.instanceMethod yX1_countRays ∈ GW := GW_of (List.mem_of_getElem? (i := 622) (by decide +kernel)) rfl
theorem m776 : Cond.selects RX1 yX1_countRays yX1_countRays ∈ GW := GW_of (List.mem_of_getElem? (i := 623) (by decide +kernel)) rfl
theorem m777 : Cond.code yX1_countRays cX1_countRays 3 (some .int) ∈ GW := GW_of (List.mem_of_getElem? (i := 624) (by decide +kernel)) rfl
theorem m778 : Cond.methodLink RL 122 yX6_count ∈ GW := GW_of (List.mem_of_getElem? (i := 899) (by decide +kernel)) rfl
theorem m779 : Cond.instanceMethod yX6_count ∈ GW := GW_of (List.mem_of_getElem? (i := 900) (by decide +kernel)) rfl
theorem m780 : Cond.selects RX6 yX6_count yX6_count ∈ GW := GW_of (List.mem_of_getElem? (i := 901) (by decide +kernel)) rfl
theorem m781 : Cond.code yX6_count cX6_count 2 (some .int) ∈ GW := GW_of (List.mem_of_getElem? (i := 902) (by decide +kernel)) rfl
theorem m782 : Cond.methodLink RX6 158 yX6_allRoutes ∈ GW := GW_of (List.mem_of_getElem? (i := 903) (by decide +kernel)) rfl
theorem m783 : Cond.instanceMethod yX6_allRoutes ∈ GW := GW_of (List.mem_of_getElem? (i := 905) (by decide +kernel)) rfl
theorem m784 : Cond.selects RX6 yX6_allRoutes yX6_allRoutes ∈ GW := GW_of (List.mem_of_getElem? (i := 34) (by decide +kernel)) rfl
theorem m785 : Cond.code yX6_allRoutes cX6_allRoutes 3 (some .int) ∈ GW := GW_of (List.mem_of_getElem? (i := 906) (by decide +kernel)) rfl
theorem m786 : Cond.methodLink RX6 161 yX6_pairs ∈ GW := GW_of (List.mem_of_getElem? (i := 907) (by decide +kernel)) rfl
theorem m787 : Cond.instanceMethod yX6_pairs ∈ GW := GW_of (List.mem_of_getElem? (i := 909) (by decide +kernel)) rfl
theorem m788 : Cond.selects RX6 yX6_pairs yX6_pairs ∈ GW := GW_of (List.mem_of_getElem? (i := 35) (by decide +kernel)) rfl
theorem m789 : Cond.code yX6_pairs cX6_pairs 3 (some .int) ∈ GW := GW_of (List.mem_of_getElem? (i := 910) (by decide +kernel)) rfl
theorem m790 : Cond.methodLink RX6 164 yX6_rays ∈ GW := GW_of (List.mem_of_getElem? (i := 911) (by decide +kernel)) rfl
theorem m791 : Cond.instanceMethod yX6_rays ∈ GW := GW_of (List.mem_of_getElem? (i := 913) (by decide +kernel)) rfl
theorem m792 : Cond.selects RX6 yX6_rays yX6_rays ∈ GW := GW_of (List.mem_of_getElem? (i := 36) (by decide +kernel)) rfl
theorem m793 : Cond.code yX6_rays cX6_rays 3 (some .int) ∈ GW := GW_of (List.mem_of_getElem? (i := 914) (by decide +kernel)) rfl
theorem w5_0 : u_lay RX5 TX5 0 ∈ GW := GW_of (List.mem_of_getElem? (i := 185) (by decide +kernel)) rfl
theorem w5_1 : u_lay RX5 TX5 1 ∈ GW := GW_of (List.mem_of_getElem? (i := 187) (by decide +kernel)) rfl
theorem w5_2 : u_lay RX5 TX5 2 ∈ GW := GW_of (List.mem_of_getElem? (i := 189) (by decide +kernel)) rfl
theorem w5_3 : u_lay RX5 TX5 3 ∈ GW := GW_of (List.mem_of_getElem? (i := 191) (by decide +kernel)) rfl
theorem w5_4 : u_lay RX5 TX5 4 ∈ GW := GW_of (List.mem_of_getElem? (i := 193) (by decide +kernel)) rfl
theorem w5_5 : u_lay RX5 TX5 5 ∈ GW := GW_of (List.mem_of_getElem? (i := 195) (by decide +kernel)) rfl
theorem w5_6 : u_lay RX5 TX5 6 ∈ GW := GW_of (List.mem_of_getElem? (i := 197) (by decide +kernel)) rfl
theorem inlX5 : ∀ w ∈ u_ws RX5 TX5 7, w ∈ GW := List.forall_mem_cons.mpr ⟨w5_0, List.forall_mem_cons.mpr ⟨w5_1, List.forall_mem_cons.mpr ⟨w5_2, List.forall_mem_cons.mpr ⟨w5_3, List.forall_mem_cons.mpr ⟨w5_4, List.forall_mem_cons.mpr ⟨w5_5, List.forall_mem_cons.mpr ⟨w5_6, fun _ h => absurd h List.not_mem_nil⟩⟩⟩⟩⟩⟩⟩
theorem w6_0 : u_lay RX6 TX6 0 ∈ GW := GW_of (List.mem_of_getElem? (i := 641) (by decide +kernel)) rfl
theorem w6_1 : u_lay RX6 TX6 1 ∈ GW := GW_of (List.mem_of_getElem? (i := 643) (by decide +kernel)) rfl
theorem w6_2 : u_lay RX6 TX6 2 ∈ GW := GW_of (List.mem_of_getElem? (i := 645) (by decide +kernel)) rfl
theorem w6_3 : u_lay RX6 TX6 3 ∈ GW := GW_of (List.mem_of_getElem? (i := 647) (by decide +kernel)) rfl
theorem w6_4 : u_lay RX6 TX6 4 ∈ GW := GW_of (List.mem_of_getElem? (i := 649) (by decide +kernel)) rfl
theorem w6_5 : u_lay RX6 TX6 5 ∈ GW := GW_of (List.mem_of_getElem? (i := 651) (by decide +kernel)) rfl
theorem w6_6 : u_lay RX6 TX6 6 ∈ GW := GW_of (List.mem_of_getElem? (i := 653) (by decide +kernel)) rfl
theorem w6_7 : u_lay RX6 TX6 7 ∈ GW := GW_of (List.mem_of_getElem? (i := 655) (by decide +kernel)) rfl
theorem w6_8 : u_lay RX6 TX6 8 ∈ GW := GW_of (List.mem_of_getElem? (i := 657) (by decide +kernel)) rfl
theorem w6_9 : u_lay RX6 TX6 9 ∈ GW := GW_of (List.mem_of_getElem? (i := 659) (by decide +kernel)) rfl
theorem inlX6 : ∀ w ∈ u_ws RX6 TX6 10, w ∈ GW := List.forall_mem_cons.mpr ⟨w6_0, List.forall_mem_cons.mpr ⟨w6_1, List.forall_mem_cons.mpr ⟨w6_2, List.forall_mem_cons.mpr ⟨w6_3, List.forall_mem_cons.mpr ⟨w6_4, List.forall_mem_cons.mpr ⟨w6_5, List.forall_mem_cons.mpr ⟨w6_6, List.forall_mem_cons.mpr ⟨w6_7, List.forall_mem_cons.mpr ⟨w6_8, List.forall_mem_cons.mpr ⟨w6_9, fun _ h => absurd h List.not_mem_nil⟩⟩⟩⟩⟩⟩⟩⟩⟩⟩
theorem w4_0 : u_lay RX4 TX4 0 ∈ GW := GW_of (List.mem_of_getElem? (i := 137) (by decide +kernel)) rfl
theorem w4_1 : u_lay RX4 TX4 1 ∈ GW := GW_of (List.mem_of_getElem? (i := 139) (by decide +kernel)) rfl
theorem w4_2 : u_lay RX4 TX4 2 ∈ GW := GW_of (List.mem_of_getElem? (i := 141) (by decide +kernel)) rfl
theorem w4_3 : u_lay RX4 TX4 3 ∈ GW := GW_of (List.mem_of_getElem? (i := 143) (by decide +kernel)) rfl
theorem inlX4 : ∀ w ∈ u_ws RX4 TX4 4, w ∈ GW := List.forall_mem_cons.mpr ⟨w4_0, List.forall_mem_cons.mpr ⟨w4_1, List.forall_mem_cons.mpr ⟨w4_2, List.forall_mem_cons.mpr ⟨w4_3, fun _ h => absurd h List.not_mem_nil⟩⟩⟩⟩
theorem w2_0 : u_lay RX2 TX2 0 ∈ GW := GW_of (List.mem_of_getElem? (i := 158) (by decide +kernel)) rfl
theorem w2_1 : u_lay RX2 TX2 1 ∈ GW := GW_of (List.mem_of_getElem? (i := 160) (by decide +kernel)) rfl
theorem inlX2 : ∀ w ∈ u_ws RX2 TX2 2, w ∈ GW := List.forall_mem_cons.mpr ⟨w2_0, List.forall_mem_cons.mpr ⟨w2_1, fun _ h => absurd h List.not_mem_nil⟩⟩
theorem w0_0 : u_lay RX0 TX0 0 ∈ GW := GW_of (List.mem_of_getElem? (i := 172) (by decide +kernel)) rfl
theorem w0_1 : u_lay RX0 TX0 1 ∈ GW := GW_of (List.mem_of_getElem? (i := 174) (by decide +kernel)) rfl
theorem inlX0 : ∀ w ∈ u_ws RX0 TX0 2, w ∈ GW := List.forall_mem_cons.mpr ⟨w0_0, List.forall_mem_cons.mpr ⟨w0_1, fun _ h => absurd h List.not_mem_nil⟩⟩
theorem w3_0 : u_lay RX3 TX3 0 ∈ GW := GW_of (List.mem_of_getElem? (i := 88) (by decide +kernel)) rfl
theorem w3_1 : u_lay RX3 TX3 1 ∈ GW := GW_of (List.mem_of_getElem? (i := 90) (by decide +kernel)) rfl
theorem w3_2 : u_lay RX3 TX3 2 ∈ GW := GW_of (List.mem_of_getElem? (i := 92) (by decide +kernel)) rfl
theorem w3_3 : u_lay RX3 TX3 3 ∈ GW := GW_of (List.mem_of_getElem? (i := 94) (by decide +kernel)) rfl
theorem w3_4 : u_lay RX3 TX3 4 ∈ GW := GW_of (List.mem_of_getElem? (i := 96) (by decide +kernel)) rfl
theorem w3_5 : u_lay RX3 TX3 5 ∈ GW := GW_of (List.mem_of_getElem? (i := 98) (by decide +kernel)) rfl
theorem w3_6 : u_lay RX3 TX3 6 ∈ GW := GW_of (List.mem_of_getElem? (i := 100) (by decide +kernel)) rfl
theorem inlX3 : ∀ w ∈ u_ws RX3 TX3 7, w ∈ GW := List.forall_mem_cons.mpr ⟨w3_0, List.forall_mem_cons.mpr ⟨w3_1, List.forall_mem_cons.mpr ⟨w3_2, List.forall_mem_cons.mpr ⟨w3_3, List.forall_mem_cons.mpr ⟨w3_4, List.forall_mem_cons.mpr ⟨w3_5, List.forall_mem_cons.mpr ⟨w3_6, fun _ h => absurd h List.not_mem_nil⟩⟩⟩⟩⟩⟩⟩
theorem w1_0 : u_lay RX1 TX1 0 ∈ GW := GW_of (List.mem_of_getElem? (i := 120) (by decide +kernel)) rfl
theorem w1_1 : u_lay RX1 TX1 1 ∈ GW := GW_of (List.mem_of_getElem? (i := 122) (by decide +kernel)) rfl
theorem w1_2 : u_lay RX1 TX1 2 ∈ GW := GW_of (List.mem_of_getElem? (i := 124) (by decide +kernel)) rfl
theorem w1_3 : u_lay RX1 TX1 3 ∈ GW := GW_of (List.mem_of_getElem? (i := 126) (by decide +kernel)) rfl
theorem inlX1 : ∀ w ∈ u_ws RX1 TX1 4, w ∈ GW := List.forall_mem_cons.mpr ⟨w1_0, List.forall_mem_cons.mpr ⟨w1_1, List.forall_mem_cons.mpr ⟨w1_2, List.forall_mem_cons.mpr ⟨w1_3, fun _ h => absurd h List.not_mem_nil⟩⟩⟩⟩
end
section
theorem dX0_init_0 : decode cX0_init 0 = .ok (.aload_n 0, 1) := by decide +kernel
theorem dX0_init_1 : decode cX0_init 1 = .ok (.invokespecial 3, 3) := by decide +kernel
theorem dX0_init_4 : decode cX0_init 4 = .ok (.aload_n 0, 1) := by decide +kernel
theorem dX0_init_5 : decode cX0_init 5 = .ok (.bipush 60, 2) := by decide +kernel
theorem dX0_init_7 : decode cX0_init 7 = .ok (.newarray .char, 2) := by decide +kernel
theorem dX0_init_9 : decode cX0_init 9 = .ok (.putfield 9, 3) := by decide +kernel
theorem dX0_init_12 : decode cX0_init 12 = .ok (.aload_n 0, 1) := by decide +kernel
theorem dX0_init_13 : decode cX0_init 13 = .ok (.iconst 0, 1) := by decide +kernel
theorem dX0_init_14 : decode cX0_init 14 = .ok (.putfield 15, 3) := by decide +kernel
theorem dX0_init_17 : decode cX0_init 17 = .ok (.return_, 1) := by decide +kernel
theorem dX0_isFull_0 : decode cX0_isFull 0 = .ok (.aload_n 0, 1) := by decide +kernel
theorem dX0_isFull_1 : decode cX0_isFull 1 = .ok (.getfield 15, 3) := by decide +kernel
theorem dX0_isFull_4 : decode cX0_isFull 4 = .ok (.bipush 60, 2) := by decide +kernel
theorem dX0_isFull_6 : decode cX0_isFull 6 = .ok (.if_icmp .lt 7, 3) := by decide +kernel
theorem dX0_isFull_9 : decode cX0_isFull 9 = .ok (.iconst 1, 1) := by decide +kernel
theorem dX0_isFull_10 : decode cX0_isFull 10 = .ok (.goto 4, 3) := by decide +kernel
theorem dX0_isFull_13 : decode cX0_isFull 13 = .ok (.iconst 0, 1) := by decide +kernel
theorem dX0_isFull_14 : decode cX0_isFull 14 = .ok (.ireturn, 1) := by decide +kernel
theorem dX0_append_0 : decode cX0_append 0 = .ok (.aload_n 0, 1) := by decide +kernel
theorem dX0_append_1 : decode cX0_append 1 = .ok (.getfield 15, 3) := by decide +kernel
theorem dX0_append_4 : decode cX0_append 4 = .ok (.bipush 60, 2) := by decide +kernel
theorem dX0_append_6 : decode cX0_append 6 = .ok (.if_icmp .ge 23, 3) := by decide +kernel
theorem dX0_append_9 : decode cX0_append 9 = .ok (.aload_n 0, 1) := by decide +kernel
theorem dX0_append_10 : decode cX0_append 10 = .ok (.getfield 9, 3) := by decide +kernel
theorem dX0_append_13 : decode cX0_append 13 = .ok (.aload_n 0, 1) := by decide +kernel
theorem dX0_append_14 : decode cX0_append 14 = .ok (.getfield 15, 3) := by decide +kernel
theorem dX0_append_17 : decode cX0_append 17 = .ok (.iload_n 1, 1) := by decide +kernel
theorem dX0_append_18 : decode cX0_append 18 = .ok (.castore, 1) := by decide +kernel
theorem dX0_append_19 : decode cX0_append 19 = .ok (.aload_n 0, 1) := by decide +kernel
theorem dX0_append_20 : decode cX0_append 20 = .ok (.dup, 1) := by decide +kernel
theorem dX0_append_21 : decode cX0_append 21 = .ok (.getfield 15, 3) := by decide +kernel
theorem dX0_append_24 : decode cX0_append 24 = .ok (.iconst 1, 1) := by decide +kernel
theorem dX0_append_25 : decode cX0_append 25 = .ok (.iadd, 1) := by decide +kernel
theorem dX0_append_26 : decode cX0_append 26 = .ok (.putfield 15, 3) := by decide +kernel
theorem dX0_append_29 : decode cX0_append 29 = .ok (.return_, 1) := by decide +kernel
theorem dX0_readNumbers_0 : decode cX0_readNumbers 0 = .ok (.iconst 0, 1) := by decide +kernel
theorem dX0_readNumbers_1 : decode cX0_readNumbers 1 = .ok (.istore_n 3, 1) := by decide +kernel
theorem dX0_readNumbers_2 : decode cX0_readNumbers 2 = .ok (.iconst 0, 1) := by decide +kernel
theorem dX0_readNumbers_3 : decode cX0_readNumbers 3 = .ok (.istore 4, 2) := by decide +kernel
theorem dX0_readNumbers_5 : decode cX0_readNumbers 5 = .ok (.iload 4, 2) := by decide +kernel
theorem dX0_readNumbers_7 : decode cX0_readNumbers 7 = .ok (.iload_n 2, 1) := by decide +kernel
theorem dX0_readNumbers_8 : decode cX0_readNumbers 8 = .ok (.if_icmp .ge 82, 3) := by decide +kernel
theorem dX0_readNumbers_11 : decode cX0_readNumbers 11 = .ok (.iload 4, 2) := by decide +kernel
theorem dX0_readNumbers_13 : decode cX0_readNumbers 13 = .ok (.ifCond .le 16, 3) := by decide +kernel
theorem dX0_readNumbers_16 : decode cX0_readNumbers 16 = .ok (.aload_n 0, 1) := by decide +kernel
theorem dX0_readNumbers_17 : decode cX0_readNumbers 17 = .ok (.iload_n 3, 1) := by decide +kernel
theorem dX0_readNumbers_18 : decode cX0_readNumbers 18 = .ok (.invokevirtual 19, 3) := by decide +kernel
theorem dX0_readNumbers_21 : decode cX0_readNumbers 21 = .ok (.ifCond .ne 5, 3) := by decide +kernel
theorem dX0_readNumbers_24 : decode cX0_readNumbers 24 = .ok (.iload_n 3, 1) := by decide +kernel
theorem dX0_readNumbers_25 : decode cX0_readNumbers 25 = .ok (.ireturn, 1) := by decide +kernel
theorem dX0_readNumbers_26 : decode cX0_readNumbers 26 = .ok (.iinc 3 1, 3) := by decide +kernel
theorem dX0_readNumbers_29 : decode cX0_readNumbers 29 = .ok (.aload_n 0, 1) := by decide +kernel
theorem dX0_readNumbers_30 : decode cX0_readNumbers 30 = .ok (.iload_n 3, 1) := by decide +kernel
theorem dX0_readNumbers_31 : decode cX0_readNumbers 31 = .ok (.invokevirtual 23, 3) := by decide +kernel
theorem dX0_readNumbers_34 : decode cX0_readNumbers 34 = .ok (.ifCond .ne 5, 3) := by decide +kernel
theorem dX0_readNumbers_37 : decode cX0_readNumbers 37 = .ok (.iload_n 3, 1) := by decide +kernel
theorem dX0_readNumbers_38 : decode cX0_readNumbers 38 = .ok (.ireturn, 1) := by decide +kernel
theorem dX0_readNumbers_39 : decode cX0_readNumbers 39 = .ok (.aload_n 0, 1) := by decide +kernel
theorem dX0_readNumbers_40 : decode cX0_readNumbers 40 = .ok (.iload_n 3, 1) := by decide +kernel
theorem dX0_readNumbers_41 : decode cX0_readNumbers 41 = .ok (.invokevirtual 26, 3) := by decide +kernel
theorem dX0_readNumbers_44 : decode cX0_readNumbers 44 = .ok (.istore 5, 2) := by decide +kernel
theorem dX0_readNumbers_46 : decode cX0_readNumbers 46 = .ok (.iinc 3 1, 3) := by decide +kernel
theorem dX0_readNumbers_49 : decode cX0_readNumbers 49 = .ok (.iload 5, 2) := by decide +kernel
theorem dX0_readNumbers_51 : decode cX0_readNumbers 51 = .ok (.ifCond .eq 27, 3) := by decide +kernel
theorem dX0_readNumbers_54 : decode cX0_readNumbers 54 = .ok (.aload_n 0, 1) := by decide +kernel
theorem dX0_readNumbers_55 : decode cX0_readNumbers 55 = .ok (.iload_n 3, 1) := by decide +kernel
theorem dX0_readNumbers_56 : decode cX0_readNumbers 56 = .ok (.invokevirtual 23, 3) := by decide +kernel
theorem dX0_readNumbers_59 : decode cX0_readNumbers 59 = .ok (.ifCond .eq 19, 3) := by decide +kernel
theorem dX0_readNumbers_62 : decode cX0_readNumbers 62 = .ok (.iload 5, 2) := by decide +kernel
theorem dX0_readNumbers_64 : decode cX0_readNumbers 64 = .ok (.bipush 10, 2) := by decide +kernel
theorem dX0_readNumbers_66 : decode cX0_readNumbers 66 = .ok (.imul, 1) := by decide +kernel
theorem dX0_readNumbers_67 : decode cX0_readNumbers 67 = .ok (.aload_n 0, 1) := by decide +kernel
theorem dX0_readNumbers_68 : decode cX0_readNumbers 68 = .ok (.iload_n 3, 1) := by decide +kernel
theorem dX0_readNumbers_69 : decode cX0_readNumbers 69 = .ok (.invokevirtual 26, 3) := by decide +kernel
theorem dX0_readNumbers_72 : decode cX0_readNumbers 72 = .ok (.iadd, 1) := by decide +kernel
theorem dX0_readNumbers_73 : decode cX0_readNumbers 73 = .ok (.istore 5, 2) := by decide +kernel
theorem dX0_readNumbers_75 : decode cX0_readNumbers 75 = .ok (.iinc 3 1, 3) := by decide +kernel
theorem dX0_readNumbers_78 : decode cX0_readNumbers 78 = .ok (.aload_n 1, 1) := by decide +kernel
theorem dX0_readNumbers_79 : decode cX0_readNumbers 79 = .ok (.iload 4, 2) := by decide +kernel
theorem dX0_readNumbers_81 : decode cX0_readNumbers 81 = .ok (.iload 5, 2) := by decide +kernel
theorem dX0_readNumbers_83 : decode cX0_readNumbers 83 = .ok (.iastore, 1) := by decide +kernel
theorem dX0_readNumbers_84 : decode cX0_readNumbers 84 = .ok (.iinc 4 1, 3) := by decide +kernel
theorem dX0_readNumbers_87 : decode cX0_readNumbers 87 = .ok (.goto (-82), 3) := by decide +kernel
theorem dX0_readNumbers_90 : decode cX0_readNumbers 90 = .ok (.iload_n 3, 1) := by decide +kernel
theorem dX0_readNumbers_91 : decode cX0_readNumbers 91 = .ok (.aload_n 0, 1) := by decide +kernel
theorem dX0_readNumbers_92 : decode cX0_readNumbers 92 = .ok (.getfield 15, 3) := by decide +kernel
theorem dX0_readNumbers_95 : decode cX0_readNumbers 95 = .ok (.if_icmp .ge 7, 3) := by decide +kernel
theorem dX0_readNumbers_98 : decode cX0_readNumbers 98 = .ok (.iload_n 3, 1) := by decide +kernel
theorem dX0_readNumbers_99 : decode cX0_readNumbers 99 = .ok (.goto 4, 3) := by decide +kernel
theorem dX0_readNumbers_102 : decode cX0_readNumbers 102 = .ok (.iconst (-1), 1) := by decide +kernel
theorem dX0_readNumbers_103 : decode cX0_readNumbers 103 = .ok (.ireturn, 1) := by decide +kernel
theorem dX0_isCommaAt_0 : decode cX0_isCommaAt 0 = .ok (.iload_n 1, 1) := by decide +kernel
theorem dX0_isCommaAt_1 : decode cX0_isCommaAt 1 = .ok (.ifCond .lt 26, 3) := by decide +kernel
theorem dX0_isCommaAt_4 : decode cX0_isCommaAt 4 = .ok (.iload_n 1, 1) := by decide +kernel
theorem dX0_isCommaAt_5 : decode cX0_isCommaAt 5 = .ok (.aload_n 0, 1) := by decide +kernel
theorem dX0_isCommaAt_6 : decode cX0_isCommaAt 6 = .ok (.getfield 15, 3) := by decide +kernel
theorem dX0_isCommaAt_9 : decode cX0_isCommaAt 9 = .ok (.if_icmp .ge 18, 3) := by decide +kernel
theorem dX0_isCommaAt_12 : decode cX0_isCommaAt 12 = .ok (.aload_n 0, 1) := by decide +kernel
theorem dX0_isCommaAt_13 : decode cX0_isCommaAt 13 = .ok (.getfield 9, 3) := by decide +kernel
theorem dX0_isCommaAt_16 : decode cX0_isCommaAt 16 = .ok (.iload_n 1, 1) := by decide +kernel
theorem dX0_isCommaAt_17 : decode cX0_isCommaAt 17 = .ok (.caload, 1) := by decide +kernel
theorem dX0_isCommaAt_18 : decode cX0_isCommaAt 18 = .ok (.bipush 44, 2) := by decide +kernel
theorem dX0_isCommaAt_20 : decode cX0_isCommaAt 20 = .ok (.if_icmp .ne 7, 3) := by decide +kernel
theorem dX0_isCommaAt_23 : decode cX0_isCommaAt 23 = .ok (.iconst 1, 1) := by decide +kernel
theorem dX0_isCommaAt_24 : decode cX0_isCommaAt 24 = .ok (.goto 4, 3) := by decide +kernel
theorem dX0_isCommaAt_27 : decode cX0_isCommaAt 27 = .ok (.iconst 0, 1) := by decide +kernel
theorem dX0_isCommaAt_28 : decode cX0_isCommaAt 28 = .ok (.ireturn, 1) := by decide +kernel
theorem dX0_isDigitAt_0 : decode cX0_isDigitAt 0 = .ok (.iload_n 1, 1) := by decide +kernel
theorem dX0_isDigitAt_1 : decode cX0_isDigitAt 1 = .ok (.ifCond .lt 37, 3) := by decide +kernel
theorem dX0_isDigitAt_4 : decode cX0_isDigitAt 4 = .ok (.iload_n 1, 1) := by decide +kernel
theorem dX0_isDigitAt_5 : decode cX0_isDigitAt 5 = .ok (.aload_n 0, 1) := by decide +kernel
theorem dX0_isDigitAt_6 : decode cX0_isDigitAt 6 = .ok (.getfield 15, 3) := by decide +kernel
theorem dX0_isDigitAt_9 : decode cX0_isDigitAt 9 = .ok (.if_icmp .ge 29, 3) := by decide +kernel
theorem dX0_isDigitAt_12 : decode cX0_isDigitAt 12 = .ok (.aload_n 0, 1) := by decide +kernel
theorem dX0_isDigitAt_13 : decode cX0_isDigitAt 13 = .ok (.getfield 9, 3) := by decide +kernel
theorem dX0_isDigitAt_16 : decode cX0_isDigitAt 16 = .ok (.iload_n 1, 1) := by decide +kernel
theorem dX0_isDigitAt_17 : decode cX0_isDigitAt 17 = .ok (.caload, 1) := by decide +kernel
theorem dX0_isDigitAt_18 : decode cX0_isDigitAt 18 = .ok (.bipush 48, 2) := by decide +kernel
theorem dX0_isDigitAt_20 : decode cX0_isDigitAt 20 = .ok (.if_icmp .lt 18, 3) := by decide +kernel
theorem dX0_isDigitAt_23 : decode cX0_isDigitAt 23 = .ok (.aload_n 0, 1) := by decide +kernel
theorem dX0_isDigitAt_24 : decode cX0_isDigitAt 24 = .ok (.getfield 9, 3) := by decide +kernel
theorem dX0_isDigitAt_27 : decode cX0_isDigitAt 27 = .ok (.iload_n 1, 1) := by decide +kernel
theorem dX0_isDigitAt_28 : decode cX0_isDigitAt 28 = .ok (.caload, 1) := by decide +kernel
theorem dX0_isDigitAt_29 : decode cX0_isDigitAt 29 = .ok (.bipush 57, 2) := by decide +kernel
theorem dX0_isDigitAt_31 : decode cX0_isDigitAt 31 = .ok (.if_icmp .gt 7, 3) := by decide +kernel
theorem dX0_isDigitAt_34 : decode cX0_isDigitAt 34 = .ok (.iconst 1, 1) := by decide +kernel
theorem dX0_isDigitAt_35 : decode cX0_isDigitAt 35 = .ok (.goto 4, 3) := by decide +kernel
theorem dX0_isDigitAt_38 : decode cX0_isDigitAt 38 = .ok (.iconst 0, 1) := by decide +kernel
theorem dX0_isDigitAt_39 : decode cX0_isDigitAt 39 = .ok (.ireturn, 1) := by decide +kernel
theorem dX0_digitAt_0 : decode cX0_digitAt 0 = .ok (.aload_n 0, 1) := by decide +kernel
theorem dX0_digitAt_1 : decode cX0_digitAt 1 = .ok (.iload_n 1, 1) := by decide +kernel
theorem dX0_digitAt_2 : decode cX0_digitAt 2 = .ok (.invokevirtual 23, 3) := by decide +kernel
theorem dX0_digitAt_5 : decode cX0_digitAt 5 = .ok (.ifCond .eq 15, 3) := by decide +kernel
theorem dX0_digitAt_8 : decode cX0_digitAt 8 = .ok (.aload_n 0, 1) := by decide +kernel
theorem dX0_digitAt_9 : decode cX0_digitAt 9 = .ok (.getfield 9, 3) := by decide +kernel
theorem dX0_digitAt_12 : decode cX0_digitAt 12 = .ok (.iload_n 1, 1) := by decide +kernel
theorem dX0_digitAt_13 : decode cX0_digitAt 13 = .ok (.caload, 1) := by decide +kernel
theorem dX0_digitAt_14 : decode cX0_digitAt 14 = .ok (.bipush 48, 2) := by decide +kernel
theorem dX0_digitAt_16 : decode cX0_digitAt 16 = .ok (.isub, 1) := by decide +kernel
theorem dX0_digitAt_17 : decode cX0_digitAt 17 = .ok (.goto 4, 3) := by decide +kernel
theorem dX0_digitAt_20 : decode cX0_digitAt 20 = .ok (.iconst 0, 1) := by decide +kernel
theorem dX0_digitAt_21 : decode cX0_digitAt 21 = .ok (.ireturn, 1) := by decide +kernel
theorem dX1_init_0 : decode cX1_init 0 = .ok (.aload_n 0, 1) := by decide +kernel
theorem dX1_init_1 : decode cX1_init 1 = .ok (.invokespecial 3, 3) := by decide +kernel
theorem dX1_init_4 : decode cX1_init 4 = .ok (.aload_n 0, 1) := by decide +kernel
theorem dX1_init_5 : decode cX1_init 5 = .ok (.iconst 0, 1) := by decide +kernel
theorem dX1_init_6 : decode cX1_init 6 = .ok (.putfield 9, 3) := by decide +kernel
theorem dX1_init_9 : decode cX1_init 9 = .ok (.aload_n 0, 1) := by decide +kernel
theorem dX1_init_10 : decode cX1_init 10 = .ok (.bipush 40, 2) := by decide +kernel
theorem dX1_init_12 : decode cX1_init 12 = .ok (.newarray .int, 2) := by decide +kernel
theorem dX1_init_14 : decode cX1_init 14 = .ok (.putfield 15, 3) := by decide +kernel
theorem dX1_init_17 : decode cX1_init 17 = .ok (.aload_n 0, 1) := by decide +kernel
theorem dX1_init_18 : decode cX1_init 18 = .ok (.bipush 40, 2) := by decide +kernel
theorem dX1_init_20 : decode cX1_init 20 = .ok (.newarray .int, 2) := by decide +kernel
theorem dX1_init_22 : decode cX1_init 22 = .ok (.putfield 19, 3) := by decide +kernel
theorem dX1_init_25 : decode cX1_init 25 = .ok (.aload_n 0, 1) := by decide +kernel
theorem dX1_init_26 : decode cX1_init 26 = .ok (.bipush 40, 2) := by decide +kernel
theorem dX1_init_28 : decode cX1_init 28 = .ok (.bipush 7, 2) := by decide +kernel
theorem dX1_init_30 : decode cX1_init 30 = .ok (.multianewarray 22 2, 4) := by decide +kernel
theorem dX1_init_34 : decode cX1_init 34 = .ok (.putfield 24, 3) := by decide +kernel
theorem dX1_init_37 : decode cX1_init 37 = .ok (.return_, 1) := by decide +kernel
theorem dX1_copyFrom_0 : decode cX1_copyFrom 0 = .ok (.aload_n 0, 1) := by decide +kernel
theorem dX1_copyFrom_1 : decode cX1_copyFrom 1 = .ok (.aload_n 1, 1) := by decide +kernel
theorem dX1_copyFrom_2 : decode cX1_copyFrom 2 = .ok (.getfield 9, 3) := by decide +kernel
theorem dX1_copyFrom_5 : decode cX1_copyFrom 5 = .ok (.putfield 9, 3) := by decide +kernel
theorem dX1_copyFrom_8 : decode cX1_copyFrom 8 = .ok (.iconst 0, 1) := by decide +kernel
theorem dX1_copyFrom_9 : decode cX1_copyFrom 9 = .ok (.istore_n 2, 1) := by decide +kernel
theorem dX1_copyFrom_10 : decode cX1_copyFrom 10 = .ok (.iload_n 2, 1) := by decide +kernel
theorem dX1_copyFrom_11 : decode cX1_copyFrom 11 = .ok (.aload_n 0, 1) := by decide +kernel
theorem dX1_copyFrom_12 : decode cX1_copyFrom 12 = .ok (.getfield 9, 3) := by decide +kernel
theorem dX1_copyFrom_15 : decode cX1_copyFrom 15 = .ok (.if_icmp .ge 22, 3) := by decide +kernel
theorem dX1_copyFrom_18 : decode cX1_copyFrom 18 = .ok (.iload_n 2, 1) := by decide +kernel
theorem dX1_copyFrom_19 : decode cX1_copyFrom 19 = .ok (.bipush 40, 2) := by decide +kernel
theorem dX1_copyFrom_21 : decode cX1_copyFrom 21 = .ok (.if_icmp .ge 16, 3) := by decide +kernel
theorem dX1_copyFrom_24 : decode cX1_copyFrom 24 = .ok (.aload_n 0, 1) := by decide +kernel
theorem dX1_copyFrom_25 : decode cX1_copyFrom 25 = .ok (.aload_n 1, 1) := by decide +kernel
theorem dX1_copyFrom_26 : decode cX1_copyFrom 26 = .ok (.iload_n 2, 1) := by decide +kernel
theorem dX1_copyFrom_27 : decode cX1_copyFrom 27 = .ok (.iload_n 2, 1) := by decide +kernel
theorem dX1_copyFrom_28 : decode cX1_copyFrom 28 = .ok (.invokevirtual 27, 3) := by decide +kernel
theorem dX1_copyFrom_31 : decode cX1_copyFrom 31 = .ok (.iinc 2 1, 3) := by decide +kernel
theorem dX1_copyFrom_34 : decode cX1_copyFrom 34 = .ok (.goto (-24), 3) := by decide +kernel
theorem dX1_copyFrom_37 : decode cX1_copyFrom 37 = .ok (.return_, 1) := by decide +kernel
theorem dX1_copyCut_0 : decode cX1_copyCut 0 = .ok (.aload_n 0, 1) := by decide +kernel
theorem dX1_copyCut_1 : decode cX1_copyCut 1 = .ok (.getfield 15, 3) := by decide +kernel
theorem dX1_copyCut_4 : decode cX1_copyCut 4 = .ok (.iload_n 3, 1) := by decide +kernel
theorem dX1_copyCut_5 : decode cX1_copyCut 5 = .ok (.aload_n 1, 1) := by decide +kernel
theorem dX1_copyCut_6 : decode cX1_copyCut 6 = .ok (.getfield 15, 3) := by decide +kernel
theorem dX1_copyCut_9 : decode cX1_copyCut 9 = .ok (.iload_n 2, 1) := by decide +kernel
theorem dX1_copyCut_10 : decode cX1_copyCut 10 = .ok (.iaload, 1) := by decide +kernel
theorem dX1_copyCut_11 : decode cX1_copyCut 11 = .ok (.iastore, 1) := by decide +kernel
theorem dX1_copyCut_12 : decode cX1_copyCut 12 = .ok (.aload_n 0, 1) := by decide +kernel
theorem dX1_copyCut_13 : decode cX1_copyCut 13 = .ok (.getfield 19, 3) := by decide +kernel
theorem dX1_copyCut_16 : decode cX1_copyCut 16 = .ok (.iload_n 3, 1) := by decide +kernel
theorem dX1_copyCut_17 : decode cX1_copyCut 17 = .ok (.aload_n 1, 1) := by decide +kernel
theorem dX1_copyCut_18 : decode cX1_copyCut 18 = .ok (.getfield 19, 3) := by decide +kernel
theorem dX1_copyCut_21 : decode cX1_copyCut 21 = .ok (.iload_n 2, 1) := by decide +kernel
theorem dX1_copyCut_22 : decode cX1_copyCut 22 = .ok (.iaload, 1) := by decide +kernel
theorem dX1_copyCut_23 : decode cX1_copyCut 23 = .ok (.iastore, 1) := by decide +kernel
theorem dX1_copyCut_24 : decode cX1_copyCut 24 = .ok (.iconst 0, 1) := by decide +kernel
theorem dX1_copyCut_25 : decode cX1_copyCut 25 = .ok (.istore 4, 2) := by decide +kernel
theorem dX1_copyCut_27 : decode cX1_copyCut 27 = .ok (.iload 4, 2) := by decide +kernel
theorem dX1_copyCut_29 : decode cX1_copyCut 29 = .ok (.bipush 7, 2) := by decide +kernel
theorem dX1_copyCut_31 : decode cX1_copyCut 31 = .ok (.if_icmp .ge 27, 3) := by decide +kernel
theorem dX1_copyCut_34 : decode cX1_copyCut 34 = .ok (.aload_n 0, 1) := by decide +kernel
theorem dX1_copyCut_35 : decode cX1_copyCut 35 = .ok (.getfield 24, 3) := by decide +kernel
theorem dX1_copyCut_38 : decode cX1_copyCut 38 = .ok (.iload_n 3, 1) := by decide +kernel
theorem dX1_copyCut_39 : decode cX1_copyCut 39 = .ok (.aaload, 1) := by decide +kernel
theorem dX1_copyCut_40 : decode cX1_copyCut 40 = .ok (.iload 4, 2) := by decide +kernel
theorem dX1_copyCut_42 : decode cX1_copyCut 42 = .ok (.aload_n 1, 1) := by decide +kernel
theorem dX1_copyCut_43 : decode cX1_copyCut 43 = .ok (.getfield 24, 3) := by decide +kernel
theorem dX1_copyCut_46 : decode cX1_copyCut 46 = .ok (.iload_n 2, 1) := by decide +kernel
theorem dX1_copyCut_47 : decode cX1_copyCut 47 = .ok (.aaload, 1) := by decide +kernel
theorem dX1_copyCut_48 : decode cX1_copyCut 48 = .ok (.iload 4, 2) := by decide +kernel
theorem dX1_copyCut_50 : decode cX1_copyCut 50 = .ok (.iaload, 1) := by decide +kernel
theorem dX1_copyCut_51 : decode cX1_copyCut 51 = .ok (.iastore, 1) := by decide +kernel
theorem dX1_copyCut_52 : decode cX1_copyCut 52 = .ok (.iinc 4 1, 3) := by decide +kernel
theorem dX1_copyCut_55 : decode cX1_copyCut 55 = .ok (.goto (-28), 3) := by decide +kernel
theorem dX1_copyCut_58 : decode cX1_copyCut 58 = .ok (.return_, 1) := by decide +kernel
theorem dX1_isCut_0 : decode cX1_isCut 0 = .ok (.iload_n 1, 1) := by decide +kernel
theorem dX1_isCut_1 : decode cX1_isCut 1 = .ok (.ifCond .lt 15, 3) := by decide +kernel
theorem dX1_isCut_4 : decode cX1_isCut 4 = .ok (.iload_n 1, 1) := by decide +kernel
theorem dX1_isCut_5 : decode cX1_isCut 5 = .ok (.aload_n 0, 1) := by decide +kernel
theorem dX1_isCut_6 : decode cX1_isCut 6 = .ok (.getfield 9, 3) := by decide +kernel
theorem dX1_isCut_9 : decode cX1_isCut 9 = .ok (.if_icmp .ge 7, 3) := by decide +kernel
theorem dX1_isCut_12 : decode cX1_isCut 12 = .ok (.iconst 1, 1) := by decide +kernel
theorem dX1_isCut_13 : decode cX1_isCut 13 = .ok (.goto 4, 3) := by decide +kernel
theorem dX1_isCut_16 : decode cX1_isCut 16 = .ok (.iconst 0, 1) := by decide +kernel
theorem dX1_isCut_17 : decode cX1_isCut 17 = .ok (.ireturn, 1) := by decide +kernel
theorem dX1_isFull_0 : decode cX1_isFull 0 = .ok (.aload_n 0, 1) := by decide +kernel
theorem dX1_isFull_1 : decode cX1_isFull 1 = .ok (.getfield 9, 3) := by decide +kernel
theorem dX1_isFull_4 : decode cX1_isFull 4 = .ok (.bipush 40, 2) := by decide +kernel
theorem dX1_isFull_6 : decode cX1_isFull 6 = .ok (.if_icmp .lt 7, 3) := by decide +kernel
theorem dX1_isFull_9 : decode cX1_isFull 9 = .ok (.iconst 1, 1) := by decide +kernel
theorem dX1_isFull_10 : decode cX1_isFull 10 = .ok (.goto 4, 3) := by decide +kernel
theorem dX1_isFull_13 : decode cX1_isFull 13 = .ok (.iconst 0, 1) := by decide +kernel
theorem dX1_isFull_14 : decode cX1_isFull 14 = .ok (.ireturn, 1) := by decide +kernel
theorem dX1_isRay_0 : decode cX1_isRay 0 = .ok (.aload_n 0, 1) := by decide +kernel
theorem dX1_isRay_1 : decode cX1_isRay 1 = .ok (.getfield 15, 3) := by decide +kernel
theorem dX1_isRay_4 : decode cX1_isRay 4 = .ok (.iload_n 1, 1) := by decide +kernel
theorem dX1_isRay_5 : decode cX1_isRay 5 = .ok (.iaload, 1) := by decide +kernel
theorem dX1_isRay_6 : decode cX1_isRay 6 = .ok (.iconst (-1), 1) := by decide +kernel
theorem dX1_isRay_7 : decode cX1_isRay 7 = .ok (.if_icmp .eq 7, 3) := by decide +kernel
theorem dX1_isRay_10 : decode cX1_isRay 10 = .ok (.iconst 1, 1) := by decide +kernel
theorem dX1_isRay_11 : decode cX1_isRay 11 = .ok (.goto 4, 3) := by decide +kernel
theorem dX1_isRay_14 : decode cX1_isRay 14 = .ok (.iconst 0, 1) := by decide +kernel
theorem dX1_isRay_15 : decode cX1_isRay 15 = .ok (.ireturn, 1) := by decide +kernel
theorem dX1_appendRay_0 : decode cX1_appendRay 0 = .ok (.aload_n 0, 1) := by decide +kernel
theorem dX1_appendRay_1 : decode cX1_appendRay 1 = .ok (.getfield 9, 3) := by decide +kernel
theorem dX1_appendRay_4 : decode cX1_appendRay 4 = .ok (.istore_n 3, 1) := by decide +kernel
theorem dX1_appendRay_5 : decode cX1_appendRay 5 = .ok (.iload_n 3, 1) := by decide +kernel
theorem dX1_appendRay_6 : decode cX1_appendRay 6 = .ok (.bipush 40, 2) := by decide +kernel
theorem dX1_appendRay_8 : decode cX1_appendRay 8 = .ok (.if_icmp .lt 6, 3) := by decide +kernel
theorem dX1_appendRay_11 : decode cX1_appendRay 11 = .ok (.bipush (-3), 2) := by decide +kernel
theorem dX1_appendRay_13 : decode cX1_appendRay 13 = .ok (.ireturn, 1) := by decide +kernel
theorem dX1_appendRay_14 : decode cX1_appendRay 14 = .ok (.aload_n 0, 1) := by decide +kernel
theorem dX1_appendRay_15 : decode cX1_appendRay 15 = .ok (.getfield 15, 3) := by decide +kernel
theorem dX1_appendRay_18 : decode cX1_appendRay 18 = .ok (.iload_n 3, 1) := by decide +kernel
theorem dX1_appendRay_19 : decode cX1_appendRay 19 = .ok (.iload_n 2, 1) := by decide +kernel
theorem dX1_appendRay_20 : decode cX1_appendRay 20 = .ok (.iastore, 1) := by decide +kernel
theorem dX1_appendRay_21 : decode cX1_appendRay 21 = .ok (.aload_n 0, 1) := by decide +kernel
theorem dX1_appendRay_22 : decode cX1_appendRay 22 = .ok (.getfield 19, 3) := by decide +kernel
theorem dX1_appendRay_25 : decode cX1_appendRay 25 = .ok (.iload_n 3, 1) := by decide +kernel
theorem dX1_appendRay_26 : decode cX1_appendRay 26 = .ok (.iconst 1, 1) := by decide +kernel
theorem dX1_appendRay_27 : decode cX1_appendRay 27 = .ok (.iastore, 1) := by decide +kernel
theorem dX1_appendRay_28 : decode cX1_appendRay 28 = .ok (.iconst 0, 1) := by decide +kernel
theorem dX1_appendRay_29 : decode cX1_appendRay 29 = .ok (.istore 4, 2) := by decide +kernel
theorem dX1_appendRay_31 : decode cX1_appendRay 31 = .ok (.iload 4, 2) := by decide +kernel
theorem dX1_appendRay_33 : decode cX1_appendRay 33 = .ok (.aload_n 1, 1) := by decide +kernel
theorem dX1_appendRay_34 : decode cX1_appendRay 34 = .ok (.getfield 31, 3) := by decide +kernel
theorem dX1_appendRay_37 : decode cX1_appendRay 37 = .ok (.if_icmp .ge 33, 3) := by decide +kernel
theorem dX1_appendRay_40 : decode cX1_appendRay 40 = .ok (.aload_n 0, 1) := by decide +kernel
theorem dX1_appendRay_41 : decode cX1_appendRay 41 = .ok (.getfield 24, 3) := by decide +kernel
theorem dX1_appendRay_44 : decode cX1_appendRay 44 = .ok (.iload_n 3, 1) := by decide +kernel
theorem dX1_appendRay_45 : decode cX1_appendRay 45 = .ok (.aaload, 1) := by decide +kernel
theorem dX1_appendRay_46 : decode cX1_appendRay 46 = .ok (.iload 4, 2) := by decide +kernel
theorem dX1_appendRay_48 : decode cX1_appendRay 48 = .ok (.aload_n 1, 1) := by decide +kernel
theorem dX1_appendRay_49 : decode cX1_appendRay 49 = .ok (.iload 4, 2) := by decide +kernel
theorem dX1_appendRay_51 : decode cX1_appendRay 51 = .ok (.iload_n 2, 1) := by decide +kernel
theorem dX1_appendRay_52 : decode cX1_appendRay 52 = .ok (.invokevirtual 36, 3) := by decide +kernel
theorem dX1_appendRay_55 : decode cX1_appendRay 55 = .ok (.ifCond .eq 7, 3) := by decide +kernel
theorem dX1_appendRay_58 : decode cX1_appendRay 58 = .ok (.iconst 1, 1) := by decide +kernel
theorem dX1_appendRay_59 : decode cX1_appendRay 59 = .ok (.goto 4, 3) := by decide +kernel
theorem dX1_appendRay_62 : decode cX1_appendRay 62 = .ok (.iconst 0, 1) := by decide +kernel
theorem dX1_appendRay_63 : decode cX1_appendRay 63 = .ok (.iastore, 1) := by decide +kernel
theorem dX1_appendRay_64 : decode cX1_appendRay 64 = .ok (.iinc 4 1, 3) := by decide +kernel
theorem dX1_appendRay_67 : decode cX1_appendRay 67 = .ok (.goto (-36), 3) := by decide +kernel
theorem dX1_appendRay_70 : decode cX1_appendRay 70 = .ok (.aload_n 0, 1) := by decide +kernel
theorem dX1_appendRay_71 : decode cX1_appendRay 71 = .ok (.dup, 1) := by decide +kernel
theorem dX1_appendRay_72 : decode cX1_appendRay 72 = .ok (.getfield 9, 3) := by decide +kernel
theorem dX1_appendRay_75 : decode cX1_appendRay 75 = .ok (.iconst 1, 1) := by decide +kernel
theorem dX1_appendRay_76 : decode cX1_appendRay 76 = .ok (.iadd, 1) := by decide +kernel
theorem dX1_appendRay_77 : decode cX1_appendRay 77 = .ok (.putfield 9, 3) := by decide +kernel
theorem dX1_appendRay_80 : decode cX1_appendRay 80 = .ok (.iload_n 3, 1) := by decide +kernel
theorem dX1_appendRay_81 : decode cX1_appendRay 81 = .ok (.ireturn, 1) := by decide +kernel
theorem dX1_appendPriceCut_0 : decode cX1_appendPriceCut 0 = .ok (.aload_n 0, 1) := by decide +kernel
theorem dX1_appendPriceCut_1 : decode cX1_appendPriceCut 1 = .ok (.getfield 9, 3) := by decide +kernel
theorem dX1_appendPriceCut_4 : decode cX1_appendPriceCut 4 = .ok (.istore_n 3, 1) := by decide +kernel
theorem dX1_appendPriceCut_5 : decode cX1_appendPriceCut 5 = .ok (.iload_n 3, 1) := by decide +kernel
theorem dX1_appendPriceCut_6 : decode cX1_appendPriceCut 6 = .ok (.bipush 40, 2) := by decide +kernel
theorem dX1_appendPriceCut_8 : decode cX1_appendPriceCut 8 = .ok (.if_icmp .lt 6, 3) := by decide +kernel
theorem dX1_appendPriceCut_11 : decode cX1_appendPriceCut 11 = .ok (.bipush (-3), 2) := by decide +kernel
theorem dX1_appendPriceCut_13 : decode cX1_appendPriceCut 13 = .ok (.ireturn, 1) := by decide +kernel
theorem dX1_appendPriceCut_14 : decode cX1_appendPriceCut 14 = .ok (.aload_n 0, 1) := by decide +kernel
theorem dX1_appendPriceCut_15 : decode cX1_appendPriceCut 15 = .ok (.getfield 15, 3) := by decide +kernel
theorem dX1_appendPriceCut_18 : decode cX1_appendPriceCut 18 = .ok (.iload_n 3, 1) := by decide +kernel
theorem dX1_appendPriceCut_19 : decode cX1_appendPriceCut 19 = .ok (.iconst (-1), 1) := by decide +kernel
theorem dX1_appendPriceCut_20 : decode cX1_appendPriceCut 20 = .ok (.iastore, 1) := by decide +kernel
theorem dX1_appendPriceCut_21 : decode cX1_appendPriceCut 21 = .ok (.aload_n 0, 1) := by decide +kernel
theorem dX1_appendPriceCut_22 : decode cX1_appendPriceCut 22 = .ok (.getfield 19, 3) := by decide +kernel
theorem dX1_appendPriceCut_25 : decode cX1_appendPriceCut 25 = .ok (.iload_n 3, 1) := by decide +kernel
theorem dX1_appendPriceCut_26 : decode cX1_appendPriceCut 26 = .ok (.iconst 0, 1) := by decide +kernel
theorem dX1_appendPriceCut_27 : decode cX1_appendPriceCut 27 = .ok (.iastore, 1) := by decide +kernel
theorem dX1_appendPriceCut_28 : decode cX1_appendPriceCut 28 = .ok (.iconst 0, 1) := by decide +kernel
theorem dX1_appendPriceCut_29 : decode cX1_appendPriceCut 29 = .ok (.istore 4, 2) := by decide +kernel
theorem dX1_appendPriceCut_31 : decode cX1_appendPriceCut 31 = .ok (.iload 4, 2) := by decide +kernel
theorem dX1_appendPriceCut_33 : decode cX1_appendPriceCut 33 = .ok (.aload_n 1, 1) := by decide +kernel
theorem dX1_appendPriceCut_34 : decode cX1_appendPriceCut 34 = .ok (.getfield 40, 3) := by decide +kernel
theorem dX1_appendPriceCut_37 : decode cX1_appendPriceCut 37 = .ok (.if_icmp .ge 30, 3) := by decide +kernel
theorem dX1_appendPriceCut_40 : decode cX1_appendPriceCut 40 = .ok (.aload_n 0, 1) := by decide +kernel
theorem dX1_appendPriceCut_41 : decode cX1_appendPriceCut 41 = .ok (.getfield 19, 3) := by decide +kernel
theorem dX1_appendPriceCut_44 : decode cX1_appendPriceCut 44 = .ok (.iload_n 3, 1) := by decide +kernel
theorem dX1_appendPriceCut_45 : decode cX1_appendPriceCut 45 = .ok (.dup2, 1) := by decide +kernel
theorem dX1_appendPriceCut_46 : decode cX1_appendPriceCut 46 = .ok (.iaload, 1) := by decide +kernel
theorem dX1_appendPriceCut_47 : decode cX1_appendPriceCut 47 = .ok (.aload_n 1, 1) := by decide +kernel
theorem dX1_appendPriceCut_48 : decode cX1_appendPriceCut 48 = .ok (.getfield 43, 3) := by decide +kernel
theorem dX1_appendPriceCut_51 : decode cX1_appendPriceCut 51 = .ok (.iload 4, 2) := by decide +kernel
theorem dX1_appendPriceCut_53 : decode cX1_appendPriceCut 53 = .ok (.iaload, 1) := by decide +kernel
theorem dX1_appendPriceCut_54 : decode cX1_appendPriceCut 54 = .ok (.aload_n 2, 1) := by decide +kernel
theorem dX1_appendPriceCut_55 : decode cX1_appendPriceCut 55 = .ok (.iload 4, 2) := by decide +kernel
theorem dX1_appendPriceCut_57 : decode cX1_appendPriceCut 57 = .ok (.iaload, 1) := by decide +kernel
theorem dX1_appendPriceCut_58 : decode cX1_appendPriceCut 58 = .ok (.imul, 1) := by decide +kernel
theorem dX1_appendPriceCut_59 : decode cX1_appendPriceCut 59 = .ok (.iadd, 1) := by decide +kernel
theorem dX1_appendPriceCut_60 : decode cX1_appendPriceCut 60 = .ok (.iastore, 1) := by decide +kernel
theorem dX1_appendPriceCut_61 : decode cX1_appendPriceCut 61 = .ok (.iinc 4 1, 3) := by decide +kernel
theorem dX1_appendPriceCut_64 : decode cX1_appendPriceCut 64 = .ok (.goto (-33), 3) := by decide +kernel
theorem dX1_appendPriceCut_67 : decode cX1_appendPriceCut 67 = .ok (.iconst 0, 1) := by decide +kernel
theorem dX1_appendPriceCut_68 : decode cX1_appendPriceCut 68 = .ok (.istore 4, 2) := by decide +kernel
theorem dX1_appendPriceCut_70 : decode cX1_appendPriceCut 70 = .ok (.iload 4, 2) := by decide +kernel
theorem dX1_appendPriceCut_72 : decode cX1_appendPriceCut 72 = .ok (.aload_n 1, 1) := by decide +kernel
theorem dX1_appendPriceCut_73 : decode cX1_appendPriceCut 73 = .ok (.getfield 31, 3) := by decide +kernel
theorem dX1_appendPriceCut_76 : decode cX1_appendPriceCut 76 = .ok (.if_icmp .ge 25, 3) := by decide +kernel
theorem dX1_appendPriceCut_79 : decode cX1_appendPriceCut 79 = .ok (.aload_n 0, 1) := by decide +kernel
theorem dX1_appendPriceCut_80 : decode cX1_appendPriceCut 80 = .ok (.getfield 24, 3) := by decide +kernel
theorem dX1_appendPriceCut_83 : decode cX1_appendPriceCut 83 = .ok (.iload_n 3, 1) := by decide +kernel
theorem dX1_appendPriceCut_84 : decode cX1_appendPriceCut 84 = .ok (.aaload, 1) := by decide +kernel
theorem dX1_appendPriceCut_85 : decode cX1_appendPriceCut 85 = .ok (.iload 4, 2) := by decide +kernel
theorem dX1_appendPriceCut_87 : decode cX1_appendPriceCut 87 = .ok (.aload_n 1, 1) := by decide +kernel
theorem dX1_appendPriceCut_88 : decode cX1_appendPriceCut 88 = .ok (.iload 4, 2) := by decide +kernel
theorem dX1_appendPriceCut_90 : decode cX1_appendPriceCut 90 = .ok (.aload_n 2, 1) := by decide +kernel
theorem dX1_appendPriceCut_91 : decode cX1_appendPriceCut 91 = .ok (.invokestatic 46, 3) := by decide +kernel
theorem dX1_appendPriceCut_94 : decode cX1_appendPriceCut 94 = .ok (.iastore, 1) := by decide +kernel
theorem dX1_appendPriceCut_95 : decode cX1_appendPriceCut 95 = .ok (.iinc 4 1, 3) := by decide +kernel
theorem dX1_appendPriceCut_98 : decode cX1_appendPriceCut 98 = .ok (.goto (-28), 3) := by decide +kernel
theorem dX1_appendPriceCut_101 : decode cX1_appendPriceCut 101 = .ok (.aload_n 0, 1) := by decide +kernel
theorem dX1_appendPriceCut_102 : decode cX1_appendPriceCut 102 = .ok (.dup, 1) := by decide +kernel
theorem dX1_appendPriceCut_103 : decode cX1_appendPriceCut 103 = .ok (.getfield 9, 3) := by decide +kernel
theorem dX1_appendPriceCut_106 : decode cX1_appendPriceCut 106 = .ok (.iconst 1, 1) := by decide +kernel
theorem dX1_appendPriceCut_107 : decode cX1_appendPriceCut 107 = .ok (.iadd, 1) := by decide +kernel
theorem dX1_appendPriceCut_108 : decode cX1_appendPriceCut 108 = .ok (.putfield 9, 3) := by decide +kernel
theorem dX1_appendPriceCut_111 : decode cX1_appendPriceCut 111 = .ok (.iload_n 3, 1) := by decide +kernel
theorem dX1_appendPriceCut_112 : decode cX1_appendPriceCut 112 = .ok (.ireturn, 1) := by decide +kernel
theorem dX1_savedBy_0 : decode cX1_savedBy 0 = .ok (.iconst 0, 1) := by decide +kernel
theorem dX1_savedBy_1 : decode cX1_savedBy 1 = .ok (.istore_n 3, 1) := by decide +kernel
theorem dX1_savedBy_2 : decode cX1_savedBy 2 = .ok (.iconst 0, 1) := by decide +kernel
theorem dX1_savedBy_3 : decode cX1_savedBy 3 = .ok (.istore 4, 2) := by decide +kernel
theorem dX1_savedBy_5 : decode cX1_savedBy 5 = .ok (.iload 4, 2) := by decide +kernel
theorem dX1_savedBy_7 : decode cX1_savedBy 7 = .ok (.aload_n 0, 1) := by decide +kernel
theorem dX1_savedBy_8 : decode cX1_savedBy 8 = .ok (.getfield 40, 3) := by decide +kernel
theorem dX1_savedBy_11 : decode cX1_savedBy 11 = .ok (.if_icmp .ge 42, 3) := by decide +kernel
theorem dX1_savedBy_14 : decode cX1_savedBy 14 = .ok (.aload_n 2, 1) := by decide +kernel
theorem dX1_savedBy_15 : decode cX1_savedBy 15 = .ok (.iload 4, 2) := by decide +kernel
theorem dX1_savedBy_17 : decode cX1_savedBy 17 = .ok (.iaload, 1) := by decide +kernel
theorem dX1_savedBy_18 : decode cX1_savedBy 18 = .ok (.aload_n 0, 1) := by decide +kernel
theorem dX1_savedBy_19 : decode cX1_savedBy 19 = .ok (.getfield 50, 3) := by decide +kernel
theorem dX1_savedBy_22 : decode cX1_savedBy 22 = .ok (.iload_n 1, 1) := by decide +kernel
theorem dX1_savedBy_23 : decode cX1_savedBy 23 = .ok (.aaload, 1) := by decide +kernel
theorem dX1_savedBy_24 : decode cX1_savedBy 24 = .ok (.iload 4, 2) := by decide +kernel
theorem dX1_savedBy_26 : decode cX1_savedBy 26 = .ok (.iaload, 1) := by decide +kernel
theorem dX1_savedBy_27 : decode cX1_savedBy 27 = .ok (.isub, 1) := by decide +kernel
theorem dX1_savedBy_28 : decode cX1_savedBy 28 = .ok (.istore 5, 2) := by decide +kernel
theorem dX1_savedBy_30 : decode cX1_savedBy 30 = .ok (.iload_n 3, 1) := by decide +kernel
theorem dX1_savedBy_31 : decode cX1_savedBy 31 = .ok (.aload_n 0, 1) := by decide +kernel
theorem dX1_savedBy_32 : decode cX1_savedBy 32 = .ok (.getfield 43, 3) := by decide +kernel
theorem dX1_savedBy_35 : decode cX1_savedBy 35 = .ok (.iload 4, 2) := by decide +kernel
theorem dX1_savedBy_37 : decode cX1_savedBy 37 = .ok (.iaload, 1) := by decide +kernel
theorem dX1_savedBy_38 : decode cX1_savedBy 38 = .ok (.iconst 0, 1) := by decide +kernel
theorem dX1_savedBy_39 : decode cX1_savedBy 39 = .ok (.iload 5, 2) := by decide +kernel
theorem dX1_savedBy_41 : decode cX1_savedBy 41 = .ok (.invokestatic 53, 3) := by decide +kernel
theorem dX1_savedBy_44 : decode cX1_savedBy 44 = .ok (.imul, 1) := by decide +kernel
theorem dX1_savedBy_45 : decode cX1_savedBy 45 = .ok (.iadd, 1) := by decide +kernel
theorem dX1_savedBy_46 : decode cX1_savedBy 46 = .ok (.istore_n 3, 1) := by decide +kernel
theorem dX1_savedBy_47 : decode cX1_savedBy 47 = .ok (.iinc 4 1, 3) := by decide +kernel
theorem dX1_savedBy_50 : decode cX1_savedBy 50 = .ok (.goto (-45), 3) := by decide +kernel
theorem dX1_savedBy_53 : decode cX1_savedBy 53 = .ok (.iload_n 3, 1) := by decide +kernel
theorem dX1_savedBy_54 : decode cX1_savedBy 54 = .ok (.ireturn, 1) := by decide +kernel
theorem dX1_remove_0 : decode cX1_remove 0 = .ok (.iload_n 1, 1) := by decide +kernel
theorem dX1_remove_1 : decode cX1_remove 1 = .ok (.iconst 1, 1) := by decide +kernel
theorem dX1_remove_2 : decode cX1_remove 2 = .ok (.iadd, 1) := by decide +kernel
theorem dX1_remove_3 : decode cX1_remove 3 = .ok (.istore_n 2, 1) := by decide +kernel
theorem dX1_remove_4 : decode cX1_remove 4 = .ok (.iload_n 2, 1) := by decide +kernel
theorem dX1_remove_5 : decode cX1_remove 5 = .ok (.aload_n 0, 1) := by decide +kernel
theorem dX1_remove_6 : decode cX1_remove 6 = .ok (.getfield 9, 3) := by decide +kernel
theorem dX1_remove_9 : decode cX1_remove 9 = .ok (.if_icmp .ge 18, 3) := by decide +kernel
theorem dX1_remove_12 : decode cX1_remove 12 = .ok (.aload_n 0, 1) := by decide +kernel
theorem dX1_remove_13 : decode cX1_remove 13 = .ok (.aload_n 0, 1) := by decide +kernel
theorem dX1_remove_14 : decode cX1_remove 14 = .ok (.iload_n 2, 1) := by decide +kernel
theorem dX1_remove_15 : decode cX1_remove 15 = .ok (.iload_n 2, 1) := by decide +kernel
theorem dX1_remove_16 : decode cX1_remove 16 = .ok (.iconst 1, 1) := by decide +kernel
theorem dX1_remove_17 : decode cX1_remove 17 = .ok (.isub, 1) := by decide +kernel
theorem dX1_remove_18 : decode cX1_remove 18 = .ok (.invokevirtual 27, 3) := by decide +kernel
theorem dX1_remove_21 : decode cX1_remove 21 = .ok (.iinc 2 1, 3) := by decide +kernel
theorem dX1_remove_24 : decode cX1_remove 24 = .ok (.goto (-20), 3) := by decide +kernel
theorem dX1_remove_27 : decode cX1_remove 27 = .ok (.aload_n 0, 1) := by decide +kernel
theorem dX1_remove_28 : decode cX1_remove 28 = .ok (.dup, 1) := by decide +kernel
theorem dX1_remove_29 : decode cX1_remove 29 = .ok (.getfield 9, 3) := by decide +kernel
theorem dX1_remove_32 : decode cX1_remove 32 = .ok (.iconst 1, 1) := by decide +kernel
theorem dX1_remove_33 : decode cX1_remove 33 = .ok (.isub, 1) := by decide +kernel
theorem dX1_remove_34 : decode cX1_remove 34 = .ok (.putfield 9, 3) := by decide +kernel
theorem dX1_remove_37 : decode cX1_remove 37 = .ok (.return_, 1) := by decide +kernel
theorem dX1_weightOf_0 : decode cX1_weightOf 0 = .ok (.iconst 0, 1) := by decide +kernel
theorem dX1_weightOf_1 : decode cX1_weightOf 1 = .ok (.istore_n 3, 1) := by decide +kernel
theorem dX1_weightOf_2 : decode cX1_weightOf 2 = .ok (.iconst 0, 1) := by decide +kernel
theorem dX1_weightOf_3 : decode cX1_weightOf 3 = .ok (.istore 4, 2) := by decide +kernel
theorem dX1_weightOf_5 : decode cX1_weightOf 5 = .ok (.iload 4, 2) := by decide +kernel
theorem dX1_weightOf_7 : decode cX1_weightOf 7 = .ok (.bipush 7, 2) := by decide +kernel
theorem dX1_weightOf_9 : decode cX1_weightOf 9 = .ok (.if_icmp .ge 30, 3) := by decide +kernel
theorem dX1_weightOf_12 : decode cX1_weightOf 12 = .ok (.iload_n 2, 1) := by decide +kernel
theorem dX1_weightOf_13 : decode cX1_weightOf 13 = .ok (.iload 4, 2) := by decide +kernel
theorem dX1_weightOf_15 : decode cX1_weightOf 15 = .ok (.invokestatic 59, 3) := by decide +kernel
theorem dX1_weightOf_18 : decode cX1_weightOf 18 = .ok (.ifCond .eq 15, 3) := by decide +kernel
theorem dX1_weightOf_21 : decode cX1_weightOf 21 = .ok (.iload_n 3, 1) := by decide +kernel
theorem dX1_weightOf_22 : decode cX1_weightOf 22 = .ok (.aload_n 0, 1) := by decide +kernel
theorem dX1_weightOf_23 : decode cX1_weightOf 23 = .ok (.getfield 24, 3) := by decide +kernel
theorem dX1_weightOf_26 : decode cX1_weightOf 26 = .ok (.iload_n 1, 1) := by decide +kernel
theorem dX1_weightOf_27 : decode cX1_weightOf 27 = .ok (.aaload, 1) := by decide +kernel
theorem dX1_weightOf_28 : decode cX1_weightOf 28 = .ok (.iload 4, 2) := by decide +kernel
theorem dX1_weightOf_30 : decode cX1_weightOf 30 = .ok (.iaload, 1) := by decide +kernel
theorem dX1_weightOf_31 : decode cX1_weightOf 31 = .ok (.iadd, 1) := by decide +kernel
theorem dX1_weightOf_32 : decode cX1_weightOf 32 = .ok (.istore_n 3, 1) := by decide +kernel
theorem dX1_weightOf_33 : decode cX1_weightOf 33 = .ok (.iinc 4 1, 3) := by decide +kernel
theorem dX1_weightOf_36 : decode cX1_weightOf 36 = .ok (.goto (-31), 3) := by decide +kernel
theorem dX1_weightOf_39 : decode cX1_weightOf 39 = .ok (.iload_n 3, 1) := by decide +kernel
theorem dX1_weightOf_40 : decode cX1_weightOf 40 = .ok (.ireturn, 1) := by decide +kernel
theorem dX1_valueOf_0 : decode cX1_valueOf 0 = .ok (.aload_n 0, 1) := by decide +kernel
theorem dX1_valueOf_1 : decode cX1_valueOf 1 = .ok (.getfield 19, 3) := by decide +kernel
theorem dX1_valueOf_4 : decode cX1_valueOf 4 = .ok (.iload_n 1, 1) := by decide +kernel
theorem dX1_valueOf_5 : decode cX1_valueOf 5 = .ok (.iaload, 1) := by decide +kernel
theorem dX1_valueOf_6 : decode cX1_valueOf 6 = .ok (.aload_n 0, 1) := by decide +kernel
theorem dX1_valueOf_7 : decode cX1_valueOf 7 = .ok (.iload_n 1, 1) := by decide +kernel
theorem dX1_valueOf_8 : decode cX1_valueOf 8 = .ok (.iload_n 2, 1) := by decide +kernel
theorem dX1_valueOf_9 : decode cX1_valueOf 9 = .ok (.invokevirtual 62, 3) := by decide +kernel
theorem dX1_valueOf_12 : decode cX1_valueOf 12 = .ok (.isub, 1) := by decide +kernel
theorem dX1_valueOf_13 : decode cX1_valueOf 13 = .ok (.ireturn, 1) := by decide +kernel
theorem dX1_greatestValue_0 : decode cX1_greatestValue 0 = .ok (.iconst 0, 1) := by decide +kernel
theorem dX1_greatestValue_1 : decode cX1_greatestValue 1 = .ok (.istore_n 2, 1) := by decide +kernel
theorem dX1_greatestValue_2 : decode cX1_greatestValue 2 = .ok (.iconst 0, 1) := by decide +kernel
theorem dX1_greatestValue_3 : decode cX1_greatestValue 3 = .ok (.istore_n 3, 1) := by decide +kernel
theorem dX1_greatestValue_4 : decode cX1_greatestValue 4 = .ok (.iload_n 3, 1) := by decide +kernel
theorem dX1_greatestValue_5 : decode cX1_greatestValue 5 = .ok (.aload_n 0, 1) := by decide +kernel
theorem dX1_greatestValue_6 : decode cX1_greatestValue 6 = .ok (.getfield 9, 3) := by decide +kernel
theorem dX1_greatestValue_9 : decode cX1_greatestValue 9 = .ok (.if_icmp .ge 28, 3) := by decide +kernel
theorem dX1_greatestValue_12 : decode cX1_greatestValue 12 = .ok (.aload_n 0, 1) := by decide +kernel
theorem dX1_greatestValue_13 : decode cX1_greatestValue 13 = .ok (.iload_n 3, 1) := by decide +kernel
theorem dX1_greatestValue_14 : decode cX1_greatestValue 14 = .ok (.invokevirtual 65, 3) := by decide +kernel
theorem dX1_greatestValue_17 : decode cX1_greatestValue 17 = .ok (.ifCond .ne 14, 3) := by decide +kernel
theorem dX1_greatestValue_20 : decode cX1_greatestValue 20 = .ok (.iload_n 2, 1) := by decide +kernel
theorem dX1_greatestValue_21 : decode cX1_greatestValue 21 = .ok (.aload_n 0, 1) := by decide +kernel
theorem dX1_greatestValue_22 : decode cX1_greatestValue 22 = .ok (.iload_n 3, 1) := by decide +kernel
theorem dX1_greatestValue_23 : decode cX1_greatestValue 23 = .ok (.iload_n 1, 1) := by decide +kernel
theorem dX1_greatestValue_24 : decode cX1_greatestValue 24 = .ok (.invokevirtual 69, 3) := by decide +kernel
theorem dX1_greatestValue_27 : decode cX1_greatestValue 27 = .ok (.invokestatic 53, 3) := by decide +kernel
theorem dX1_greatestValue_30 : decode cX1_greatestValue 30 = .ok (.istore_n 2, 1) := by decide +kernel
theorem dX1_greatestValue_31 : decode cX1_greatestValue 31 = .ok (.iinc 3 1, 3) := by decide +kernel
theorem dX1_greatestValue_34 : decode cX1_greatestValue 34 = .ok (.goto (-30), 3) := by decide +kernel
theorem dX1_greatestValue_37 : decode cX1_greatestValue 37 = .ok (.iload_n 2, 1) := by decide +kernel
theorem dX1_greatestValue_38 : decode cX1_greatestValue 38 = .ok (.ireturn, 1) := by decide +kernel
theorem dX1_countRays_0 : decode cX1_countRays 0 = .ok (.iconst 0, 1) := by decide +kernel
theorem dX1_countRays_1 : decode cX1_countRays 1 = .ok (.istore_n 1, 1) := by decide +kernel
theorem dX1_countRays_2 : decode cX1_countRays 2 = .ok (.iconst 0, 1) := by decide +kernel
theorem dX1_countRays_3 : decode cX1_countRays 3 = .ok (.istore_n 2, 1) := by decide +kernel
theorem dX1_countRays_4 : decode cX1_countRays 4 = .ok (.iload_n 2, 1) := by decide +kernel
theorem dX1_countRays_5 : decode cX1_countRays 5 = .ok (.aload_n 0, 1) := by decide +kernel
theorem dX1_countRays_6 : decode cX1_countRays 6 = .ok (.getfield 9, 3) := by decide +kernel
theorem dX1_countRays_9 : decode cX1_countRays 9 = .ok (.if_icmp .ge 20, 3) := by decide +kernel
theorem dX1_countRays_12 : decode cX1_countRays 12 = .ok (.aload_n 0, 1) := by decide +kernel
theorem dX1_countRays_13 : decode cX1_countRays 13 = .ok (.iload_n 2, 1) := by decide +kernel
theorem dX1_countRays_14 : decode cX1_countRays 14 = .ok (.invokevirtual 65, 3) := by decide +kernel
theorem dX1_countRays_17 : decode cX1_countRays 17 = .ok (.ifCond .eq 6, 3) := by decide +kernel
theorem dX1_countRays_20 : decode cX1_countRays 20 = .ok (.iinc 1 1, 3) := by decide +kernel
theorem dX1_countRays_23 : decode cX1_countRays 23 = .ok (.iinc 2 1, 3) := by decide +kernel
theorem dX1_countRays_26 : decode cX1_countRays 26 = .ok (.goto (-22), 3) := by decide +kernel
theorem dX1_countRays_29 : decode cX1_countRays 29 = .ok (.iload_n 1, 1) := by decide +kernel
theorem dX1_countRays_30 : decode cX1_countRays 30 = .ok (.ireturn, 1) := by decide +kernel
theorem dX1_countMissedRays_0 : decode cX1_countMissedRays 0 = .ok (.iconst 0, 1) := by decide +kernel
theorem dX1_countMissedRays_1 : decode cX1_countMissedRays 1 = .ok (.istore_n 2, 1) := by decide +kernel
theorem dX1_countMissedRays_2 : decode cX1_countMissedRays 2 = .ok (.iconst 0, 1) := by decide +kernel
theorem dX1_countMissedRays_3 : decode cX1_countMissedRays 3 = .ok (.istore_n 3, 1) := by decide +kernel
theorem dX1_countMissedRays_4 : decode cX1_countMissedRays 4 = .ok (.iload_n 3, 1) := by decide +kernel
theorem dX1_countMissedRays_5 : decode cX1_countMissedRays 5 = .ok (.aload_n 0, 1) := by decide +kernel
theorem dX1_countMissedRays_6 : decode cX1_countMissedRays 6 = .ok (.getfield 9, 3) := by decide +kernel
theorem dX1_countMissedRays_9 : decode cX1_countMissedRays 9 = .ok (.if_icmp .ge 29, 3) := by decide +kernel
theorem dX1_countMissedRays_12 : decode cX1_countMissedRays 12 = .ok (.aload_n 0, 1) := by decide +kernel
theorem dX1_countMissedRays_13 : decode cX1_countMissedRays 13 = .ok (.iload_n 3, 1) := by decide +kernel
theorem dX1_countMissedRays_14 : decode cX1_countMissedRays 14 = .ok (.invokevirtual 65, 3) := by decide +kernel
theorem dX1_countMissedRays_17 : decode cX1_countMissedRays 17 = .ok (.ifCond .eq 15, 3) := by decide +kernel
theorem dX1_countMissedRays_20 : decode cX1_countMissedRays 20 = .ok (.aload_n 0, 1) := by decide +kernel
theorem dX1_countMissedRays_21 : decode cX1_countMissedRays 21 = .ok (.iload_n 3, 1) := by decide +kernel
theorem dX1_countMissedRays_22 : decode cX1_countMissedRays 22 = .ok (.iload_n 1, 1) := by decide +kernel
theorem dX1_countMissedRays_23 : decode cX1_countMissedRays 23 = .ok (.invokevirtual 62, 3) := by decide +kernel
theorem dX1_countMissedRays_26 : decode cX1_countMissedRays 26 = .ok (.ifCond .ne 6, 3) := by decide +kernel
theorem dX1_countMissedRays_29 : decode cX1_countMissedRays 29 = .ok (.iinc 2 1, 3) := by decide +kernel
theorem dX1_countMissedRays_32 : decode cX1_countMissedRays 32 = .ok (.iinc 3 1, 3) := by decide +kernel
theorem dX1_countMissedRays_35 : decode cX1_countMissedRays 35 = .ok (.goto (-31), 3) := by decide +kernel
theorem dX1_countMissedRays_38 : decode cX1_countMissedRays 38 = .ok (.iload_n 2, 1) := by decide +kernel
theorem dX1_countMissedRays_39 : decode cX1_countMissedRays 39 = .ok (.ireturn, 1) := by decide +kernel
theorem dX1_isLoose_0 : decode cX1_isLoose 0 = .ok (.aload_n 0, 1) := by decide +kernel
theorem dX1_isLoose_1 : decode cX1_isLoose 1 = .ok (.iload_n 1, 1) := by decide +kernel
theorem dX1_isLoose_2 : decode cX1_isLoose 2 = .ok (.invokevirtual 65, 3) := by decide +kernel
theorem dX1_isLoose_5 : decode cX1_isLoose 5 = .ok (.ifCond .eq 19, 3) := by decide +kernel
theorem dX1_isLoose_8 : decode cX1_isLoose 8 = .ok (.aload_n 0, 1) := by decide +kernel
theorem dX1_isLoose_9 : decode cX1_isLoose 9 = .ok (.iload_n 1, 1) := by decide +kernel
theorem dX1_isLoose_10 : decode cX1_isLoose 10 = .ok (.iload_n 2, 1) := by decide +kernel
theorem dX1_isLoose_11 : decode cX1_isLoose 11 = .ok (.invokevirtual 62, 3) := by decide +kernel
theorem dX1_isLoose_14 : decode cX1_isLoose 14 = .ok (.iconst 1, 1) := by decide +kernel
theorem dX1_isLoose_15 : decode cX1_isLoose 15 = .ok (.if_icmp .le 7, 3) := by decide +kernel
theorem dX1_isLoose_18 : decode cX1_isLoose 18 = .ok (.iconst 1, 1) := by decide +kernel
theorem dX1_isLoose_19 : decode cX1_isLoose 19 = .ok (.goto 4, 3) := by decide +kernel
theorem dX1_isLoose_22 : decode cX1_isLoose 22 = .ok (.iconst 0, 1) := by decide +kernel
theorem dX1_isLoose_23 : decode cX1_isLoose 23 = .ok (.ireturn, 1) := by decide +kernel
theorem dX1_isLoose_24 : decode cX1_isLoose 24 = .ok (.aload_n 0, 1) := by decide +kernel
theorem dX1_isLoose_25 : decode cX1_isLoose 25 = .ok (.iload_n 1, 1) := by decide +kernel
theorem dX1_isLoose_26 : decode cX1_isLoose 26 = .ok (.iload_n 2, 1) := by decide +kernel
theorem dX1_isLoose_27 : decode cX1_isLoose 27 = .ok (.invokevirtual 69, 3) := by decide +kernel
theorem dX1_isLoose_30 : decode cX1_isLoose 30 = .ok (.iload_n 3, 1) := by decide +kernel
theorem dX1_isLoose_31 : decode cX1_isLoose 31 = .ok (.if_icmp .ge 7, 3) := by decide +kernel
theorem dX1_isLoose_34 : decode cX1_isLoose 34 = .ok (.iconst 1, 1) := by decide +kernel
theorem dX1_isLoose_35 : decode cX1_isLoose 35 = .ok (.goto 4, 3) := by decide +kernel
theorem dX1_isLoose_38 : decode cX1_isLoose 38 = .ok (.iconst 0, 1) := by decide +kernel
theorem dX1_isLoose_39 : decode cX1_isLoose 39 = .ok (.ireturn, 1) := by decide +kernel
theorem dX1_countLoose_0 : decode cX1_countLoose 0 = .ok (.aload_n 0, 1) := by decide +kernel
theorem dX1_countLoose_1 : decode cX1_countLoose 1 = .ok (.iload_n 1, 1) := by decide +kernel
theorem dX1_countLoose_2 : decode cX1_countLoose 2 = .ok (.invokevirtual 72, 3) := by decide +kernel
theorem dX1_countLoose_5 : decode cX1_countLoose 5 = .ok (.istore_n 2, 1) := by decide +kernel
theorem dX1_countLoose_6 : decode cX1_countLoose 6 = .ok (.iconst 0, 1) := by decide +kernel
theorem dX1_countLoose_7 : decode cX1_countLoose 7 = .ok (.istore_n 3, 1) := by decide +kernel
theorem dX1_countLoose_8 : decode cX1_countLoose 8 = .ok (.iconst 0, 1) := by decide +kernel
theorem dX1_countLoose_9 : decode cX1_countLoose 9 = .ok (.istore 4, 2) := by decide +kernel
theorem dX1_countLoose_11 : decode cX1_countLoose 11 = .ok (.iload 4, 2) := by decide +kernel
theorem dX1_countLoose_13 : decode cX1_countLoose 13 = .ok (.aload_n 0, 1) := by decide +kernel
theorem dX1_countLoose_14 : decode cX1_countLoose 14 = .ok (.getfield 9, 3) := by decide +kernel
theorem dX1_countLoose_17 : decode cX1_countLoose 17 = .ok (.if_icmp .ge 23, 3) := by decide +kernel
theorem dX1_countLoose_20 : decode cX1_countLoose 20 = .ok (.aload_n 0, 1) := by decide +kernel
theorem dX1_countLoose_21 : decode cX1_countLoose 21 = .ok (.iload 4, 2) := by decide +kernel
theorem dX1_countLoose_23 : decode cX1_countLoose 23 = .ok (.iload_n 1, 1) := by decide +kernel
theorem dX1_countLoose_24 : decode cX1_countLoose 24 = .ok (.iload_n 2, 1) := by decide +kernel
theorem dX1_countLoose_25 : decode cX1_countLoose 25 = .ok (.invokevirtual 76, 3) := by decide +kernel
theorem dX1_countLoose_28 : decode cX1_countLoose 28 = .ok (.ifCond .eq 6, 3) := by decide +kernel
theorem dX1_countLoose_31 : decode cX1_countLoose 31 = .ok (.iinc 3 1, 3) := by decide +kernel
theorem dX1_countLoose_34 : decode cX1_countLoose 34 = .ok (.iinc 4 1, 3) := by decide +kernel
theorem dX1_countLoose_37 : decode cX1_countLoose 37 = .ok (.goto (-26), 3) := by decide +kernel
theorem dX1_countLoose_40 : decode cX1_countLoose 40 = .ok (.iload_n 3, 1) := by decide +kernel
theorem dX1_countLoose_41 : decode cX1_countLoose 41 = .ok (.ireturn, 1) := by decide +kernel
theorem dX1_removeLoose_0 : decode cX1_removeLoose 0 = .ok (.aload_n 0, 1) := by decide +kernel
theorem dX1_removeLoose_1 : decode cX1_removeLoose 1 = .ok (.iload_n 1, 1) := by decide +kernel
theorem dX1_removeLoose_2 : decode cX1_removeLoose 2 = .ok (.invokevirtual 72, 3) := by decide +kernel
theorem dX1_removeLoose_5 : decode cX1_removeLoose 5 = .ok (.istore_n 2, 1) := by decide +kernel
theorem dX1_removeLoose_6 : decode cX1_removeLoose 6 = .ok (.iconst 0, 1) := by decide +kernel
theorem dX1_removeLoose_7 : decode cX1_removeLoose 7 = .ok (.istore_n 3, 1) := by decide +kernel
theorem dX1_removeLoose_8 : decode cX1_removeLoose 8 = .ok (.iconst 0, 1) := by decide +kernel
theorem dX1_removeLoose_9 : decode cX1_removeLoose 9 = .ok (.istore 4, 2) := by decide +kernel
theorem dX1_removeLoose_11 : decode cX1_removeLoose 11 = .ok (.iload 4, 2) := by decide +kernel
theorem dX1_removeLoose_13 : decode cX1_removeLoose 13 = .ok (.aload_n 0, 1) := by decide +kernel
theorem dX1_removeLoose_14 : decode cX1_removeLoose 14 = .ok (.getfield 9, 3) := by decide +kernel
theorem dX1_removeLoose_17 : decode cX1_removeLoose 17 = .ok (.if_icmp .ge 31, 3) := by decide +kernel
theorem dX1_removeLoose_20 : decode cX1_removeLoose 20 = .ok (.aload_n 0, 1) := by decide +kernel
theorem dX1_removeLoose_21 : decode cX1_removeLoose 21 = .ok (.iload 4, 2) := by decide +kernel
theorem dX1_removeLoose_23 : decode cX1_removeLoose 23 = .ok (.iload_n 1, 1) := by decide +kernel
theorem dX1_removeLoose_24 : decode cX1_removeLoose 24 = .ok (.iload_n 2, 1) := by decide +kernel
theorem dX1_removeLoose_25 : decode cX1_removeLoose 25 = .ok (.invokevirtual 76, 3) := by decide +kernel
theorem dX1_removeLoose_28 : decode cX1_removeLoose 28 = .ok (.ifCond .ne 14, 3) := by decide +kernel
theorem dX1_removeLoose_31 : decode cX1_removeLoose 31 = .ok (.aload_n 0, 1) := by decide +kernel
theorem dX1_removeLoose_32 : decode cX1_removeLoose 32 = .ok (.aload_n 0, 1) := by decide +kernel
theorem dX1_removeLoose_33 : decode cX1_removeLoose 33 = .ok (.iload 4, 2) := by decide +kernel
theorem dX1_removeLoose_35 : decode cX1_removeLoose 35 = .ok (.iload_n 3, 1) := by decide +kernel
theorem dX1_removeLoose_36 : decode cX1_removeLoose 36 = .ok (.invokevirtual 27, 3) := by decide +kernel
theorem dX1_removeLoose_39 : decode cX1_removeLoose 39 = .ok (.iinc 3 1, 3) := by decide +kernel
theorem dX1_removeLoose_42 : decode cX1_removeLoose 42 = .ok (.iinc 4 1, 3) := by decide +kernel
theorem dX1_removeLoose_45 : decode cX1_removeLoose 45 = .ok (.goto (-34), 3) := by decide +kernel
theorem dX1_removeLoose_48 : decode cX1_removeLoose 48 = .ok (.aload_n 0, 1) := by decide +kernel
theorem dX1_removeLoose_49 : decode cX1_removeLoose 49 = .ok (.iload_n 3, 1) := by decide +kernel
theorem dX1_removeLoose_50 : decode cX1_removeLoose 50 = .ok (.putfield 9, 3) := by decide +kernel
theorem dX1_removeLoose_53 : decode cX1_removeLoose 53 = .ok (.return_, 1) := by decide +kernel
theorem dX2_init_0 : decode cX2_init 0 = .ok (.aload_n 0, 1) := by decide +kernel
theorem dX2_init_1 : decode cX2_init 1 = .ok (.invokespecial 3, 3) := by decide +kernel
theorem dX2_init_4 : decode cX2_init 4 = .ok (.aload_n 0, 1) := by decide +kernel
theorem dX2_init_5 : decode cX2_init 5 = .ok (.iconst 4, 1) := by decide +kernel
theorem dX2_init_6 : decode cX2_init 6 = .ok (.anewarray 9, 3) := by decide +kernel
theorem dX2_init_9 : decode cX2_init 9 = .ok (.putfield 11, 3) := by decide +kernel
theorem dX2_init_12 : decode cX2_init 12 = .ok (.iconst 0, 1) := by decide +kernel
theorem dX2_init_13 : decode cX2_init 13 = .ok (.istore_n 1, 1) := by decide +kernel
theorem dX2_init_14 : decode cX2_init 14 = .ok (.iload_n 1, 1) := by decide +kernel
theorem dX2_init_15 : decode cX2_init 15 = .ok (.iconst 4, 1) := by decide +kernel
theorem dX2_init_16 : decode cX2_init 16 = .ok (.if_icmp .ge 22, 3) := by decide +kernel
theorem dX2_init_19 : decode cX2_init 19 = .ok (.aload_n 0, 1) := by decide +kernel
theorem dX2_init_20 : decode cX2_init 20 = .ok (.getfield 11, 3) := by decide +kernel
theorem dX2_init_23 : decode cX2_init 23 = .ok (.iload_n 1, 1) := by decide +kernel
theorem dX2_init_24 : decode cX2_init 24 = .ok (.new 9, 3) := by decide +kernel
theorem dX2_init_27 : decode cX2_init 27 = .ok (.dup, 1) := by decide +kernel
theorem dX2_init_28 : decode cX2_init 28 = .ok (.invokespecial 17, 3) := by decide +kernel
theorem dX2_init_31 : decode cX2_init 31 = .ok (.aastore, 1) := by decide +kernel
theorem dX2_init_32 : decode cX2_init 32 = .ok (.iinc 1 1, 3) := by decide +kernel
theorem dX2_init_35 : decode cX2_init 35 = .ok (.goto (-21), 3) := by decide +kernel
theorem dX2_init_38 : decode cX2_init 38 = .ok (.aload_n 0, 1) := by decide +kernel
theorem dX2_init_39 : decode cX2_init 39 = .ok (.iconst 0, 1) := by decide +kernel
theorem dX2_init_40 : decode cX2_init 40 = .ok (.putfield 18, 3) := by decide +kernel
theorem dX2_init_43 : decode cX2_init 43 = .ok (.return_, 1) := by decide +kernel
theorem dX2_record_0 : decode cX2_record 0 = .ok (.aload_n 0, 1) := by decide +kernel
theorem dX2_record_1 : decode cX2_record 1 = .ok (.getfield 18, 3) := by decide +kernel
theorem dX2_record_4 : decode cX2_record 4 = .ok (.iconst 4, 1) := by decide +kernel
theorem dX2_record_5 : decode cX2_record 5 = .ok (.if_icmp .lt 12, 3) := by decide +kernel
theorem dX2_record_8 : decode cX2_record 8 = .ok (.aload_n 0, 1) := by decide +kernel
theorem dX2_record_9 : decode cX2_record 9 = .ok (.invokevirtual 22, 3) := by decide +kernel
theorem dX2_record_12 : decode cX2_record 12 = .ok (.aload_n 0, 1) := by decide +kernel
theorem dX2_record_13 : decode cX2_record 13 = .ok (.iconst 3, 1) := by decide +kernel
theorem dX2_record_14 : decode cX2_record 14 = .ok (.putfield 18, 3) := by decide +kernel
theorem dX2_record_17 : decode cX2_record 17 = .ok (.aload_n 0, 1) := by decide +kernel
theorem dX2_record_18 : decode cX2_record 18 = .ok (.getfield 11, 3) := by decide +kernel
theorem dX2_record_21 : decode cX2_record 21 = .ok (.aload_n 0, 1) := by decide +kernel
theorem dX2_record_22 : decode cX2_record 22 = .ok (.getfield 18, 3) := by decide +kernel
theorem dX2_record_25 : decode cX2_record 25 = .ok (.aaload, 1) := by decide +kernel
theorem dX2_record_26 : decode cX2_record 26 = .ok (.aload_n 1, 1) := by decide +kernel
theorem dX2_record_27 : decode cX2_record 27 = .ok (.invokevirtual 25, 3) := by decide +kernel
theorem dX2_record_30 : decode cX2_record 30 = .ok (.aload_n 0, 1) := by decide +kernel
theorem dX2_record_31 : decode cX2_record 31 = .ok (.dup, 1) := by decide +kernel
theorem dX2_record_32 : decode cX2_record 32 = .ok (.getfield 18, 3) := by decide +kernel
theorem dX2_record_35 : decode cX2_record 35 = .ok (.iconst 1, 1) := by decide +kernel
theorem dX2_record_36 : decode cX2_record 36 = .ok (.iadd, 1) := by decide +kernel
theorem dX2_record_37 : decode cX2_record 37 = .ok (.putfield 18, 3) := by decide +kernel
theorem dX2_record_40 : decode cX2_record 40 = .ok (.return_, 1) := by decide +kernel
theorem dX2_moveOldestToEnd_0 : decode cX2_moveOldestToEnd 0 = .ok (.aload_n 0, 1) := by decide +kernel
theorem dX2_moveOldestToEnd_1 : decode cX2_moveOldestToEnd 1 = .ok (.getfield 11, 3) := by decide +kernel
theorem dX2_moveOldestToEnd_4 : decode cX2_moveOldestToEnd 4 = .ok (.iconst 0, 1) := by decide +kernel
theorem dX2_moveOldestToEnd_5 : decode cX2_moveOldestToEnd 5 = .ok (.aaload, 1) := by decide +kernel
theorem dX2_moveOldestToEnd_6 : decode cX2_moveOldestToEnd 6 = .ok (.astore_n 1, 1) := by decide +kernel
theorem dX2_moveOldestToEnd_7 : decode cX2_moveOldestToEnd 7 = .ok (.iconst 1, 1) := by decide +kernel
theorem dX2_moveOldestToEnd_8 : decode cX2_moveOldestToEnd 8 = .ok (.istore_n 2, 1) := by decide +kernel
theorem dX2_moveOldestToEnd_9 : decode cX2_moveOldestToEnd 9 = .ok (.iload_n 2, 1) := by decide +kernel
theorem dX2_moveOldestToEnd_10 : decode cX2_moveOldestToEnd 10 = .ok (.iconst 4, 1) := by decide +kernel
theorem dX2_moveOldestToEnd_11 : decode cX2_moveOldestToEnd 11 = .ok (.if_icmp .ge 23, 3) := by decide +kernel
theorem dX2_moveOldestToEnd_14 : decode cX2_moveOldestToEnd 14 = .ok (.aload_n 0, 1) := by decide +kernel
theorem dX2_moveOldestToEnd_15 : decode cX2_moveOldestToEnd 15 = .ok (.getfield 11, 3) := by decide +kernel
theorem dX2_moveOldestToEnd_18 : decode cX2_moveOldestToEnd 18 = .ok (.iload_n 2, 1) := by decide +kernel
theorem dX2_moveOldestToEnd_19 : decode cX2_moveOldestToEnd 19 = .ok (.iconst 1, 1) := by decide +kernel
theorem dX2_moveOldestToEnd_20 : decode cX2_moveOldestToEnd 20 = .ok (.isub, 1) := by decide +kernel
theorem dX2_moveOldestToEnd_21 : decode cX2_moveOldestToEnd 21 = .ok (.aload_n 0, 1) := by decide +kernel
theorem dX2_moveOldestToEnd_22 : decode cX2_moveOldestToEnd 22 = .ok (.getfield 11, 3) := by decide +kernel
theorem dX2_moveOldestToEnd_25 : decode cX2_moveOldestToEnd 25 = .ok (.iload_n 2, 1) := by decide +kernel
theorem dX2_moveOldestToEnd_26 : decode cX2_moveOldestToEnd 26 = .ok (.aaload, 1) := by decide +kernel
theorem dX2_moveOldestToEnd_27 : decode cX2_moveOldestToEnd 27 = .ok (.aastore, 1) := by decide +kernel
theorem dX2_moveOldestToEnd_28 : decode cX2_moveOldestToEnd 28 = .ok (.iinc 2 1, 3) := by decide +kernel
theorem dX2_moveOldestToEnd_31 : decode cX2_moveOldestToEnd 31 = .ok (.goto (-22), 3) := by decide +kernel
theorem dX2_moveOldestToEnd_34 : decode cX2_moveOldestToEnd 34 = .ok (.aload_n 0, 1) := by decide +kernel
theorem dX2_moveOldestToEnd_35 : decode cX2_moveOldestToEnd 35 = .ok (.getfield 11, 3) := by decide +kernel
theorem dX2_moveOldestToEnd_38 : decode cX2_moveOldestToEnd 38 = .ok (.iconst 3, 1) := by decide +kernel
theorem dX2_moveOldestToEnd_39 : decode cX2_moveOldestToEnd 39 = .ok (.aload_n 1, 1) := by decide +kernel
theorem dX2_moveOldestToEnd_40 : decode cX2_moveOldestToEnd 40 = .ok (.aastore, 1) := by decide +kernel
theorem dX2_moveOldestToEnd_41 : decode cX2_moveOldestToEnd 41 = .ok (.return_, 1) := by decide +kernel
theorem dX2_takeLatest_0 : decode cX2_takeLatest 0 = .ok (.aload_n 0, 1) := by decide +kernel
theorem dX2_takeLatest_1 : decode cX2_takeLatest 1 = .ok (.getfield 18, 3) := by decide +kernel
theorem dX2_takeLatest_4 : decode cX2_takeLatest 4 = .ok (.ifCond .le 26, 3) := by decide +kernel
theorem dX2_takeLatest_7 : decode cX2_takeLatest 7 = .ok (.aload_n 0, 1) := by decide +kernel
theorem dX2_takeLatest_8 : decode cX2_takeLatest 8 = .ok (.dup, 1) := by decide +kernel
theorem dX2_takeLatest_9 : decode cX2_takeLatest 9 = .ok (.getfield 18, 3) := by decide +kernel
theorem dX2_takeLatest_12 : decode cX2_takeLatest 12 = .ok (.iconst 1, 1) := by decide +kernel
theorem dX2_takeLatest_13 : decode cX2_takeLatest 13 = .ok (.isub, 1) := by decide +kernel
theorem dX2_takeLatest_14 : decode cX2_takeLatest 14 = .ok (.putfield 18, 3) := by decide +kernel
theorem dX2_takeLatest_17 : decode cX2_takeLatest 17 = .ok (.aload_n 1, 1) := by decide +kernel
theorem dX2_takeLatest_18 : decode cX2_takeLatest 18 = .ok (.aload_n 0, 1) := by decide +kernel
theorem dX2_takeLatest_19 : decode cX2_takeLatest 19 = .ok (.getfield 11, 3) := by decide +kernel
theorem dX2_takeLatest_22 : decode cX2_takeLatest 22 = .ok (.aload_n 0, 1) := by decide +kernel
theorem dX2_takeLatest_23 : decode cX2_takeLatest 23 = .ok (.getfield 18, 3) := by decide +kernel
theorem dX2_takeLatest_26 : decode cX2_takeLatest 26 = .ok (.aaload, 1) := by decide +kernel
theorem dX2_takeLatest_27 : decode cX2_takeLatest 27 = .ok (.invokevirtual 25, 3) := by decide +kernel
theorem dX2_takeLatest_30 : decode cX2_takeLatest 30 = .ok (.return_, 1) := by decide +kernel
end
section
theorem dX3_init_0 : decode cX3_init 0 = .ok (.aload_n 0, 1) := by decide +kernel
theorem dX3_init_1 : decode cX3_init 1 = .ok (.invokespecial 3, 3) := by decide +kernel
theorem dX3_init_4 : decode cX3_init 4 = .ok (.aload_n 0, 1) := by decide +kernel
theorem dX3_init_5 : decode cX3_init 5 = .ok (.iconst 0, 1) := by decide +kernel
theorem dX3_init_6 : decode cX3_init 6 = .ok (.putfield 9, 3) := by decide +kernel
theorem dX3_init_9 : decode cX3_init 9 = .ok (.aload_n 0, 1) := by decide +kernel
theorem dX3_init_10 : decode cX3_init 10 = .ok (.iconst 0, 1) := by decide +kernel
theorem dX3_init_11 : decode cX3_init 11 = .ok (.putfield 15, 3) := by decide +kernel
theorem dX3_init_14 : decode cX3_init 14 = .ok (.aload_n 0, 1) := by decide +kernel
theorem dX3_init_15 : decode cX3_init 15 = .ok (.bipush 7, 2) := by decide +kernel
theorem dX3_init_17 : decode cX3_init 17 = .ok (.putfield 18, 3) := by decide +kernel
theorem dX3_init_20 : decode cX3_init 20 = .ok (.aload_n 0, 1) := by decide +kernel
theorem dX3_init_21 : decode cX3_init 21 = .ok (.bipush 7, 2) := by decide +kernel
theorem dX3_init_23 : decode cX3_init 23 = .ok (.newarray .int, 2) := by decide +kernel
theorem dX3_init_25 : decode cX3_init 25 = .ok (.putfield 21, 3) := by decide +kernel
theorem dX3_init_28 : decode cX3_init 28 = .ok (.aload_n 0, 1) := by decide +kernel
theorem dX3_init_29 : decode cX3_init 29 = .ok (.bipush 8, 2) := by decide +kernel
theorem dX3_init_31 : decode cX3_init 31 = .ok (.newarray .int, 2) := by decide +kernel
theorem dX3_init_33 : decode cX3_init 33 = .ok (.putfield 25, 3) := by decide +kernel
theorem dX3_init_36 : decode cX3_init 36 = .ok (.aload_n 0, 1) := by decide +kernel
theorem dX3_init_37 : decode cX3_init 37 = .ok (.bipush 7, 2) := by decide +kernel
theorem dX3_init_39 : decode cX3_init 39 = .ok (.bipush 8, 2) := by decide +kernel
theorem dX3_init_41 : decode cX3_init 41 = .ok (.multianewarray 28 2, 4) := by decide +kernel
theorem dX3_init_45 : decode cX3_init 45 = .ok (.putfield 30, 3) := by decide +kernel
theorem dX3_init_48 : decode cX3_init 48 = .ok (.aload_n 0, 1) := by decide +kernel
theorem dX3_init_49 : decode cX3_init 49 = .ok (.bipush 7, 2) := by decide +kernel
theorem dX3_init_51 : decode cX3_init 51 = .ok (.newarray .int, 2) := by decide +kernel
theorem dX3_init_53 : decode cX3_init 53 = .ok (.putfield 33, 3) := by decide +kernel
theorem dX3_init_56 : decode cX3_init 56 = .ok (.return_, 1) := by decide +kernel
theorem dX3_copyFrom_0 : decode cX3_copyFrom 0 = .ok (.aload_n 0, 1) := by decide +kernel
theorem dX3_copyFrom_1 : decode cX3_copyFrom 1 = .ok (.aload_n 1, 1) := by decide +kernel
theorem dX3_copyFrom_2 : decode cX3_copyFrom 2 = .ok (.getfield 9, 3) := by decide +kernel
theorem dX3_copyFrom_5 : decode cX3_copyFrom 5 = .ok (.putfield 9, 3) := by decide +kernel
theorem dX3_copyFrom_8 : decode cX3_copyFrom 8 = .ok (.aload_n 0, 1) := by decide +kernel
theorem dX3_copyFrom_9 : decode cX3_copyFrom 9 = .ok (.aload_n 1, 1) := by decide +kernel
theorem dX3_copyFrom_10 : decode cX3_copyFrom 10 = .ok (.getfield 15, 3) := by decide +kernel
theorem dX3_copyFrom_13 : decode cX3_copyFrom 13 = .ok (.putfield 15, 3) := by decide +kernel
theorem dX3_copyFrom_16 : decode cX3_copyFrom 16 = .ok (.aload_n 0, 1) := by decide +kernel
theorem dX3_copyFrom_17 : decode cX3_copyFrom 17 = .ok (.aload_n 1, 1) := by decide +kernel
theorem dX3_copyFrom_18 : decode cX3_copyFrom 18 = .ok (.getfield 18, 3) := by decide +kernel
theorem dX3_copyFrom_21 : decode cX3_copyFrom 21 = .ok (.putfield 18, 3) := by decide +kernel
theorem dX3_copyFrom_24 : decode cX3_copyFrom 24 = .ok (.iconst 0, 1) := by decide +kernel
theorem dX3_copyFrom_25 : decode cX3_copyFrom 25 = .ok (.istore_n 2, 1) := by decide +kernel
theorem dX3_copyFrom_26 : decode cX3_copyFrom 26 = .ok (.iload_n 2, 1) := by decide +kernel
theorem dX3_copyFrom_27 : decode cX3_copyFrom 27 = .ok (.bipush 7, 2) := by decide +kernel
theorem dX3_copyFrom_29 : decode cX3_copyFrom 29 = .ok (.if_icmp .ge 63, 3) := by decide +kernel
theorem dX3_copyFrom_32 : decode cX3_copyFrom 32 = .ok (.aload_n 0, 1) := by decide +kernel
theorem dX3_copyFrom_33 : decode cX3_copyFrom 33 = .ok (.getfield 21, 3) := by decide +kernel
theorem dX3_copyFrom_36 : decode cX3_copyFrom 36 = .ok (.iload_n 2, 1) := by decide +kernel
theorem dX3_copyFrom_37 : decode cX3_copyFrom 37 = .ok (.aload_n 1, 1) := by decide +kernel
theorem dX3_copyFrom_38 : decode cX3_copyFrom 38 = .ok (.getfield 21, 3) := by decide +kernel
theorem dX3_copyFrom_41 : decode cX3_copyFrom 41 = .ok (.iload_n 2, 1) := by decide +kernel
theorem dX3_copyFrom_42 : decode cX3_copyFrom 42 = .ok (.iaload, 1) := by decide +kernel
theorem dX3_copyFrom_43 : decode cX3_copyFrom 43 = .ok (.iastore, 1) := by decide +kernel
theorem dX3_copyFrom_44 : decode cX3_copyFrom 44 = .ok (.aload_n 0, 1) := by decide +kernel
theorem dX3_copyFrom_45 : decode cX3_copyFrom 45 = .ok (.getfield 33, 3) := by decide +kernel
theorem dX3_copyFrom_48 : decode cX3_copyFrom 48 = .ok (.iload_n 2, 1) := by decide +kernel
theorem dX3_copyFrom_49 : decode cX3_copyFrom 49 = .ok (.aload_n 1, 1) := by decide +kernel
theorem dX3_copyFrom_50 : decode cX3_copyFrom 50 = .ok (.getfield 33, 3) := by decide +kernel
theorem dX3_copyFrom_53 : decode cX3_copyFrom 53 = .ok (.iload_n 2, 1) := by decide +kernel
theorem dX3_copyFrom_54 : decode cX3_copyFrom 54 = .ok (.iaload, 1) := by decide +kernel
theorem dX3_copyFrom_55 : decode cX3_copyFrom 55 = .ok (.iastore, 1) := by decide +kernel
theorem dX3_copyFrom_56 : decode cX3_copyFrom 56 = .ok (.iconst 0, 1) := by decide +kernel
theorem dX3_copyFrom_57 : decode cX3_copyFrom 57 = .ok (.istore_n 3, 1) := by decide +kernel
theorem dX3_copyFrom_58 : decode cX3_copyFrom 58 = .ok (.iload_n 3, 1) := by decide +kernel
theorem dX3_copyFrom_59 : decode cX3_copyFrom 59 = .ok (.bipush 8, 2) := by decide +kernel
theorem dX3_copyFrom_61 : decode cX3_copyFrom 61 = .ok (.if_icmp .ge 25, 3) := by decide +kernel
theorem dX3_copyFrom_64 : decode cX3_copyFrom 64 = .ok (.aload_n 0, 1) := by decide +kernel
theorem dX3_copyFrom_65 : decode cX3_copyFrom 65 = .ok (.getfield 30, 3) := by decide +kernel
theorem dX3_copyFrom_68 : decode cX3_copyFrom 68 = .ok (.iload_n 2, 1) := by decide +kernel
theorem dX3_copyFrom_69 : decode cX3_copyFrom 69 = .ok (.aaload, 1) := by decide +kernel
theorem dX3_copyFrom_70 : decode cX3_copyFrom 70 = .ok (.iload_n 3, 1) := by decide +kernel
theorem dX3_copyFrom_71 : decode cX3_copyFrom 71 = .ok (.aload_n 1, 1) := by decide +kernel
theorem dX3_copyFrom_72 : decode cX3_copyFrom 72 = .ok (.getfield 30, 3) := by decide +kernel
theorem dX3_copyFrom_75 : decode cX3_copyFrom 75 = .ok (.iload_n 2, 1) := by decide +kernel
theorem dX3_copyFrom_76 : decode cX3_copyFrom 76 = .ok (.aaload, 1) := by decide +kernel
theorem dX3_copyFrom_77 : decode cX3_copyFrom 77 = .ok (.iload_n 3, 1) := by decide +kernel
theorem dX3_copyFrom_78 : decode cX3_copyFrom 78 = .ok (.iaload, 1) := by decide +kernel
theorem dX3_copyFrom_79 : decode cX3_copyFrom 79 = .ok (.iastore, 1) := by decide +kernel
theorem dX3_copyFrom_80 : decode cX3_copyFrom 80 = .ok (.iinc 3 1, 3) := by decide +kernel
theorem dX3_copyFrom_83 : decode cX3_copyFrom 83 = .ok (.goto (-25), 3) := by decide +kernel
theorem dX3_copyFrom_86 : decode cX3_copyFrom 86 = .ok (.iinc 2 1, 3) := by decide +kernel
theorem dX3_copyFrom_89 : decode cX3_copyFrom 89 = .ok (.goto (-63), 3) := by decide +kernel
theorem dX3_copyFrom_92 : decode cX3_copyFrom 92 = .ok (.iconst 0, 1) := by decide +kernel
theorem dX3_copyFrom_93 : decode cX3_copyFrom 93 = .ok (.istore_n 2, 1) := by decide +kernel
theorem dX3_copyFrom_94 : decode cX3_copyFrom 94 = .ok (.iload_n 2, 1) := by decide +kernel
theorem dX3_copyFrom_95 : decode cX3_copyFrom 95 = .ok (.bipush 8, 2) := by decide +kernel
theorem dX3_copyFrom_97 : decode cX3_copyFrom 97 = .ok (.if_icmp .ge 21, 3) := by decide +kernel
theorem dX3_copyFrom_100 : decode cX3_copyFrom 100 = .ok (.aload_n 0, 1) := by decide +kernel
theorem dX3_copyFrom_101 : decode cX3_copyFrom 101 = .ok (.getfield 25, 3) := by decide +kernel
theorem dX3_copyFrom_104 : decode cX3_copyFrom 104 = .ok (.iload_n 2, 1) := by decide +kernel
theorem dX3_copyFrom_105 : decode cX3_copyFrom 105 = .ok (.aload_n 1, 1) := by decide +kernel
theorem dX3_copyFrom_106 : decode cX3_copyFrom 106 = .ok (.getfield 25, 3) := by decide +kernel
theorem dX3_copyFrom_109 : decode cX3_copyFrom 109 = .ok (.iload_n 2, 1) := by decide +kernel
theorem dX3_copyFrom_110 : decode cX3_copyFrom 110 = .ok (.iaload, 1) := by decide +kernel
theorem dX3_copyFrom_111 : decode cX3_copyFrom 111 = .ok (.iastore, 1) := by decide +kernel
theorem dX3_copyFrom_112 : decode cX3_copyFrom 112 = .ok (.iinc 2 1, 3) := by decide +kernel
theorem dX3_copyFrom_115 : decode cX3_copyFrom 115 = .ok (.goto (-21), 3) := by decide +kernel
theorem dX3_copyFrom_118 : decode cX3_copyFrom 118 = .ok (.return_, 1) := by decide +kernel
theorem dX3_isSite_0 : decode cX3_isSite 0 = .ok (.iload_n 1, 1) := by decide +kernel
theorem dX3_isSite_1 : decode cX3_isSite 1 = .ok (.ifCond .lt 15, 3) := by decide +kernel
theorem dX3_isSite_4 : decode cX3_isSite 4 = .ok (.iload_n 1, 1) := by decide +kernel
theorem dX3_isSite_5 : decode cX3_isSite 5 = .ok (.aload_n 0, 1) := by decide +kernel
theorem dX3_isSite_6 : decode cX3_isSite 6 = .ok (.getfield 9, 3) := by decide +kernel
theorem dX3_isSite_9 : decode cX3_isSite 9 = .ok (.if_icmp .ge 7, 3) := by decide +kernel
theorem dX3_isSite_12 : decode cX3_isSite 12 = .ok (.iconst 1, 1) := by decide +kernel
theorem dX3_isSite_13 : decode cX3_isSite 13 = .ok (.goto 4, 3) := by decide +kernel
theorem dX3_isSite_16 : decode cX3_isSite 16 = .ok (.iconst 0, 1) := by decide +kernel
theorem dX3_isSite_17 : decode cX3_isSite 17 = .ok (.ireturn, 1) := by decide +kernel
theorem dX3_isCustomer_0 : decode cX3_isCustomer 0 = .ok (.iload_n 1, 1) := by decide +kernel
theorem dX3_isCustomer_1 : decode cX3_isCustomer 1 = .ok (.ifCond .lt 15, 3) := by decide +kernel
theorem dX3_isCustomer_4 : decode cX3_isCustomer 4 = .ok (.iload_n 1, 1) := by decide +kernel
theorem dX3_isCustomer_5 : decode cX3_isCustomer 5 = .ok (.aload_n 0, 1) := by decide +kernel
theorem dX3_isCustomer_6 : decode cX3_isCustomer 6 = .ok (.getfield 15, 3) := by decide +kernel
theorem dX3_isCustomer_9 : decode cX3_isCustomer 9 = .ok (.if_icmp .ge 7, 3) := by decide +kernel
theorem dX3_isCustomer_12 : decode cX3_isCustomer 12 = .ok (.iconst 1, 1) := by decide +kernel
theorem dX3_isCustomer_13 : decode cX3_isCustomer 13 = .ok (.goto 4, 3) := by decide +kernel
theorem dX3_isCustomer_16 : decode cX3_isCustomer 16 = .ok (.iconst 0, 1) := by decide +kernel
theorem dX3_isCustomer_17 : decode cX3_isCustomer 17 = .ok (.ireturn, 1) := by decide +kernel
theorem dX3_isPlan_0 : decode cX3_isPlan 0 = .ok (.iload_n 1, 1) := by decide +kernel
theorem dX3_isPlan_1 : decode cX3_isPlan 1 = .ok (.ifCond .lt 15, 3) := by decide +kernel
theorem dX3_isPlan_4 : decode cX3_isPlan 4 = .ok (.iload_n 1, 1) := by decide +kernel
theorem dX3_isPlan_5 : decode cX3_isPlan 5 = .ok (.aload_n 0, 1) := by decide +kernel
theorem dX3_isPlan_6 : decode cX3_isPlan 6 = .ok (.invokevirtual 36, 3) := by decide +kernel
theorem dX3_isPlan_9 : decode cX3_isPlan 9 = .ok (.if_icmp .ge 7, 3) := by decide +kernel
theorem dX3_isPlan_12 : decode cX3_isPlan 12 = .ok (.iconst 1, 1) := by decide +kernel
theorem dX3_isPlan_13 : decode cX3_isPlan 13 = .ok (.goto 4, 3) := by decide +kernel
theorem dX3_isPlan_16 : decode cX3_isPlan 16 = .ok (.iconst 0, 1) := by decide +kernel
theorem dX3_isPlan_17 : decode cX3_isPlan 17 = .ok (.ireturn, 1) := by decide +kernel
theorem dX3_planCount_0 : decode cX3_planCount 0 = .ok (.iconst 1, 1) := by decide +kernel
theorem dX3_planCount_1 : decode cX3_planCount 1 = .ok (.aload_n 0, 1) := by decide +kernel
theorem dX3_planCount_2 : decode cX3_planCount 2 = .ok (.getfield 9, 3) := by decide +kernel
theorem dX3_planCount_5 : decode cX3_planCount 5 = .ok (.ishl, 1) := by decide +kernel
theorem dX3_planCount_6 : decode cX3_planCount 6 = .ok (.ireturn, 1) := by decide +kernel
theorem dX3_appendSite_0 : decode cX3_appendSite 0 = .ok (.aload_n 0, 1) := by decide +kernel
theorem dX3_appendSite_1 : decode cX3_appendSite 1 = .ok (.getfield 9, 3) := by decide +kernel
theorem dX3_appendSite_4 : decode cX3_appendSite 4 = .ok (.istore_n 2, 1) := by decide +kernel
theorem dX3_appendSite_5 : decode cX3_appendSite 5 = .ok (.iload_n 2, 1) := by decide +kernel
theorem dX3_appendSite_6 : decode cX3_appendSite 6 = .ok (.bipush 7, 2) := by decide +kernel
theorem dX3_appendSite_8 : decode cX3_appendSite 8 = .ok (.if_icmp .lt 6, 3) := by decide +kernel
theorem dX3_appendSite_11 : decode cX3_appendSite 11 = .ok (.bipush (-3), 2) := by decide +kernel
theorem dX3_appendSite_13 : decode cX3_appendSite 13 = .ok (.ireturn, 1) := by decide +kernel
theorem dX3_appendSite_14 : decode cX3_appendSite 14 = .ok (.aload_n 0, 1) := by decide +kernel
theorem dX3_appendSite_15 : decode cX3_appendSite 15 = .ok (.getfield 21, 3) := by decide +kernel
theorem dX3_appendSite_18 : decode cX3_appendSite 18 = .ok (.iload_n 2, 1) := by decide +kernel
theorem dX3_appendSite_19 : decode cX3_appendSite 19 = .ok (.iload_n 1, 1) := by decide +kernel
theorem dX3_appendSite_20 : decode cX3_appendSite 20 = .ok (.iastore, 1) := by decide +kernel
theorem dX3_appendSite_21 : decode cX3_appendSite 21 = .ok (.aload_n 0, 1) := by decide +kernel
theorem dX3_appendSite_22 : decode cX3_appendSite 22 = .ok (.getfield 33, 3) := by decide +kernel
theorem dX3_appendSite_25 : decode cX3_appendSite 25 = .ok (.iload_n 2, 1) := by decide +kernel
theorem dX3_appendSite_26 : decode cX3_appendSite 26 = .ok (.iconst 0, 1) := by decide +kernel
theorem dX3_appendSite_27 : decode cX3_appendSite 27 = .ok (.iastore, 1) := by decide +kernel
theorem dX3_appendSite_28 : decode cX3_appendSite 28 = .ok (.iconst 0, 1) := by decide +kernel
theorem dX3_appendSite_29 : decode cX3_appendSite 29 = .ok (.istore_n 3, 1) := by decide +kernel
theorem dX3_appendSite_30 : decode cX3_appendSite 30 = .ok (.iload_n 3, 1) := by decide +kernel
theorem dX3_appendSite_31 : decode cX3_appendSite 31 = .ok (.aload_n 0, 1) := by decide +kernel
theorem dX3_appendSite_32 : decode cX3_appendSite 32 = .ok (.getfield 15, 3) := by decide +kernel
theorem dX3_appendSite_35 : decode cX3_appendSite 35 = .ok (.if_icmp .ge 19, 3) := by decide +kernel
theorem dX3_appendSite_38 : decode cX3_appendSite 38 = .ok (.aload_n 0, 1) := by decide +kernel
theorem dX3_appendSite_39 : decode cX3_appendSite 39 = .ok (.getfield 30, 3) := by decide +kernel
theorem dX3_appendSite_42 : decode cX3_appendSite 42 = .ok (.iload_n 2, 1) := by decide +kernel
theorem dX3_appendSite_43 : decode cX3_appendSite 43 = .ok (.aaload, 1) := by decide +kernel
theorem dX3_appendSite_44 : decode cX3_appendSite 44 = .ok (.iload_n 3, 1) := by decide +kernel
theorem dX3_appendSite_45 : decode cX3_appendSite 45 = .ok (.bipush 100, 2) := by decide +kernel
theorem dX3_appendSite_47 : decode cX3_appendSite 47 = .ok (.iastore, 1) := by decide +kernel
theorem dX3_appendSite_48 : decode cX3_appendSite 48 = .ok (.iinc 3 1, 3) := by decide +kernel
theorem dX3_appendSite_51 : decode cX3_appendSite 51 = .ok (.goto (-21), 3) := by decide +kernel
theorem dX3_appendSite_54 : decode cX3_appendSite 54 = .ok (.aload_n 0, 1) := by decide +kernel
theorem dX3_appendSite_55 : decode cX3_appendSite 55 = .ok (.dup, 1) := by decide +kernel
theorem dX3_appendSite_56 : decode cX3_appendSite 56 = .ok (.getfield 9, 3) := by decide +kernel
theorem dX3_appendSite_59 : decode cX3_appendSite 59 = .ok (.iconst 1, 1) := by decide +kernel
theorem dX3_appendSite_60 : decode cX3_appendSite 60 = .ok (.iadd, 1) := by decide +kernel
theorem dX3_appendSite_61 : decode cX3_appendSite 61 = .ok (.putfield 9, 3) := by decide +kernel
theorem dX3_appendSite_64 : decode cX3_appendSite 64 = .ok (.iload_n 2, 1) := by decide +kernel
theorem dX3_appendSite_65 : decode cX3_appendSite 65 = .ok (.ireturn, 1) := by decide +kernel
theorem dX3_appendCustomer_0 : decode cX3_appendCustomer 0 = .ok (.aload_n 0, 1) := by decide +kernel
theorem dX3_appendCustomer_1 : decode cX3_appendCustomer 1 = .ok (.getfield 15, 3) := by decide +kernel
theorem dX3_appendCustomer_4 : decode cX3_appendCustomer 4 = .ok (.istore_n 2, 1) := by decide +kernel
theorem dX3_appendCustomer_5 : decode cX3_appendCustomer 5 = .ok (.iload_n 2, 1) := by decide +kernel
theorem dX3_appendCustomer_6 : decode cX3_appendCustomer 6 = .ok (.bipush 8, 2) := by decide +kernel
theorem dX3_appendCustomer_8 : decode cX3_appendCustomer 8 = .ok (.if_icmp .lt 6, 3) := by decide +kernel
theorem dX3_appendCustomer_11 : decode cX3_appendCustomer 11 = .ok (.bipush (-3), 2) := by decide +kernel
theorem dX3_appendCustomer_13 : decode cX3_appendCustomer 13 = .ok (.ireturn, 1) := by decide +kernel
theorem dX3_appendCustomer_14 : decode cX3_appendCustomer 14 = .ok (.aload_n 0, 1) := by decide +kernel
theorem dX3_appendCustomer_15 : decode cX3_appendCustomer 15 = .ok (.getfield 25, 3) := by decide +kernel
theorem dX3_appendCustomer_18 : decode cX3_appendCustomer 18 = .ok (.iload_n 2, 1) := by decide +kernel
theorem dX3_appendCustomer_19 : decode cX3_appendCustomer 19 = .ok (.iload_n 1, 1) := by decide +kernel
theorem dX3_appendCustomer_20 : decode cX3_appendCustomer 20 = .ok (.iastore, 1) := by decide +kernel
theorem dX3_appendCustomer_21 : decode cX3_appendCustomer 21 = .ok (.iconst 0, 1) := by decide +kernel
theorem dX3_appendCustomer_22 : decode cX3_appendCustomer 22 = .ok (.istore_n 3, 1) := by decide +kernel
theorem dX3_appendCustomer_23 : decode cX3_appendCustomer 23 = .ok (.iload_n 3, 1) := by decide +kernel
theorem dX3_appendCustomer_24 : decode cX3_appendCustomer 24 = .ok (.aload_n 0, 1) := by decide +kernel
theorem dX3_appendCustomer_25 : decode cX3_appendCustomer 25 = .ok (.getfield 9, 3) := by decide +kernel
theorem dX3_appendCustomer_28 : decode cX3_appendCustomer 28 = .ok (.if_icmp .ge 19, 3) := by decide +kernel
theorem dX3_appendCustomer_31 : decode cX3_appendCustomer 31 = .ok (.aload_n 0, 1) := by decide +kernel
theorem dX3_appendCustomer_32 : decode cX3_appendCustomer 32 = .ok (.getfield 30, 3) := by decide +kernel
theorem dX3_appendCustomer_35 : decode cX3_appendCustomer 35 = .ok (.iload_n 3, 1) := by decide +kernel
theorem dX3_appendCustomer_36 : decode cX3_appendCustomer 36 = .ok (.aaload, 1) := by decide +kernel
theorem dX3_appendCustomer_37 : decode cX3_appendCustomer 37 = .ok (.iload_n 2, 1) := by decide +kernel
theorem dX3_appendCustomer_38 : decode cX3_appendCustomer 38 = .ok (.bipush 100, 2) := by decide +kernel
theorem dX3_appendCustomer_40 : decode cX3_appendCustomer 40 = .ok (.iastore, 1) := by decide +kernel
theorem dX3_appendCustomer_41 : decode cX3_appendCustomer 41 = .ok (.iinc 3 1, 3) := by decide +kernel
theorem dX3_appendCustomer_44 : decode cX3_appendCustomer 44 = .ok (.goto (-21), 3) := by decide +kernel
theorem dX3_appendCustomer_47 : decode cX3_appendCustomer 47 = .ok (.aload_n 0, 1) := by decide +kernel
theorem dX3_appendCustomer_48 : decode cX3_appendCustomer 48 = .ok (.dup, 1) := by decide +kernel
theorem dX3_appendCustomer_49 : decode cX3_appendCustomer 49 = .ok (.getfield 15, 3) := by decide +kernel
theorem dX3_appendCustomer_52 : decode cX3_appendCustomer 52 = .ok (.iconst 1, 1) := by decide +kernel
theorem dX3_appendCustomer_53 : decode cX3_appendCustomer 53 = .ok (.iadd, 1) := by decide +kernel
theorem dX3_appendCustomer_54 : decode cX3_appendCustomer 54 = .ok (.putfield 15, 3) := by decide +kernel
theorem dX3_appendCustomer_57 : decode cX3_appendCustomer 57 = .ok (.iload_n 2, 1) := by decide +kernel
theorem dX3_appendCustomer_58 : decode cX3_appendCustomer 58 = .ok (.ireturn, 1) := by decide +kernel
theorem dX3_areExcluding_0 : decode cX3_areExcluding 0 = .ok (.aload_n 0, 1) := by decide +kernel
theorem dX3_areExcluding_1 : decode cX3_areExcluding 1 = .ok (.getfield 33, 3) := by decide +kernel
theorem dX3_areExcluding_4 : decode cX3_areExcluding 4 = .ok (.iload_n 1, 1) := by decide +kernel
theorem dX3_areExcluding_5 : decode cX3_areExcluding 5 = .ok (.iaload, 1) := by decide +kernel
theorem dX3_areExcluding_6 : decode cX3_areExcluding 6 = .ok (.iload_n 2, 1) := by decide +kernel
theorem dX3_areExcluding_7 : decode cX3_areExcluding 7 = .ok (.invokestatic 40, 3) := by decide +kernel
theorem dX3_areExcluding_10 : decode cX3_areExcluding 10 = .ok (.ireturn, 1) := by decide +kernel
theorem dX3_turnExclusion_0 : decode cX3_turnExclusion 0 = .ok (.aload_n 0, 1) := by decide +kernel
theorem dX3_turnExclusion_1 : decode cX3_turnExclusion 1 = .ok (.getfield 33, 3) := by decide +kernel
theorem dX3_turnExclusion_4 : decode cX3_turnExclusion 4 = .ok (.iload_n 1, 1) := by decide +kernel
theorem dX3_turnExclusion_5 : decode cX3_turnExclusion 5 = .ok (.dup2, 1) := by decide +kernel
theorem dX3_turnExclusion_6 : decode cX3_turnExclusion 6 = .ok (.iaload, 1) := by decide +kernel
theorem dX3_turnExclusion_7 : decode cX3_turnExclusion 7 = .ok (.iconst 1, 1) := by decide +kernel
theorem dX3_turnExclusion_8 : decode cX3_turnExclusion 8 = .ok (.iload_n 2, 1) := by decide +kernel
theorem dX3_turnExclusion_9 : decode cX3_turnExclusion 9 = .ok (.ishl, 1) := by decide +kernel
theorem dX3_turnExclusion_10 : decode cX3_turnExclusion 10 = .ok (.ixor, 1) := by decide +kernel
theorem dX3_turnExclusion_11 : decode cX3_turnExclusion 11 = .ok (.iastore, 1) := by decide +kernel
theorem dX3_turnExclusion_12 : decode cX3_turnExclusion 12 = .ok (.aload_n 0, 1) := by decide +kernel
theorem dX3_turnExclusion_13 : decode cX3_turnExclusion 13 = .ok (.getfield 33, 3) := by decide +kernel
theorem dX3_turnExclusion_16 : decode cX3_turnExclusion 16 = .ok (.iload_n 2, 1) := by decide +kernel
theorem dX3_turnExclusion_17 : decode cX3_turnExclusion 17 = .ok (.dup2, 1) := by decide +kernel
theorem dX3_turnExclusion_18 : decode cX3_turnExclusion 18 = .ok (.iaload, 1) := by decide +kernel
theorem dX3_turnExclusion_19 : decode cX3_turnExclusion 19 = .ok (.iconst 1, 1) := by decide +kernel
theorem dX3_turnExclusion_20 : decode cX3_turnExclusion 20 = .ok (.iload_n 1, 1) := by decide +kernel
theorem dX3_turnExclusion_21 : decode cX3_turnExclusion 21 = .ok (.ishl, 1) := by decide +kernel
theorem dX3_turnExclusion_22 : decode cX3_turnExclusion 22 = .ok (.ixor, 1) := by decide +kernel
theorem dX3_turnExclusion_23 : decode cX3_turnExclusion 23 = .ok (.iastore, 1) := by decide +kernel
theorem dX3_turnExclusion_24 : decode cX3_turnExclusion 24 = .ok (.return_, 1) := by decide +kernel
theorem dX3_hasRoute_0 : decode cX3_hasRoute 0 = .ok (.aload_n 0, 1) := by decide +kernel
theorem dX3_hasRoute_1 : decode cX3_hasRoute 1 = .ok (.getfield 30, 3) := by decide +kernel
theorem dX3_hasRoute_4 : decode cX3_hasRoute 4 = .ok (.iload_n 1, 1) := by decide +kernel
theorem dX3_hasRoute_5 : decode cX3_hasRoute 5 = .ok (.aaload, 1) := by decide +kernel
theorem dX3_hasRoute_6 : decode cX3_hasRoute 6 = .ok (.iload_n 2, 1) := by decide +kernel
theorem dX3_hasRoute_7 : decode cX3_hasRoute 7 = .ok (.iaload, 1) := by decide +kernel
theorem dX3_hasRoute_8 : decode cX3_hasRoute 8 = .ok (.bipush 100, 2) := by decide +kernel
theorem dX3_hasRoute_10 : decode cX3_hasRoute 10 = .ok (.if_icmp .eq 7, 3) := by decide +kernel
theorem dX3_hasRoute_13 : decode cX3_hasRoute 13 = .ok (.iconst 1, 1) := by decide +kernel
theorem dX3_hasRoute_14 : decode cX3_hasRoute 14 = .ok (.goto 4, 3) := by decide +kernel
theorem dX3_hasRoute_17 : decode cX3_hasRoute 17 = .ok (.iconst 0, 1) := by decide +kernel
theorem dX3_hasRoute_18 : decode cX3_hasRoute 18 = .ok (.ireturn, 1) := by decide +kernel
theorem dX3_isAllowed_0 : decode cX3_isAllowed 0 = .ok (.iload_n 1, 1) := by decide +kernel
theorem dX3_isAllowed_1 : decode cX3_isAllowed 1 = .ok (.invokestatic 44, 3) := by decide +kernel
theorem dX3_isAllowed_4 : decode cX3_isAllowed 4 = .ok (.aload_n 0, 1) := by decide +kernel
theorem dX3_isAllowed_5 : decode cX3_isAllowed 5 = .ok (.getfield 18, 3) := by decide +kernel
theorem dX3_isAllowed_8 : decode cX3_isAllowed 8 = .ok (.if_icmp .gt 15, 3) := by decide +kernel
theorem dX3_isAllowed_11 : decode cX3_isAllowed 11 = .ok (.aload_n 0, 1) := by decide +kernel
theorem dX3_isAllowed_12 : decode cX3_isAllowed 12 = .ok (.iload_n 1, 1) := by decide +kernel
theorem dX3_isAllowed_13 : decode cX3_isAllowed 13 = .ok (.invokevirtual 50, 3) := by decide +kernel
theorem dX3_isAllowed_16 : decode cX3_isAllowed 16 = .ok (.ifCond .ne 7, 3) := by decide +kernel
theorem dX3_isAllowed_19 : decode cX3_isAllowed 19 = .ok (.iconst 1, 1) := by decide +kernel
theorem dX3_isAllowed_20 : decode cX3_isAllowed 20 = .ok (.goto 4, 3) := by decide +kernel
theorem dX3_isAllowed_23 : decode cX3_isAllowed 23 = .ok (.iconst 0, 1) := by decide +kernel
theorem dX3_isAllowed_24 : decode cX3_isAllowed 24 = .ok (.ireturn, 1) := by decide +kernel
theorem dX3_hasExcludingSites_0 : decode cX3_hasExcludingSites 0 = .ok (.iconst 0, 1) := by decide +kernel
theorem dX3_hasExcludingSites_1 : decode cX3_hasExcludingSites 1 = .ok (.istore_n 2, 1) := by decide +kernel
theorem dX3_hasExcludingSites_2 : decode cX3_hasExcludingSites 2 = .ok (.iload_n 2, 1) := by decide +kernel
theorem dX3_hasExcludingSites_3 : decode cX3_hasExcludingSites 3 = .ok (.aload_n 0, 1) := by decide +kernel
theorem dX3_hasExcludingSites_4 : decode cX3_hasExcludingSites 4 = .ok (.getfield 9, 3) := by decide +kernel
theorem dX3_hasExcludingSites_7 : decode cX3_hasExcludingSites 7 = .ok (.if_icmp .ge 30, 3) := by decide +kernel
theorem dX3_hasExcludingSites_10 : decode cX3_hasExcludingSites 10 = .ok (.iload_n 1, 1) := by decide +kernel
theorem dX3_hasExcludingSites_11 : decode cX3_hasExcludingSites 11 = .ok (.iload_n 2, 1) := by decide +kernel
theorem dX3_hasExcludingSites_12 : decode cX3_hasExcludingSites 12 = .ok (.invokestatic 40, 3) := by decide +kernel
theorem dX3_hasExcludingSites_15 : decode cX3_hasExcludingSites 15 = .ok (.ifCond .eq 16, 3) := by decide +kernel
theorem dX3_hasExcludingSites_18 : decode cX3_hasExcludingSites 18 = .ok (.iload_n 1, 1) := by decide +kernel
theorem dX3_hasExcludingSites_19 : decode cX3_hasExcludingSites 19 = .ok (.aload_n 0, 1) := by decide +kernel
theorem dX3_hasExcludingSites_20 : decode cX3_hasExcludingSites 20 = .ok (.getfield 33, 3) := by decide +kernel
theorem dX3_hasExcludingSites_23 : decode cX3_hasExcludingSites 23 = .ok (.iload_n 2, 1) := by decide +kernel
theorem dX3_hasExcludingSites_24 : decode cX3_hasExcludingSites 24 = .ok (.iaload, 1) := by decide +kernel
theorem dX3_hasExcludingSites_25 : decode cX3_hasExcludingSites 25 = .ok (.iand, 1) := by decide +kernel
theorem dX3_hasExcludingSites_26 : decode cX3_hasExcludingSites 26 = .ok (.ifCond .eq 5, 3) := by decide +kernel
theorem dX3_hasExcludingSites_29 : decode cX3_hasExcludingSites 29 = .ok (.iconst 1, 1) := by decide +kernel
theorem dX3_hasExcludingSites_30 : decode cX3_hasExcludingSites 30 = .ok (.ireturn, 1) := by decide +kernel
theorem dX3_hasExcludingSites_31 : decode cX3_hasExcludingSites 31 = .ok (.iinc 2 1, 3) := by decide +kernel
theorem dX3_hasExcludingSites_34 : decode cX3_hasExcludingSites 34 = .ok (.goto (-32), 3) := by decide +kernel
theorem dX3_hasExcludingSites_37 : decode cX3_hasExcludingSites 37 = .ok (.iconst 0, 1) := by decide +kernel
theorem dX3_hasExcludingSites_38 : decode cX3_hasExcludingSites 38 = .ok (.ireturn, 1) := by decide +kernel
theorem dX3_verdictOf_0 : decode cX3_verdictOf 0 = .ok (.iload_n 1, 1) := by decide +kernel
theorem dX3_verdictOf_1 : decode cX3_verdictOf 1 = .ok (.invokestatic 44, 3) := by decide +kernel
theorem dX3_verdictOf_4 : decode cX3_verdictOf 4 = .ok (.aload_n 0, 1) := by decide +kernel
theorem dX3_verdictOf_5 : decode cX3_verdictOf 5 = .ok (.getfield 18, 3) := by decide +kernel
theorem dX3_verdictOf_8 : decode cX3_verdictOf 8 = .ok (.if_icmp .le 5, 3) := by decide +kernel
theorem dX3_verdictOf_11 : decode cX3_verdictOf 11 = .ok (.iconst 1, 1) := by decide +kernel
theorem dX3_verdictOf_12 : decode cX3_verdictOf 12 = .ok (.ireturn, 1) := by decide +kernel
theorem dX3_verdictOf_13 : decode cX3_verdictOf 13 = .ok (.aload_n 0, 1) := by decide +kernel
theorem dX3_verdictOf_14 : decode cX3_verdictOf 14 = .ok (.iload_n 1, 1) := by decide +kernel
theorem dX3_verdictOf_15 : decode cX3_verdictOf 15 = .ok (.invokevirtual 50, 3) := by decide +kernel
theorem dX3_verdictOf_18 : decode cX3_verdictOf 18 = .ok (.ifCond .eq 5, 3) := by decide +kernel
theorem dX3_verdictOf_21 : decode cX3_verdictOf 21 = .ok (.iconst 2, 1) := by decide +kernel
theorem dX3_verdictOf_22 : decode cX3_verdictOf 22 = .ok (.ireturn, 1) := by decide +kernel
theorem dX3_verdictOf_23 : decode cX3_verdictOf 23 = .ok (.aload_n 0, 1) := by decide +kernel
theorem dX3_verdictOf_24 : decode cX3_verdictOf 24 = .ok (.iload_n 1, 1) := by decide +kernel
theorem dX3_verdictOf_25 : decode cX3_verdictOf 25 = .ok (.invokevirtual 54, 3) := by decide +kernel
theorem dX3_verdictOf_28 : decode cX3_verdictOf 28 = .ok (.ifCond .eq 7, 3) := by decide +kernel
theorem dX3_verdictOf_31 : decode cX3_verdictOf 31 = .ok (.iconst 0, 1) := by decide +kernel
theorem dX3_verdictOf_32 : decode cX3_verdictOf 32 = .ok (.goto 4, 3) := by decide +kernel
theorem dX3_verdictOf_35 : decode cX3_verdictOf 35 = .ok (.iconst 3, 1) := by decide +kernel
theorem dX3_verdictOf_36 : decode cX3_verdictOf 36 = .ok (.ireturn, 1) := by decide +kernel
theorem dX3_leastRoutePrice_0 : decode cX3_leastRoutePrice 0 = .ok (.bipush 100, 2) := by decide +kernel
theorem dX3_leastRoutePrice_2 : decode cX3_leastRoutePrice 2 = .ok (.istore_n 3, 1) := by decide +kernel
theorem dX3_leastRoutePrice_3 : decode cX3_leastRoutePrice 3 = .ok (.iconst 0, 1) := by decide +kernel
theorem dX3_leastRoutePrice_4 : decode cX3_leastRoutePrice 4 = .ok (.istore 4, 2) := by decide +kernel
theorem dX3_leastRoutePrice_6 : decode cX3_leastRoutePrice 6 = .ok (.iload 4, 2) := by decide +kernel
theorem dX3_leastRoutePrice_8 : decode cX3_leastRoutePrice 8 = .ok (.aload_n 0, 1) := by decide +kernel
theorem dX3_leastRoutePrice_9 : decode cX3_leastRoutePrice 9 = .ok (.getfield 9, 3) := by decide +kernel
theorem dX3_leastRoutePrice_12 : decode cX3_leastRoutePrice 12 = .ok (.if_icmp .ge 32, 3) := by decide +kernel
theorem dX3_leastRoutePrice_15 : decode cX3_leastRoutePrice 15 = .ok (.iload_n 1, 1) := by decide +kernel
theorem dX3_leastRoutePrice_16 : decode cX3_leastRoutePrice 16 = .ok (.iload 4, 2) := by decide +kernel
theorem dX3_leastRoutePrice_18 : decode cX3_leastRoutePrice 18 = .ok (.invokestatic 40, 3) := by decide +kernel
theorem dX3_leastRoutePrice_21 : decode cX3_leastRoutePrice 21 = .ok (.ifCond .eq 17, 3) := by decide +kernel
theorem dX3_leastRoutePrice_24 : decode cX3_leastRoutePrice 24 = .ok (.iload_n 3, 1) := by decide +kernel
theorem dX3_leastRoutePrice_25 : decode cX3_leastRoutePrice 25 = .ok (.aload_n 0, 1) := by decide +kernel
theorem dX3_leastRoutePrice_26 : decode cX3_leastRoutePrice 26 = .ok (.getfield 30, 3) := by decide +kernel
theorem dX3_leastRoutePrice_29 : decode cX3_leastRoutePrice 29 = .ok (.iload 4, 2) := by decide +kernel
theorem dX3_leastRoutePrice_31 : decode cX3_leastRoutePrice 31 = .ok (.aaload, 1) := by decide +kernel
theorem dX3_leastRoutePrice_32 : decode cX3_leastRoutePrice 32 = .ok (.iload_n 2, 1) := by decide +kernel
theorem dX3_leastRoutePrice_33 : decode cX3_leastRoutePrice 33 = .ok (.iaload, 1) := by decide +kernel
theorem dX3_leastRoutePrice_34 : decode cX3_leastRoutePrice 34 = .ok (.invokestatic 57, 3) := by decide +kernel
theorem dX3_leastRoutePrice_37 : decode cX3_leastRoutePrice 37 = .ok (.istore_n 3, 1) := by decide +kernel
theorem dX3_leastRoutePrice_38 : decode cX3_leastRoutePrice 38 = .ok (.iinc 4 1, 3) := by decide +kernel
theorem dX3_leastRoutePrice_41 : decode cX3_leastRoutePrice 41 = .ok (.goto (-35), 3) := by decide +kernel
theorem dX3_leastRoutePrice_44 : decode cX3_leastRoutePrice 44 = .ok (.iload_n 3, 1) := by decide +kernel
theorem dX3_leastRoutePrice_45 : decode cX3_leastRoutePrice 45 = .ok (.ireturn, 1) := by decide +kernel
theorem dX3_cheapestSite_0 : decode cX3_cheapestSite 0 = .ok (.aload_n 0, 1) := by decide +kernel
theorem dX3_cheapestSite_1 : decode cX3_cheapestSite 1 = .ok (.iload_n 1, 1) := by decide +kernel
theorem dX3_cheapestSite_2 : decode cX3_cheapestSite 2 = .ok (.iload_n 2, 1) := by decide +kernel
theorem dX3_cheapestSite_3 : decode cX3_cheapestSite 3 = .ok (.invokevirtual 63, 3) := by decide +kernel
theorem dX3_cheapestSite_6 : decode cX3_cheapestSite 6 = .ok (.istore_n 3, 1) := by decide +kernel
theorem dX3_cheapestSite_7 : decode cX3_cheapestSite 7 = .ok (.iconst 0, 1) := by decide +kernel
theorem dX3_cheapestSite_8 : decode cX3_cheapestSite 8 = .ok (.istore 4, 2) := by decide +kernel
theorem dX3_cheapestSite_10 : decode cX3_cheapestSite 10 = .ok (.iload 4, 2) := by decide +kernel
theorem dX3_cheapestSite_12 : decode cX3_cheapestSite 12 = .ok (.aload_n 0, 1) := by decide +kernel
theorem dX3_cheapestSite_13 : decode cX3_cheapestSite 13 = .ok (.getfield 9, 3) := by decide +kernel
theorem dX3_cheapestSite_16 : decode cX3_cheapestSite 16 = .ok (.if_icmp .ge 44, 3) := by decide +kernel
theorem dX3_cheapestSite_19 : decode cX3_cheapestSite 19 = .ok (.iload_n 1, 1) := by decide +kernel
theorem dX3_cheapestSite_20 : decode cX3_cheapestSite 20 = .ok (.iload 4, 2) := by decide +kernel
theorem dX3_cheapestSite_22 : decode cX3_cheapestSite 22 = .ok (.invokestatic 40, 3) := by decide +kernel
theorem dX3_cheapestSite_25 : decode cX3_cheapestSite 25 = .ok (.ifCond .eq 29, 3) := by decide +kernel
theorem dX3_cheapestSite_28 : decode cX3_cheapestSite 28 = .ok (.aload_n 0, 1) := by decide +kernel
theorem dX3_cheapestSite_29 : decode cX3_cheapestSite 29 = .ok (.iload 4, 2) := by decide +kernel
theorem dX3_cheapestSite_31 : decode cX3_cheapestSite 31 = .ok (.iload_n 2, 1) := by decide +kernel
theorem dX3_cheapestSite_32 : decode cX3_cheapestSite 32 = .ok (.invokevirtual 66, 3) := by decide +kernel
theorem dX3_cheapestSite_35 : decode cX3_cheapestSite 35 = .ok (.ifCond .eq 19, 3) := by decide +kernel
theorem dX3_cheapestSite_38 : decode cX3_cheapestSite 38 = .ok (.aload_n 0, 1) := by decide +kernel
theorem dX3_cheapestSite_39 : decode cX3_cheapestSite 39 = .ok (.getfield 30, 3) := by decide +kernel
theorem dX3_cheapestSite_42 : decode cX3_cheapestSite 42 = .ok (.iload 4, 2) := by decide +kernel
theorem dX3_cheapestSite_44 : decode cX3_cheapestSite 44 = .ok (.aaload, 1) := by decide +kernel
theorem dX3_cheapestSite_45 : decode cX3_cheapestSite 45 = .ok (.iload_n 2, 1) := by decide +kernel
theorem dX3_cheapestSite_46 : decode cX3_cheapestSite 46 = .ok (.iaload, 1) := by decide +kernel
theorem dX3_cheapestSite_47 : decode cX3_cheapestSite 47 = .ok (.iload_n 3, 1) := by decide +kernel
theorem dX3_cheapestSite_48 : decode cX3_cheapestSite 48 = .ok (.if_icmp .ne 6, 3) := by decide +kernel
theorem dX3_cheapestSite_51 : decode cX3_cheapestSite 51 = .ok (.iload 4, 2) := by decide +kernel
theorem dX3_cheapestSite_53 : decode cX3_cheapestSite 53 = .ok (.ireturn, 1) := by decide +kernel
theorem dX3_cheapestSite_54 : decode cX3_cheapestSite 54 = .ok (.iinc 4 1, 3) := by decide +kernel
theorem dX3_cheapestSite_57 : decode cX3_cheapestSite 57 = .ok (.goto (-47), 3) := by decide +kernel
theorem dX3_cheapestSite_60 : decode cX3_cheapestSite 60 = .ok (.iconst (-1), 1) := by decide +kernel
theorem dX3_cheapestSite_61 : decode cX3_cheapestSite 61 = .ok (.ireturn, 1) := by decide +kernel
theorem dX3_lowestMissedCustomer_0 : decode cX3_lowestMissedCustomer 0 = .ok (.iconst 0, 1) := by decide +kernel
theorem dX3_lowestMissedCustomer_1 : decode cX3_lowestMissedCustomer 1 = .ok (.istore_n 2, 1) := by decide +kernel
theorem dX3_lowestMissedCustomer_2 : decode cX3_lowestMissedCustomer 2 = .ok (.iload_n 2, 1) := by decide +kernel
theorem dX3_lowestMissedCustomer_3 : decode cX3_lowestMissedCustomer 3 = .ok (.aload_n 0, 1) := by decide +kernel
theorem dX3_lowestMissedCustomer_4 : decode cX3_lowestMissedCustomer 4 = .ok (.getfield 15, 3) := by decide +kernel
theorem dX3_lowestMissedCustomer_7 : decode cX3_lowestMissedCustomer 7 = .ok (.if_icmp .ge 22, 3) := by decide +kernel
theorem dX3_lowestMissedCustomer_10 : decode cX3_lowestMissedCustomer 10 = .ok (.aload_n 0, 1) := by decide +kernel
theorem dX3_lowestMissedCustomer_11 : decode cX3_lowestMissedCustomer 11 = .ok (.iload_n 1, 1) := by decide +kernel
theorem dX3_lowestMissedCustomer_12 : decode cX3_lowestMissedCustomer 12 = .ok (.iload_n 2, 1) := by decide +kernel
theorem dX3_lowestMissedCustomer_13 : decode cX3_lowestMissedCustomer 13 = .ok (.invokevirtual 63, 3) := by decide +kernel
theorem dX3_lowestMissedCustomer_16 : decode cX3_lowestMissedCustomer 16 = .ok (.bipush 100, 2) := by decide +kernel
theorem dX3_lowestMissedCustomer_18 : decode cX3_lowestMissedCustomer 18 = .ok (.if_icmp .ne 5, 3) := by decide +kernel
theorem dX3_lowestMissedCustomer_21 : decode cX3_lowestMissedCustomer 21 = .ok (.iload_n 2, 1) := by decide +kernel
theorem dX3_lowestMissedCustomer_22 : decode cX3_lowestMissedCustomer 22 = .ok (.ireturn, 1) := by decide +kernel
theorem dX3_lowestMissedCustomer_23 : decode cX3_lowestMissedCustomer 23 = .ok (.iinc 2 1, 3) := by decide +kernel
theorem dX3_lowestMissedCustomer_26 : decode cX3_lowestMissedCustomer 26 = .ok (.goto (-24), 3) := by decide +kernel
theorem dX3_lowestMissedCustomer_29 : decode cX3_lowestMissedCustomer 29 = .ok (.iconst (-1), 1) := by decide +kernel
theorem dX3_lowestMissedCustomer_30 : decode cX3_lowestMissedCustomer 30 = .ok (.ireturn, 1) := by decide +kernel
theorem dX3_reachesAll_0 : decode cX3_reachesAll 0 = .ok (.aload_n 0, 1) := by decide +kernel
theorem dX3_reachesAll_1 : decode cX3_reachesAll 1 = .ok (.iload_n 1, 1) := by decide +kernel
theorem dX3_reachesAll_2 : decode cX3_reachesAll 2 = .ok (.invokevirtual 69, 3) := by decide +kernel
theorem dX3_reachesAll_5 : decode cX3_reachesAll 5 = .ok (.iconst (-1), 1) := by decide +kernel
theorem dX3_reachesAll_6 : decode cX3_reachesAll 6 = .ok (.if_icmp .ne 7, 3) := by decide +kernel
theorem dX3_reachesAll_9 : decode cX3_reachesAll 9 = .ok (.iconst 1, 1) := by decide +kernel
theorem dX3_reachesAll_10 : decode cX3_reachesAll 10 = .ok (.goto 4, 3) := by decide +kernel
theorem dX3_reachesAll_13 : decode cX3_reachesAll 13 = .ok (.iconst 0, 1) := by decide +kernel
theorem dX3_reachesAll_14 : decode cX3_reachesAll 14 = .ok (.ireturn, 1) := by decide +kernel
theorem dX3_sitePricesOf_0 : decode cX3_sitePricesOf 0 = .ok (.iconst 0, 1) := by decide +kernel
theorem dX3_sitePricesOf_1 : decode cX3_sitePricesOf 1 = .ok (.istore_n 2, 1) := by decide +kernel
theorem dX3_sitePricesOf_2 : decode cX3_sitePricesOf 2 = .ok (.iconst 0, 1) := by decide +kernel
theorem dX3_sitePricesOf_3 : decode cX3_sitePricesOf 3 = .ok (.istore_n 3, 1) := by decide +kernel
theorem dX3_sitePricesOf_4 : decode cX3_sitePricesOf 4 = .ok (.iload_n 3, 1) := by decide +kernel
theorem dX3_sitePricesOf_5 : decode cX3_sitePricesOf 5 = .ok (.aload_n 0, 1) := by decide +kernel
theorem dX3_sitePricesOf_6 : decode cX3_sitePricesOf 6 = .ok (.getfield 9, 3) := by decide +kernel
theorem dX3_sitePricesOf_9 : decode cX3_sitePricesOf 9 = .ok (.if_icmp .ge 26, 3) := by decide +kernel
theorem dX3_sitePricesOf_12 : decode cX3_sitePricesOf 12 = .ok (.iload_n 1, 1) := by decide +kernel
theorem dX3_sitePricesOf_13 : decode cX3_sitePricesOf 13 = .ok (.iload_n 3, 1) := by decide +kernel
theorem dX3_sitePricesOf_14 : decode cX3_sitePricesOf 14 = .ok (.invokestatic 40, 3) := by decide +kernel
theorem dX3_sitePricesOf_17 : decode cX3_sitePricesOf 17 = .ok (.ifCond .eq 12, 3) := by decide +kernel
theorem dX3_sitePricesOf_20 : decode cX3_sitePricesOf 20 = .ok (.iload_n 2, 1) := by decide +kernel
theorem dX3_sitePricesOf_21 : decode cX3_sitePricesOf 21 = .ok (.aload_n 0, 1) := by decide +kernel
theorem dX3_sitePricesOf_22 : decode cX3_sitePricesOf 22 = .ok (.getfield 21, 3) := by decide +kernel
theorem dX3_sitePricesOf_25 : decode cX3_sitePricesOf 25 = .ok (.iload_n 3, 1) := by decide +kernel
theorem dX3_sitePricesOf_26 : decode cX3_sitePricesOf 26 = .ok (.iaload, 1) := by decide +kernel
theorem dX3_sitePricesOf_27 : decode cX3_sitePricesOf 27 = .ok (.iadd, 1) := by decide +kernel
theorem dX3_sitePricesOf_28 : decode cX3_sitePricesOf 28 = .ok (.istore_n 2, 1) := by decide +kernel
theorem dX3_sitePricesOf_29 : decode cX3_sitePricesOf 29 = .ok (.iinc 3 1, 3) := by decide +kernel
theorem dX3_sitePricesOf_32 : decode cX3_sitePricesOf 32 = .ok (.goto (-28), 3) := by decide +kernel
theorem dX3_sitePricesOf_35 : decode cX3_sitePricesOf 35 = .ok (.iload_n 2, 1) := by decide +kernel
theorem dX3_sitePricesOf_36 : decode cX3_sitePricesOf 36 = .ok (.ireturn, 1) := by decide +kernel
theorem dX3_routeCostOf_0 : decode cX3_routeCostOf 0 = .ok (.iconst 0, 1) := by decide +kernel
theorem dX3_routeCostOf_1 : decode cX3_routeCostOf 1 = .ok (.istore_n 2, 1) := by decide +kernel
theorem dX3_routeCostOf_2 : decode cX3_routeCostOf 2 = .ok (.iconst 0, 1) := by decide +kernel
theorem dX3_routeCostOf_3 : decode cX3_routeCostOf 3 = .ok (.istore_n 3, 1) := by decide +kernel
theorem dX3_routeCostOf_4 : decode cX3_routeCostOf 4 = .ok (.iload_n 3, 1) := by decide +kernel
theorem dX3_routeCostOf_5 : decode cX3_routeCostOf 5 = .ok (.aload_n 0, 1) := by decide +kernel
theorem dX3_routeCostOf_6 : decode cX3_routeCostOf 6 = .ok (.getfield 15, 3) := by decide +kernel
theorem dX3_routeCostOf_9 : decode cX3_routeCostOf 9 = .ok (.if_icmp .ge 25, 3) := by decide +kernel
theorem dX3_routeCostOf_12 : decode cX3_routeCostOf 12 = .ok (.iload_n 2, 1) := by decide +kernel
theorem dX3_routeCostOf_13 : decode cX3_routeCostOf 13 = .ok (.aload_n 0, 1) := by decide +kernel
theorem dX3_routeCostOf_14 : decode cX3_routeCostOf 14 = .ok (.getfield 25, 3) := by decide +kernel
theorem dX3_routeCostOf_17 : decode cX3_routeCostOf 17 = .ok (.iload_n 3, 1) := by decide +kernel
theorem dX3_routeCostOf_18 : decode cX3_routeCostOf 18 = .ok (.iaload, 1) := by decide +kernel
theorem dX3_routeCostOf_19 : decode cX3_routeCostOf 19 = .ok (.aload_n 0, 1) := by decide +kernel
theorem dX3_routeCostOf_20 : decode cX3_routeCostOf 20 = .ok (.iload_n 1, 1) := by decide +kernel
theorem dX3_routeCostOf_21 : decode cX3_routeCostOf 21 = .ok (.iload_n 3, 1) := by decide +kernel
theorem dX3_routeCostOf_22 : decode cX3_routeCostOf 22 = .ok (.invokevirtual 63, 3) := by decide +kernel
theorem dX3_routeCostOf_25 : decode cX3_routeCostOf 25 = .ok (.imul, 1) := by decide +kernel
theorem dX3_routeCostOf_26 : decode cX3_routeCostOf 26 = .ok (.iadd, 1) := by decide +kernel
theorem dX3_routeCostOf_27 : decode cX3_routeCostOf 27 = .ok (.istore_n 2, 1) := by decide +kernel
theorem dX3_routeCostOf_28 : decode cX3_routeCostOf 28 = .ok (.iinc 3 1, 3) := by decide +kernel
theorem dX3_routeCostOf_31 : decode cX3_routeCostOf 31 = .ok (.goto (-27), 3) := by decide +kernel
theorem dX3_routeCostOf_34 : decode cX3_routeCostOf 34 = .ok (.iload_n 2, 1) := by decide +kernel
theorem dX3_routeCostOf_35 : decode cX3_routeCostOf 35 = .ok (.ireturn, 1) := by decide +kernel
theorem dX3_costOf_0 : decode cX3_costOf 0 = .ok (.aload_n 0, 1) := by decide +kernel
theorem dX3_costOf_1 : decode cX3_costOf 1 = .ok (.iload_n 1, 1) := by decide +kernel
theorem dX3_costOf_2 : decode cX3_costOf 2 = .ok (.invokevirtual 72, 3) := by decide +kernel
theorem dX3_costOf_5 : decode cX3_costOf 5 = .ok (.aload_n 0, 1) := by decide +kernel
theorem dX3_costOf_6 : decode cX3_costOf 6 = .ok (.iload_n 1, 1) := by decide +kernel
theorem dX3_costOf_7 : decode cX3_costOf 7 = .ok (.invokevirtual 75, 3) := by decide +kernel
theorem dX3_costOf_10 : decode cX3_costOf 10 = .ok (.iadd, 1) := by decide +kernel
theorem dX3_costOf_11 : decode cX3_costOf 11 = .ok (.ireturn, 1) := by decide +kernel
theorem dX3_isFeasible_0 : decode cX3_isFeasible 0 = .ok (.aload_n 0, 1) := by decide +kernel
theorem dX3_isFeasible_1 : decode cX3_isFeasible 1 = .ok (.iload_n 1, 1) := by decide +kernel
theorem dX3_isFeasible_2 : decode cX3_isFeasible 2 = .ok (.invokevirtual 78, 3) := by decide +kernel
theorem dX3_isFeasible_5 : decode cX3_isFeasible 5 = .ok (.ifCond .eq 15, 3) := by decide +kernel
theorem dX3_isFeasible_8 : decode cX3_isFeasible 8 = .ok (.aload_n 0, 1) := by decide +kernel
theorem dX3_isFeasible_9 : decode cX3_isFeasible 9 = .ok (.iload_n 1, 1) := by decide +kernel
theorem dX3_isFeasible_10 : decode cX3_isFeasible 10 = .ok (.invokevirtual 54, 3) := by decide +kernel
theorem dX3_isFeasible_13 : decode cX3_isFeasible 13 = .ok (.ifCond .eq 7, 3) := by decide +kernel
theorem dX3_isFeasible_16 : decode cX3_isFeasible 16 = .ok (.iconst 1, 1) := by decide +kernel
theorem dX3_isFeasible_17 : decode cX3_isFeasible 17 = .ok (.goto 4, 3) := by decide +kernel
theorem dX3_isFeasible_20 : decode cX3_isFeasible 20 = .ok (.iconst 0, 1) := by decide +kernel
theorem dX3_isFeasible_21 : decode cX3_isFeasible 21 = .ok (.ireturn, 1) := by decide +kernel
theorem dX3_findBestPlan_0 : decode cX3_findBestPlan 0 = .ok (.iconst (-1), 1) := by decide +kernel
theorem dX3_findBestPlan_1 : decode cX3_findBestPlan 1 = .ok (.istore_n 1, 1) := by decide +kernel
theorem dX3_findBestPlan_2 : decode cX3_findBestPlan 2 = .ok (.iconst 0, 1) := by decide +kernel
theorem dX3_findBestPlan_3 : decode cX3_findBestPlan 3 = .ok (.istore_n 2, 1) := by decide +kernel
theorem dX3_findBestPlan_4 : decode cX3_findBestPlan 4 = .ok (.iconst 0, 1) := by decide +kernel
theorem dX3_findBestPlan_5 : decode cX3_findBestPlan 5 = .ok (.istore_n 3, 1) := by decide +kernel
theorem dX3_findBestPlan_6 : decode cX3_findBestPlan 6 = .ok (.iload_n 3, 1) := by decide +kernel
theorem dX3_findBestPlan_7 : decode cX3_findBestPlan 7 = .ok (.aload_n 0, 1) := by decide +kernel
theorem dX3_findBestPlan_8 : decode cX3_findBestPlan 8 = .ok (.invokevirtual 36, 3) := by decide +kernel
theorem dX3_findBestPlan_11 : decode cX3_findBestPlan 11 = .ok (.if_icmp .ge 39, 3) := by decide +kernel
theorem dX3_findBestPlan_14 : decode cX3_findBestPlan 14 = .ok (.aload_n 0, 1) := by decide +kernel
theorem dX3_findBestPlan_15 : decode cX3_findBestPlan 15 = .ok (.iload_n 3, 1) := by decide +kernel
theorem dX3_findBestPlan_16 : decode cX3_findBestPlan 16 = .ok (.invokevirtual 81, 3) := by decide +kernel
theorem dX3_findBestPlan_19 : decode cX3_findBestPlan 19 = .ok (.ifCond .eq 25, 3) := by decide +kernel
theorem dX3_findBestPlan_22 : decode cX3_findBestPlan 22 = .ok (.iload_n 1, 1) := by decide +kernel
theorem dX3_findBestPlan_23 : decode cX3_findBestPlan 23 = .ok (.iconst (-1), 1) := by decide +kernel
theorem dX3_findBestPlan_24 : decode cX3_findBestPlan 24 = .ok (.if_icmp .eq 12, 3) := by decide +kernel
theorem dX3_findBestPlan_27 : decode cX3_findBestPlan 27 = .ok (.aload_n 0, 1) := by decide +kernel
theorem dX3_findBestPlan_28 : decode cX3_findBestPlan 28 = .ok (.iload_n 3, 1) := by decide +kernel
theorem dX3_findBestPlan_29 : decode cX3_findBestPlan 29 = .ok (.invokevirtual 84, 3) := by decide +kernel
theorem dX3_findBestPlan_32 : decode cX3_findBestPlan 32 = .ok (.iload_n 2, 1) := by decide +kernel
theorem dX3_findBestPlan_33 : decode cX3_findBestPlan 33 = .ok (.if_icmp .ge 11, 3) := by decide +kernel
theorem dX3_findBestPlan_36 : decode cX3_findBestPlan 36 = .ok (.iload_n 3, 1) := by decide +kernel
theorem dX3_findBestPlan_37 : decode cX3_findBestPlan 37 = .ok (.istore_n 1, 1) := by decide +kernel
theorem dX3_findBestPlan_38 : decode cX3_findBestPlan 38 = .ok (.aload_n 0, 1) := by decide +kernel
theorem dX3_findBestPlan_39 : decode cX3_findBestPlan 39 = .ok (.iload_n 3, 1) := by decide +kernel
theorem dX3_findBestPlan_40 : decode cX3_findBestPlan 40 = .ok (.invokevirtual 84, 3) := by decide +kernel
theorem dX3_findBestPlan_43 : decode cX3_findBestPlan 43 = .ok (.istore_n 2, 1) := by decide +kernel
theorem dX3_findBestPlan_44 : decode cX3_findBestPlan 44 = .ok (.iinc 3 1, 3) := by decide +kernel
theorem dX3_findBestPlan_47 : decode cX3_findBestPlan 47 = .ok (.goto (-41), 3) := by decide +kernel
theorem dX3_findBestPlan_50 : decode cX3_findBestPlan 50 = .ok (.iload_n 1, 1) := by decide +kernel
theorem dX3_findBestPlan_51 : decode cX3_findBestPlan 51 = .ok (.ireturn, 1) := by decide +kernel
theorem dX3_countFeasiblePlans_0 : decode cX3_countFeasiblePlans 0 = .ok (.iconst 0, 1) := by decide +kernel
theorem dX3_countFeasiblePlans_1 : decode cX3_countFeasiblePlans 1 = .ok (.istore_n 1, 1) := by decide +kernel
theorem dX3_countFeasiblePlans_2 : decode cX3_countFeasiblePlans 2 = .ok (.iconst 0, 1) := by decide +kernel
theorem dX3_countFeasiblePlans_3 : decode cX3_countFeasiblePlans 3 = .ok (.istore_n 2, 1) := by decide +kernel
theorem dX3_countFeasiblePlans_4 : decode cX3_countFeasiblePlans 4 = .ok (.iload_n 2, 1) := by decide +kernel
theorem dX3_countFeasiblePlans_5 : decode cX3_countFeasiblePlans 5 = .ok (.aload_n 0, 1) := by decide +kernel
theorem dX3_countFeasiblePlans_6 : decode cX3_countFeasiblePlans 6 = .ok (.invokevirtual 36, 3) := by decide +kernel
theorem dX3_countFeasiblePlans_9 : decode cX3_countFeasiblePlans 9 = .ok (.if_icmp .ge 20, 3) := by decide +kernel
theorem dX3_countFeasiblePlans_12 : decode cX3_countFeasiblePlans 12 = .ok (.aload_n 0, 1) := by decide +kernel
theorem dX3_countFeasiblePlans_13 : decode cX3_countFeasiblePlans 13 = .ok (.iload_n 2, 1) := by decide +kernel
theorem dX3_countFeasiblePlans_14 : decode cX3_countFeasiblePlans 14 = .ok (.invokevirtual 81, 3) := by decide +kernel
theorem dX3_countFeasiblePlans_17 : decode cX3_countFeasiblePlans 17 = .ok (.ifCond .eq 6, 3) := by decide +kernel
theorem dX3_countFeasiblePlans_20 : decode cX3_countFeasiblePlans 20 = .ok (.iinc 1 1, 3) := by decide +kernel
theorem dX3_countFeasiblePlans_23 : decode cX3_countFeasiblePlans 23 = .ok (.iinc 2 1, 3) := by decide +kernel
theorem dX3_countFeasiblePlans_26 : decode cX3_countFeasiblePlans 26 = .ok (.goto (-22), 3) := by decide +kernel
theorem dX3_countFeasiblePlans_29 : decode cX3_countFeasiblePlans 29 = .ok (.iload_n 1, 1) := by decide +kernel
theorem dX3_countFeasiblePlans_30 : decode cX3_countFeasiblePlans 30 = .ok (.ireturn, 1) := by decide +kernel
theorem dX3_countRoutes_0 : decode cX3_countRoutes 0 = .ok (.iconst 0, 1) := by decide +kernel
theorem dX3_countRoutes_1 : decode cX3_countRoutes 1 = .ok (.istore_n 1, 1) := by decide +kernel
theorem dX3_countRoutes_2 : decode cX3_countRoutes 2 = .ok (.iconst 0, 1) := by decide +kernel
theorem dX3_countRoutes_3 : decode cX3_countRoutes 3 = .ok (.istore_n 2, 1) := by decide +kernel
theorem dX3_countRoutes_4 : decode cX3_countRoutes 4 = .ok (.iload_n 2, 1) := by decide +kernel
theorem dX3_countRoutes_5 : decode cX3_countRoutes 5 = .ok (.aload_n 0, 1) := by decide +kernel
theorem dX3_countRoutes_6 : decode cX3_countRoutes 6 = .ok (.getfield 9, 3) := by decide +kernel
theorem dX3_countRoutes_9 : decode cX3_countRoutes 9 = .ok (.if_icmp .ge 37, 3) := by decide +kernel
theorem dX3_countRoutes_12 : decode cX3_countRoutes 12 = .ok (.iconst 0, 1) := by decide +kernel
theorem dX3_countRoutes_13 : decode cX3_countRoutes 13 = .ok (.istore_n 3, 1) := by decide +kernel
theorem dX3_countRoutes_14 : decode cX3_countRoutes 14 = .ok (.iload_n 3, 1) := by decide +kernel
theorem dX3_countRoutes_15 : decode cX3_countRoutes 15 = .ok (.aload_n 0, 1) := by decide +kernel
theorem dX3_countRoutes_16 : decode cX3_countRoutes 16 = .ok (.getfield 15, 3) := by decide +kernel
theorem dX3_countRoutes_19 : decode cX3_countRoutes 19 = .ok (.if_icmp .ge 21, 3) := by decide +kernel
theorem dX3_countRoutes_22 : decode cX3_countRoutes 22 = .ok (.aload_n 0, 1) := by decide +kernel
theorem dX3_countRoutes_23 : decode cX3_countRoutes 23 = .ok (.iload_n 2, 1) := by decide +kernel
theorem dX3_countRoutes_24 : decode cX3_countRoutes 24 = .ok (.iload_n 3, 1) := by decide +kernel
theorem dX3_countRoutes_25 : decode cX3_countRoutes 25 = .ok (.invokevirtual 66, 3) := by decide +kernel
theorem dX3_countRoutes_28 : decode cX3_countRoutes 28 = .ok (.ifCond .eq 6, 3) := by decide +kernel
theorem dX3_countRoutes_31 : decode cX3_countRoutes 31 = .ok (.iinc 1 1, 3) := by decide +kernel
theorem dX3_countRoutes_34 : decode cX3_countRoutes 34 = .ok (.iinc 3 1, 3) := by decide +kernel
theorem dX3_countRoutes_37 : decode cX3_countRoutes 37 = .ok (.goto (-23), 3) := by decide +kernel
theorem dX3_countRoutes_40 : decode cX3_countRoutes 40 = .ok (.iinc 2 1, 3) := by decide +kernel
theorem dX3_countRoutes_43 : decode cX3_countRoutes 43 = .ok (.goto (-39), 3) := by decide +kernel
theorem dX3_countRoutes_46 : decode cX3_countRoutes 46 = .ok (.iload_n 1, 1) := by decide +kernel
theorem dX3_countRoutes_47 : decode cX3_countRoutes 47 = .ok (.ireturn, 1) := by decide +kernel
theorem dX3_countExcludingPairs_0 : decode cX3_countExcludingPairs 0 = .ok (.iconst 0, 1) := by decide +kernel
theorem dX3_countExcludingPairs_1 : decode cX3_countExcludingPairs 1 = .ok (.istore_n 1, 1) := by decide +kernel
theorem dX3_countExcludingPairs_2 : decode cX3_countExcludingPairs 2 = .ok (.iconst 0, 1) := by decide +kernel
theorem dX3_countExcludingPairs_3 : decode cX3_countExcludingPairs 3 = .ok (.istore_n 2, 1) := by decide +kernel
theorem dX3_countExcludingPairs_4 : decode cX3_countExcludingPairs 4 = .ok (.iload_n 2, 1) := by decide +kernel
theorem dX3_countExcludingPairs_5 : decode cX3_countExcludingPairs 5 = .ok (.aload_n 0, 1) := by decide +kernel
theorem dX3_countExcludingPairs_6 : decode cX3_countExcludingPairs 6 = .ok (.getfield 9, 3) := by decide +kernel
theorem dX3_countExcludingPairs_9 : decode cX3_countExcludingPairs 9 = .ok (.if_icmp .ge 34, 3) := by decide +kernel
theorem dX3_countExcludingPairs_12 : decode cX3_countExcludingPairs 12 = .ok (.iconst 0, 1) := by decide +kernel
theorem dX3_countExcludingPairs_13 : decode cX3_countExcludingPairs 13 = .ok (.istore_n 3, 1) := by decide +kernel
theorem dX3_countExcludingPairs_14 : decode cX3_countExcludingPairs 14 = .ok (.iload_n 3, 1) := by decide +kernel
theorem dX3_countExcludingPairs_15 : decode cX3_countExcludingPairs 15 = .ok (.iload_n 2, 1) := by decide +kernel
theorem dX3_countExcludingPairs_16 : decode cX3_countExcludingPairs 16 = .ok (.if_icmp .ge 21, 3) := by decide +kernel
theorem dX3_countExcludingPairs_19 : decode cX3_countExcludingPairs 19 = .ok (.aload_n 0, 1) := by decide +kernel
theorem dX3_countExcludingPairs_20 : decode cX3_countExcludingPairs 20 = .ok (.iload_n 2, 1) := by decide +kernel
theorem dX3_countExcludingPairs_21 : decode cX3_countExcludingPairs 21 = .ok (.iload_n 3, 1) := by decide +kernel
theorem dX3_countExcludingPairs_22 : decode cX3_countExcludingPairs 22 = .ok (.invokevirtual 87, 3) := by decide +kernel
theorem dX3_countExcludingPairs_25 : decode cX3_countExcludingPairs 25 = .ok (.ifCond .eq 6, 3) := by decide +kernel
theorem dX3_countExcludingPairs_28 : decode cX3_countExcludingPairs 28 = .ok (.iinc 1 1, 3) := by decide +kernel
theorem dX3_countExcludingPairs_31 : decode cX3_countExcludingPairs 31 = .ok (.iinc 3 1, 3) := by decide +kernel
theorem dX3_countExcludingPairs_34 : decode cX3_countExcludingPairs 34 = .ok (.goto (-20), 3) := by decide +kernel
theorem dX3_countExcludingPairs_37 : decode cX3_countExcludingPairs 37 = .ok (.iinc 2 1, 3) := by decide +kernel
theorem dX3_countExcludingPairs_40 : decode cX3_countExcludingPairs 40 = .ok (.goto (-36), 3) := by decide +kernel
theorem dX3_countExcludingPairs_43 : decode cX3_countExcludingPairs 43 = .ok (.iload_n 1, 1) := by decide +kernel
theorem dX3_countExcludingPairs_44 : decode cX3_countExcludingPairs 44 = .ok (.ireturn, 1) := by decide +kernel
theorem dX4_init_0 : decode cX4_init 0 = .ok (.aload_n 0, 1) := by decide +kernel
theorem dX4_init_1 : decode cX4_init 1 = .ok (.invokespecial 3, 3) := by decide +kernel
theorem dX4_init_4 : decode cX4_init 4 = .ok (.aload_n 0, 1) := by decide +kernel
theorem dX4_init_5 : decode cX4_init 5 = .ok (.new 9, 3) := by decide +kernel
theorem dX4_init_8 : decode cX4_init 8 = .ok (.dup, 1) := by decide +kernel
theorem dX4_init_9 : decode cX4_init 9 = .ok (.invokespecial 11, 3) := by decide +kernel
theorem dX4_init_12 : decode cX4_init 12 = .ok (.putfield 12, 3) := by decide +kernel
theorem dX4_init_15 : decode cX4_init 15 = .ok (.aload_n 0, 1) := by decide +kernel
theorem dX4_init_16 : decode cX4_init 16 = .ok (.new 18, 3) := by decide +kernel
theorem dX4_init_19 : decode cX4_init 19 = .ok (.dup, 1) := by decide +kernel
theorem dX4_init_20 : decode cX4_init 20 = .ok (.invokespecial 20, 3) := by decide +kernel
theorem dX4_init_23 : decode cX4_init 23 = .ok (.putfield 21, 3) := by decide +kernel
theorem dX4_init_26 : decode cX4_init 26 = .ok (.aload_n 0, 1) := by decide +kernel
theorem dX4_init_27 : decode cX4_init 27 = .ok (.iconst (-1), 1) := by decide +kernel
theorem dX4_init_28 : decode cX4_init 28 = .ok (.putfield 25, 3) := by decide +kernel
theorem dX4_init_31 : decode cX4_init 31 = .ok (.aload_n 0, 1) := by decide +kernel
theorem dX4_init_32 : decode cX4_init 32 = .ok (.iconst 0, 1) := by decide +kernel
theorem dX4_init_33 : decode cX4_init 33 = .ok (.putfield 29, 3) := by decide +kernel
theorem dX4_init_36 : decode cX4_init 36 = .ok (.return_, 1) := by decide +kernel
theorem dX4_copyFrom_0 : decode cX4_copyFrom 0 = .ok (.aload_n 0, 1) := by decide +kernel
theorem dX4_copyFrom_1 : decode cX4_copyFrom 1 = .ok (.getfield 12, 3) := by decide +kernel
theorem dX4_copyFrom_4 : decode cX4_copyFrom 4 = .ok (.aload_n 1, 1) := by decide +kernel
theorem dX4_copyFrom_5 : decode cX4_copyFrom 5 = .ok (.getfield 12, 3) := by decide +kernel
theorem dX4_copyFrom_8 : decode cX4_copyFrom 8 = .ok (.invokevirtual 32, 3) := by decide +kernel
theorem dX4_copyFrom_11 : decode cX4_copyFrom 11 = .ok (.aload_n 0, 1) := by decide +kernel
theorem dX4_copyFrom_12 : decode cX4_copyFrom 12 = .ok (.getfield 21, 3) := by decide +kernel
theorem dX4_copyFrom_15 : decode cX4_copyFrom 15 = .ok (.aload_n 1, 1) := by decide +kernel
theorem dX4_copyFrom_16 : decode cX4_copyFrom 16 = .ok (.getfield 21, 3) := by decide +kernel
theorem dX4_copyFrom_19 : decode cX4_copyFrom 19 = .ok (.invokevirtual 36, 3) := by decide +kernel
theorem dX4_copyFrom_22 : decode cX4_copyFrom 22 = .ok (.aload_n 0, 1) := by decide +kernel
theorem dX4_copyFrom_23 : decode cX4_copyFrom 23 = .ok (.aload_n 1, 1) := by decide +kernel
theorem dX4_copyFrom_24 : decode cX4_copyFrom 24 = .ok (.getfield 25, 3) := by decide +kernel
theorem dX4_copyFrom_27 : decode cX4_copyFrom 27 = .ok (.putfield 25, 3) := by decide +kernel
theorem dX4_copyFrom_30 : decode cX4_copyFrom 30 = .ok (.aload_n 0, 1) := by decide +kernel
theorem dX4_copyFrom_31 : decode cX4_copyFrom 31 = .ok (.aload_n 1, 1) := by decide +kernel
theorem dX4_copyFrom_32 : decode cX4_copyFrom 32 = .ok (.getfield 29, 3) := by decide +kernel
theorem dX4_copyFrom_35 : decode cX4_copyFrom 35 = .ok (.putfield 29, 3) := by decide +kernel
theorem dX4_copyFrom_38 : decode cX4_copyFrom 38 = .ok (.return_, 1) := by decide +kernel
theorem dX4_forgetBest_0 : decode cX4_forgetBest 0 = .ok (.aload_n 0, 1) := by decide +kernel
theorem dX4_forgetBest_1 : decode cX4_forgetBest 1 = .ok (.iconst (-1), 1) := by decide +kernel
theorem dX4_forgetBest_2 : decode cX4_forgetBest 2 = .ok (.putfield 25, 3) := by decide +kernel
theorem dX4_forgetBest_5 : decode cX4_forgetBest 5 = .ok (.return_, 1) := by decide +kernel
theorem dX4_forgetCuts_0 : decode cX4_forgetCuts 0 = .ok (.aload_n 0, 1) := by decide +kernel
theorem dX4_forgetCuts_1 : decode cX4_forgetCuts 1 = .ok (.getfield 21, 3) := by decide +kernel
theorem dX4_forgetCuts_4 : decode cX4_forgetCuts 4 = .ok (.iconst 0, 1) := by decide +kernel
theorem dX4_forgetCuts_5 : decode cX4_forgetCuts 5 = .ok (.putfield 39, 3) := by decide +kernel
theorem dX4_forgetCuts_8 : decode cX4_forgetCuts 8 = .ok (.aload_n 0, 1) := by decide +kernel
theorem dX4_forgetCuts_9 : decode cX4_forgetCuts 9 = .ok (.invokevirtual 42, 3) := by decide +kernel
theorem dX4_forgetCuts_12 : decode cX4_forgetCuts 12 = .ok (.return_, 1) := by decide +kernel
theorem dX4_guessOf_0 : decode cX4_guessOf 0 = .ok (.aload_n 0, 1) := by decide +kernel
theorem dX4_guessOf_1 : decode cX4_guessOf 1 = .ok (.getfield 12, 3) := by decide +kernel
theorem dX4_guessOf_4 : decode cX4_guessOf 4 = .ok (.iload_n 1, 1) := by decide +kernel
theorem dX4_guessOf_5 : decode cX4_guessOf 5 = .ok (.invokevirtual 45, 3) := by decide +kernel
theorem dX4_guessOf_8 : decode cX4_guessOf 8 = .ok (.aload_n 0, 1) := by decide +kernel
theorem dX4_guessOf_9 : decode cX4_guessOf 9 = .ok (.getfield 21, 3) := by decide +kernel
theorem dX4_guessOf_12 : decode cX4_guessOf 12 = .ok (.iload_n 1, 1) := by decide +kernel
theorem dX4_guessOf_13 : decode cX4_guessOf 13 = .ok (.invokevirtual 49, 3) := by decide +kernel
theorem dX4_guessOf_16 : decode cX4_guessOf 16 = .ok (.iadd, 1) := by decide +kernel
theorem dX4_guessOf_17 : decode cX4_guessOf 17 = .ok (.ireturn, 1) := by decide +kernel
theorem dX4_isForMaster_0 : decode cX4_isForMaster 0 = .ok (.aload_n 0, 1) := by decide +kernel
theorem dX4_isForMaster_1 : decode cX4_isForMaster 1 = .ok (.getfield 12, 3) := by decide +kernel
theorem dX4_isForMaster_4 : decode cX4_isForMaster 4 = .ok (.iload_n 1, 1) := by decide +kernel
theorem dX4_isForMaster_5 : decode cX4_isForMaster 5 = .ok (.invokevirtual 52, 3) := by decide +kernel
theorem dX4_isForMaster_8 : decode cX4_isForMaster 8 = .ok (.ifCond .eq 18, 3) := by decide +kernel
theorem dX4_isForMaster_11 : decode cX4_isForMaster 11 = .ok (.aload_n 0, 1) := by decide +kernel
theorem dX4_isForMaster_12 : decode cX4_isForMaster 12 = .ok (.getfield 21, 3) := by decide +kernel
theorem dX4_isForMaster_15 : decode cX4_isForMaster 15 = .ok (.iload_n 1, 1) := by decide +kernel
theorem dX4_isForMaster_16 : decode cX4_isForMaster 16 = .ok (.invokevirtual 56, 3) := by decide +kernel
theorem dX4_isForMaster_19 : decode cX4_isForMaster 19 = .ok (.ifCond .ne 7, 3) := by decide +kernel
theorem dX4_isForMaster_22 : decode cX4_isForMaster 22 = .ok (.iconst 1, 1) := by decide +kernel
theorem dX4_isForMaster_23 : decode cX4_isForMaster 23 = .ok (.goto 4, 3) := by decide +kernel
theorem dX4_isForMaster_26 : decode cX4_isForMaster 26 = .ok (.iconst 0, 1) := by decide +kernel
theorem dX4_isForMaster_27 : decode cX4_isForMaster 27 = .ok (.ireturn, 1) := by decide +kernel
theorem dX4_findMasterPlan_0 : decode cX4_findMasterPlan 0 = .ok (.iconst (-1), 1) := by decide +kernel
theorem dX4_findMasterPlan_1 : decode cX4_findMasterPlan 1 = .ok (.istore_n 1, 1) := by decide +kernel
theorem dX4_findMasterPlan_2 : decode cX4_findMasterPlan 2 = .ok (.iconst 0, 1) := by decide +kernel
theorem dX4_findMasterPlan_3 : decode cX4_findMasterPlan 3 = .ok (.istore_n 2, 1) := by decide +kernel
theorem dX4_findMasterPlan_4 : decode cX4_findMasterPlan 4 = .ok (.iconst 0, 1) := by decide +kernel
theorem dX4_findMasterPlan_5 : decode cX4_findMasterPlan 5 = .ok (.istore_n 3, 1) := by decide +kernel
theorem dX4_findMasterPlan_6 : decode cX4_findMasterPlan 6 = .ok (.iload_n 3, 1) := by decide +kernel
theorem dX4_findMasterPlan_7 : decode cX4_findMasterPlan 7 = .ok (.aload_n 0, 1) := by decide +kernel
theorem dX4_findMasterPlan_8 : decode cX4_findMasterPlan 8 = .ok (.getfield 12, 3) := by decide +kernel
theorem dX4_findMasterPlan_11 : decode cX4_findMasterPlan 11 = .ok (.invokevirtual 59, 3) := by decide +kernel
theorem dX4_findMasterPlan_14 : decode cX4_findMasterPlan 14 = .ok (.if_icmp .ge 40, 3) := by decide +kernel
theorem dX4_findMasterPlan_17 : decode cX4_findMasterPlan 17 = .ok (.aload_n 0, 1) := by decide +kernel
theorem dX4_findMasterPlan_18 : decode cX4_findMasterPlan 18 = .ok (.iload_n 3, 1) := by decide +kernel
theorem dX4_findMasterPlan_19 : decode cX4_findMasterPlan 19 = .ok (.invokevirtual 63, 3) := by decide +kernel
theorem dX4_findMasterPlan_22 : decode cX4_findMasterPlan 22 = .ok (.ifCond .eq 26, 3) := by decide +kernel
theorem dX4_findMasterPlan_25 : decode cX4_findMasterPlan 25 = .ok (.aload_n 0, 1) := by decide +kernel
theorem dX4_findMasterPlan_26 : decode cX4_findMasterPlan 26 = .ok (.iload_n 3, 1) := by decide +kernel
theorem dX4_findMasterPlan_27 : decode cX4_findMasterPlan 27 = .ok (.invokevirtual 66, 3) := by decide +kernel
theorem dX4_findMasterPlan_30 : decode cX4_findMasterPlan 30 = .ok (.istore 4, 2) := by decide +kernel
theorem dX4_findMasterPlan_32 : decode cX4_findMasterPlan 32 = .ok (.iload_n 1, 1) := by decide +kernel
theorem dX4_findMasterPlan_33 : decode cX4_findMasterPlan 33 = .ok (.iconst (-1), 1) := by decide +kernel
theorem dX4_findMasterPlan_34 : decode cX4_findMasterPlan 34 = .ok (.if_icmp .eq 9, 3) := by decide +kernel
theorem dX4_findMasterPlan_37 : decode cX4_findMasterPlan 37 = .ok (.iload 4, 2) := by decide +kernel
theorem dX4_findMasterPlan_39 : decode cX4_findMasterPlan 39 = .ok (.iload_n 2, 1) := by decide +kernel
theorem dX4_findMasterPlan_40 : decode cX4_findMasterPlan 40 = .ok (.if_icmp .ge 8, 3) := by decide +kernel
theorem dX4_findMasterPlan_43 : decode cX4_findMasterPlan 43 = .ok (.iload_n 3, 1) := by decide +kernel
theorem dX4_findMasterPlan_44 : decode cX4_findMasterPlan 44 = .ok (.istore_n 1, 1) := by decide +kernel
theorem dX4_findMasterPlan_45 : decode cX4_findMasterPlan 45 = .ok (.iload 4, 2) := by decide +kernel
theorem dX4_findMasterPlan_47 : decode cX4_findMasterPlan 47 = .ok (.istore_n 2, 1) := by decide +kernel
theorem dX4_findMasterPlan_48 : decode cX4_findMasterPlan 48 = .ok (.iinc 3 1, 3) := by decide +kernel
theorem dX4_findMasterPlan_51 : decode cX4_findMasterPlan 51 = .ok (.goto (-45), 3) := by decide +kernel
theorem dX4_findMasterPlan_54 : decode cX4_findMasterPlan 54 = .ok (.iload_n 1, 1) := by decide +kernel
theorem dX4_findMasterPlan_55 : decode cX4_findMasterPlan 55 = .ok (.ireturn, 1) := by decide +kernel
theorem dX4_makeStep_0 : decode cX4_makeStep 0 = .ok (.aload_n 0, 1) := by decide +kernel
theorem dX4_makeStep_1 : decode cX4_makeStep 1 = .ok (.getfield 12, 3) := by decide +kernel
theorem dX4_makeStep_4 : decode cX4_makeStep 4 = .ok (.getfield 69, 3) := by decide +kernel
theorem dX4_makeStep_7 : decode cX4_makeStep 7 = .ok (.ifCond .ne 6, 3) := by decide +kernel
theorem dX4_makeStep_10 : decode cX4_makeStep 10 = .ok (.bipush (-4), 2) := by decide +kernel
theorem dX4_makeStep_12 : decode cX4_makeStep 12 = .ok (.ireturn, 1) := by decide +kernel
theorem dX4_makeStep_13 : decode cX4_makeStep 13 = .ok (.aload_n 0, 1) := by decide +kernel
theorem dX4_makeStep_14 : decode cX4_makeStep 14 = .ok (.invokevirtual 72, 3) := by decide +kernel
theorem dX4_makeStep_17 : decode cX4_makeStep 17 = .ok (.istore_n 2, 1) := by decide +kernel
theorem dX4_makeStep_18 : decode cX4_makeStep 18 = .ok (.iload_n 2, 1) := by decide +kernel
theorem dX4_makeStep_19 : decode cX4_makeStep 19 = .ok (.iconst (-1), 1) := by decide +kernel
theorem dX4_makeStep_20 : decode cX4_makeStep 20 = .ok (.if_icmp .ne 6, 3) := by decide +kernel
theorem dX4_makeStep_23 : decode cX4_makeStep 23 = .ok (.bipush (-4), 2) := by decide +kernel
theorem dX4_makeStep_25 : decode cX4_makeStep 25 = .ok (.ireturn, 1) := by decide +kernel
theorem dX4_makeStep_26 : decode cX4_makeStep 26 = .ok (.aload_n 0, 1) := by decide +kernel
theorem dX4_makeStep_27 : decode cX4_makeStep 27 = .ok (.getfield 12, 3) := by decide +kernel
theorem dX4_makeStep_30 : decode cX4_makeStep 30 = .ok (.iload_n 2, 1) := by decide +kernel
theorem dX4_makeStep_31 : decode cX4_makeStep 31 = .ok (.invokevirtual 75, 3) := by decide +kernel
theorem dX4_makeStep_34 : decode cX4_makeStep 34 = .ok (.istore_n 3, 1) := by decide +kernel
theorem dX4_makeStep_35 : decode cX4_makeStep 35 = .ok (.iload_n 3, 1) := by decide +kernel
theorem dX4_makeStep_36 : decode cX4_makeStep 36 = .ok (.iconst (-1), 1) := by decide +kernel
theorem dX4_makeStep_37 : decode cX4_makeStep 37 = .ok (.if_icmp .ne 23, 3) := by decide +kernel
theorem dX4_makeStep_40 : decode cX4_makeStep 40 = .ok (.aload_n 0, 1) := by decide +kernel
theorem dX4_makeStep_41 : decode cX4_makeStep 41 = .ok (.getfield 12, 3) := by decide +kernel
theorem dX4_makeStep_44 : decode cX4_makeStep 44 = .ok (.iload_n 2, 1) := by decide +kernel
theorem dX4_makeStep_45 : decode cX4_makeStep 45 = .ok (.invokevirtual 78, 3) := by decide +kernel
theorem dX4_makeStep_48 : decode cX4_makeStep 48 = .ok (.aload_n 0, 1) := by decide +kernel
theorem dX4_makeStep_49 : decode cX4_makeStep 49 = .ok (.iload_n 2, 1) := by decide +kernel
theorem dX4_makeStep_50 : decode cX4_makeStep 50 = .ok (.invokevirtual 66, 3) := by decide +kernel
theorem dX4_makeStep_53 : decode cX4_makeStep 53 = .ok (.if_icmp .ne 7, 3) := by decide +kernel
theorem dX4_makeStep_56 : decode cX4_makeStep 56 = .ok (.iconst 1, 1) := by decide +kernel
theorem dX4_makeStep_57 : decode cX4_makeStep 57 = .ok (.goto 4, 3) := by decide +kernel
theorem dX4_makeStep_60 : decode cX4_makeStep 60 = .ok (.iconst 0, 1) := by decide +kernel
theorem dX4_makeStep_61 : decode cX4_makeStep 61 = .ok (.istore 4, 2) := by decide +kernel
theorem dX4_makeStep_63 : decode cX4_makeStep 63 = .ok (.iload 4, 2) := by decide +kernel
theorem dX4_makeStep_65 : decode cX4_makeStep 65 = .ok (.ifCond .ne 16, 3) := by decide +kernel
theorem dX4_makeStep_68 : decode cX4_makeStep 68 = .ok (.aload_n 0, 1) := by decide +kernel
theorem dX4_makeStep_69 : decode cX4_makeStep 69 = .ok (.getfield 21, 3) := by decide +kernel
theorem dX4_makeStep_72 : decode cX4_makeStep 72 = .ok (.invokevirtual 81, 3) := by decide +kernel
theorem dX4_makeStep_75 : decode cX4_makeStep 75 = .ok (.ifCond .eq 6, 3) := by decide +kernel
theorem dX4_makeStep_78 : decode cX4_makeStep 78 = .ok (.bipush (-3), 2) := by decide +kernel
theorem dX4_makeStep_80 : decode cX4_makeStep 80 = .ok (.ireturn, 1) := by decide +kernel
theorem dX4_makeStep_81 : decode cX4_makeStep 81 = .ok (.aload_n 0, 1) := by decide +kernel
theorem dX4_makeStep_82 : decode cX4_makeStep 82 = .ok (.dup, 1) := by decide +kernel
theorem dX4_makeStep_83 : decode cX4_makeStep 83 = .ok (.getfield 29, 3) := by decide +kernel
theorem dX4_makeStep_86 : decode cX4_makeStep 86 = .ok (.iconst 1, 1) := by decide +kernel
theorem dX4_makeStep_87 : decode cX4_makeStep 87 = .ok (.iadd, 1) := by decide +kernel
theorem dX4_makeStep_88 : decode cX4_makeStep 88 = .ok (.putfield 29, 3) := by decide +kernel
theorem dX4_makeStep_91 : decode cX4_makeStep 91 = .ok (.iload_n 3, 1) := by decide +kernel
theorem dX4_makeStep_92 : decode cX4_makeStep 92 = .ok (.iconst (-1), 1) := by decide +kernel
theorem dX4_makeStep_93 : decode cX4_makeStep 93 = .ok (.if_icmp .eq 18, 3) := by decide +kernel
theorem dX4_makeStep_96 : decode cX4_makeStep 96 = .ok (.aload_n 0, 1) := by decide +kernel
theorem dX4_makeStep_97 : decode cX4_makeStep 97 = .ok (.getfield 21, 3) := by decide +kernel
theorem dX4_makeStep_100 : decode cX4_makeStep 100 = .ok (.aload_n 0, 1) := by decide +kernel
theorem dX4_makeStep_101 : decode cX4_makeStep 101 = .ok (.getfield 12, 3) := by decide +kernel
theorem dX4_makeStep_104 : decode cX4_makeStep 104 = .ok (.iload_n 3, 1) := by decide +kernel
theorem dX4_makeStep_105 : decode cX4_makeStep 105 = .ok (.invokevirtual 85, 3) := by decide +kernel
theorem dX4_makeStep_108 : decode cX4_makeStep 108 = .ok (.pop, 1) := by decide +kernel
theorem dX4_makeStep_109 : decode cX4_makeStep 109 = .ok (.iconst 0, 1) := by decide +kernel
theorem dX4_makeStep_110 : decode cX4_makeStep 110 = .ok (.ireturn, 1) := by decide +kernel
theorem dX4_makeStep_111 : decode cX4_makeStep 111 = .ok (.aload_n 0, 1) := by decide +kernel
theorem dX4_makeStep_112 : decode cX4_makeStep 112 = .ok (.iload_n 2, 1) := by decide +kernel
theorem dX4_makeStep_113 : decode cX4_makeStep 113 = .ok (.invokevirtual 89, 3) := by decide +kernel
theorem dX4_makeStep_116 : decode cX4_makeStep 116 = .ok (.iload 4, 2) := by decide +kernel
theorem dX4_makeStep_118 : decode cX4_makeStep 118 = .ok (.ifCond .eq 5, 3) := by decide +kernel
theorem dX4_makeStep_121 : decode cX4_makeStep 121 = .ok (.iconst 2, 1) := by decide +kernel
theorem dX4_makeStep_122 : decode cX4_makeStep 122 = .ok (.ireturn, 1) := by decide +kernel
theorem dX4_makeStep_123 : decode cX4_makeStep 123 = .ok (.iconst 0, 1) := by decide +kernel
theorem dX4_makeStep_124 : decode cX4_makeStep 124 = .ok (.istore 5, 2) := by decide +kernel
theorem dX4_makeStep_126 : decode cX4_makeStep 126 = .ok (.iload 5, 2) := by decide +kernel
theorem dX4_makeStep_128 : decode cX4_makeStep 128 = .ok (.aload_n 0, 1) := by decide +kernel
theorem dX4_makeStep_129 : decode cX4_makeStep 129 = .ok (.getfield 12, 3) := by decide +kernel
theorem dX4_makeStep_132 : decode cX4_makeStep 132 = .ok (.getfield 69, 3) := by decide +kernel
theorem dX4_makeStep_135 : decode cX4_makeStep 135 = .ok (.if_icmp .ge 23, 3) := by decide +kernel
theorem dX4_makeStep_138 : decode cX4_makeStep 138 = .ok (.aload_n 1, 1) := by decide +kernel
theorem dX4_makeStep_139 : decode cX4_makeStep 139 = .ok (.iload 5, 2) := by decide +kernel
theorem dX4_makeStep_141 : decode cX4_makeStep 141 = .ok (.aload_n 0, 1) := by decide +kernel
theorem dX4_makeStep_142 : decode cX4_makeStep 142 = .ok (.getfield 12, 3) := by decide +kernel
theorem dX4_makeStep_145 : decode cX4_makeStep 145 = .ok (.iload_n 2, 1) := by decide +kernel
theorem dX4_makeStep_146 : decode cX4_makeStep 146 = .ok (.iload 5, 2) := by decide +kernel
theorem dX4_makeStep_148 : decode cX4_makeStep 148 = .ok (.invokevirtual 93, 3) := by decide +kernel
theorem dX4_makeStep_151 : decode cX4_makeStep 151 = .ok (.iastore, 1) := by decide +kernel
theorem dX4_makeStep_152 : decode cX4_makeStep 152 = .ok (.iinc 5 1, 3) := by decide +kernel
theorem dX4_makeStep_155 : decode cX4_makeStep 155 = .ok (.goto (-29), 3) := by decide +kernel
theorem dX4_makeStep_158 : decode cX4_makeStep 158 = .ok (.aload_n 0, 1) := by decide +kernel
theorem dX4_makeStep_159 : decode cX4_makeStep 159 = .ok (.getfield 21, 3) := by decide +kernel
theorem dX4_makeStep_162 : decode cX4_makeStep 162 = .ok (.aload_n 0, 1) := by decide +kernel
theorem dX4_makeStep_163 : decode cX4_makeStep 163 = .ok (.getfield 12, 3) := by decide +kernel
theorem dX4_makeStep_166 : decode cX4_makeStep 166 = .ok (.aload_n 1, 1) := by decide +kernel
theorem dX4_makeStep_167 : decode cX4_makeStep 167 = .ok (.invokevirtual 97, 3) := by decide +kernel
theorem dX4_makeStep_170 : decode cX4_makeStep 170 = .ok (.pop, 1) := by decide +kernel
theorem dX4_makeStep_171 : decode cX4_makeStep 171 = .ok (.iconst 1, 1) := by decide +kernel
theorem dX4_makeStep_172 : decode cX4_makeStep 172 = .ok (.ireturn, 1) := by decide +kernel
theorem dX4_improveBest_0 : decode cX4_improveBest 0 = .ok (.aload_n 0, 1) := by decide +kernel
theorem dX4_improveBest_1 : decode cX4_improveBest 1 = .ok (.getfield 25, 3) := by decide +kernel
theorem dX4_improveBest_4 : decode cX4_improveBest 4 = .ok (.iconst (-1), 1) := by decide +kernel
theorem dX4_improveBest_5 : decode cX4_improveBest 5 = .ok (.if_icmp .eq 25, 3) := by decide +kernel
theorem dX4_improveBest_8 : decode cX4_improveBest 8 = .ok (.aload_n 0, 1) := by decide +kernel
theorem dX4_improveBest_9 : decode cX4_improveBest 9 = .ok (.getfield 12, 3) := by decide +kernel
theorem dX4_improveBest_12 : decode cX4_improveBest 12 = .ok (.iload_n 1, 1) := by decide +kernel
theorem dX4_improveBest_13 : decode cX4_improveBest 13 = .ok (.invokevirtual 78, 3) := by decide +kernel
theorem dX4_improveBest_16 : decode cX4_improveBest 16 = .ok (.aload_n 0, 1) := by decide +kernel
theorem dX4_improveBest_17 : decode cX4_improveBest 17 = .ok (.getfield 12, 3) := by decide +kernel
theorem dX4_improveBest_20 : decode cX4_improveBest 20 = .ok (.aload_n 0, 1) := by decide +kernel
theorem dX4_improveBest_21 : decode cX4_improveBest 21 = .ok (.getfield 25, 3) := by decide +kernel
theorem dX4_improveBest_24 : decode cX4_improveBest 24 = .ok (.invokevirtual 78, 3) := by decide +kernel
theorem dX4_improveBest_27 : decode cX4_improveBest 27 = .ok (.if_icmp .ge 8, 3) := by decide +kernel
theorem dX4_improveBest_30 : decode cX4_improveBest 30 = .ok (.aload_n 0, 1) := by decide +kernel
theorem dX4_improveBest_31 : decode cX4_improveBest 31 = .ok (.iload_n 1, 1) := by decide +kernel
theorem dX4_improveBest_32 : decode cX4_improveBest 32 = .ok (.putfield 25, 3) := by decide +kernel
theorem dX4_improveBest_35 : decode cX4_improveBest 35 = .ok (.return_, 1) := by decide +kernel
theorem dX4_countPlansThatBreak_0 : decode cX4_countPlansThatBreak 0 = .ok (.iconst 0, 1) := by decide +kernel
theorem dX4_countPlansThatBreak_1 : decode cX4_countPlansThatBreak 1 = .ok (.istore_n 2, 1) := by decide +kernel
theorem dX4_countPlansThatBreak_2 : decode cX4_countPlansThatBreak 2 = .ok (.iconst 0, 1) := by decide +kernel
theorem dX4_countPlansThatBreak_3 : decode cX4_countPlansThatBreak 3 = .ok (.istore_n 3, 1) := by decide +kernel
theorem dX4_countPlansThatBreak_4 : decode cX4_countPlansThatBreak 4 = .ok (.iload_n 3, 1) := by decide +kernel
theorem dX4_countPlansThatBreak_5 : decode cX4_countPlansThatBreak 5 = .ok (.aload_n 0, 1) := by decide +kernel
theorem dX4_countPlansThatBreak_6 : decode cX4_countPlansThatBreak 6 = .ok (.getfield 12, 3) := by decide +kernel
theorem dX4_countPlansThatBreak_9 : decode cX4_countPlansThatBreak 9 = .ok (.invokevirtual 59, 3) := by decide +kernel
theorem dX4_countPlansThatBreak_12 : decode cX4_countPlansThatBreak 12 = .ok (.if_icmp .ge 32, 3) := by decide +kernel
theorem dX4_countPlansThatBreak_15 : decode cX4_countPlansThatBreak 15 = .ok (.aload_n 0, 1) := by decide +kernel
theorem dX4_countPlansThatBreak_16 : decode cX4_countPlansThatBreak 16 = .ok (.getfield 12, 3) := by decide +kernel
theorem dX4_countPlansThatBreak_19 : decode cX4_countPlansThatBreak 19 = .ok (.iload_n 3, 1) := by decide +kernel
theorem dX4_countPlansThatBreak_20 : decode cX4_countPlansThatBreak 20 = .ok (.invokevirtual 101, 3) := by decide +kernel
theorem dX4_countPlansThatBreak_23 : decode cX4_countPlansThatBreak 23 = .ok (.ifCond .eq 15, 3) := by decide +kernel
theorem dX4_countPlansThatBreak_26 : decode cX4_countPlansThatBreak 26 = .ok (.aload_n 0, 1) := by decide +kernel
theorem dX4_countPlansThatBreak_27 : decode cX4_countPlansThatBreak 27 = .ok (.iload_n 1, 1) := by decide +kernel
theorem dX4_countPlansThatBreak_28 : decode cX4_countPlansThatBreak 28 = .ok (.iload_n 3, 1) := by decide +kernel
theorem dX4_countPlansThatBreak_29 : decode cX4_countPlansThatBreak 29 = .ok (.invokevirtual 104, 3) := by decide +kernel
theorem dX4_countPlansThatBreak_32 : decode cX4_countPlansThatBreak 32 = .ok (.ifCond .eq 6, 3) := by decide +kernel
theorem dX4_countPlansThatBreak_35 : decode cX4_countPlansThatBreak 35 = .ok (.iinc 2 1, 3) := by decide +kernel
theorem dX4_countPlansThatBreak_38 : decode cX4_countPlansThatBreak 38 = .ok (.iinc 3 1, 3) := by decide +kernel
theorem dX4_countPlansThatBreak_41 : decode cX4_countPlansThatBreak 41 = .ok (.goto (-37), 3) := by decide +kernel
theorem dX4_countPlansThatBreak_44 : decode cX4_countPlansThatBreak 44 = .ok (.iload_n 2, 1) := by decide +kernel
theorem dX4_countPlansThatBreak_45 : decode cX4_countPlansThatBreak 45 = .ok (.ireturn, 1) := by decide +kernel
theorem dX4_isBroken_0 : decode cX4_isBroken 0 = .ok (.aload_n 0, 1) := by decide +kernel
theorem dX4_isBroken_1 : decode cX4_isBroken 1 = .ok (.getfield 21, 3) := by decide +kernel
theorem dX4_isBroken_4 : decode cX4_isBroken 4 = .ok (.iload_n 1, 1) := by decide +kernel
theorem dX4_isBroken_5 : decode cX4_isBroken 5 = .ok (.invokevirtual 108, 3) := by decide +kernel
theorem dX4_isBroken_8 : decode cX4_isBroken 8 = .ok (.ifCond .eq 21, 3) := by decide +kernel
theorem dX4_isBroken_11 : decode cX4_isBroken 11 = .ok (.aload_n 0, 1) := by decide +kernel
theorem dX4_isBroken_12 : decode cX4_isBroken 12 = .ok (.getfield 21, 3) := by decide +kernel
theorem dX4_isBroken_15 : decode cX4_isBroken 15 = .ok (.iload_n 1, 1) := by decide +kernel
theorem dX4_isBroken_16 : decode cX4_isBroken 16 = .ok (.iload_n 2, 1) := by decide +kernel
theorem dX4_isBroken_17 : decode cX4_isBroken 17 = .ok (.invokevirtual 111, 3) := by decide +kernel
theorem dX4_isBroken_20 : decode cX4_isBroken 20 = .ok (.ifCond .ne 7, 3) := by decide +kernel
theorem dX4_isBroken_23 : decode cX4_isBroken 23 = .ok (.iconst 1, 1) := by decide +kernel
theorem dX4_isBroken_24 : decode cX4_isBroken 24 = .ok (.goto 4, 3) := by decide +kernel
theorem dX4_isBroken_27 : decode cX4_isBroken 27 = .ok (.iconst 0, 1) := by decide +kernel
theorem dX4_isBroken_28 : decode cX4_isBroken 28 = .ok (.ireturn, 1) := by decide +kernel
theorem dX4_isBroken_29 : decode cX4_isBroken 29 = .ok (.aload_n 0, 1) := by decide +kernel
theorem dX4_isBroken_30 : decode cX4_isBroken 30 = .ok (.getfield 21, 3) := by decide +kernel
theorem dX4_isBroken_33 : decode cX4_isBroken 33 = .ok (.iload_n 1, 1) := by decide +kernel
theorem dX4_isBroken_34 : decode cX4_isBroken 34 = .ok (.iload_n 2, 1) := by decide +kernel
theorem dX4_isBroken_35 : decode cX4_isBroken 35 = .ok (.invokevirtual 114, 3) := by decide +kernel
theorem dX4_isBroken_38 : decode cX4_isBroken 38 = .ok (.aload_n 0, 1) := by decide +kernel
theorem dX4_isBroken_39 : decode cX4_isBroken 39 = .ok (.getfield 12, 3) := by decide +kernel
theorem dX4_isBroken_42 : decode cX4_isBroken 42 = .ok (.iload_n 2, 1) := by decide +kernel
theorem dX4_isBroken_43 : decode cX4_isBroken 43 = .ok (.invokevirtual 117, 3) := by decide +kernel
theorem dX4_isBroken_46 : decode cX4_isBroken 46 = .ok (.if_icmp .le 7, 3) := by decide +kernel
theorem dX4_isBroken_49 : decode cX4_isBroken 49 = .ok (.iconst 1, 1) := by decide +kernel
theorem dX4_isBroken_50 : decode cX4_isBroken 50 = .ok (.goto 4, 3) := by decide +kernel
theorem dX4_isBroken_53 : decode cX4_isBroken 53 = .ok (.iconst 0, 1) := by decide +kernel
theorem dX4_isBroken_54 : decode cX4_isBroken 54 = .ok (.ireturn, 1) := by decide +kernel
theorem dX4_countPlansThatAreTight_0 : decode cX4_countPlansThatAreTight 0 = .ok (.iconst 0, 1) := by decide +kernel
theorem dX4_countPlansThatAreTight_1 : decode cX4_countPlansThatAreTight 1 = .ok (.istore_n 2, 1) := by decide +kernel
theorem dX4_countPlansThatAreTight_2 : decode cX4_countPlansThatAreTight 2 = .ok (.iconst 0, 1) := by decide +kernel
theorem dX4_countPlansThatAreTight_3 : decode cX4_countPlansThatAreTight 3 = .ok (.istore_n 3, 1) := by decide +kernel
theorem dX4_countPlansThatAreTight_4 : decode cX4_countPlansThatAreTight 4 = .ok (.iload_n 3, 1) := by decide +kernel
theorem dX4_countPlansThatAreTight_5 : decode cX4_countPlansThatAreTight 5 = .ok (.aload_n 0, 1) := by decide +kernel
theorem dX4_countPlansThatAreTight_6 : decode cX4_countPlansThatAreTight 6 = .ok (.getfield 12, 3) := by decide +kernel
theorem dX4_countPlansThatAreTight_9 : decode cX4_countPlansThatAreTight 9 = .ok (.invokevirtual 59, 3) := by decide +kernel
theorem dX4_countPlansThatAreTight_12 : decode cX4_countPlansThatAreTight 12 = .ok (.if_icmp .ge 32, 3) := by decide +kernel
theorem dX4_countPlansThatAreTight_15 : decode cX4_countPlansThatAreTight 15 = .ok (.aload_n 0, 1) := by decide +kernel
theorem dX4_countPlansThatAreTight_16 : decode cX4_countPlansThatAreTight 16 = .ok (.getfield 12, 3) := by decide +kernel
theorem dX4_countPlansThatAreTight_19 : decode cX4_countPlansThatAreTight 19 = .ok (.iload_n 3, 1) := by decide +kernel
theorem dX4_countPlansThatAreTight_20 : decode cX4_countPlansThatAreTight 20 = .ok (.invokevirtual 101, 3) := by decide +kernel
theorem dX4_countPlansThatAreTight_23 : decode cX4_countPlansThatAreTight 23 = .ok (.ifCond .eq 15, 3) := by decide +kernel
theorem dX4_countPlansThatAreTight_26 : decode cX4_countPlansThatAreTight 26 = .ok (.aload_n 0, 1) := by decide +kernel
theorem dX4_countPlansThatAreTight_27 : decode cX4_countPlansThatAreTight 27 = .ok (.iload_n 1, 1) := by decide +kernel
theorem dX4_countPlansThatAreTight_28 : decode cX4_countPlansThatAreTight 28 = .ok (.iload_n 3, 1) := by decide +kernel
theorem dX4_countPlansThatAreTight_29 : decode cX4_countPlansThatAreTight 29 = .ok (.invokevirtual 120, 3) := by decide +kernel
theorem dX4_countPlansThatAreTight_32 : decode cX4_countPlansThatAreTight 32 = .ok (.ifCond .eq 6, 3) := by decide +kernel
theorem dX4_countPlansThatAreTight_35 : decode cX4_countPlansThatAreTight 35 = .ok (.iinc 2 1, 3) := by decide +kernel
theorem dX4_countPlansThatAreTight_38 : decode cX4_countPlansThatAreTight 38 = .ok (.iinc 3 1, 3) := by decide +kernel
theorem dX4_countPlansThatAreTight_41 : decode cX4_countPlansThatAreTight 41 = .ok (.goto (-37), 3) := by decide +kernel
theorem dX4_countPlansThatAreTight_44 : decode cX4_countPlansThatAreTight 44 = .ok (.iload_n 2, 1) := by decide +kernel
theorem dX4_countPlansThatAreTight_45 : decode cX4_countPlansThatAreTight 45 = .ok (.ireturn, 1) := by decide +kernel
theorem dX4_isTight_0 : decode cX4_isTight 0 = .ok (.aload_n 0, 1) := by decide +kernel
theorem dX4_isTight_1 : decode cX4_isTight 1 = .ok (.getfield 21, 3) := by decide +kernel
theorem dX4_isTight_4 : decode cX4_isTight 4 = .ok (.iload_n 1, 1) := by decide +kernel
theorem dX4_isTight_5 : decode cX4_isTight 5 = .ok (.invokevirtual 108, 3) := by decide +kernel
theorem dX4_isTight_8 : decode cX4_isTight 8 = .ok (.ifCond .eq 22, 3) := by decide +kernel
theorem dX4_isTight_11 : decode cX4_isTight 11 = .ok (.aload_n 0, 1) := by decide +kernel
theorem dX4_isTight_12 : decode cX4_isTight 12 = .ok (.getfield 21, 3) := by decide +kernel
theorem dX4_isTight_15 : decode cX4_isTight 15 = .ok (.iload_n 1, 1) := by decide +kernel
theorem dX4_isTight_16 : decode cX4_isTight 16 = .ok (.iload_n 2, 1) := by decide +kernel
theorem dX4_isTight_17 : decode cX4_isTight 17 = .ok (.invokevirtual 111, 3) := by decide +kernel
theorem dX4_isTight_20 : decode cX4_isTight 20 = .ok (.iconst 1, 1) := by decide +kernel
theorem dX4_isTight_21 : decode cX4_isTight 21 = .ok (.if_icmp .ne 7, 3) := by decide +kernel
theorem dX4_isTight_24 : decode cX4_isTight 24 = .ok (.iconst 1, 1) := by decide +kernel
theorem dX4_isTight_25 : decode cX4_isTight 25 = .ok (.goto 4, 3) := by decide +kernel
theorem dX4_isTight_28 : decode cX4_isTight 28 = .ok (.iconst 0, 1) := by decide +kernel
theorem dX4_isTight_29 : decode cX4_isTight 29 = .ok (.ireturn, 1) := by decide +kernel
theorem dX4_isTight_30 : decode cX4_isTight 30 = .ok (.aload_n 0, 1) := by decide +kernel
theorem dX4_isTight_31 : decode cX4_isTight 31 = .ok (.getfield 21, 3) := by decide +kernel
theorem dX4_isTight_34 : decode cX4_isTight 34 = .ok (.iload_n 1, 1) := by decide +kernel
theorem dX4_isTight_35 : decode cX4_isTight 35 = .ok (.iload_n 2, 1) := by decide +kernel
theorem dX4_isTight_36 : decode cX4_isTight 36 = .ok (.invokevirtual 114, 3) := by decide +kernel
theorem dX4_isTight_39 : decode cX4_isTight 39 = .ok (.aload_n 0, 1) := by decide +kernel
theorem dX4_isTight_40 : decode cX4_isTight 40 = .ok (.getfield 12, 3) := by decide +kernel
theorem dX4_isTight_43 : decode cX4_isTight 43 = .ok (.iload_n 2, 1) := by decide +kernel
theorem dX4_isTight_44 : decode cX4_isTight 44 = .ok (.invokevirtual 117, 3) := by decide +kernel
theorem dX4_isTight_47 : decode cX4_isTight 47 = .ok (.if_icmp .ne 7, 3) := by decide +kernel
theorem dX4_isTight_50 : decode cX4_isTight 50 = .ok (.iconst 1, 1) := by decide +kernel
theorem dX4_isTight_51 : decode cX4_isTight 51 = .ok (.goto 4, 3) := by decide +kernel
theorem dX4_isTight_54 : decode cX4_isTight 54 = .ok (.iconst 0, 1) := by decide +kernel
theorem dX4_isTight_55 : decode cX4_isTight 55 = .ok (.ireturn, 1) := by decide +kernel
theorem dJ6_bitCount_0f7a4_0 : decode cJ6_bitCount_0f7a4 0 = .ok (.iload_n 0, 1) := by decide +kernel
theorem dJ6_bitCount_0f7a4_1 : decode cJ6_bitCount_0f7a4 1 = .ok (.iload_n 0, 1) := by decide +kernel
theorem dJ6_bitCount_0f7a4_2 : decode cJ6_bitCount_0f7a4 2 = .ok (.iconst 1, 1) := by decide +kernel
theorem dJ6_bitCount_0f7a4_3 : decode cJ6_bitCount_0f7a4 3 = .ok (.iushr, 1) := by decide +kernel
theorem dJ6_bitCount_0f7a4_4 : decode cJ6_bitCount_0f7a4 4 = .ok (.ldc_w 265, 3) := by decide +kernel
theorem dJ6_bitCount_0f7a4_7 : decode cJ6_bitCount_0f7a4 7 = .ok (.iand, 1) := by decide +kernel
theorem dJ6_bitCount_0f7a4_8 : decode cJ6_bitCount_0f7a4 8 = .ok (.isub, 1) := by decide +kernel
theorem dJ6_bitCount_0f7a4_9 : decode cJ6_bitCount_0f7a4 9 = .ok (.istore_n 0, 1) := by decide +kernel
theorem dJ6_bitCount_0f7a4_10 : decode cJ6_bitCount_0f7a4 10 = .ok (.iload_n 0, 1) := by decide +kernel
theorem dJ6_bitCount_0f7a4_11 : decode cJ6_bitCount_0f7a4 11 = .ok (.ldc_w 266, 3) := by decide +kernel
theorem dJ6_bitCount_0f7a4_14 : decode cJ6_bitCount_0f7a4 14 = .ok (.iand, 1) := by decide +kernel
theorem dJ6_bitCount_0f7a4_15 : decode cJ6_bitCount_0f7a4 15 = .ok (.iload_n 0, 1) := by decide +kernel
theorem dJ6_bitCount_0f7a4_16 : decode cJ6_bitCount_0f7a4 16 = .ok (.iconst 2, 1) := by decide +kernel
theorem dJ6_bitCount_0f7a4_17 : decode cJ6_bitCount_0f7a4 17 = .ok (.iushr, 1) := by decide +kernel
theorem dJ6_bitCount_0f7a4_18 : decode cJ6_bitCount_0f7a4 18 = .ok (.ldc_w 266, 3) := by decide +kernel
theorem dJ6_bitCount_0f7a4_21 : decode cJ6_bitCount_0f7a4 21 = .ok (.iand, 1) := by decide +kernel
theorem dJ6_bitCount_0f7a4_22 : decode cJ6_bitCount_0f7a4 22 = .ok (.iadd, 1) := by decide +kernel
theorem dJ6_bitCount_0f7a4_23 : decode cJ6_bitCount_0f7a4 23 = .ok (.istore_n 0, 1) := by decide +kernel
theorem dJ6_bitCount_0f7a4_24 : decode cJ6_bitCount_0f7a4 24 = .ok (.iload_n 0, 1) := by decide +kernel
theorem dJ6_bitCount_0f7a4_25 : decode cJ6_bitCount_0f7a4 25 = .ok (.iload_n 0, 1) := by decide +kernel
theorem dJ6_bitCount_0f7a4_26 : decode cJ6_bitCount_0f7a4 26 = .ok (.iconst 4, 1) := by decide +kernel
theorem dJ6_bitCount_0f7a4_27 : decode cJ6_bitCount_0f7a4 27 = .ok (.iushr, 1) := by decide +kernel
theorem dJ6_bitCount_0f7a4_28 : decode cJ6_bitCount_0f7a4 28 = .ok (.iadd, 1) := by decide +kernel
theorem dJ6_bitCount_0f7a4_29 : decode cJ6_bitCount_0f7a4 29 = .ok (.ldc_w 267, 3) := by decide +kernel
theorem dJ6_bitCount_0f7a4_32 : decode cJ6_bitCount_0f7a4 32 = .ok (.iand, 1) := by decide +kernel
theorem dJ6_bitCount_0f7a4_33 : decode cJ6_bitCount_0f7a4 33 = .ok (.istore_n 0, 1) := by decide +kernel
theorem dJ6_bitCount_0f7a4_34 : decode cJ6_bitCount_0f7a4 34 = .ok (.iload_n 0, 1) := by decide +kernel
theorem dJ6_bitCount_0f7a4_35 : decode cJ6_bitCount_0f7a4 35 = .ok (.iload_n 0, 1) := by decide +kernel
theorem dJ6_bitCount_0f7a4_36 : decode cJ6_bitCount_0f7a4 36 = .ok (.bipush 8, 2) := by decide +kernel
theorem dJ6_bitCount_0f7a4_38 : decode cJ6_bitCount_0f7a4 38 = .ok (.iushr, 1) := by decide +kernel
theorem dJ6_bitCount_0f7a4_39 : decode cJ6_bitCount_0f7a4 39 = .ok (.iadd, 1) := by decide +kernel
theorem dJ6_bitCount_0f7a4_40 : decode cJ6_bitCount_0f7a4 40 = .ok (.istore_n 0, 1) := by decide +kernel
theorem dJ6_bitCount_0f7a4_41 : decode cJ6_bitCount_0f7a4 41 = .ok (.iload_n 0, 1) := by decide +kernel
theorem dJ6_bitCount_0f7a4_42 : decode cJ6_bitCount_0f7a4 42 = .ok (.iload_n 0, 1) := by decide +kernel
theorem dJ6_bitCount_0f7a4_43 : decode cJ6_bitCount_0f7a4 43 = .ok (.bipush 16, 2) := by decide +kernel
theorem dJ6_bitCount_0f7a4_45 : decode cJ6_bitCount_0f7a4 45 = .ok (.iushr, 1) := by decide +kernel
theorem dJ6_bitCount_0f7a4_46 : decode cJ6_bitCount_0f7a4 46 = .ok (.iadd, 1) := by decide +kernel
theorem dJ6_bitCount_0f7a4_47 : decode cJ6_bitCount_0f7a4 47 = .ok (.istore_n 0, 1) := by decide +kernel
theorem dJ6_bitCount_0f7a4_48 : decode cJ6_bitCount_0f7a4 48 = .ok (.iload_n 0, 1) := by decide +kernel
theorem dJ6_bitCount_0f7a4_49 : decode cJ6_bitCount_0f7a4 49 = .ok (.bipush 63, 2) := by decide +kernel
theorem dJ6_bitCount_0f7a4_51 : decode cJ6_bitCount_0f7a4 51 = .ok (.iand, 1) := by decide +kernel
theorem dJ6_bitCount_0f7a4_52 : decode cJ6_bitCount_0f7a4 52 = .ok (.ireturn, 1) := by decide +kernel
end
section
theorem dX5_init_0 : decode cX5_init 0 = .ok (.aload_n 0, 1) := by decide +kernel
theorem dX5_init_1 : decode cX5_init 1 = .ok (.invokespecial 1, 3) := by decide +kernel
theorem dX5_init_4 : decode cX5_init 4 = .ok (.aload_n 0, 1) := by decide +kernel
theorem dX5_init_5 : decode cX5_init 5 = .ok (.new 7, 3) := by decide +kernel
theorem dX5_init_8 : decode cX5_init 8 = .ok (.dup, 1) := by decide +kernel
theorem dX5_init_9 : decode cX5_init 9 = .ok (.invokespecial 9, 3) := by decide +kernel
theorem dX5_init_12 : decode cX5_init 12 = .ok (.putfield 10, 3) := by decide +kernel
theorem dX5_init_15 : decode cX5_init 15 = .ok (.aload_n 0, 1) := by decide +kernel
theorem dX5_init_16 : decode cX5_init 16 = .ok (.new 7, 3) := by decide +kernel
theorem dX5_init_19 : decode cX5_init 19 = .ok (.dup, 1) := by decide +kernel
theorem dX5_init_20 : decode cX5_init 20 = .ok (.invokespecial 9, 3) := by decide +kernel
theorem dX5_init_23 : decode cX5_init 23 = .ok (.putfield 16, 3) := by decide +kernel
theorem dX5_init_26 : decode cX5_init 26 = .ok (.aload_n 0, 1) := by decide +kernel
theorem dX5_init_27 : decode cX5_init 27 = .ok (.new 7, 3) := by decide +kernel
theorem dX5_init_30 : decode cX5_init 30 = .ok (.dup, 1) := by decide +kernel
theorem dX5_init_31 : decode cX5_init 31 = .ok (.invokespecial 9, 3) := by decide +kernel
theorem dX5_init_34 : decode cX5_init 34 = .ok (.putfield 19, 3) := by decide +kernel
theorem dX5_init_37 : decode cX5_init 37 = .ok (.aload_n 0, 1) := by decide +kernel
theorem dX5_init_38 : decode cX5_init 38 = .ok (.iconst 0, 1) := by decide +kernel
theorem dX5_init_39 : decode cX5_init 39 = .ok (.putfield 22, 3) := by decide +kernel
theorem dX5_init_42 : decode cX5_init 42 = .ok (.aload_n 0, 1) := by decide +kernel
theorem dX5_init_43 : decode cX5_init 43 = .ok (.new 26, 3) := by decide +kernel
theorem dX5_init_46 : decode cX5_init 46 = .ok (.dup, 1) := by decide +kernel
theorem dX5_init_47 : decode cX5_init 47 = .ok (.invokespecial 28, 3) := by decide +kernel
theorem dX5_init_50 : decode cX5_init 50 = .ok (.putfield 29, 3) := by decide +kernel
theorem dX5_init_53 : decode cX5_init 53 = .ok (.aload_n 0, 1) := by decide +kernel
theorem dX5_init_54 : decode cX5_init 54 = .ok (.new 33, 3) := by decide +kernel
theorem dX5_init_57 : decode cX5_init 57 = .ok (.dup, 1) := by decide +kernel
theorem dX5_init_58 : decode cX5_init 58 = .ok (.invokespecial 35, 3) := by decide +kernel
theorem dX5_init_61 : decode cX5_init 61 = .ok (.putfield 36, 3) := by decide +kernel
theorem dX5_init_64 : decode cX5_init 64 = .ok (.aload_n 0, 1) := by decide +kernel
theorem dX5_init_65 : decode cX5_init 65 = .ok (.bipush 8, 2) := by decide +kernel
theorem dX5_init_67 : decode cX5_init 67 = .ok (.newarray .int, 2) := by decide +kernel
theorem dX5_init_69 : decode cX5_init 69 = .ok (.putfield 40, 3) := by decide +kernel
theorem dX5_init_72 : decode cX5_init 72 = .ok (.return_, 1) := by decide +kernel
theorem dX5_addSite_0 : decode cX5_addSite 0 = .ok (.iload_n 1, 1) := by decide +kernel
theorem dX5_addSite_1 : decode cX5_addSite 1 = .ok (.invokestatic 44, 3) := by decide +kernel
theorem dX5_addSite_4 : decode cX5_addSite 4 = .ok (.ifCond .ne 6, 3) := by decide +kernel
theorem dX5_addSite_7 : decode cX5_addSite 7 = .ok (.bipush (-2), 2) := by decide +kernel
theorem dX5_addSite_9 : decode cX5_addSite 9 = .ok (.ireturn, 1) := by decide +kernel
theorem dX5_addSite_10 : decode cX5_addSite 10 = .ok (.aload_n 0, 1) := by decide +kernel
theorem dX5_addSite_11 : decode cX5_addSite 11 = .ok (.getfield 10, 3) := by decide +kernel
theorem dX5_addSite_14 : decode cX5_addSite 14 = .ok (.getfield 48, 3) := by decide +kernel
theorem dX5_addSite_17 : decode cX5_addSite 17 = .ok (.getfield 52, 3) := by decide +kernel
theorem dX5_addSite_20 : decode cX5_addSite 20 = .ok (.bipush 7, 2) := by decide +kernel
theorem dX5_addSite_22 : decode cX5_addSite 22 = .ok (.if_icmp .lt 6, 3) := by decide +kernel
theorem dX5_addSite_25 : decode cX5_addSite 25 = .ok (.bipush (-3), 2) := by decide +kernel
theorem dX5_addSite_27 : decode cX5_addSite 27 = .ok (.ireturn, 1) := by decide +kernel
theorem dX5_addSite_28 : decode cX5_addSite 28 = .ok (.aload_n 0, 1) := by decide +kernel
theorem dX5_addSite_29 : decode cX5_addSite 29 = .ok (.getfield 29, 3) := by decide +kernel
theorem dX5_addSite_32 : decode cX5_addSite 32 = .ok (.aload_n 0, 1) := by decide +kernel
theorem dX5_addSite_33 : decode cX5_addSite 33 = .ok (.getfield 10, 3) := by decide +kernel
theorem dX5_addSite_36 : decode cX5_addSite 36 = .ok (.invokevirtual 58, 3) := by decide +kernel
theorem dX5_addSite_39 : decode cX5_addSite 39 = .ok (.aload_n 0, 1) := by decide +kernel
theorem dX5_addSite_40 : decode cX5_addSite 40 = .ok (.getfield 10, 3) := by decide +kernel
theorem dX5_addSite_43 : decode cX5_addSite 43 = .ok (.invokevirtual 62, 3) := by decide +kernel
theorem dX5_addSite_46 : decode cX5_addSite 46 = .ok (.aload_n 0, 1) := by decide +kernel
theorem dX5_addSite_47 : decode cX5_addSite 47 = .ok (.getfield 10, 3) := by decide +kernel
theorem dX5_addSite_50 : decode cX5_addSite 50 = .ok (.getfield 48, 3) := by decide +kernel
theorem dX5_addSite_53 : decode cX5_addSite 53 = .ok (.iload_n 1, 1) := by decide +kernel
theorem dX5_addSite_54 : decode cX5_addSite 54 = .ok (.invokevirtual 65, 3) := by decide +kernel
theorem dX5_addSite_57 : decode cX5_addSite 57 = .ok (.ireturn, 1) := by decide +kernel
theorem dX5_addCustomer_0 : decode cX5_addCustomer 0 = .ok (.iload_n 1, 1) := by decide +kernel
theorem dX5_addCustomer_1 : decode cX5_addCustomer 1 = .ok (.invokestatic 69, 3) := by decide +kernel
theorem dX5_addCustomer_4 : decode cX5_addCustomer 4 = .ok (.ifCond .ne 6, 3) := by decide +kernel
theorem dX5_addCustomer_7 : decode cX5_addCustomer 7 = .ok (.bipush (-2), 2) := by decide +kernel
theorem dX5_addCustomer_9 : decode cX5_addCustomer 9 = .ok (.ireturn, 1) := by decide +kernel
theorem dX5_addCustomer_10 : decode cX5_addCustomer 10 = .ok (.aload_n 0, 1) := by decide +kernel
theorem dX5_addCustomer_11 : decode cX5_addCustomer 11 = .ok (.getfield 10, 3) := by decide +kernel
theorem dX5_addCustomer_14 : decode cX5_addCustomer 14 = .ok (.getfield 48, 3) := by decide +kernel
theorem dX5_addCustomer_17 : decode cX5_addCustomer 17 = .ok (.getfield 72, 3) := by decide +kernel
theorem dX5_addCustomer_20 : decode cX5_addCustomer 20 = .ok (.bipush 8, 2) := by decide +kernel
theorem dX5_addCustomer_22 : decode cX5_addCustomer 22 = .ok (.if_icmp .lt 6, 3) := by decide +kernel
theorem dX5_addCustomer_25 : decode cX5_addCustomer 25 = .ok (.bipush (-3), 2) := by decide +kernel
theorem dX5_addCustomer_27 : decode cX5_addCustomer 27 = .ok (.ireturn, 1) := by decide +kernel
theorem dX5_addCustomer_28 : decode cX5_addCustomer 28 = .ok (.aload_n 0, 1) := by decide +kernel
theorem dX5_addCustomer_29 : decode cX5_addCustomer 29 = .ok (.getfield 29, 3) := by decide +kernel
theorem dX5_addCustomer_32 : decode cX5_addCustomer 32 = .ok (.aload_n 0, 1) := by decide +kernel
theorem dX5_addCustomer_33 : decode cX5_addCustomer 33 = .ok (.getfield 10, 3) := by decide +kernel
theorem dX5_addCustomer_36 : decode cX5_addCustomer 36 = .ok (.invokevirtual 58, 3) := by decide +kernel
theorem dX5_addCustomer_39 : decode cX5_addCustomer 39 = .ok (.aload_n 0, 1) := by decide +kernel
theorem dX5_addCustomer_40 : decode cX5_addCustomer 40 = .ok (.getfield 10, 3) := by decide +kernel
theorem dX5_addCustomer_43 : decode cX5_addCustomer 43 = .ok (.invokevirtual 62, 3) := by decide +kernel
theorem dX5_addCustomer_46 : decode cX5_addCustomer 46 = .ok (.aload_n 0, 1) := by decide +kernel
theorem dX5_addCustomer_47 : decode cX5_addCustomer 47 = .ok (.getfield 10, 3) := by decide +kernel
theorem dX5_addCustomer_50 : decode cX5_addCustomer 50 = .ok (.getfield 48, 3) := by decide +kernel
theorem dX5_addCustomer_53 : decode cX5_addCustomer 53 = .ok (.iload_n 1, 1) := by decide +kernel
theorem dX5_addCustomer_54 : decode cX5_addCustomer 54 = .ok (.invokevirtual 75, 3) := by decide +kernel
theorem dX5_addCustomer_57 : decode cX5_addCustomer 57 = .ok (.ireturn, 1) := by decide +kernel
theorem dX5_setPrice_0 : decode cX5_setPrice 0 = .ok (.aload_n 0, 1) := by decide +kernel
theorem dX5_setPrice_1 : decode cX5_setPrice 1 = .ok (.getfield 10, 3) := by decide +kernel
theorem dX5_setPrice_4 : decode cX5_setPrice 4 = .ok (.getfield 48, 3) := by decide +kernel
theorem dX5_setPrice_7 : decode cX5_setPrice 7 = .ok (.iload_n 1, 1) := by decide +kernel
theorem dX5_setPrice_8 : decode cX5_setPrice 8 = .ok (.invokevirtual 78, 3) := by decide +kernel
theorem dX5_setPrice_11 : decode cX5_setPrice 11 = .ok (.ifCond .ne 5, 3) := by decide +kernel
theorem dX5_setPrice_14 : decode cX5_setPrice 14 = .ok (.iconst (-1), 1) := by decide +kernel
theorem dX5_setPrice_15 : decode cX5_setPrice 15 = .ok (.ireturn, 1) := by decide +kernel
theorem dX5_setPrice_16 : decode cX5_setPrice 16 = .ok (.iload_n 2, 1) := by decide +kernel
theorem dX5_setPrice_17 : decode cX5_setPrice 17 = .ok (.invokestatic 44, 3) := by decide +kernel
theorem dX5_setPrice_20 : decode cX5_setPrice 20 = .ok (.ifCond .ne 6, 3) := by decide +kernel
theorem dX5_setPrice_23 : decode cX5_setPrice 23 = .ok (.bipush (-2), 2) := by decide +kernel
theorem dX5_setPrice_25 : decode cX5_setPrice 25 = .ok (.ireturn, 1) := by decide +kernel
theorem dX5_setPrice_26 : decode cX5_setPrice 26 = .ok (.aload_n 0, 1) := by decide +kernel
theorem dX5_setPrice_27 : decode cX5_setPrice 27 = .ok (.getfield 10, 3) := by decide +kernel
theorem dX5_setPrice_30 : decode cX5_setPrice 30 = .ok (.getfield 48, 3) := by decide +kernel
theorem dX5_setPrice_33 : decode cX5_setPrice 33 = .ok (.getfield 81, 3) := by decide +kernel
theorem dX5_setPrice_36 : decode cX5_setPrice 36 = .ok (.iload_n 1, 1) := by decide +kernel
theorem dX5_setPrice_37 : decode cX5_setPrice 37 = .ok (.iaload, 1) := by decide +kernel
theorem dX5_setPrice_38 : decode cX5_setPrice 38 = .ok (.istore_n 3, 1) := by decide +kernel
theorem dX5_setPrice_39 : decode cX5_setPrice 39 = .ok (.iload_n 3, 1) := by decide +kernel
theorem dX5_setPrice_40 : decode cX5_setPrice 40 = .ok (.iload_n 2, 1) := by decide +kernel
theorem dX5_setPrice_41 : decode cX5_setPrice 41 = .ok (.if_icmp .ne 6, 3) := by decide +kernel
theorem dX5_setPrice_44 : decode cX5_setPrice 44 = .ok (.bipush (-5), 2) := by decide +kernel
theorem dX5_setPrice_46 : decode cX5_setPrice 46 = .ok (.ireturn, 1) := by decide +kernel
theorem dX5_setPrice_47 : decode cX5_setPrice 47 = .ok (.aload_n 0, 1) := by decide +kernel
theorem dX5_setPrice_48 : decode cX5_setPrice 48 = .ok (.getfield 29, 3) := by decide +kernel
theorem dX5_setPrice_51 : decode cX5_setPrice 51 = .ok (.aload_n 0, 1) := by decide +kernel
theorem dX5_setPrice_52 : decode cX5_setPrice 52 = .ok (.getfield 10, 3) := by decide +kernel
theorem dX5_setPrice_55 : decode cX5_setPrice 55 = .ok (.invokevirtual 58, 3) := by decide +kernel
theorem dX5_setPrice_58 : decode cX5_setPrice 58 = .ok (.aload_n 0, 1) := by decide +kernel
theorem dX5_setPrice_59 : decode cX5_setPrice 59 = .ok (.getfield 10, 3) := by decide +kernel
theorem dX5_setPrice_62 : decode cX5_setPrice 62 = .ok (.invokevirtual 62, 3) := by decide +kernel
theorem dX5_setPrice_65 : decode cX5_setPrice 65 = .ok (.aload_n 0, 1) := by decide +kernel
theorem dX5_setPrice_66 : decode cX5_setPrice 66 = .ok (.getfield 10, 3) := by decide +kernel
theorem dX5_setPrice_69 : decode cX5_setPrice 69 = .ok (.getfield 48, 3) := by decide +kernel
theorem dX5_setPrice_72 : decode cX5_setPrice 72 = .ok (.getfield 81, 3) := by decide +kernel
theorem dX5_setPrice_75 : decode cX5_setPrice 75 = .ok (.iload_n 1, 1) := by decide +kernel
theorem dX5_setPrice_76 : decode cX5_setPrice 76 = .ok (.iload_n 2, 1) := by decide +kernel
theorem dX5_setPrice_77 : decode cX5_setPrice 77 = .ok (.iastore, 1) := by decide +kernel
theorem dX5_setPrice_78 : decode cX5_setPrice 78 = .ok (.iload_n 3, 1) := by decide +kernel
theorem dX5_setPrice_79 : decode cX5_setPrice 79 = .ok (.ireturn, 1) := by decide +kernel
theorem dX5_setDemand_0 : decode cX5_setDemand 0 = .ok (.aload_n 0, 1) := by decide +kernel
theorem dX5_setDemand_1 : decode cX5_setDemand 1 = .ok (.getfield 10, 3) := by decide +kernel
theorem dX5_setDemand_4 : decode cX5_setDemand 4 = .ok (.getfield 48, 3) := by decide +kernel
theorem dX5_setDemand_7 : decode cX5_setDemand 7 = .ok (.iload_n 1, 1) := by decide +kernel
theorem dX5_setDemand_8 : decode cX5_setDemand 8 = .ok (.invokevirtual 84, 3) := by decide +kernel
theorem dX5_setDemand_11 : decode cX5_setDemand 11 = .ok (.ifCond .ne 5, 3) := by decide +kernel
theorem dX5_setDemand_14 : decode cX5_setDemand 14 = .ok (.iconst (-1), 1) := by decide +kernel
theorem dX5_setDemand_15 : decode cX5_setDemand 15 = .ok (.ireturn, 1) := by decide +kernel
theorem dX5_setDemand_16 : decode cX5_setDemand 16 = .ok (.iload_n 2, 1) := by decide +kernel
theorem dX5_setDemand_17 : decode cX5_setDemand 17 = .ok (.invokestatic 69, 3) := by decide +kernel
theorem dX5_setDemand_20 : decode cX5_setDemand 20 = .ok (.ifCond .ne 6, 3) := by decide +kernel
theorem dX5_setDemand_23 : decode cX5_setDemand 23 = .ok (.bipush (-2), 2) := by decide +kernel
theorem dX5_setDemand_25 : decode cX5_setDemand 25 = .ok (.ireturn, 1) := by decide +kernel
theorem dX5_setDemand_26 : decode cX5_setDemand 26 = .ok (.aload_n 0, 1) := by decide +kernel
theorem dX5_setDemand_27 : decode cX5_setDemand 27 = .ok (.getfield 10, 3) := by decide +kernel
theorem dX5_setDemand_30 : decode cX5_setDemand 30 = .ok (.getfield 48, 3) := by decide +kernel
theorem dX5_setDemand_33 : decode cX5_setDemand 33 = .ok (.getfield 87, 3) := by decide +kernel
theorem dX5_setDemand_36 : decode cX5_setDemand 36 = .ok (.iload_n 1, 1) := by decide +kernel
theorem dX5_setDemand_37 : decode cX5_setDemand 37 = .ok (.iaload, 1) := by decide +kernel
theorem dX5_setDemand_38 : decode cX5_setDemand 38 = .ok (.istore_n 3, 1) := by decide +kernel
theorem dX5_setDemand_39 : decode cX5_setDemand 39 = .ok (.iload_n 3, 1) := by decide +kernel
theorem dX5_setDemand_40 : decode cX5_setDemand 40 = .ok (.iload_n 2, 1) := by decide +kernel
theorem dX5_setDemand_41 : decode cX5_setDemand 41 = .ok (.if_icmp .ne 6, 3) := by decide +kernel
theorem dX5_setDemand_44 : decode cX5_setDemand 44 = .ok (.bipush (-5), 2) := by decide +kernel
theorem dX5_setDemand_46 : decode cX5_setDemand 46 = .ok (.ireturn, 1) := by decide +kernel
theorem dX5_setDemand_47 : decode cX5_setDemand 47 = .ok (.aload_n 0, 1) := by decide +kernel
theorem dX5_setDemand_48 : decode cX5_setDemand 48 = .ok (.getfield 29, 3) := by decide +kernel
theorem dX5_setDemand_51 : decode cX5_setDemand 51 = .ok (.aload_n 0, 1) := by decide +kernel
theorem dX5_setDemand_52 : decode cX5_setDemand 52 = .ok (.getfield 10, 3) := by decide +kernel
theorem dX5_setDemand_55 : decode cX5_setDemand 55 = .ok (.invokevirtual 58, 3) := by decide +kernel
theorem dX5_setDemand_58 : decode cX5_setDemand 58 = .ok (.aload_n 0, 1) := by decide +kernel
theorem dX5_setDemand_59 : decode cX5_setDemand 59 = .ok (.getfield 10, 3) := by decide +kernel
theorem dX5_setDemand_62 : decode cX5_setDemand 62 = .ok (.invokevirtual 62, 3) := by decide +kernel
theorem dX5_setDemand_65 : decode cX5_setDemand 65 = .ok (.aload_n 0, 1) := by decide +kernel
theorem dX5_setDemand_66 : decode cX5_setDemand 66 = .ok (.getfield 10, 3) := by decide +kernel
theorem dX5_setDemand_69 : decode cX5_setDemand 69 = .ok (.getfield 48, 3) := by decide +kernel
theorem dX5_setDemand_72 : decode cX5_setDemand 72 = .ok (.getfield 87, 3) := by decide +kernel
theorem dX5_setDemand_75 : decode cX5_setDemand 75 = .ok (.iload_n 1, 1) := by decide +kernel
theorem dX5_setDemand_76 : decode cX5_setDemand 76 = .ok (.iload_n 2, 1) := by decide +kernel
theorem dX5_setDemand_77 : decode cX5_setDemand 77 = .ok (.iastore, 1) := by decide +kernel
theorem dX5_setDemand_78 : decode cX5_setDemand 78 = .ok (.iload_n 3, 1) := by decide +kernel
theorem dX5_setDemand_79 : decode cX5_setDemand 79 = .ok (.ireturn, 1) := by decide +kernel
theorem dX5_setRoute_0 : decode cX5_setRoute 0 = .ok (.aload_n 0, 1) := by decide +kernel
theorem dX5_setRoute_1 : decode cX5_setRoute 1 = .ok (.getfield 10, 3) := by decide +kernel
theorem dX5_setRoute_4 : decode cX5_setRoute 4 = .ok (.getfield 48, 3) := by decide +kernel
theorem dX5_setRoute_7 : decode cX5_setRoute 7 = .ok (.iload_n 1, 1) := by decide +kernel
theorem dX5_setRoute_8 : decode cX5_setRoute 8 = .ok (.invokevirtual 78, 3) := by decide +kernel
theorem dX5_setRoute_11 : decode cX5_setRoute 11 = .ok (.ifCond .eq 17, 3) := by decide +kernel
theorem dX5_setRoute_14 : decode cX5_setRoute 14 = .ok (.aload_n 0, 1) := by decide +kernel
theorem dX5_setRoute_15 : decode cX5_setRoute 15 = .ok (.getfield 10, 3) := by decide +kernel
theorem dX5_setRoute_18 : decode cX5_setRoute 18 = .ok (.getfield 48, 3) := by decide +kernel
theorem dX5_setRoute_21 : decode cX5_setRoute 21 = .ok (.iload_n 2, 1) := by decide +kernel
theorem dX5_setRoute_22 : decode cX5_setRoute 22 = .ok (.invokevirtual 84, 3) := by decide +kernel
theorem dX5_setRoute_25 : decode cX5_setRoute 25 = .ok (.ifCond .ne 5, 3) := by decide +kernel
theorem dX5_setRoute_28 : decode cX5_setRoute 28 = .ok (.iconst (-1), 1) := by decide +kernel
theorem dX5_setRoute_29 : decode cX5_setRoute 29 = .ok (.ireturn, 1) := by decide +kernel
theorem dX5_setRoute_30 : decode cX5_setRoute 30 = .ok (.iload_n 3, 1) := by decide +kernel
theorem dX5_setRoute_31 : decode cX5_setRoute 31 = .ok (.ifCond .lt 9, 3) := by decide +kernel
theorem dX5_setRoute_34 : decode cX5_setRoute 34 = .ok (.iload_n 3, 1) := by decide +kernel
theorem dX5_setRoute_35 : decode cX5_setRoute 35 = .ok (.bipush 100, 2) := by decide +kernel
theorem dX5_setRoute_37 : decode cX5_setRoute 37 = .ok (.if_icmp .le 6, 3) := by decide +kernel
theorem dX5_setRoute_40 : decode cX5_setRoute 40 = .ok (.bipush (-2), 2) := by decide +kernel
theorem dX5_setRoute_42 : decode cX5_setRoute 42 = .ok (.ireturn, 1) := by decide +kernel
theorem dX5_setRoute_43 : decode cX5_setRoute 43 = .ok (.aload_n 0, 1) := by decide +kernel
theorem dX5_setRoute_44 : decode cX5_setRoute 44 = .ok (.getfield 10, 3) := by decide +kernel
theorem dX5_setRoute_47 : decode cX5_setRoute 47 = .ok (.getfield 48, 3) := by decide +kernel
theorem dX5_setRoute_50 : decode cX5_setRoute 50 = .ok (.getfield 90, 3) := by decide +kernel
theorem dX5_setRoute_53 : decode cX5_setRoute 53 = .ok (.iload_n 1, 1) := by decide +kernel
theorem dX5_setRoute_54 : decode cX5_setRoute 54 = .ok (.aaload, 1) := by decide +kernel
theorem dX5_setRoute_55 : decode cX5_setRoute 55 = .ok (.iload_n 2, 1) := by decide +kernel
theorem dX5_setRoute_56 : decode cX5_setRoute 56 = .ok (.iaload, 1) := by decide +kernel
theorem dX5_setRoute_57 : decode cX5_setRoute 57 = .ok (.istore 4, 2) := by decide +kernel
theorem dX5_setRoute_59 : decode cX5_setRoute 59 = .ok (.iload 4, 2) := by decide +kernel
theorem dX5_setRoute_61 : decode cX5_setRoute 61 = .ok (.iload_n 3, 1) := by decide +kernel
theorem dX5_setRoute_62 : decode cX5_setRoute 62 = .ok (.if_icmp .ne 6, 3) := by decide +kernel
theorem dX5_setRoute_65 : decode cX5_setRoute 65 = .ok (.bipush (-5), 2) := by decide +kernel
theorem dX5_setRoute_67 : decode cX5_setRoute 67 = .ok (.ireturn, 1) := by decide +kernel
theorem dX5_setRoute_68 : decode cX5_setRoute 68 = .ok (.aload_n 0, 1) := by decide +kernel
theorem dX5_setRoute_69 : decode cX5_setRoute 69 = .ok (.getfield 29, 3) := by decide +kernel
theorem dX5_setRoute_72 : decode cX5_setRoute 72 = .ok (.aload_n 0, 1) := by decide +kernel
theorem dX5_setRoute_73 : decode cX5_setRoute 73 = .ok (.getfield 10, 3) := by decide +kernel
theorem dX5_setRoute_76 : decode cX5_setRoute 76 = .ok (.invokevirtual 58, 3) := by decide +kernel
theorem dX5_setRoute_79 : decode cX5_setRoute 79 = .ok (.aload_n 0, 1) := by decide +kernel
theorem dX5_setRoute_80 : decode cX5_setRoute 80 = .ok (.getfield 10, 3) := by decide +kernel
theorem dX5_setRoute_83 : decode cX5_setRoute 83 = .ok (.invokevirtual 62, 3) := by decide +kernel
theorem dX5_setRoute_86 : decode cX5_setRoute 86 = .ok (.aload_n 0, 1) := by decide +kernel
theorem dX5_setRoute_87 : decode cX5_setRoute 87 = .ok (.getfield 10, 3) := by decide +kernel
theorem dX5_setRoute_90 : decode cX5_setRoute 90 = .ok (.getfield 48, 3) := by decide +kernel
theorem dX5_setRoute_93 : decode cX5_setRoute 93 = .ok (.getfield 90, 3) := by decide +kernel
theorem dX5_setRoute_96 : decode cX5_setRoute 96 = .ok (.iload_n 1, 1) := by decide +kernel
theorem dX5_setRoute_97 : decode cX5_setRoute 97 = .ok (.aaload, 1) := by decide +kernel
theorem dX5_setRoute_98 : decode cX5_setRoute 98 = .ok (.iload_n 2, 1) := by decide +kernel
theorem dX5_setRoute_99 : decode cX5_setRoute 99 = .ok (.iload_n 3, 1) := by decide +kernel
theorem dX5_setRoute_100 : decode cX5_setRoute 100 = .ok (.iastore, 1) := by decide +kernel
theorem dX5_setRoute_101 : decode cX5_setRoute 101 = .ok (.iload 4, 2) := by decide +kernel
theorem dX5_setRoute_103 : decode cX5_setRoute 103 = .ok (.ireturn, 1) := by decide +kernel
theorem dX5_setMost_0 : decode cX5_setMost 0 = .ok (.iload_n 1, 1) := by decide +kernel
theorem dX5_setMost_1 : decode cX5_setMost 1 = .ok (.iconst 1, 1) := by decide +kernel
theorem dX5_setMost_2 : decode cX5_setMost 2 = .ok (.if_icmp .lt 9, 3) := by decide +kernel
theorem dX5_setMost_5 : decode cX5_setMost 5 = .ok (.iload_n 1, 1) := by decide +kernel
theorem dX5_setMost_6 : decode cX5_setMost 6 = .ok (.bipush 7, 2) := by decide +kernel
theorem dX5_setMost_8 : decode cX5_setMost 8 = .ok (.if_icmp .le 6, 3) := by decide +kernel
theorem dX5_setMost_11 : decode cX5_setMost 11 = .ok (.bipush (-2), 2) := by decide +kernel
theorem dX5_setMost_13 : decode cX5_setMost 13 = .ok (.ireturn, 1) := by decide +kernel
theorem dX5_setMost_14 : decode cX5_setMost 14 = .ok (.aload_n 0, 1) := by decide +kernel
theorem dX5_setMost_15 : decode cX5_setMost 15 = .ok (.getfield 10, 3) := by decide +kernel
theorem dX5_setMost_18 : decode cX5_setMost 18 = .ok (.getfield 48, 3) := by decide +kernel
theorem dX5_setMost_21 : decode cX5_setMost 21 = .ok (.getfield 94, 3) := by decide +kernel
theorem dX5_setMost_24 : decode cX5_setMost 24 = .ok (.istore_n 2, 1) := by decide +kernel
theorem dX5_setMost_25 : decode cX5_setMost 25 = .ok (.iload_n 2, 1) := by decide +kernel
theorem dX5_setMost_26 : decode cX5_setMost 26 = .ok (.iload_n 1, 1) := by decide +kernel
theorem dX5_setMost_27 : decode cX5_setMost 27 = .ok (.if_icmp .ne 6, 3) := by decide +kernel
theorem dX5_setMost_30 : decode cX5_setMost 30 = .ok (.bipush (-5), 2) := by decide +kernel
theorem dX5_setMost_32 : decode cX5_setMost 32 = .ok (.ireturn, 1) := by decide +kernel
theorem dX5_setMost_33 : decode cX5_setMost 33 = .ok (.aload_n 0, 1) := by decide +kernel
theorem dX5_setMost_34 : decode cX5_setMost 34 = .ok (.getfield 29, 3) := by decide +kernel
theorem dX5_setMost_37 : decode cX5_setMost 37 = .ok (.aload_n 0, 1) := by decide +kernel
theorem dX5_setMost_38 : decode cX5_setMost 38 = .ok (.getfield 10, 3) := by decide +kernel
theorem dX5_setMost_41 : decode cX5_setMost 41 = .ok (.invokevirtual 58, 3) := by decide +kernel
theorem dX5_setMost_44 : decode cX5_setMost 44 = .ok (.aload_n 0, 1) := by decide +kernel
theorem dX5_setMost_45 : decode cX5_setMost 45 = .ok (.getfield 10, 3) := by decide +kernel
theorem dX5_setMost_48 : decode cX5_setMost 48 = .ok (.invokevirtual 97, 3) := by decide +kernel
theorem dX5_setMost_51 : decode cX5_setMost 51 = .ok (.aload_n 0, 1) := by decide +kernel
theorem dX5_setMost_52 : decode cX5_setMost 52 = .ok (.getfield 10, 3) := by decide +kernel
theorem dX5_setMost_55 : decode cX5_setMost 55 = .ok (.getfield 48, 3) := by decide +kernel
theorem dX5_setMost_58 : decode cX5_setMost 58 = .ok (.iload_n 1, 1) := by decide +kernel
theorem dX5_setMost_59 : decode cX5_setMost 59 = .ok (.putfield 94, 3) := by decide +kernel
theorem dX5_setMost_62 : decode cX5_setMost 62 = .ok (.iload_n 2, 1) := by decide +kernel
theorem dX5_setMost_63 : decode cX5_setMost 63 = .ok (.ireturn, 1) := by decide +kernel
theorem dX5_exclude_0 : decode cX5_exclude 0 = .ok (.aload_n 0, 1) := by decide +kernel
theorem dX5_exclude_1 : decode cX5_exclude 1 = .ok (.getfield 10, 3) := by decide +kernel
theorem dX5_exclude_4 : decode cX5_exclude 4 = .ok (.getfield 48, 3) := by decide +kernel
theorem dX5_exclude_7 : decode cX5_exclude 7 = .ok (.iload_n 1, 1) := by decide +kernel
theorem dX5_exclude_8 : decode cX5_exclude 8 = .ok (.invokevirtual 78, 3) := by decide +kernel
theorem dX5_exclude_11 : decode cX5_exclude 11 = .ok (.ifCond .eq 17, 3) := by decide +kernel
theorem dX5_exclude_14 : decode cX5_exclude 14 = .ok (.aload_n 0, 1) := by decide +kernel
theorem dX5_exclude_15 : decode cX5_exclude 15 = .ok (.getfield 10, 3) := by decide +kernel
theorem dX5_exclude_18 : decode cX5_exclude 18 = .ok (.getfield 48, 3) := by decide +kernel
theorem dX5_exclude_21 : decode cX5_exclude 21 = .ok (.iload_n 2, 1) := by decide +kernel
theorem dX5_exclude_22 : decode cX5_exclude 22 = .ok (.invokevirtual 78, 3) := by decide +kernel
theorem dX5_exclude_25 : decode cX5_exclude 25 = .ok (.ifCond .ne 5, 3) := by decide +kernel
theorem dX5_exclude_28 : decode cX5_exclude 28 = .ok (.iconst (-1), 1) := by decide +kernel
theorem dX5_exclude_29 : decode cX5_exclude 29 = .ok (.ireturn, 1) := by decide +kernel
theorem dX5_exclude_30 : decode cX5_exclude 30 = .ok (.iload_n 1, 1) := by decide +kernel
theorem dX5_exclude_31 : decode cX5_exclude 31 = .ok (.iload_n 2, 1) := by decide +kernel
theorem dX5_exclude_32 : decode cX5_exclude 32 = .ok (.if_icmp .ne 6, 3) := by decide +kernel
theorem dX5_exclude_35 : decode cX5_exclude 35 = .ok (.bipush (-2), 2) := by decide +kernel
theorem dX5_exclude_37 : decode cX5_exclude 37 = .ok (.ireturn, 1) := by decide +kernel
theorem dX5_exclude_38 : decode cX5_exclude 38 = .ok (.aload_n 0, 1) := by decide +kernel
theorem dX5_exclude_39 : decode cX5_exclude 39 = .ok (.getfield 10, 3) := by decide +kernel
theorem dX5_exclude_42 : decode cX5_exclude 42 = .ok (.getfield 48, 3) := by decide +kernel
theorem dX5_exclude_45 : decode cX5_exclude 45 = .ok (.iload_n 1, 1) := by decide +kernel
theorem dX5_exclude_46 : decode cX5_exclude 46 = .ok (.iload_n 2, 1) := by decide +kernel
theorem dX5_exclude_47 : decode cX5_exclude 47 = .ok (.invokevirtual 100, 3) := by decide +kernel
theorem dX5_exclude_50 : decode cX5_exclude 50 = .ok (.iload_n 3, 1) := by decide +kernel
theorem dX5_exclude_51 : decode cX5_exclude 51 = .ok (.if_icmp .ne 6, 3) := by decide +kernel
theorem dX5_exclude_54 : decode cX5_exclude 54 = .ok (.bipush (-5), 2) := by decide +kernel
theorem dX5_exclude_56 : decode cX5_exclude 56 = .ok (.ireturn, 1) := by decide +kernel
theorem dX5_exclude_57 : decode cX5_exclude 57 = .ok (.aload_n 0, 1) := by decide +kernel
theorem dX5_exclude_58 : decode cX5_exclude 58 = .ok (.getfield 29, 3) := by decide +kernel
theorem dX5_exclude_61 : decode cX5_exclude 61 = .ok (.aload_n 0, 1) := by decide +kernel
theorem dX5_exclude_62 : decode cX5_exclude 62 = .ok (.getfield 10, 3) := by decide +kernel
theorem dX5_exclude_65 : decode cX5_exclude 65 = .ok (.invokevirtual 58, 3) := by decide +kernel
theorem dX5_exclude_68 : decode cX5_exclude 68 = .ok (.aload_n 0, 1) := by decide +kernel
theorem dX5_exclude_69 : decode cX5_exclude 69 = .ok (.getfield 10, 3) := by decide +kernel
theorem dX5_exclude_72 : decode cX5_exclude 72 = .ok (.invokevirtual 97, 3) := by decide +kernel
theorem dX5_exclude_75 : decode cX5_exclude 75 = .ok (.aload_n 0, 1) := by decide +kernel
theorem dX5_exclude_76 : decode cX5_exclude 76 = .ok (.getfield 10, 3) := by decide +kernel
theorem dX5_exclude_79 : decode cX5_exclude 79 = .ok (.getfield 48, 3) := by decide +kernel
theorem dX5_exclude_82 : decode cX5_exclude 82 = .ok (.iload_n 1, 1) := by decide +kernel
theorem dX5_exclude_83 : decode cX5_exclude 83 = .ok (.iload_n 2, 1) := by decide +kernel
theorem dX5_exclude_84 : decode cX5_exclude 84 = .ok (.invokevirtual 104, 3) := by decide +kernel
theorem dX5_exclude_87 : decode cX5_exclude 87 = .ok (.aload_n 0, 1) := by decide +kernel
theorem dX5_exclude_88 : decode cX5_exclude 88 = .ok (.getfield 10, 3) := by decide +kernel
theorem dX5_exclude_91 : decode cX5_exclude 91 = .ok (.getfield 48, 3) := by decide +kernel
theorem dX5_exclude_94 : decode cX5_exclude 94 = .ok (.getfield 108, 3) := by decide +kernel
theorem dX5_exclude_97 : decode cX5_exclude 97 = .ok (.iload_n 1, 1) := by decide +kernel
theorem dX5_exclude_98 : decode cX5_exclude 98 = .ok (.iaload, 1) := by decide +kernel
theorem dX5_exclude_99 : decode cX5_exclude 99 = .ok (.invokestatic 111, 3) := by decide +kernel
theorem dX5_exclude_102 : decode cX5_exclude 102 = .ok (.ireturn, 1) := by decide +kernel
theorem dX5_step_0 : decode cX5_step 0 = .ok (.aload_n 0, 1) := by decide +kernel
theorem dX5_step_1 : decode cX5_step 1 = .ok (.getfield 16, 3) := by decide +kernel
theorem dX5_step_4 : decode cX5_step 4 = .ok (.aload_n 0, 1) := by decide +kernel
theorem dX5_step_5 : decode cX5_step 5 = .ok (.getfield 10, 3) := by decide +kernel
theorem dX5_step_8 : decode cX5_step 8 = .ok (.invokevirtual 116, 3) := by decide +kernel
theorem dX5_step_11 : decode cX5_step 11 = .ok (.aload_n 0, 1) := by decide +kernel
theorem dX5_step_12 : decode cX5_step 12 = .ok (.getfield 10, 3) := by decide +kernel
theorem dX5_step_15 : decode cX5_step 15 = .ok (.aload_n 0, 1) := by decide +kernel
theorem dX5_step_16 : decode cX5_step 16 = .ok (.getfield 40, 3) := by decide +kernel
theorem dX5_step_19 : decode cX5_step 19 = .ok (.invokevirtual 119, 3) := by decide +kernel
theorem dX5_step_22 : decode cX5_step 22 = .ok (.istore_n 1, 1) := by decide +kernel
theorem dX5_step_23 : decode cX5_step 23 = .ok (.iload_n 1, 1) := by decide +kernel
theorem dX5_step_24 : decode cX5_step 24 = .ok (.ifCond .ge 5, 3) := by decide +kernel
theorem dX5_step_27 : decode cX5_step 27 = .ok (.iload_n 1, 1) := by decide +kernel
theorem dX5_step_28 : decode cX5_step 28 = .ok (.ireturn, 1) := by decide +kernel
theorem dX5_step_29 : decode cX5_step 29 = .ok (.aload_n 0, 1) := by decide +kernel
theorem dX5_step_30 : decode cX5_step 30 = .ok (.getfield 29, 3) := by decide +kernel
theorem dX5_step_33 : decode cX5_step 33 = .ok (.aload_n 0, 1) := by decide +kernel
theorem dX5_step_34 : decode cX5_step 34 = .ok (.getfield 16, 3) := by decide +kernel
theorem dX5_step_37 : decode cX5_step 37 = .ok (.invokevirtual 58, 3) := by decide +kernel
theorem dX5_step_40 : decode cX5_step 40 = .ok (.iload_n 1, 1) := by decide +kernel
theorem dX5_step_41 : decode cX5_step 41 = .ok (.ireturn, 1) := by decide +kernel
theorem dX5_solve_0 : decode cX5_solve 0 = .ok (.aload_n 0, 1) := by decide +kernel
theorem dX5_solve_1 : decode cX5_solve 1 = .ok (.getfield 16, 3) := by decide +kernel
theorem dX5_solve_4 : decode cX5_solve 4 = .ok (.aload_n 0, 1) := by decide +kernel
theorem dX5_solve_5 : decode cX5_solve 5 = .ok (.getfield 10, 3) := by decide +kernel
theorem dX5_solve_8 : decode cX5_solve 8 = .ok (.invokevirtual 116, 3) := by decide +kernel
theorem dX5_solve_11 : decode cX5_solve 11 = .ok (.aload_n 0, 1) := by decide +kernel
theorem dX5_solve_12 : decode cX5_solve 12 = .ok (.getfield 10, 3) := by decide +kernel
theorem dX5_solve_15 : decode cX5_solve 15 = .ok (.aload_n 0, 1) := by decide +kernel
theorem dX5_solve_16 : decode cX5_solve 16 = .ok (.getfield 40, 3) := by decide +kernel
theorem dX5_solve_19 : decode cX5_solve 19 = .ok (.invokevirtual 119, 3) := by decide +kernel
theorem dX5_solve_22 : decode cX5_solve 22 = .ok (.istore_n 1, 1) := by decide +kernel
theorem dX5_solve_23 : decode cX5_solve 23 = .ok (.iload_n 1, 1) := by decide +kernel
theorem dX5_solve_24 : decode cX5_solve 24 = .ok (.ifCond .ge 5, 3) := by decide +kernel
theorem dX5_solve_27 : decode cX5_solve 27 = .ok (.iload_n 1, 1) := by decide +kernel
theorem dX5_solve_28 : decode cX5_solve 28 = .ok (.ireturn, 1) := by decide +kernel
theorem dX5_solve_29 : decode cX5_solve 29 = .ok (.iconst 0, 1) := by decide +kernel
theorem dX5_solve_30 : decode cX5_solve 30 = .ok (.istore_n 2, 1) := by decide +kernel
theorem dX5_solve_31 : decode cX5_solve 31 = .ok (.iload_n 2, 1) := by decide +kernel
theorem dX5_solve_32 : decode cX5_solve 32 = .ok (.bipush 40, 2) := by decide +kernel
theorem dX5_solve_34 : decode cX5_solve 34 = .ok (.if_icmp .gt 28, 3) := by decide +kernel
theorem dX5_solve_37 : decode cX5_solve 37 = .ok (.iload_n 1, 1) := by decide +kernel
theorem dX5_solve_38 : decode cX5_solve 38 = .ok (.invokestatic 123, 3) := by decide +kernel
theorem dX5_solve_41 : decode cX5_solve 41 = .ok (.ifCond .eq 21, 3) := by decide +kernel
theorem dX5_solve_44 : decode cX5_solve 44 = .ok (.aload_n 0, 1) := by decide +kernel
theorem dX5_solve_45 : decode cX5_solve 45 = .ok (.getfield 10, 3) := by decide +kernel
theorem dX5_solve_48 : decode cX5_solve 48 = .ok (.aload_n 0, 1) := by decide +kernel
theorem dX5_solve_49 : decode cX5_solve 49 = .ok (.getfield 40, 3) := by decide +kernel
theorem dX5_solve_52 : decode cX5_solve 52 = .ok (.invokevirtual 119, 3) := by decide +kernel
theorem dX5_solve_55 : decode cX5_solve 55 = .ok (.istore_n 1, 1) := by decide +kernel
theorem dX5_solve_56 : decode cX5_solve 56 = .ok (.iinc 2 1, 3) := by decide +kernel
theorem dX5_solve_59 : decode cX5_solve 59 = .ok (.goto (-28), 3) := by decide +kernel
theorem dX5_solve_62 : decode cX5_solve 62 = .ok (.iload_n 1, 1) := by decide +kernel
theorem dX5_solve_63 : decode cX5_solve 63 = .ok (.bipush (-3), 2) := by decide +kernel
theorem dX5_solve_65 : decode cX5_solve 65 = .ok (.if_icmp .ne 17, 3) := by decide +kernel
theorem dX5_solve_68 : decode cX5_solve 68 = .ok (.aload_n 0, 1) := by decide +kernel
theorem dX5_solve_69 : decode cX5_solve 69 = .ok (.getfield 10, 3) := by decide +kernel
theorem dX5_solve_72 : decode cX5_solve 72 = .ok (.aload_n 0, 1) := by decide +kernel
theorem dX5_solve_73 : decode cX5_solve 73 = .ok (.getfield 16, 3) := by decide +kernel
theorem dX5_solve_76 : decode cX5_solve 76 = .ok (.invokevirtual 116, 3) := by decide +kernel
theorem dX5_solve_79 : decode cX5_solve 79 = .ok (.bipush (-3), 2) := by decide +kernel
theorem dX5_solve_81 : decode cX5_solve 81 = .ok (.ireturn, 1) := by decide +kernel
theorem dX5_solve_82 : decode cX5_solve 82 = .ok (.aload_n 0, 1) := by decide +kernel
theorem dX5_solve_83 : decode cX5_solve 83 = .ok (.getfield 29, 3) := by decide +kernel
theorem dX5_solve_86 : decode cX5_solve 86 = .ok (.aload_n 0, 1) := by decide +kernel
theorem dX5_solve_87 : decode cX5_solve 87 = .ok (.getfield 16, 3) := by decide +kernel
theorem dX5_solve_90 : decode cX5_solve 90 = .ok (.invokevirtual 58, 3) := by decide +kernel
theorem dX5_solve_93 : decode cX5_solve 93 = .ok (.aload_n 0, 1) := by decide +kernel
theorem dX5_solve_94 : decode cX5_solve 94 = .ok (.getfield 10, 3) := by decide +kernel
theorem dX5_solve_97 : decode cX5_solve 97 = .ok (.getfield 126, 3) := by decide +kernel
theorem dX5_solve_100 : decode cX5_solve 100 = .ok (.getfield 130, 3) := by decide +kernel
theorem dX5_solve_103 : decode cX5_solve 103 = .ok (.aload_n 0, 1) := by decide +kernel
theorem dX5_solve_104 : decode cX5_solve 104 = .ok (.getfield 16, 3) := by decide +kernel
theorem dX5_solve_107 : decode cX5_solve 107 = .ok (.getfield 126, 3) := by decide +kernel
theorem dX5_solve_110 : decode cX5_solve 110 = .ok (.getfield 130, 3) := by decide +kernel
theorem dX5_solve_113 : decode cX5_solve 113 = .ok (.isub, 1) := by decide +kernel
theorem dX5_solve_114 : decode cX5_solve 114 = .ok (.ireturn, 1) := by decide +kernel
theorem dX5_readCut_0 : decode cX5_readCut 0 = .ok (.aload_n 0, 1) := by decide +kernel
theorem dX5_readCut_1 : decode cX5_readCut 1 = .ok (.getfield 10, 3) := by decide +kernel
theorem dX5_readCut_4 : decode cX5_readCut 4 = .ok (.getfield 48, 3) := by decide +kernel
theorem dX5_readCut_7 : decode cX5_readCut 7 = .ok (.getfield 72, 3) := by decide +kernel
theorem dX5_readCut_10 : decode cX5_readCut 10 = .ok (.ifCond .ne 6, 3) := by decide +kernel
theorem dX5_readCut_13 : decode cX5_readCut 13 = .ok (.bipush (-4), 2) := by decide +kernel
theorem dX5_readCut_15 : decode cX5_readCut 15 = .ok (.ireturn, 1) := by decide +kernel
theorem dX5_readCut_16 : decode cX5_readCut 16 = .ok (.aload_n 0, 1) := by decide +kernel
theorem dX5_readCut_17 : decode cX5_readCut 17 = .ok (.getfield 36, 3) := by decide +kernel
theorem dX5_readCut_20 : decode cX5_readCut 20 = .ok (.aload_n 0, 1) := by decide +kernel
theorem dX5_readCut_21 : decode cX5_readCut 21 = .ok (.getfield 40, 3) := by decide +kernel
theorem dX5_readCut_24 : decode cX5_readCut 24 = .ok (.aload_n 0, 1) := by decide +kernel
theorem dX5_readCut_25 : decode cX5_readCut 25 = .ok (.getfield 10, 3) := by decide +kernel
theorem dX5_readCut_28 : decode cX5_readCut 28 = .ok (.getfield 48, 3) := by decide +kernel
theorem dX5_readCut_31 : decode cX5_readCut 31 = .ok (.getfield 72, 3) := by decide +kernel
theorem dX5_readCut_34 : decode cX5_readCut 34 = .ok (.invokevirtual 135, 3) := by decide +kernel
theorem dX5_readCut_37 : decode cX5_readCut 37 = .ok (.istore_n 1, 1) := by decide +kernel
theorem dX5_readCut_38 : decode cX5_readCut 38 = .ok (.iload_n 1, 1) := by decide +kernel
theorem dX5_readCut_39 : decode cX5_readCut 39 = .ok (.iconst (-1), 1) := by decide +kernel
theorem dX5_readCut_40 : decode cX5_readCut 40 = .ok (.if_icmp .eq 8, 3) := by decide +kernel
theorem dX5_readCut_43 : decode cX5_readCut 43 = .ok (.bipush (-100), 2) := by decide +kernel
theorem dX5_readCut_45 : decode cX5_readCut 45 = .ok (.iload_n 1, 1) := by decide +kernel
theorem dX5_readCut_46 : decode cX5_readCut 46 = .ok (.isub, 1) := by decide +kernel
theorem dX5_readCut_47 : decode cX5_readCut 47 = .ok (.ireturn, 1) := by decide +kernel
theorem dX5_readCut_48 : decode cX5_readCut 48 = .ok (.aload_n 0, 1) := by decide +kernel
theorem dX5_readCut_49 : decode cX5_readCut 49 = .ok (.getfield 10, 3) := by decide +kernel
theorem dX5_readCut_52 : decode cX5_readCut 52 = .ok (.getfield 126, 3) := by decide +kernel
theorem dX5_readCut_55 : decode cX5_readCut 55 = .ok (.invokevirtual 139, 3) := by decide +kernel
theorem dX5_readCut_58 : decode cX5_readCut 58 = .ok (.ifCond .eq 6, 3) := by decide +kernel
theorem dX5_readCut_61 : decode cX5_readCut 61 = .ok (.bipush (-3), 2) := by decide +kernel
theorem dX5_readCut_63 : decode cX5_readCut 63 = .ok (.ireturn, 1) := by decide +kernel
theorem dX5_readCut_64 : decode cX5_readCut 64 = .ok (.aload_n 0, 1) := by decide +kernel
theorem dX5_readCut_65 : decode cX5_readCut 65 = .ok (.getfield 29, 3) := by decide +kernel
theorem dX5_readCut_68 : decode cX5_readCut 68 = .ok (.aload_n 0, 1) := by decide +kernel
theorem dX5_readCut_69 : decode cX5_readCut 69 = .ok (.getfield 10, 3) := by decide +kernel
theorem dX5_readCut_72 : decode cX5_readCut 72 = .ok (.invokevirtual 58, 3) := by decide +kernel
theorem dX5_readCut_75 : decode cX5_readCut 75 = .ok (.aload_n 0, 1) := by decide +kernel
theorem dX5_readCut_76 : decode cX5_readCut 76 = .ok (.getfield 10, 3) := by decide +kernel
theorem dX5_readCut_79 : decode cX5_readCut 79 = .ok (.getfield 126, 3) := by decide +kernel
theorem dX5_readCut_82 : decode cX5_readCut 82 = .ok (.aload_n 0, 1) := by decide +kernel
theorem dX5_readCut_83 : decode cX5_readCut 83 = .ok (.getfield 10, 3) := by decide +kernel
theorem dX5_readCut_86 : decode cX5_readCut 86 = .ok (.getfield 48, 3) := by decide +kernel
theorem dX5_readCut_89 : decode cX5_readCut 89 = .ok (.aload_n 0, 1) := by decide +kernel
theorem dX5_readCut_90 : decode cX5_readCut 90 = .ok (.getfield 40, 3) := by decide +kernel
theorem dX5_readCut_93 : decode cX5_readCut 93 = .ok (.invokevirtual 143, 3) := by decide +kernel
theorem dX5_readCut_96 : decode cX5_readCut 96 = .ok (.ireturn, 1) := by decide +kernel
theorem dX5_drop_0 : decode cX5_drop 0 = .ok (.aload_n 0, 1) := by decide +kernel
theorem dX5_drop_1 : decode cX5_drop 1 = .ok (.getfield 10, 3) := by decide +kernel
theorem dX5_drop_4 : decode cX5_drop 4 = .ok (.getfield 126, 3) := by decide +kernel
theorem dX5_drop_7 : decode cX5_drop 7 = .ok (.iload_n 1, 1) := by decide +kernel
theorem dX5_drop_8 : decode cX5_drop 8 = .ok (.invokevirtual 147, 3) := by decide +kernel
theorem dX5_drop_11 : decode cX5_drop 11 = .ok (.ifCond .ne 5, 3) := by decide +kernel
theorem dX5_drop_14 : decode cX5_drop 14 = .ok (.iconst (-1), 1) := by decide +kernel
theorem dX5_drop_15 : decode cX5_drop 15 = .ok (.ireturn, 1) := by decide +kernel
theorem dX5_drop_16 : decode cX5_drop 16 = .ok (.aload_n 0, 1) := by decide +kernel
theorem dX5_drop_17 : decode cX5_drop 17 = .ok (.getfield 29, 3) := by decide +kernel
theorem dX5_drop_20 : decode cX5_drop 20 = .ok (.aload_n 0, 1) := by decide +kernel
theorem dX5_drop_21 : decode cX5_drop 21 = .ok (.getfield 10, 3) := by decide +kernel
theorem dX5_drop_24 : decode cX5_drop 24 = .ok (.invokevirtual 58, 3) := by decide +kernel
theorem dX5_drop_27 : decode cX5_drop 27 = .ok (.aload_n 0, 1) := by decide +kernel
theorem dX5_drop_28 : decode cX5_drop 28 = .ok (.getfield 10, 3) := by decide +kernel
theorem dX5_drop_31 : decode cX5_drop 31 = .ok (.getfield 126, 3) := by decide +kernel
theorem dX5_drop_34 : decode cX5_drop 34 = .ok (.iload_n 1, 1) := by decide +kernel
theorem dX5_drop_35 : decode cX5_drop 35 = .ok (.invokevirtual 150, 3) := by decide +kernel
theorem dX5_drop_38 : decode cX5_drop 38 = .ok (.aload_n 0, 1) := by decide +kernel
theorem dX5_drop_39 : decode cX5_drop 39 = .ok (.getfield 10, 3) := by decide +kernel
theorem dX5_drop_42 : decode cX5_drop 42 = .ok (.getfield 126, 3) := by decide +kernel
theorem dX5_drop_45 : decode cX5_drop 45 = .ok (.getfield 130, 3) := by decide +kernel
theorem dX5_drop_48 : decode cX5_drop 48 = .ok (.ireturn, 1) := by decide +kernel
theorem dX5_dropLoose_0 : decode cX5_dropLoose 0 = .ok (.aload_n 0, 1) := by decide +kernel
theorem dX5_dropLoose_1 : decode cX5_dropLoose 1 = .ok (.getfield 10, 3) := by decide +kernel
theorem dX5_dropLoose_4 : decode cX5_dropLoose 4 = .ok (.invokevirtual 154, 3) := by decide +kernel
theorem dX5_dropLoose_7 : decode cX5_dropLoose 7 = .ok (.istore_n 1, 1) := by decide +kernel
theorem dX5_dropLoose_8 : decode cX5_dropLoose 8 = .ok (.iload_n 1, 1) := by decide +kernel
theorem dX5_dropLoose_9 : decode cX5_dropLoose 9 = .ok (.iconst (-1), 1) := by decide +kernel
theorem dX5_dropLoose_10 : decode cX5_dropLoose 10 = .ok (.if_icmp .ne 6, 3) := by decide +kernel
theorem dX5_dropLoose_13 : decode cX5_dropLoose 13 = .ok (.bipush (-4), 2) := by decide +kernel
theorem dX5_dropLoose_15 : decode cX5_dropLoose 15 = .ok (.ireturn, 1) := by decide +kernel
theorem dX5_dropLoose_16 : decode cX5_dropLoose 16 = .ok (.aload_n 0, 1) := by decide +kernel
theorem dX5_dropLoose_17 : decode cX5_dropLoose 17 = .ok (.getfield 10, 3) := by decide +kernel
theorem dX5_dropLoose_20 : decode cX5_dropLoose 20 = .ok (.getfield 126, 3) := by decide +kernel
theorem dX5_dropLoose_23 : decode cX5_dropLoose 23 = .ok (.iload_n 1, 1) := by decide +kernel
theorem dX5_dropLoose_24 : decode cX5_dropLoose 24 = .ok (.invokevirtual 158, 3) := by decide +kernel
theorem dX5_dropLoose_27 : decode cX5_dropLoose 27 = .ok (.istore_n 2, 1) := by decide +kernel
theorem dX5_dropLoose_28 : decode cX5_dropLoose 28 = .ok (.iload_n 2, 1) := by decide +kernel
theorem dX5_dropLoose_29 : decode cX5_dropLoose 29 = .ok (.ifCond .ne 6, 3) := by decide +kernel
theorem dX5_dropLoose_32 : decode cX5_dropLoose 32 = .ok (.bipush (-5), 2) := by decide +kernel
theorem dX5_dropLoose_34 : decode cX5_dropLoose 34 = .ok (.ireturn, 1) := by decide +kernel
theorem dX5_dropLoose_35 : decode cX5_dropLoose 35 = .ok (.aload_n 0, 1) := by decide +kernel
theorem dX5_dropLoose_36 : decode cX5_dropLoose 36 = .ok (.getfield 29, 3) := by decide +kernel
theorem dX5_dropLoose_39 : decode cX5_dropLoose 39 = .ok (.aload_n 0, 1) := by decide +kernel
theorem dX5_dropLoose_40 : decode cX5_dropLoose 40 = .ok (.getfield 10, 3) := by decide +kernel
theorem dX5_dropLoose_43 : decode cX5_dropLoose 43 = .ok (.invokevirtual 58, 3) := by decide +kernel
theorem dX5_dropLoose_46 : decode cX5_dropLoose 46 = .ok (.aload_n 0, 1) := by decide +kernel
theorem dX5_dropLoose_47 : decode cX5_dropLoose 47 = .ok (.getfield 10, 3) := by decide +kernel
theorem dX5_dropLoose_50 : decode cX5_dropLoose 50 = .ok (.getfield 126, 3) := by decide +kernel
theorem dX5_dropLoose_53 : decode cX5_dropLoose 53 = .ok (.iload_n 1, 1) := by decide +kernel
theorem dX5_dropLoose_54 : decode cX5_dropLoose 54 = .ok (.invokevirtual 161, 3) := by decide +kernel
theorem dX5_dropLoose_57 : decode cX5_dropLoose 57 = .ok (.iload_n 2, 1) := by decide +kernel
theorem dX5_dropLoose_58 : decode cX5_dropLoose 58 = .ok (.ireturn, 1) := by decide +kernel
theorem dX5_type_0 : decode cX5_type 0 = .ok (.aload_n 0, 1) := by decide +kernel
theorem dX5_type_1 : decode cX5_type 1 = .ok (.getfield 36, 3) := by decide +kernel
theorem dX5_type_4 : decode cX5_type 4 = .ok (.invokevirtual 164, 3) := by decide +kernel
theorem dX5_type_7 : decode cX5_type 7 = .ok (.ifCond .eq 6, 3) := by decide +kernel
theorem dX5_type_10 : decode cX5_type 10 = .ok (.bipush (-3), 2) := by decide +kernel
theorem dX5_type_12 : decode cX5_type 12 = .ok (.ireturn, 1) := by decide +kernel
theorem dX5_type_13 : decode cX5_type 13 = .ok (.aload_n 0, 1) := by decide +kernel
theorem dX5_type_14 : decode cX5_type 14 = .ok (.getfield 36, 3) := by decide +kernel
theorem dX5_type_17 : decode cX5_type 17 = .ok (.iload_n 1, 1) := by decide +kernel
theorem dX5_type_18 : decode cX5_type 18 = .ok (.invokevirtual 165, 3) := by decide +kernel
theorem dX5_type_21 : decode cX5_type 21 = .ok (.aload_n 0, 1) := by decide +kernel
theorem dX5_type_22 : decode cX5_type 22 = .ok (.getfield 36, 3) := by decide +kernel
theorem dX5_type_25 : decode cX5_type 25 = .ok (.getfield 169, 3) := by decide +kernel
theorem dX5_type_28 : decode cX5_type 28 = .ok (.ireturn, 1) := by decide +kernel
theorem dX5_clearText_0 : decode cX5_clearText 0 = .ok (.aload_n 0, 1) := by decide +kernel
theorem dX5_clearText_1 : decode cX5_clearText 1 = .ok (.getfield 36, 3) := by decide +kernel
theorem dX5_clearText_4 : decode cX5_clearText 4 = .ok (.getfield 169, 3) := by decide +kernel
theorem dX5_clearText_7 : decode cX5_clearText 7 = .ok (.istore_n 1, 1) := by decide +kernel
theorem dX5_clearText_8 : decode cX5_clearText 8 = .ok (.aload_n 0, 1) := by decide +kernel
theorem dX5_clearText_9 : decode cX5_clearText 9 = .ok (.getfield 36, 3) := by decide +kernel
theorem dX5_clearText_12 : decode cX5_clearText 12 = .ok (.iconst 0, 1) := by decide +kernel
theorem dX5_clearText_13 : decode cX5_clearText 13 = .ok (.putfield 169, 3) := by decide +kernel
theorem dX5_clearText_16 : decode cX5_clearText 16 = .ok (.iload_n 1, 1) := by decide +kernel
theorem dX5_clearText_17 : decode cX5_clearText 17 = .ok (.ireturn, 1) := by decide +kernel
theorem dX5_undo_0 : decode cX5_undo 0 = .ok (.aload_n 0, 1) := by decide +kernel
theorem dX5_undo_1 : decode cX5_undo 1 = .ok (.getfield 29, 3) := by decide +kernel
theorem dX5_undo_4 : decode cX5_undo 4 = .ok (.getfield 172, 3) := by decide +kernel
theorem dX5_undo_7 : decode cX5_undo 7 = .ok (.ifCond .ne 6, 3) := by decide +kernel
theorem dX5_undo_10 : decode cX5_undo 10 = .ok (.bipush (-5), 2) := by decide +kernel
theorem dX5_undo_12 : decode cX5_undo 12 = .ok (.ireturn, 1) := by decide +kernel
theorem dX5_undo_13 : decode cX5_undo 13 = .ok (.aload_n 0, 1) := by decide +kernel
theorem dX5_undo_14 : decode cX5_undo 14 = .ok (.getfield 29, 3) := by decide +kernel
theorem dX5_undo_17 : decode cX5_undo 17 = .ok (.aload_n 0, 1) := by decide +kernel
theorem dX5_undo_18 : decode cX5_undo 18 = .ok (.getfield 10, 3) := by decide +kernel
theorem dX5_undo_21 : decode cX5_undo 21 = .ok (.invokevirtual 173, 3) := by decide +kernel
theorem dX5_undo_24 : decode cX5_undo 24 = .ok (.aload_n 0, 1) := by decide +kernel
theorem dX5_undo_25 : decode cX5_undo 25 = .ok (.getfield 29, 3) := by decide +kernel
theorem dX5_undo_28 : decode cX5_undo 28 = .ok (.getfield 172, 3) := by decide +kernel
theorem dX5_undo_31 : decode cX5_undo 31 = .ok (.ireturn, 1) := by decide +kernel
theorem dX5_keep_0 : decode cX5_keep 0 = .ok (.aload_n 0, 1) := by decide +kernel
theorem dX5_keep_1 : decode cX5_keep 1 = .ok (.getfield 19, 3) := by decide +kernel
theorem dX5_keep_4 : decode cX5_keep 4 = .ok (.aload_n 0, 1) := by decide +kernel
theorem dX5_keep_5 : decode cX5_keep 5 = .ok (.getfield 10, 3) := by decide +kernel
theorem dX5_keep_8 : decode cX5_keep 8 = .ok (.invokevirtual 116, 3) := by decide +kernel
theorem dX5_keep_11 : decode cX5_keep 11 = .ok (.aload_n 0, 1) := by decide +kernel
theorem dX5_keep_12 : decode cX5_keep 12 = .ok (.iconst 1, 1) := by decide +kernel
theorem dX5_keep_13 : decode cX5_keep 13 = .ok (.putfield 22, 3) := by decide +kernel
theorem dX5_keep_16 : decode cX5_keep 16 = .ok (.aload_n 0, 1) := by decide +kernel
theorem dX5_keep_17 : decode cX5_keep 17 = .ok (.getfield 10, 3) := by decide +kernel
theorem dX5_keep_20 : decode cX5_keep 20 = .ok (.getfield 126, 3) := by decide +kernel
theorem dX5_keep_23 : decode cX5_keep 23 = .ok (.getfield 130, 3) := by decide +kernel
theorem dX5_keep_26 : decode cX5_keep 26 = .ok (.ireturn, 1) := by decide +kernel
theorem dX5_restore_0 : decode cX5_restore 0 = .ok (.aload_n 0, 1) := by decide +kernel
theorem dX5_restore_1 : decode cX5_restore 1 = .ok (.getfield 22, 3) := by decide +kernel
theorem dX5_restore_4 : decode cX5_restore 4 = .ok (.ifCond .ne 6, 3) := by decide +kernel
theorem dX5_restore_7 : decode cX5_restore 7 = .ok (.bipush (-5), 2) := by decide +kernel
theorem dX5_restore_9 : decode cX5_restore 9 = .ok (.ireturn, 1) := by decide +kernel
theorem dX5_restore_10 : decode cX5_restore 10 = .ok (.aload_n 0, 1) := by decide +kernel
theorem dX5_restore_11 : decode cX5_restore 11 = .ok (.getfield 29, 3) := by decide +kernel
theorem dX5_restore_14 : decode cX5_restore 14 = .ok (.aload_n 0, 1) := by decide +kernel
theorem dX5_restore_15 : decode cX5_restore 15 = .ok (.getfield 10, 3) := by decide +kernel
theorem dX5_restore_18 : decode cX5_restore 18 = .ok (.invokevirtual 58, 3) := by decide +kernel
theorem dX5_restore_21 : decode cX5_restore 21 = .ok (.aload_n 0, 1) := by decide +kernel
theorem dX5_restore_22 : decode cX5_restore 22 = .ok (.getfield 10, 3) := by decide +kernel
theorem dX5_restore_25 : decode cX5_restore 25 = .ok (.aload_n 0, 1) := by decide +kernel
theorem dX5_restore_26 : decode cX5_restore 26 = .ok (.getfield 19, 3) := by decide +kernel
theorem dX5_restore_29 : decode cX5_restore 29 = .ok (.invokevirtual 116, 3) := by decide +kernel
theorem dX5_restore_32 : decode cX5_restore 32 = .ok (.aload_n 0, 1) := by decide +kernel
theorem dX5_restore_33 : decode cX5_restore 33 = .ok (.getfield 10, 3) := by decide +kernel
theorem dX5_restore_36 : decode cX5_restore 36 = .ok (.getfield 126, 3) := by decide +kernel
theorem dX5_restore_39 : decode cX5_restore 39 = .ok (.getfield 130, 3) := by decide +kernel
theorem dX5_restore_42 : decode cX5_restore 42 = .ok (.ireturn, 1) := by decide +kernel
theorem dX5_judge_0 : decode cX5_judge 0 = .ok (.aload_n 0, 1) := by decide +kernel
theorem dX5_judge_1 : decode cX5_judge 1 = .ok (.getfield 10, 3) := by decide +kernel
theorem dX5_judge_4 : decode cX5_judge 4 = .ok (.getfield 48, 3) := by decide +kernel
theorem dX5_judge_7 : decode cX5_judge 7 = .ok (.iload_n 1, 1) := by decide +kernel
theorem dX5_judge_8 : decode cX5_judge 8 = .ok (.invokevirtual 176, 3) := by decide +kernel
theorem dX5_judge_11 : decode cX5_judge 11 = .ok (.ifCond .ne 6, 3) := by decide +kernel
theorem dX5_judge_14 : decode cX5_judge 14 = .ok (.bipush (-2), 2) := by decide +kernel
theorem dX5_judge_16 : decode cX5_judge 16 = .ok (.ireturn, 1) := by decide +kernel
theorem dX5_judge_17 : decode cX5_judge 17 = .ok (.aload_n 0, 1) := by decide +kernel
theorem dX5_judge_18 : decode cX5_judge 18 = .ok (.getfield 10, 3) := by decide +kernel
theorem dX5_judge_21 : decode cX5_judge 21 = .ok (.getfield 48, 3) := by decide +kernel
theorem dX5_judge_24 : decode cX5_judge 24 = .ok (.iload_n 1, 1) := by decide +kernel
theorem dX5_judge_25 : decode cX5_judge 25 = .ok (.invokevirtual 179, 3) := by decide +kernel
theorem dX5_judge_28 : decode cX5_judge 28 = .ok (.ireturn, 1) := by decide +kernel
theorem dX5_plan_0 : decode cX5_plan 0 = .ok (.aload_n 0, 1) := by decide +kernel
theorem dX5_plan_1 : decode cX5_plan 1 = .ok (.getfield 10, 3) := by decide +kernel
theorem dX5_plan_4 : decode cX5_plan 4 = .ok (.getfield 48, 3) := by decide +kernel
theorem dX5_plan_7 : decode cX5_plan 7 = .ok (.iload_n 1, 1) := by decide +kernel
theorem dX5_plan_8 : decode cX5_plan 8 = .ok (.invokevirtual 176, 3) := by decide +kernel
theorem dX5_plan_11 : decode cX5_plan 11 = .ok (.ifCond .eq 12, 3) := by decide +kernel
theorem dX5_plan_14 : decode cX5_plan 14 = .ok (.iload_n 2, 1) := by decide +kernel
theorem dX5_plan_15 : decode cX5_plan 15 = .ok (.ifCond .lt 8, 3) := by decide +kernel
theorem dX5_plan_18 : decode cX5_plan 18 = .ok (.iload_n 2, 1) := by decide +kernel
theorem dX5_plan_19 : decode cX5_plan 19 = .ok (.iconst 4, 1) := by decide +kernel
theorem dX5_plan_20 : decode cX5_plan 20 = .ok (.if_icmp .le 6, 3) := by decide +kernel
theorem dX5_plan_23 : decode cX5_plan 23 = .ok (.bipush (-2), 2) := by decide +kernel
theorem dX5_plan_25 : decode cX5_plan 25 = .ok (.ireturn, 1) := by decide +kernel
theorem dX5_plan_26 : decode cX5_plan 26 = .ok (.iload_n 2, 1) := by decide +kernel
theorem dX5_plan_27 : decode cX5_plan 27 = .ok (.ifCond .eq 8, 3) := by decide +kernel
theorem dX5_plan_30 : decode cX5_plan 30 = .ok (.iload_n 2, 1) := by decide +kernel
theorem dX5_plan_31 : decode cX5_plan 31 = .ok (.iconst 2, 1) := by decide +kernel
theorem dX5_plan_32 : decode cX5_plan 32 = .ok (.if_icmp .ne 7, 3) := by decide +kernel
theorem dX5_plan_35 : decode cX5_plan 35 = .ok (.iconst 1, 1) := by decide +kernel
theorem dX5_plan_36 : decode cX5_plan 36 = .ok (.goto 4, 3) := by decide +kernel
theorem dX5_plan_39 : decode cX5_plan 39 = .ok (.iconst 0, 1) := by decide +kernel
theorem dX5_plan_40 : decode cX5_plan 40 = .ok (.istore_n 3, 1) := by decide +kernel
theorem dX5_plan_41 : decode cX5_plan 41 = .ok (.iload_n 3, 1) := by decide +kernel
theorem dX5_plan_42 : decode cX5_plan 42 = .ok (.ifCond .eq 20, 3) := by decide +kernel
theorem dX5_plan_45 : decode cX5_plan 45 = .ok (.aload_n 0, 1) := by decide +kernel
theorem dX5_plan_46 : decode cX5_plan 46 = .ok (.getfield 10, 3) := by decide +kernel
theorem dX5_plan_49 : decode cX5_plan 49 = .ok (.getfield 48, 3) := by decide +kernel
theorem dX5_plan_52 : decode cX5_plan 52 = .ok (.iload_n 1, 1) := by decide +kernel
theorem dX5_plan_53 : decode cX5_plan 53 = .ok (.invokevirtual 182, 3) := by decide +kernel
theorem dX5_plan_56 : decode cX5_plan 56 = .ok (.ifCond .ne 6, 3) := by decide +kernel
theorem dX5_plan_59 : decode cX5_plan 59 = .ok (.bipush (-4), 2) := by decide +kernel
theorem dX5_plan_61 : decode cX5_plan 61 = .ok (.ireturn, 1) := by decide +kernel
theorem dX5_plan_62 : decode cX5_plan 62 = .ok (.iload_n 2, 1) := by decide +kernel
theorem dX5_plan_63 : decode cX5_plan 63 = .ok (.tableswitch 74 0 3 #[29, 41, 53, 65], 29) := by decide +kernel
theorem dX5_plan_92 : decode cX5_plan 92 = .ok (.aload_n 0, 1) := by decide +kernel
theorem dX5_plan_93 : decode cX5_plan 93 = .ok (.getfield 10, 3) := by decide +kernel
theorem dX5_plan_96 : decode cX5_plan 96 = .ok (.getfield 48, 3) := by decide +kernel
theorem dX5_plan_99 : decode cX5_plan 99 = .ok (.iload_n 1, 1) := by decide +kernel
theorem dX5_plan_100 : decode cX5_plan 100 = .ok (.invokevirtual 185, 3) := by decide +kernel
theorem dX5_plan_103 : decode cX5_plan 103 = .ok (.ireturn, 1) := by decide +kernel
theorem dX5_plan_104 : decode cX5_plan 104 = .ok (.aload_n 0, 1) := by decide +kernel
theorem dX5_plan_105 : decode cX5_plan 105 = .ok (.getfield 10, 3) := by decide +kernel
theorem dX5_plan_108 : decode cX5_plan 108 = .ok (.getfield 48, 3) := by decide +kernel
theorem dX5_plan_111 : decode cX5_plan 111 = .ok (.iload_n 1, 1) := by decide +kernel
theorem dX5_plan_112 : decode cX5_plan 112 = .ok (.invokevirtual 188, 3) := by decide +kernel
theorem dX5_plan_115 : decode cX5_plan 115 = .ok (.ireturn, 1) := by decide +kernel
theorem dX5_plan_116 : decode cX5_plan 116 = .ok (.aload_n 0, 1) := by decide +kernel
theorem dX5_plan_117 : decode cX5_plan 117 = .ok (.getfield 10, 3) := by decide +kernel
theorem dX5_plan_120 : decode cX5_plan 120 = .ok (.getfield 48, 3) := by decide +kernel
theorem dX5_plan_123 : decode cX5_plan 123 = .ok (.iload_n 1, 1) := by decide +kernel
theorem dX5_plan_124 : decode cX5_plan 124 = .ok (.invokevirtual 191, 3) := by decide +kernel
theorem dX5_plan_127 : decode cX5_plan 127 = .ok (.ireturn, 1) := by decide +kernel
theorem dX5_plan_128 : decode cX5_plan 128 = .ok (.aload_n 0, 1) := by decide +kernel
theorem dX5_plan_129 : decode cX5_plan 129 = .ok (.getfield 10, 3) := by decide +kernel
theorem dX5_plan_132 : decode cX5_plan 132 = .ok (.iload_n 1, 1) := by decide +kernel
theorem dX5_plan_133 : decode cX5_plan 133 = .ok (.invokevirtual 194, 3) := by decide +kernel
theorem dX5_plan_136 : decode cX5_plan 136 = .ok (.ireturn, 1) := by decide +kernel
theorem dX5_plan_137 : decode cX5_plan 137 = .ok (.aload_n 0, 1) := by decide +kernel
theorem dX5_plan_138 : decode cX5_plan 138 = .ok (.getfield 10, 3) := by decide +kernel
theorem dX5_plan_141 : decode cX5_plan 141 = .ok (.getfield 126, 3) := by decide +kernel
theorem dX5_plan_144 : decode cX5_plan 144 = .ok (.iload_n 1, 1) := by decide +kernel
theorem dX5_plan_145 : decode cX5_plan 145 = .ok (.invokevirtual 197, 3) := by decide +kernel
theorem dX5_plan_148 : decode cX5_plan 148 = .ok (.ireturn, 1) := by decide +kernel
theorem dX5_serves_0 : decode cX5_serves 0 = .ok (.aload_n 0, 1) := by decide +kernel
theorem dX5_serves_1 : decode cX5_serves 1 = .ok (.getfield 10, 3) := by decide +kernel
theorem dX5_serves_4 : decode cX5_serves 4 = .ok (.getfield 48, 3) := by decide +kernel
theorem dX5_serves_7 : decode cX5_serves 7 = .ok (.iload_n 1, 1) := by decide +kernel
theorem dX5_serves_8 : decode cX5_serves 8 = .ok (.invokevirtual 176, 3) := by decide +kernel
theorem dX5_serves_11 : decode cX5_serves 11 = .ok (.ifCond .ne 6, 3) := by decide +kernel
theorem dX5_serves_14 : decode cX5_serves 14 = .ok (.bipush (-2), 2) := by decide +kernel
theorem dX5_serves_16 : decode cX5_serves 16 = .ok (.ireturn, 1) := by decide +kernel
theorem dX5_serves_17 : decode cX5_serves 17 = .ok (.aload_n 0, 1) := by decide +kernel
theorem dX5_serves_18 : decode cX5_serves 18 = .ok (.getfield 10, 3) := by decide +kernel
theorem dX5_serves_21 : decode cX5_serves 21 = .ok (.getfield 48, 3) := by decide +kernel
theorem dX5_serves_24 : decode cX5_serves 24 = .ok (.iload_n 2, 1) := by decide +kernel
theorem dX5_serves_25 : decode cX5_serves 25 = .ok (.invokevirtual 84, 3) := by decide +kernel
theorem dX5_serves_28 : decode cX5_serves 28 = .ok (.ifCond .ne 5, 3) := by decide +kernel
theorem dX5_serves_31 : decode cX5_serves 31 = .ok (.iconst (-1), 1) := by decide +kernel
theorem dX5_serves_32 : decode cX5_serves 32 = .ok (.ireturn, 1) := by decide +kernel
theorem dX5_serves_33 : decode cX5_serves 33 = .ok (.aload_n 0, 1) := by decide +kernel
theorem dX5_serves_34 : decode cX5_serves 34 = .ok (.getfield 10, 3) := by decide +kernel
theorem dX5_serves_37 : decode cX5_serves 37 = .ok (.getfield 48, 3) := by decide +kernel
theorem dX5_serves_40 : decode cX5_serves 40 = .ok (.iload_n 1, 1) := by decide +kernel
theorem dX5_serves_41 : decode cX5_serves 41 = .ok (.iload_n 2, 1) := by decide +kernel
theorem dX5_serves_42 : decode cX5_serves 42 = .ok (.invokevirtual 200, 3) := by decide +kernel
theorem dX5_serves_45 : decode cX5_serves 45 = .ok (.istore_n 3, 1) := by decide +kernel
theorem dX5_serves_46 : decode cX5_serves 46 = .ok (.iload_n 3, 1) := by decide +kernel
theorem dX5_serves_47 : decode cX5_serves 47 = .ok (.iconst (-1), 1) := by decide +kernel
theorem dX5_serves_48 : decode cX5_serves 48 = .ok (.if_icmp .ne 8, 3) := by decide +kernel
theorem dX5_serves_51 : decode cX5_serves 51 = .ok (.bipush (-5), 2) := by decide +kernel
theorem dX5_serves_53 : decode cX5_serves 53 = .ok (.goto 4, 3) := by decide +kernel
theorem dX5_serves_56 : decode cX5_serves 56 = .ok (.iload_n 3, 1) := by decide +kernel
theorem dX5_serves_57 : decode cX5_serves 57 = .ok (.ireturn, 1) := by decide +kernel
theorem dX5_cut_0 : decode cX5_cut 0 = .ok (.aload_n 0, 1) := by decide +kernel
theorem dX5_cut_1 : decode cX5_cut 1 = .ok (.getfield 10, 3) := by decide +kernel
theorem dX5_cut_4 : decode cX5_cut 4 = .ok (.getfield 126, 3) := by decide +kernel
theorem dX5_cut_7 : decode cX5_cut 7 = .ok (.iload_n 1, 1) := by decide +kernel
theorem dX5_cut_8 : decode cX5_cut 8 = .ok (.invokevirtual 147, 3) := by decide +kernel
theorem dX5_cut_11 : decode cX5_cut 11 = .ok (.ifCond .ne 5, 3) := by decide +kernel
theorem dX5_cut_14 : decode cX5_cut 14 = .ok (.iconst (-1), 1) := by decide +kernel
theorem dX5_cut_15 : decode cX5_cut 15 = .ok (.ireturn, 1) := by decide +kernel
theorem dX5_cut_16 : decode cX5_cut 16 = .ok (.iload_n 2, 1) := by decide +kernel
theorem dX5_cut_17 : decode cX5_cut 17 = .ok (.tableswitch 118 0 4 #[35, 55, 87, 100, 109], 35) := by decide +kernel
theorem dX5_cut_52 : decode cX5_cut 52 = .ok (.aload_n 0, 1) := by decide +kernel
theorem dX5_cut_53 : decode cX5_cut 53 = .ok (.getfield 10, 3) := by decide +kernel
theorem dX5_cut_56 : decode cX5_cut 56 = .ok (.getfield 126, 3) := by decide +kernel
theorem dX5_cut_59 : decode cX5_cut 59 = .ok (.iload_n 1, 1) := by decide +kernel
theorem dX5_cut_60 : decode cX5_cut 60 = .ok (.invokevirtual 204, 3) := by decide +kernel
theorem dX5_cut_63 : decode cX5_cut 63 = .ok (.ifCond .eq 7, 3) := by decide +kernel
theorem dX5_cut_66 : decode cX5_cut 66 = .ok (.iconst 0, 1) := by decide +kernel
theorem dX5_cut_67 : decode cX5_cut 67 = .ok (.goto 4, 3) := by decide +kernel
theorem dX5_cut_70 : decode cX5_cut 70 = .ok (.iconst 1, 1) := by decide +kernel
theorem dX5_cut_71 : decode cX5_cut 71 = .ok (.ireturn, 1) := by decide +kernel
theorem dX5_cut_72 : decode cX5_cut 72 = .ok (.aload_n 0, 1) := by decide +kernel
theorem dX5_cut_73 : decode cX5_cut 73 = .ok (.getfield 10, 3) := by decide +kernel
theorem dX5_cut_76 : decode cX5_cut 76 = .ok (.getfield 126, 3) := by decide +kernel
theorem dX5_cut_79 : decode cX5_cut 79 = .ok (.iload_n 1, 1) := by decide +kernel
theorem dX5_cut_80 : decode cX5_cut 80 = .ok (.invokevirtual 204, 3) := by decide +kernel
theorem dX5_cut_83 : decode cX5_cut 83 = .ok (.ifCond .eq 18, 3) := by decide +kernel
theorem dX5_cut_86 : decode cX5_cut 86 = .ok (.aload_n 0, 1) := by decide +kernel
theorem dX5_cut_87 : decode cX5_cut 87 = .ok (.getfield 10, 3) := by decide +kernel
theorem dX5_cut_90 : decode cX5_cut 90 = .ok (.getfield 126, 3) := by decide +kernel
theorem dX5_cut_93 : decode cX5_cut 93 = .ok (.getfield 207, 3) := by decide +kernel
theorem dX5_cut_96 : decode cX5_cut 96 = .ok (.iload_n 1, 1) := by decide +kernel
theorem dX5_cut_97 : decode cX5_cut 97 = .ok (.iaload, 1) := by decide +kernel
theorem dX5_cut_98 : decode cX5_cut 98 = .ok (.goto 5, 3) := by decide +kernel
theorem dX5_cut_101 : decode cX5_cut 101 = .ok (.bipush (-5), 2) := by decide +kernel
theorem dX5_cut_103 : decode cX5_cut 103 = .ok (.ireturn, 1) := by decide +kernel
theorem dX5_cut_104 : decode cX5_cut 104 = .ok (.aload_n 0, 1) := by decide +kernel
theorem dX5_cut_105 : decode cX5_cut 105 = .ok (.getfield 10, 3) := by decide +kernel
theorem dX5_cut_108 : decode cX5_cut 108 = .ok (.getfield 126, 3) := by decide +kernel
theorem dX5_cut_111 : decode cX5_cut 111 = .ok (.getfield 210, 3) := by decide +kernel
theorem dX5_cut_114 : decode cX5_cut 114 = .ok (.iload_n 1, 1) := by decide +kernel
theorem dX5_cut_115 : decode cX5_cut 115 = .ok (.iaload, 1) := by decide +kernel
theorem dX5_cut_116 : decode cX5_cut 116 = .ok (.ireturn, 1) := by decide +kernel
theorem dX5_cut_117 : decode cX5_cut 117 = .ok (.aload_n 0, 1) := by decide +kernel
theorem dX5_cut_118 : decode cX5_cut 118 = .ok (.getfield 10, 3) := by decide +kernel
theorem dX5_cut_121 : decode cX5_cut 121 = .ok (.iload_n 1, 1) := by decide +kernel
theorem dX5_cut_122 : decode cX5_cut 122 = .ok (.invokevirtual 213, 3) := by decide +kernel
theorem dX5_cut_125 : decode cX5_cut 125 = .ok (.ireturn, 1) := by decide +kernel
theorem dX5_cut_126 : decode cX5_cut 126 = .ok (.aload_n 0, 1) := by decide +kernel
theorem dX5_cut_127 : decode cX5_cut 127 = .ok (.getfield 10, 3) := by decide +kernel
theorem dX5_cut_130 : decode cX5_cut 130 = .ok (.iload_n 1, 1) := by decide +kernel
theorem dX5_cut_131 : decode cX5_cut 131 = .ok (.invokevirtual 216, 3) := by decide +kernel
theorem dX5_cut_134 : decode cX5_cut 134 = .ok (.ireturn, 1) := by decide +kernel
theorem dX5_cut_135 : decode cX5_cut 135 = .ok (.bipush (-2), 2) := by decide +kernel
theorem dX5_cut_137 : decode cX5_cut 137 = .ok (.ireturn, 1) := by decide +kernel
theorem dX5_weight_0 : decode cX5_weight 0 = .ok (.aload_n 0, 1) := by decide +kernel
theorem dX5_weight_1 : decode cX5_weight 1 = .ok (.getfield 10, 3) := by decide +kernel
theorem dX5_weight_4 : decode cX5_weight 4 = .ok (.getfield 126, 3) := by decide +kernel
theorem dX5_weight_7 : decode cX5_weight 7 = .ok (.iload_n 1, 1) := by decide +kernel
theorem dX5_weight_8 : decode cX5_weight 8 = .ok (.invokevirtual 147, 3) := by decide +kernel
theorem dX5_weight_11 : decode cX5_weight 11 = .ok (.ifCond .eq 17, 3) := by decide +kernel
theorem dX5_weight_14 : decode cX5_weight 14 = .ok (.aload_n 0, 1) := by decide +kernel
theorem dX5_weight_15 : decode cX5_weight 15 = .ok (.getfield 10, 3) := by decide +kernel
theorem dX5_weight_18 : decode cX5_weight 18 = .ok (.getfield 48, 3) := by decide +kernel
theorem dX5_weight_21 : decode cX5_weight 21 = .ok (.iload_n 2, 1) := by decide +kernel
theorem dX5_weight_22 : decode cX5_weight 22 = .ok (.invokevirtual 78, 3) := by decide +kernel
theorem dX5_weight_25 : decode cX5_weight 25 = .ok (.ifCond .ne 5, 3) := by decide +kernel
theorem dX5_weight_28 : decode cX5_weight 28 = .ok (.iconst (-1), 1) := by decide +kernel
theorem dX5_weight_29 : decode cX5_weight 29 = .ok (.ireturn, 1) := by decide +kernel
theorem dX5_weight_30 : decode cX5_weight 30 = .ok (.aload_n 0, 1) := by decide +kernel
theorem dX5_weight_31 : decode cX5_weight 31 = .ok (.getfield 10, 3) := by decide +kernel
theorem dX5_weight_34 : decode cX5_weight 34 = .ok (.getfield 126, 3) := by decide +kernel
theorem dX5_weight_37 : decode cX5_weight 37 = .ok (.getfield 219, 3) := by decide +kernel
theorem dX5_weight_40 : decode cX5_weight 40 = .ok (.iload_n 1, 1) := by decide +kernel
theorem dX5_weight_41 : decode cX5_weight 41 = .ok (.aaload, 1) := by decide +kernel
theorem dX5_weight_42 : decode cX5_weight 42 = .ok (.iload_n 2, 1) := by decide +kernel
theorem dX5_weight_43 : decode cX5_weight 43 = .ok (.iaload, 1) := by decide +kernel
theorem dX5_weight_44 : decode cX5_weight 44 = .ok (.ireturn, 1) := by decide +kernel
theorem dX5_value_0 : decode cX5_value 0 = .ok (.aload_n 0, 1) := by decide +kernel
theorem dX5_value_1 : decode cX5_value 1 = .ok (.getfield 10, 3) := by decide +kernel
theorem dX5_value_4 : decode cX5_value 4 = .ok (.getfield 126, 3) := by decide +kernel
theorem dX5_value_7 : decode cX5_value 7 = .ok (.iload_n 1, 1) := by decide +kernel
theorem dX5_value_8 : decode cX5_value 8 = .ok (.invokevirtual 147, 3) := by decide +kernel
theorem dX5_value_11 : decode cX5_value 11 = .ok (.ifCond .ne 5, 3) := by decide +kernel
theorem dX5_value_14 : decode cX5_value 14 = .ok (.iconst (-1), 1) := by decide +kernel
theorem dX5_value_15 : decode cX5_value 15 = .ok (.ireturn, 1) := by decide +kernel
theorem dX5_value_16 : decode cX5_value 16 = .ok (.aload_n 0, 1) := by decide +kernel
theorem dX5_value_17 : decode cX5_value 17 = .ok (.getfield 10, 3) := by decide +kernel
theorem dX5_value_20 : decode cX5_value 20 = .ok (.getfield 48, 3) := by decide +kernel
theorem dX5_value_23 : decode cX5_value 23 = .ok (.iload_n 2, 1) := by decide +kernel
theorem dX5_value_24 : decode cX5_value 24 = .ok (.invokevirtual 176, 3) := by decide +kernel
theorem dX5_value_27 : decode cX5_value 27 = .ok (.ifCond .ne 6, 3) := by decide +kernel
theorem dX5_value_30 : decode cX5_value 30 = .ok (.bipush (-2), 2) := by decide +kernel
theorem dX5_value_32 : decode cX5_value 32 = .ok (.ireturn, 1) := by decide +kernel
theorem dX5_value_33 : decode cX5_value 33 = .ok (.aload_n 0, 1) := by decide +kernel
theorem dX5_value_34 : decode cX5_value 34 = .ok (.getfield 10, 3) := by decide +kernel
theorem dX5_value_37 : decode cX5_value 37 = .ok (.getfield 126, 3) := by decide +kernel
theorem dX5_value_40 : decode cX5_value 40 = .ok (.iload_n 1, 1) := by decide +kernel
theorem dX5_value_41 : decode cX5_value 41 = .ok (.invokevirtual 204, 3) := by decide +kernel
theorem dX5_value_44 : decode cX5_value 44 = .ok (.ifCond .eq 16, 3) := by decide +kernel
theorem dX5_value_47 : decode cX5_value 47 = .ok (.aload_n 0, 1) := by decide +kernel
theorem dX5_value_48 : decode cX5_value 48 = .ok (.getfield 10, 3) := by decide +kernel
theorem dX5_value_51 : decode cX5_value 51 = .ok (.getfield 126, 3) := by decide +kernel
theorem dX5_value_54 : decode cX5_value 54 = .ok (.iload_n 1, 1) := by decide +kernel
theorem dX5_value_55 : decode cX5_value 55 = .ok (.iload_n 2, 1) := by decide +kernel
theorem dX5_value_56 : decode cX5_value 56 = .ok (.invokevirtual 222, 3) := by decide +kernel
theorem dX5_value_59 : decode cX5_value 59 = .ok (.ireturn, 1) := by decide +kernel
theorem dX5_value_60 : decode cX5_value 60 = .ok (.aload_n 0, 1) := by decide +kernel
theorem dX5_value_61 : decode cX5_value 61 = .ok (.getfield 10, 3) := by decide +kernel
theorem dX5_value_64 : decode cX5_value 64 = .ok (.getfield 126, 3) := by decide +kernel
theorem dX5_value_67 : decode cX5_value 67 = .ok (.iload_n 1, 1) := by decide +kernel
theorem dX5_value_68 : decode cX5_value 68 = .ok (.iload_n 2, 1) := by decide +kernel
theorem dX5_value_69 : decode cX5_value 69 = .ok (.invokevirtual 225, 3) := by decide +kernel
theorem dX5_value_72 : decode cX5_value 72 = .ok (.ldc 228, 2) := by decide +kernel
theorem dX5_value_74 : decode cX5_value 74 = .ok (.iadd, 1) := by decide +kernel
theorem dX5_value_75 : decode cX5_value 75 = .ok (.ireturn, 1) := by decide +kernel
theorem dX5_master_0 : decode cX5_master 0 = .ok (.iload_n 1, 1) := by decide +kernel
theorem dX5_master_1 : decode cX5_master 1 = .ok (.tableswitch 79 0 4 #[35, 46, 51, 62, 74], 35) := by decide +kernel
theorem dX5_master_36 : decode cX5_master 36 = .ok (.aload_n 0, 1) := by decide +kernel
theorem dX5_master_37 : decode cX5_master 37 = .ok (.getfield 10, 3) := by decide +kernel
theorem dX5_master_40 : decode cX5_master 40 = .ok (.invokevirtual 154, 3) := by decide +kernel
theorem dX5_master_43 : decode cX5_master 43 = .ok (.invokestatic 229, 3) := by decide +kernel
theorem dX5_master_46 : decode cX5_master 46 = .ok (.ireturn, 1) := by decide +kernel
theorem dX5_master_47 : decode cX5_master 47 = .ok (.aload_n 0, 1) := by decide +kernel
theorem dX5_master_48 : decode cX5_master 48 = .ok (.invokevirtual 232, 3) := by decide +kernel
theorem dX5_master_51 : decode cX5_master 51 = .ok (.ireturn, 1) := by decide +kernel
theorem dX5_master_52 : decode cX5_master 52 = .ok (.aload_n 0, 1) := by decide +kernel
theorem dX5_master_53 : decode cX5_master 53 = .ok (.getfield 10, 3) := by decide +kernel
theorem dX5_master_56 : decode cX5_master 56 = .ok (.getfield 235, 3) := by decide +kernel
theorem dX5_master_59 : decode cX5_master 59 = .ok (.invokestatic 229, 3) := by decide +kernel
theorem dX5_master_62 : decode cX5_master 62 = .ok (.ireturn, 1) := by decide +kernel
theorem dX5_master_63 : decode cX5_master 63 = .ok (.aload_n 0, 1) := by decide +kernel
theorem dX5_master_64 : decode cX5_master 64 = .ok (.aload_n 0, 1) := by decide +kernel
theorem dX5_master_65 : decode cX5_master 65 = .ok (.getfield 10, 3) := by decide +kernel
theorem dX5_master_68 : decode cX5_master 68 = .ok (.getfield 235, 3) := by decide +kernel
theorem dX5_master_71 : decode cX5_master 71 = .ok (.invokevirtual 238, 3) := by decide +kernel
theorem dX5_master_74 : decode cX5_master 74 = .ok (.ireturn, 1) := by decide +kernel
theorem dX5_master_75 : decode cX5_master 75 = .ok (.aload_n 0, 1) := by decide +kernel
theorem dX5_master_76 : decode cX5_master 76 = .ok (.invokevirtual 241, 3) := by decide +kernel
theorem dX5_master_79 : decode cX5_master 79 = .ok (.ireturn, 1) := by decide +kernel
theorem dX5_master_80 : decode cX5_master 80 = .ok (.bipush (-2), 2) := by decide +kernel
theorem dX5_master_82 : decode cX5_master 82 = .ok (.ireturn, 1) := by decide +kernel
theorem dX5_byAll_0 : decode cX5_byAll 0 = .ok (.iload_n 1, 1) := by decide +kernel
theorem dX5_byAll_1 : decode cX5_byAll 1 = .ok (.tableswitch 67 0 2 #[27, 41, 56], 27) := by decide +kernel
theorem dX5_byAll_28 : decode cX5_byAll 28 = .ok (.aload_n 0, 1) := by decide +kernel
theorem dX5_byAll_29 : decode cX5_byAll 29 = .ok (.getfield 10, 3) := by decide +kernel
theorem dX5_byAll_32 : decode cX5_byAll 32 = .ok (.getfield 48, 3) := by decide +kernel
theorem dX5_byAll_35 : decode cX5_byAll 35 = .ok (.invokevirtual 244, 3) := by decide +kernel
theorem dX5_byAll_38 : decode cX5_byAll 38 = .ok (.invokestatic 229, 3) := by decide +kernel
theorem dX5_byAll_41 : decode cX5_byAll 41 = .ok (.ireturn, 1) := by decide +kernel
theorem dX5_byAll_42 : decode cX5_byAll 42 = .ok (.aload_n 0, 1) := by decide +kernel
theorem dX5_byAll_43 : decode cX5_byAll 43 = .ok (.aload_n 0, 1) := by decide +kernel
theorem dX5_byAll_44 : decode cX5_byAll 44 = .ok (.getfield 10, 3) := by decide +kernel
theorem dX5_byAll_47 : decode cX5_byAll 47 = .ok (.getfield 48, 3) := by decide +kernel
theorem dX5_byAll_50 : decode cX5_byAll 50 = .ok (.invokevirtual 244, 3) := by decide +kernel
theorem dX5_byAll_53 : decode cX5_byAll 53 = .ok (.invokevirtual 238, 3) := by decide +kernel
theorem dX5_byAll_56 : decode cX5_byAll 56 = .ok (.ireturn, 1) := by decide +kernel
theorem dX5_byAll_57 : decode cX5_byAll 57 = .ok (.aload_n 0, 1) := by decide +kernel
theorem dX5_byAll_58 : decode cX5_byAll 58 = .ok (.getfield 10, 3) := by decide +kernel
theorem dX5_byAll_61 : decode cX5_byAll 61 = .ok (.getfield 48, 3) := by decide +kernel
theorem dX5_byAll_64 : decode cX5_byAll 64 = .ok (.invokevirtual 247, 3) := by decide +kernel
theorem dX5_byAll_67 : decode cX5_byAll 67 = .ok (.ireturn, 1) := by decide +kernel
theorem dX5_byAll_68 : decode cX5_byAll 68 = .ok (.bipush (-2), 2) := by decide +kernel
theorem dX5_byAll_70 : decode cX5_byAll 70 = .ok (.ireturn, 1) := by decide +kernel
theorem dX5_count_0 : decode cX5_count 0 = .ok (.iload_n 1, 1) := by decide +kernel
theorem dX5_count_1 : decode cX5_count 1 = .ok (.tableswitch 156 0 9 #[55, 66, 77, 88, 99, 110, 121, 132, 140, 148], 55) := by decide +kernel
theorem dX5_count_56 : decode cX5_count 56 = .ok (.aload_n 0, 1) := by decide +kernel
theorem dX5_count_57 : decode cX5_count 57 = .ok (.getfield 10, 3) := by decide +kernel
theorem dX5_count_60 : decode cX5_count 60 = .ok (.getfield 48, 3) := by decide +kernel
theorem dX5_count_63 : decode cX5_count 63 = .ok (.getfield 52, 3) := by decide +kernel
theorem dX5_count_66 : decode cX5_count 66 = .ok (.ireturn, 1) := by decide +kernel
theorem dX5_count_67 : decode cX5_count 67 = .ok (.aload_n 0, 1) := by decide +kernel
theorem dX5_count_68 : decode cX5_count 68 = .ok (.getfield 10, 3) := by decide +kernel
theorem dX5_count_71 : decode cX5_count 71 = .ok (.getfield 48, 3) := by decide +kernel
theorem dX5_count_74 : decode cX5_count 74 = .ok (.getfield 72, 3) := by decide +kernel
theorem dX5_count_77 : decode cX5_count 77 = .ok (.ireturn, 1) := by decide +kernel
theorem dX5_count_78 : decode cX5_count 78 = .ok (.aload_n 0, 1) := by decide +kernel
theorem dX5_count_79 : decode cX5_count 79 = .ok (.getfield 10, 3) := by decide +kernel
theorem dX5_count_82 : decode cX5_count 82 = .ok (.getfield 48, 3) := by decide +kernel
theorem dX5_count_85 : decode cX5_count 85 = .ok (.invokevirtual 250, 3) := by decide +kernel
theorem dX5_count_88 : decode cX5_count 88 = .ok (.ireturn, 1) := by decide +kernel
theorem dX5_count_89 : decode cX5_count 89 = .ok (.aload_n 0, 1) := by decide +kernel
theorem dX5_count_90 : decode cX5_count 90 = .ok (.getfield 10, 3) := by decide +kernel
theorem dX5_count_93 : decode cX5_count 93 = .ok (.getfield 48, 3) := by decide +kernel
theorem dX5_count_96 : decode cX5_count 96 = .ok (.getfield 94, 3) := by decide +kernel
theorem dX5_count_99 : decode cX5_count 99 = .ok (.ireturn, 1) := by decide +kernel
theorem dX5_count_100 : decode cX5_count 100 = .ok (.aload_n 0, 1) := by decide +kernel
theorem dX5_count_101 : decode cX5_count 101 = .ok (.getfield 10, 3) := by decide +kernel
theorem dX5_count_104 : decode cX5_count 104 = .ok (.getfield 48, 3) := by decide +kernel
theorem dX5_count_107 : decode cX5_count 107 = .ok (.invokevirtual 253, 3) := by decide +kernel
theorem dX5_count_110 : decode cX5_count 110 = .ok (.ireturn, 1) := by decide +kernel
theorem dX5_count_111 : decode cX5_count 111 = .ok (.aload_n 0, 1) := by decide +kernel
theorem dX5_count_112 : decode cX5_count 112 = .ok (.getfield 10, 3) := by decide +kernel
theorem dX5_count_115 : decode cX5_count 115 = .ok (.getfield 126, 3) := by decide +kernel
theorem dX5_count_118 : decode cX5_count 118 = .ok (.getfield 130, 3) := by decide +kernel
theorem dX5_count_121 : decode cX5_count 121 = .ok (.ireturn, 1) := by decide +kernel
theorem dX5_count_122 : decode cX5_count 122 = .ok (.aload_n 0, 1) := by decide +kernel
theorem dX5_count_123 : decode cX5_count 123 = .ok (.getfield 10, 3) := by decide +kernel
theorem dX5_count_126 : decode cX5_count 126 = .ok (.getfield 126, 3) := by decide +kernel
theorem dX5_count_129 : decode cX5_count 129 = .ok (.invokevirtual 256, 3) := by decide +kernel
theorem dX5_count_132 : decode cX5_count 132 = .ok (.ireturn, 1) := by decide +kernel
theorem dX5_count_133 : decode cX5_count 133 = .ok (.aload_n 0, 1) := by decide +kernel
theorem dX5_count_134 : decode cX5_count 134 = .ok (.getfield 10, 3) := by decide +kernel
theorem dX5_count_137 : decode cX5_count 137 = .ok (.getfield 259, 3) := by decide +kernel
theorem dX5_count_140 : decode cX5_count 140 = .ok (.ireturn, 1) := by decide +kernel
theorem dX5_count_141 : decode cX5_count 141 = .ok (.aload_n 0, 1) := by decide +kernel
theorem dX5_count_142 : decode cX5_count 142 = .ok (.getfield 29, 3) := by decide +kernel
theorem dX5_count_145 : decode cX5_count 145 = .ok (.getfield 172, 3) := by decide +kernel
theorem dX5_count_148 : decode cX5_count 148 = .ok (.ireturn, 1) := by decide +kernel
theorem dX5_count_149 : decode cX5_count 149 = .ok (.aload_n 0, 1) := by decide +kernel
theorem dX5_count_150 : decode cX5_count 150 = .ok (.getfield 36, 3) := by decide +kernel
theorem dX5_count_153 : decode cX5_count 153 = .ok (.getfield 169, 3) := by decide +kernel
theorem dX5_count_156 : decode cX5_count 156 = .ok (.ireturn, 1) := by decide +kernel
theorem dX5_count_157 : decode cX5_count 157 = .ok (.bipush (-2), 2) := by decide +kernel
theorem dX5_count_159 : decode cX5_count 159 = .ok (.ireturn, 1) := by decide +kernel
theorem dX5_lowerBound_0 : decode cX5_lowerBound 0 = .ok (.aload_n 0, 1) := by decide +kernel
theorem dX5_lowerBound_1 : decode cX5_lowerBound 1 = .ok (.getfield 10, 3) := by decide +kernel
theorem dX5_lowerBound_4 : decode cX5_lowerBound 4 = .ok (.invokevirtual 154, 3) := by decide +kernel
theorem dX5_lowerBound_7 : decode cX5_lowerBound 7 = .ok (.istore_n 1, 1) := by decide +kernel
theorem dX5_lowerBound_8 : decode cX5_lowerBound 8 = .ok (.iload_n 1, 1) := by decide +kernel
theorem dX5_lowerBound_9 : decode cX5_lowerBound 9 = .ok (.iconst (-1), 1) := by decide +kernel
theorem dX5_lowerBound_10 : decode cX5_lowerBound 10 = .ok (.if_icmp .ne 8, 3) := by decide +kernel
theorem dX5_lowerBound_13 : decode cX5_lowerBound 13 = .ok (.bipush (-5), 2) := by decide +kernel
theorem dX5_lowerBound_15 : decode cX5_lowerBound 15 = .ok (.goto 11, 3) := by decide +kernel
theorem dX5_lowerBound_18 : decode cX5_lowerBound 18 = .ok (.aload_n 0, 1) := by decide +kernel
theorem dX5_lowerBound_19 : decode cX5_lowerBound 19 = .ok (.getfield 10, 3) := by decide +kernel
theorem dX5_lowerBound_22 : decode cX5_lowerBound 22 = .ok (.iload_n 1, 1) := by decide +kernel
theorem dX5_lowerBound_23 : decode cX5_lowerBound 23 = .ok (.invokevirtual 194, 3) := by decide +kernel
theorem dX5_lowerBound_26 : decode cX5_lowerBound 26 = .ok (.ireturn, 1) := by decide +kernel
theorem dX5_costOrNone_0 : decode cX5_costOrNone 0 = .ok (.iload_n 1, 1) := by decide +kernel
theorem dX5_costOrNone_1 : decode cX5_costOrNone 1 = .ok (.iconst (-1), 1) := by decide +kernel
theorem dX5_costOrNone_2 : decode cX5_costOrNone 2 = .ok (.if_icmp .ne 8, 3) := by decide +kernel
theorem dX5_costOrNone_5 : decode cX5_costOrNone 5 = .ok (.bipush (-5), 2) := by decide +kernel
theorem dX5_costOrNone_7 : decode cX5_costOrNone 7 = .ok (.goto 14, 3) := by decide +kernel
theorem dX5_costOrNone_10 : decode cX5_costOrNone 10 = .ok (.aload_n 0, 1) := by decide +kernel
theorem dX5_costOrNone_11 : decode cX5_costOrNone 11 = .ok (.getfield 10, 3) := by decide +kernel
theorem dX5_costOrNone_14 : decode cX5_costOrNone 14 = .ok (.getfield 48, 3) := by decide +kernel
theorem dX5_costOrNone_17 : decode cX5_costOrNone 17 = .ok (.iload_n 1, 1) := by decide +kernel
theorem dX5_costOrNone_18 : decode cX5_costOrNone 18 = .ok (.invokevirtual 185, 3) := by decide +kernel
theorem dX5_costOrNone_21 : decode cX5_costOrNone 21 = .ok (.ireturn, 1) := by decide +kernel
theorem dX5_gap_0 : decode cX5_gap 0 = .ok (.aload_n 0, 1) := by decide +kernel
theorem dX5_gap_1 : decode cX5_gap 1 = .ok (.getfield 10, 3) := by decide +kernel
theorem dX5_gap_4 : decode cX5_gap 4 = .ok (.invokevirtual 154, 3) := by decide +kernel
theorem dX5_gap_7 : decode cX5_gap 7 = .ok (.istore_n 1, 1) := by decide +kernel
theorem dX5_gap_8 : decode cX5_gap 8 = .ok (.iload_n 1, 1) := by decide +kernel
theorem dX5_gap_9 : decode cX5_gap 9 = .ok (.iconst (-1), 1) := by decide +kernel
theorem dX5_gap_10 : decode cX5_gap 10 = .ok (.if_icmp .eq 14, 3) := by decide +kernel
theorem dX5_gap_13 : decode cX5_gap 13 = .ok (.aload_n 0, 1) := by decide +kernel
theorem dX5_gap_14 : decode cX5_gap 14 = .ok (.getfield 10, 3) := by decide +kernel
theorem dX5_gap_17 : decode cX5_gap 17 = .ok (.getfield 235, 3) := by decide +kernel
theorem dX5_gap_20 : decode cX5_gap 20 = .ok (.iconst (-1), 1) := by decide +kernel
theorem dX5_gap_21 : decode cX5_gap 21 = .ok (.if_icmp .ne 6, 3) := by decide +kernel
theorem dX5_gap_24 : decode cX5_gap 24 = .ok (.bipush (-5), 2) := by decide +kernel
theorem dX5_gap_26 : decode cX5_gap 26 = .ok (.ireturn, 1) := by decide +kernel
theorem dX5_gap_27 : decode cX5_gap 27 = .ok (.aload_n 0, 1) := by decide +kernel
theorem dX5_gap_28 : decode cX5_gap 28 = .ok (.getfield 10, 3) := by decide +kernel
theorem dX5_gap_31 : decode cX5_gap 31 = .ok (.getfield 48, 3) := by decide +kernel
theorem dX5_gap_34 : decode cX5_gap 34 = .ok (.aload_n 0, 1) := by decide +kernel
theorem dX5_gap_35 : decode cX5_gap 35 = .ok (.getfield 10, 3) := by decide +kernel
theorem dX5_gap_38 : decode cX5_gap 38 = .ok (.getfield 235, 3) := by decide +kernel
theorem dX5_gap_41 : decode cX5_gap 41 = .ok (.invokevirtual 185, 3) := by decide +kernel
theorem dX5_gap_44 : decode cX5_gap 44 = .ok (.aload_n 0, 1) := by decide +kernel
theorem dX5_gap_45 : decode cX5_gap 45 = .ok (.getfield 10, 3) := by decide +kernel
theorem dX5_gap_48 : decode cX5_gap 48 = .ok (.iload_n 1, 1) := by decide +kernel
theorem dX5_gap_49 : decode cX5_gap 49 = .ok (.invokevirtual 194, 3) := by decide +kernel
theorem dX5_gap_52 : decode cX5_gap 52 = .ok (.isub, 1) := by decide +kernel
theorem dX5_gap_53 : decode cX5_gap 53 = .ok (.ireturn, 1) := by decide +kernel
theorem dX5_planOrNone_0 : decode cX5_planOrNone 0 = .ok (.iload_n 0, 1) := by decide +kernel
theorem dX5_planOrNone_1 : decode cX5_planOrNone 1 = .ok (.iconst (-1), 1) := by decide +kernel
theorem dX5_planOrNone_2 : decode cX5_planOrNone 2 = .ok (.if_icmp .ne 8, 3) := by decide +kernel
theorem dX5_planOrNone_5 : decode cX5_planOrNone 5 = .ok (.bipush (-5), 2) := by decide +kernel
theorem dX5_planOrNone_7 : decode cX5_planOrNone 7 = .ok (.goto 4, 3) := by decide +kernel
theorem dX5_planOrNone_10 : decode cX5_planOrNone 10 = .ok (.iload_n 0, 1) := by decide +kernel
theorem dX5_planOrNone_11 : decode cX5_planOrNone 11 = .ok (.ireturn, 1) := by decide +kernel
theorem dX5_isCutAdded_0 : decode cX5_isCutAdded 0 = .ok (.iload_n 0, 1) := by decide +kernel
theorem dX5_isCutAdded_1 : decode cX5_isCutAdded 1 = .ok (.ifCond .eq 8, 3) := by decide +kernel
theorem dX5_isCutAdded_4 : decode cX5_isCutAdded 4 = .ok (.iload_n 0, 1) := by decide +kernel
theorem dX5_isCutAdded_5 : decode cX5_isCutAdded 5 = .ok (.iconst 1, 1) := by decide +kernel
theorem dX5_isCutAdded_6 : decode cX5_isCutAdded 6 = .ok (.if_icmp .ne 7, 3) := by decide +kernel
theorem dX5_isCutAdded_9 : decode cX5_isCutAdded 9 = .ok (.iconst 1, 1) := by decide +kernel
theorem dX5_isCutAdded_10 : decode cX5_isCutAdded 10 = .ok (.goto 4, 3) := by decide +kernel
theorem dX5_isCutAdded_13 : decode cX5_isCutAdded 13 = .ok (.iconst 0, 1) := by decide +kernel
theorem dX5_isCutAdded_14 : decode cX5_isCutAdded 14 = .ok (.ireturn, 1) := by decide +kernel
theorem dX5_isSitePrice_0 : decode cX5_isSitePrice 0 = .ok (.iload_n 0, 1) := by decide +kernel
theorem dX5_isSitePrice_1 : decode cX5_isSitePrice 1 = .ok (.ifCond .lt 14, 3) := by decide +kernel
theorem dX5_isSitePrice_4 : decode cX5_isSitePrice 4 = .ok (.iload_n 0, 1) := by decide +kernel
theorem dX5_isSitePrice_5 : decode cX5_isSitePrice 5 = .ok (.sipush 999, 3) := by decide +kernel
theorem dX5_isSitePrice_8 : decode cX5_isSitePrice 8 = .ok (.if_icmp .gt 7, 3) := by decide +kernel
theorem dX5_isSitePrice_11 : decode cX5_isSitePrice 11 = .ok (.iconst 1, 1) := by decide +kernel
theorem dX5_isSitePrice_12 : decode cX5_isSitePrice 12 = .ok (.goto 4, 3) := by decide +kernel
theorem dX5_isSitePrice_15 : decode cX5_isSitePrice 15 = .ok (.iconst 0, 1) := by decide +kernel
theorem dX5_isSitePrice_16 : decode cX5_isSitePrice 16 = .ok (.ireturn, 1) := by decide +kernel
theorem dX5_isDemand_0 : decode cX5_isDemand 0 = .ok (.iload_n 0, 1) := by decide +kernel
theorem dX5_isDemand_1 : decode cX5_isDemand 1 = .ok (.iconst 1, 1) := by decide +kernel
theorem dX5_isDemand_2 : decode cX5_isDemand 2 = .ok (.if_icmp .lt 13, 3) := by decide +kernel
theorem dX5_isDemand_5 : decode cX5_isDemand 5 = .ok (.iload_n 0, 1) := by decide +kernel
theorem dX5_isDemand_6 : decode cX5_isDemand 6 = .ok (.bipush 20, 2) := by decide +kernel
theorem dX5_isDemand_8 : decode cX5_isDemand 8 = .ok (.if_icmp .gt 7, 3) := by decide +kernel
theorem dX5_isDemand_11 : decode cX5_isDemand 11 = .ok (.iconst 1, 1) := by decide +kernel
theorem dX5_isDemand_12 : decode cX5_isDemand 12 = .ok (.goto 4, 3) := by decide +kernel
theorem dX5_isDemand_15 : decode cX5_isDemand 15 = .ok (.iconst 0, 1) := by decide +kernel
theorem dX5_isDemand_16 : decode cX5_isDemand 16 = .ok (.ireturn, 1) := by decide +kernel
theorem dX5_isIn_0 : decode cX5_isIn 0 = .ok (.iload_n 0, 1) := by decide +kernel
theorem dX5_isIn_1 : decode cX5_isIn 1 = .ok (.iload_n 1, 1) := by decide +kernel
theorem dX5_isIn_2 : decode cX5_isIn 2 = .ok (.ishr, 1) := by decide +kernel
theorem dX5_isIn_3 : decode cX5_isIn 3 = .ok (.iconst 1, 1) := by decide +kernel
theorem dX5_isIn_4 : decode cX5_isIn 4 = .ok (.iand, 1) := by decide +kernel
theorem dX5_isIn_5 : decode cX5_isIn 5 = .ok (.ifCond .eq 7, 3) := by decide +kernel
theorem dX5_isIn_8 : decode cX5_isIn 8 = .ok (.iconst 1, 1) := by decide +kernel
theorem dX5_isIn_9 : decode cX5_isIn 9 = .ok (.goto 4, 3) := by decide +kernel
theorem dX5_isIn_12 : decode cX5_isIn 12 = .ok (.iconst 0, 1) := by decide +kernel
theorem dX5_isIn_13 : decode cX5_isIn 13 = .ok (.ireturn, 1) := by decide +kernel
end
section
theorem dX6_init_0 : decode cX6_init 0 = .ok (.aload_n 0, 1) := by decide +kernel
theorem dX6_init_1 : decode cX6_init 1 = .ok (.invokespecial 1, 3) := by decide +kernel
theorem dX6_init_4 : decode cX6_init 4 = .ok (.aload_n 0, 1) := by decide +kernel
theorem dX6_init_5 : decode cX6_init 5 = .ok (.sipush 444, 3) := by decide +kernel
theorem dX6_init_8 : decode cX6_init 8 = .ok (.newarray .int, 2) := by decide +kernel
theorem dX6_init_10 : decode cX6_init 10 = .ok (.putfield 7, 3) := by decide +kernel
theorem dX6_init_13 : decode cX6_init 13 = .ok (.aload_n 0, 1) := by decide +kernel
theorem dX6_init_14 : decode cX6_init 14 = .ok (.sipush 1776, 3) := by decide +kernel
theorem dX6_init_17 : decode cX6_init 17 = .ok (.newarray .int, 2) := by decide +kernel
theorem dX6_init_19 : decode cX6_init 19 = .ok (.putfield 13, 3) := by decide +kernel
theorem dX6_init_22 : decode cX6_init 22 = .ok (.aload_n 0, 1) := by decide +kernel
theorem dX6_init_23 : decode cX6_init 23 = .ok (.sipush 444, 3) := by decide +kernel
theorem dX6_init_26 : decode cX6_init 26 = .ok (.newarray .int, 2) := by decide +kernel
theorem dX6_init_28 : decode cX6_init 28 = .ok (.putfield 16, 3) := by decide +kernel
theorem dX6_init_31 : decode cX6_init 31 = .ok (.aload_n 0, 1) := by decide +kernel
theorem dX6_init_32 : decode cX6_init 32 = .ok (.sipush 444, 3) := by decide +kernel
theorem dX6_init_35 : decode cX6_init 35 = .ok (.newarray .int, 2) := by decide +kernel
theorem dX6_init_37 : decode cX6_init 37 = .ok (.putfield 19, 3) := by decide +kernel
theorem dX6_init_40 : decode cX6_init 40 = .ok (.aload_n 0, 1) := by decide +kernel
theorem dX6_init_41 : decode cX6_init 41 = .ok (.bipush 60, 2) := by decide +kernel
theorem dX6_init_43 : decode cX6_init 43 = .ok (.newarray .char, 2) := by decide +kernel
theorem dX6_init_45 : decode cX6_init 45 = .ok (.putfield 22, 3) := by decide +kernel
theorem dX6_init_48 : decode cX6_init 48 = .ok (.aload_n 0, 1) := by decide +kernel
theorem dX6_init_49 : decode cX6_init 49 = .ok (.bipush 8, 2) := by decide +kernel
theorem dX6_init_51 : decode cX6_init 51 = .ok (.newarray .int, 2) := by decide +kernel
theorem dX6_init_53 : decode cX6_init 53 = .ok (.putfield 26, 3) := by decide +kernel
theorem dX6_init_56 : decode cX6_init 56 = .ok (.aload_n 0, 1) := by decide +kernel
theorem dX6_init_57 : decode cX6_init 57 = .ok (.getfield 7, 3) := by decide +kernel
theorem dX6_init_60 : decode cX6_init 60 = .ok (.iconst 2, 1) := by decide +kernel
theorem dX6_init_61 : decode cX6_init 61 = .ok (.bipush 7, 2) := by decide +kernel
theorem dX6_init_63 : decode cX6_init 63 = .ok (.iastore, 1) := by decide +kernel
theorem dX6_init_64 : decode cX6_init 64 = .ok (.aload_n 0, 1) := by decide +kernel
theorem dX6_init_65 : decode cX6_init 65 = .ok (.getfield 7, 3) := by decide +kernel
theorem dX6_init_68 : decode cX6_init 68 = .ok (.iconst 4, 1) := by decide +kernel
theorem dX6_init_69 : decode cX6_init 69 = .ok (.bipush (-5), 2) := by decide +kernel
theorem dX6_init_71 : decode cX6_init 71 = .ok (.iastore, 1) := by decide +kernel
theorem dX6_init_72 : decode cX6_init 72 = .ok (.iconst 0, 1) := by decide +kernel
theorem dX6_init_73 : decode cX6_init 73 = .ok (.istore_n 1, 1) := by decide +kernel
theorem dX6_init_74 : decode cX6_init 74 = .ok (.iload_n 1, 1) := by decide +kernel
theorem dX6_init_75 : decode cX6_init 75 = .ok (.bipush 56, 2) := by decide +kernel
theorem dX6_init_77 : decode cX6_init 77 = .ok (.if_icmp .ge 20, 3) := by decide +kernel
theorem dX6_init_80 : decode cX6_init 80 = .ok (.aload_n 0, 1) := by decide +kernel
theorem dX6_init_81 : decode cX6_init 81 = .ok (.getfield 7, 3) := by decide +kernel
theorem dX6_init_84 : decode cX6_init 84 = .ok (.bipush 21, 2) := by decide +kernel
theorem dX6_init_86 : decode cX6_init 86 = .ok (.iload_n 1, 1) := by decide +kernel
theorem dX6_init_87 : decode cX6_init 87 = .ok (.iadd, 1) := by decide +kernel
theorem dX6_init_88 : decode cX6_init 88 = .ok (.bipush 100, 2) := by decide +kernel
theorem dX6_init_90 : decode cX6_init 90 = .ok (.iastore, 1) := by decide +kernel
theorem dX6_init_91 : decode cX6_init 91 = .ok (.iinc 1 1, 3) := by decide +kernel
theorem dX6_init_94 : decode cX6_init 94 = .ok (.goto (-20), 3) := by decide +kernel
theorem dX6_init_97 : decode cX6_init 97 = .ok (.return_, 1) := by decide +kernel
theorem dX6_in_0 : decode cX6_in 0 = .ok (.iload_n 0, 1) := by decide +kernel
theorem dX6_in_1 : decode cX6_in 1 = .ok (.iload_n 1, 1) := by decide +kernel
theorem dX6_in_2 : decode cX6_in 2 = .ok (.if_icmp .lt 12, 3) := by decide +kernel
theorem dX6_in_5 : decode cX6_in 5 = .ok (.iload_n 0, 1) := by decide +kernel
theorem dX6_in_6 : decode cX6_in 6 = .ok (.iload_n 2, 1) := by decide +kernel
theorem dX6_in_7 : decode cX6_in 7 = .ok (.if_icmp .gt 7, 3) := by decide +kernel
theorem dX6_in_10 : decode cX6_in 10 = .ok (.iconst 1, 1) := by decide +kernel
theorem dX6_in_11 : decode cX6_in 11 = .ok (.goto 4, 3) := by decide +kernel
theorem dX6_in_14 : decode cX6_in 14 = .ok (.iconst 0, 1) := by decide +kernel
theorem dX6_in_15 : decode cX6_in 15 = .ok (.ireturn, 1) := by decide +kernel
theorem dX6_isIn_0 : decode cX6_isIn 0 = .ok (.iload_n 0, 1) := by decide +kernel
theorem dX6_isIn_1 : decode cX6_isIn 1 = .ok (.iload_n 1, 1) := by decide +kernel
theorem dX6_isIn_2 : decode cX6_isIn 2 = .ok (.ishr, 1) := by decide +kernel
theorem dX6_isIn_3 : decode cX6_isIn 3 = .ok (.iconst 1, 1) := by decide +kernel
theorem dX6_isIn_4 : decode cX6_isIn 4 = .ok (.iand, 1) := by decide +kernel
theorem dX6_isIn_5 : decode cX6_isIn 5 = .ok (.iconst 1, 1) := by decide +kernel
theorem dX6_isIn_6 : decode cX6_isIn 6 = .ok (.if_icmp .ne 7, 3) := by decide +kernel
theorem dX6_isIn_9 : decode cX6_isIn 9 = .ok (.iconst 1, 1) := by decide +kernel
theorem dX6_isIn_10 : decode cX6_isIn 10 = .ok (.goto 4, 3) := by decide +kernel
theorem dX6_isIn_13 : decode cX6_isIn 13 = .ok (.iconst 0, 1) := by decide +kernel
theorem dX6_isIn_14 : decode cX6_isIn 14 = .ok (.ireturn, 1) := by decide +kernel
theorem dX6_many_0 : decode cX6_many 0 = .ok (.iconst 0, 1) := by decide +kernel
theorem dX6_many_1 : decode cX6_many 1 = .ok (.istore_n 1, 1) := by decide +kernel
theorem dX6_many_2 : decode cX6_many 2 = .ok (.iconst 0, 1) := by decide +kernel
theorem dX6_many_3 : decode cX6_many 3 = .ok (.istore_n 2, 1) := by decide +kernel
theorem dX6_many_4 : decode cX6_many 4 = .ok (.iload_n 2, 1) := by decide +kernel
theorem dX6_many_5 : decode cX6_many 5 = .ok (.bipush 7, 2) := by decide +kernel
theorem dX6_many_7 : decode cX6_many 7 = .ok (.if_icmp .ge 17, 3) := by decide +kernel
theorem dX6_many_10 : decode cX6_many 10 = .ok (.iload_n 1, 1) := by decide +kernel
theorem dX6_many_11 : decode cX6_many 11 = .ok (.iload_n 0, 1) := by decide +kernel
theorem dX6_many_12 : decode cX6_many 12 = .ok (.iload_n 2, 1) := by decide +kernel
theorem dX6_many_13 : decode cX6_many 13 = .ok (.ishr, 1) := by decide +kernel
theorem dX6_many_14 : decode cX6_many 14 = .ok (.iconst 1, 1) := by decide +kernel
theorem dX6_many_15 : decode cX6_many 15 = .ok (.iand, 1) := by decide +kernel
theorem dX6_many_16 : decode cX6_many 16 = .ok (.iadd, 1) := by decide +kernel
theorem dX6_many_17 : decode cX6_many 17 = .ok (.istore_n 1, 1) := by decide +kernel
theorem dX6_many_18 : decode cX6_many 18 = .ok (.iinc 2 1, 3) := by decide +kernel
theorem dX6_many_21 : decode cX6_many 21 = .ok (.goto (-17), 3) := by decide +kernel
theorem dX6_many_24 : decode cX6_many 24 = .ok (.iload_n 1, 1) := by decide +kernel
theorem dX6_many_25 : decode cX6_many 25 = .ok (.ireturn, 1) := by decide +kernel
theorem dX6_remember_0 : decode cX6_remember 0 = .ok (.iconst 0, 1) := by decide +kernel
theorem dX6_remember_1 : decode cX6_remember 1 = .ok (.istore_n 1, 1) := by decide +kernel
theorem dX6_remember_2 : decode cX6_remember 2 = .ok (.iload_n 1, 1) := by decide +kernel
theorem dX6_remember_3 : decode cX6_remember 3 = .ok (.sipush 444, 3) := by decide +kernel
theorem dX6_remember_6 : decode cX6_remember 6 = .ok (.if_icmp .ge 21, 3) := by decide +kernel
theorem dX6_remember_9 : decode cX6_remember 9 = .ok (.aload_n 0, 1) := by decide +kernel
theorem dX6_remember_10 : decode cX6_remember 10 = .ok (.getfield 19, 3) := by decide +kernel
theorem dX6_remember_13 : decode cX6_remember 13 = .ok (.iload_n 1, 1) := by decide +kernel
theorem dX6_remember_14 : decode cX6_remember 14 = .ok (.aload_n 0, 1) := by decide +kernel
theorem dX6_remember_15 : decode cX6_remember 15 = .ok (.getfield 7, 3) := by decide +kernel
theorem dX6_remember_18 : decode cX6_remember 18 = .ok (.iload_n 1, 1) := by decide +kernel
theorem dX6_remember_19 : decode cX6_remember 19 = .ok (.iaload, 1) := by decide +kernel
theorem dX6_remember_20 : decode cX6_remember 20 = .ok (.iastore, 1) := by decide +kernel
theorem dX6_remember_21 : decode cX6_remember 21 = .ok (.iinc 1 1, 3) := by decide +kernel
theorem dX6_remember_24 : decode cX6_remember 24 = .ok (.goto (-22), 3) := by decide +kernel
theorem dX6_remember_27 : decode cX6_remember 27 = .ok (.return_, 1) := by decide +kernel
theorem dX6_goBack_0 : decode cX6_goBack 0 = .ok (.iconst 0, 1) := by decide +kernel
theorem dX6_goBack_1 : decode cX6_goBack 1 = .ok (.istore_n 1, 1) := by decide +kernel
theorem dX6_goBack_2 : decode cX6_goBack 2 = .ok (.iload_n 1, 1) := by decide +kernel
theorem dX6_goBack_3 : decode cX6_goBack 3 = .ok (.sipush 444, 3) := by decide +kernel
theorem dX6_goBack_6 : decode cX6_goBack 6 = .ok (.if_icmp .ge 21, 3) := by decide +kernel
theorem dX6_goBack_9 : decode cX6_goBack 9 = .ok (.aload_n 0, 1) := by decide +kernel
theorem dX6_goBack_10 : decode cX6_goBack 10 = .ok (.getfield 7, 3) := by decide +kernel
theorem dX6_goBack_13 : decode cX6_goBack 13 = .ok (.iload_n 1, 1) := by decide +kernel
theorem dX6_goBack_14 : decode cX6_goBack 14 = .ok (.aload_n 0, 1) := by decide +kernel
theorem dX6_goBack_15 : decode cX6_goBack 15 = .ok (.getfield 19, 3) := by decide +kernel
theorem dX6_goBack_18 : decode cX6_goBack 18 = .ok (.iload_n 1, 1) := by decide +kernel
theorem dX6_goBack_19 : decode cX6_goBack 19 = .ok (.iaload, 1) := by decide +kernel
theorem dX6_goBack_20 : decode cX6_goBack 20 = .ok (.iastore, 1) := by decide +kernel
theorem dX6_goBack_21 : decode cX6_goBack 21 = .ok (.iinc 1 1, 3) := by decide +kernel
theorem dX6_goBack_24 : decode cX6_goBack 24 = .ok (.goto (-22), 3) := by decide +kernel
theorem dX6_goBack_27 : decode cX6_goBack 27 = .ok (.return_, 1) := by decide +kernel
theorem dX6_record_0 : decode cX6_record 0 = .ok (.aload_n 0, 1) := by decide +kernel
theorem dX6_record_1 : decode cX6_record 1 = .ok (.getfield 29, 3) := by decide +kernel
theorem dX6_record_4 : decode cX6_record 4 = .ok (.iconst 4, 1) := by decide +kernel
theorem dX6_record_5 : decode cX6_record 5 = .ok (.if_icmp .ne 44, 3) := by decide +kernel
theorem dX6_record_8 : decode cX6_record 8 = .ok (.iconst 0, 1) := by decide +kernel
theorem dX6_record_9 : decode cX6_record 9 = .ok (.istore_n 1, 1) := by decide +kernel
theorem dX6_record_10 : decode cX6_record 10 = .ok (.iload_n 1, 1) := by decide +kernel
theorem dX6_record_11 : decode cX6_record 11 = .ok (.sipush 1332, 3) := by decide +kernel
theorem dX6_record_14 : decode cX6_record 14 = .ok (.if_icmp .ge 25, 3) := by decide +kernel
theorem dX6_record_17 : decode cX6_record 17 = .ok (.aload_n 0, 1) := by decide +kernel
theorem dX6_record_18 : decode cX6_record 18 = .ok (.getfield 13, 3) := by decide +kernel
theorem dX6_record_21 : decode cX6_record 21 = .ok (.iload_n 1, 1) := by decide +kernel
theorem dX6_record_22 : decode cX6_record 22 = .ok (.aload_n 0, 1) := by decide +kernel
theorem dX6_record_23 : decode cX6_record 23 = .ok (.getfield 13, 3) := by decide +kernel
theorem dX6_record_26 : decode cX6_record 26 = .ok (.sipush 444, 3) := by decide +kernel
theorem dX6_record_29 : decode cX6_record 29 = .ok (.iload_n 1, 1) := by decide +kernel
theorem dX6_record_30 : decode cX6_record 30 = .ok (.iadd, 1) := by decide +kernel
theorem dX6_record_31 : decode cX6_record 31 = .ok (.iaload, 1) := by decide +kernel
theorem dX6_record_32 : decode cX6_record 32 = .ok (.iastore, 1) := by decide +kernel
theorem dX6_record_33 : decode cX6_record 33 = .ok (.iinc 1 1, 3) := by decide +kernel
theorem dX6_record_36 : decode cX6_record 36 = .ok (.goto (-26), 3) := by decide +kernel
theorem dX6_record_39 : decode cX6_record 39 = .ok (.aload_n 0, 1) := by decide +kernel
theorem dX6_record_40 : decode cX6_record 40 = .ok (.dup, 1) := by decide +kernel
theorem dX6_record_41 : decode cX6_record 41 = .ok (.getfield 29, 3) := by decide +kernel
theorem dX6_record_44 : decode cX6_record 44 = .ok (.iconst 1, 1) := by decide +kernel
theorem dX6_record_45 : decode cX6_record 45 = .ok (.isub, 1) := by decide +kernel
theorem dX6_record_46 : decode cX6_record 46 = .ok (.putfield 29, 3) := by decide +kernel
theorem dX6_record_49 : decode cX6_record 49 = .ok (.iconst 0, 1) := by decide +kernel
theorem dX6_record_50 : decode cX6_record 50 = .ok (.istore_n 1, 1) := by decide +kernel
theorem dX6_record_51 : decode cX6_record 51 = .ok (.iload_n 1, 1) := by decide +kernel
theorem dX6_record_52 : decode cX6_record 52 = .ok (.sipush 444, 3) := by decide +kernel
theorem dX6_record_55 : decode cX6_record 55 = .ok (.if_icmp .ge 30, 3) := by decide +kernel
theorem dX6_record_58 : decode cX6_record 58 = .ok (.aload_n 0, 1) := by decide +kernel
theorem dX6_record_59 : decode cX6_record 59 = .ok (.getfield 13, 3) := by decide +kernel
theorem dX6_record_62 : decode cX6_record 62 = .ok (.sipush 444, 3) := by decide +kernel
theorem dX6_record_65 : decode cX6_record 65 = .ok (.aload_n 0, 1) := by decide +kernel
theorem dX6_record_66 : decode cX6_record 66 = .ok (.getfield 29, 3) := by decide +kernel
theorem dX6_record_69 : decode cX6_record 69 = .ok (.imul, 1) := by decide +kernel
theorem dX6_record_70 : decode cX6_record 70 = .ok (.iload_n 1, 1) := by decide +kernel
theorem dX6_record_71 : decode cX6_record 71 = .ok (.iadd, 1) := by decide +kernel
theorem dX6_record_72 : decode cX6_record 72 = .ok (.aload_n 0, 1) := by decide +kernel
theorem dX6_record_73 : decode cX6_record 73 = .ok (.getfield 19, 3) := by decide +kernel
theorem dX6_record_76 : decode cX6_record 76 = .ok (.iload_n 1, 1) := by decide +kernel
theorem dX6_record_77 : decode cX6_record 77 = .ok (.iaload, 1) := by decide +kernel
theorem dX6_record_78 : decode cX6_record 78 = .ok (.iastore, 1) := by decide +kernel
theorem dX6_record_79 : decode cX6_record 79 = .ok (.iinc 1 1, 3) := by decide +kernel
theorem dX6_record_82 : decode cX6_record 82 = .ok (.goto (-31), 3) := by decide +kernel
theorem dX6_record_85 : decode cX6_record 85 = .ok (.aload_n 0, 1) := by decide +kernel
theorem dX6_record_86 : decode cX6_record 86 = .ok (.dup, 1) := by decide +kernel
theorem dX6_record_87 : decode cX6_record 87 = .ok (.getfield 29, 3) := by decide +kernel
theorem dX6_record_90 : decode cX6_record 90 = .ok (.iconst 1, 1) := by decide +kernel
theorem dX6_record_91 : decode cX6_record 91 = .ok (.iadd, 1) := by decide +kernel
theorem dX6_record_92 : decode cX6_record 92 = .ok (.putfield 29, 3) := by decide +kernel
theorem dX6_record_95 : decode cX6_record 95 = .ok (.return_, 1) := by decide +kernel
theorem dX6_begin_0 : decode cX6_begin 0 = .ok (.aload_n 0, 1) := by decide +kernel
theorem dX6_begin_1 : decode cX6_begin 1 = .ok (.invokevirtual 33, 3) := by decide +kernel
theorem dX6_begin_4 : decode cX6_begin 4 = .ok (.aload_n 0, 1) := by decide +kernel
theorem dX6_begin_5 : decode cX6_begin 5 = .ok (.invokevirtual 36, 3) := by decide +kernel
theorem dX6_begin_8 : decode cX6_begin 8 = .ok (.return_, 1) := by decide +kernel
theorem dX6_undo_0 : decode cX6_undo 0 = .ok (.aload_n 0, 1) := by decide +kernel
theorem dX6_undo_1 : decode cX6_undo 1 = .ok (.getfield 29, 3) := by decide +kernel
theorem dX6_undo_4 : decode cX6_undo 4 = .ok (.ifCond .ne 6, 3) := by decide +kernel
theorem dX6_undo_7 : decode cX6_undo 7 = .ok (.bipush (-5), 2) := by decide +kernel
theorem dX6_undo_9 : decode cX6_undo 9 = .ok (.ireturn, 1) := by decide +kernel
theorem dX6_undo_10 : decode cX6_undo 10 = .ok (.aload_n 0, 1) := by decide +kernel
theorem dX6_undo_11 : decode cX6_undo 11 = .ok (.dup, 1) := by decide +kernel
theorem dX6_undo_12 : decode cX6_undo 12 = .ok (.getfield 29, 3) := by decide +kernel
theorem dX6_undo_15 : decode cX6_undo 15 = .ok (.iconst 1, 1) := by decide +kernel
theorem dX6_undo_16 : decode cX6_undo 16 = .ok (.isub, 1) := by decide +kernel
theorem dX6_undo_17 : decode cX6_undo 17 = .ok (.putfield 29, 3) := by decide +kernel
theorem dX6_undo_20 : decode cX6_undo 20 = .ok (.iconst 0, 1) := by decide +kernel
theorem dX6_undo_21 : decode cX6_undo 21 = .ok (.istore_n 1, 1) := by decide +kernel
theorem dX6_undo_22 : decode cX6_undo 22 = .ok (.iload_n 1, 1) := by decide +kernel
theorem dX6_undo_23 : decode cX6_undo 23 = .ok (.sipush 444, 3) := by decide +kernel
theorem dX6_undo_26 : decode cX6_undo 26 = .ok (.if_icmp .ge 30, 3) := by decide +kernel
theorem dX6_undo_29 : decode cX6_undo 29 = .ok (.aload_n 0, 1) := by decide +kernel
theorem dX6_undo_30 : decode cX6_undo 30 = .ok (.getfield 7, 3) := by decide +kernel
theorem dX6_undo_33 : decode cX6_undo 33 = .ok (.iload_n 1, 1) := by decide +kernel
theorem dX6_undo_34 : decode cX6_undo 34 = .ok (.aload_n 0, 1) := by decide +kernel
theorem dX6_undo_35 : decode cX6_undo 35 = .ok (.getfield 13, 3) := by decide +kernel
theorem dX6_undo_38 : decode cX6_undo 38 = .ok (.sipush 444, 3) := by decide +kernel
theorem dX6_undo_41 : decode cX6_undo 41 = .ok (.aload_n 0, 1) := by decide +kernel
theorem dX6_undo_42 : decode cX6_undo 42 = .ok (.getfield 29, 3) := by decide +kernel
theorem dX6_undo_45 : decode cX6_undo 45 = .ok (.imul, 1) := by decide +kernel
theorem dX6_undo_46 : decode cX6_undo 46 = .ok (.iload_n 1, 1) := by decide +kernel
theorem dX6_undo_47 : decode cX6_undo 47 = .ok (.iadd, 1) := by decide +kernel
theorem dX6_undo_48 : decode cX6_undo 48 = .ok (.iaload, 1) := by decide +kernel
theorem dX6_undo_49 : decode cX6_undo 49 = .ok (.iastore, 1) := by decide +kernel
theorem dX6_undo_50 : decode cX6_undo 50 = .ok (.iinc 1 1, 3) := by decide +kernel
theorem dX6_undo_53 : decode cX6_undo 53 = .ok (.goto (-31), 3) := by decide +kernel
theorem dX6_undo_56 : decode cX6_undo 56 = .ok (.aload_n 0, 1) := by decide +kernel
theorem dX6_undo_57 : decode cX6_undo 57 = .ok (.getfield 29, 3) := by decide +kernel
theorem dX6_undo_60 : decode cX6_undo 60 = .ok (.ireturn, 1) := by decide +kernel
theorem dX6_keep_0 : decode cX6_keep 0 = .ok (.iconst 0, 1) := by decide +kernel
theorem dX6_keep_1 : decode cX6_keep 1 = .ok (.istore_n 1, 1) := by decide +kernel
theorem dX6_keep_2 : decode cX6_keep 2 = .ok (.iload_n 1, 1) := by decide +kernel
theorem dX6_keep_3 : decode cX6_keep 3 = .ok (.sipush 444, 3) := by decide +kernel
theorem dX6_keep_6 : decode cX6_keep 6 = .ok (.if_icmp .ge 21, 3) := by decide +kernel
theorem dX6_keep_9 : decode cX6_keep 9 = .ok (.aload_n 0, 1) := by decide +kernel
theorem dX6_keep_10 : decode cX6_keep 10 = .ok (.getfield 16, 3) := by decide +kernel
theorem dX6_keep_13 : decode cX6_keep 13 = .ok (.iload_n 1, 1) := by decide +kernel
theorem dX6_keep_14 : decode cX6_keep 14 = .ok (.aload_n 0, 1) := by decide +kernel
theorem dX6_keep_15 : decode cX6_keep 15 = .ok (.getfield 7, 3) := by decide +kernel
theorem dX6_keep_18 : decode cX6_keep 18 = .ok (.iload_n 1, 1) := by decide +kernel
theorem dX6_keep_19 : decode cX6_keep 19 = .ok (.iaload, 1) := by decide +kernel
theorem dX6_keep_20 : decode cX6_keep 20 = .ok (.iastore, 1) := by decide +kernel
theorem dX6_keep_21 : decode cX6_keep 21 = .ok (.iinc 1 1, 3) := by decide +kernel
theorem dX6_keep_24 : decode cX6_keep 24 = .ok (.goto (-22), 3) := by decide +kernel
theorem dX6_keep_27 : decode cX6_keep 27 = .ok (.aload_n 0, 1) := by decide +kernel
theorem dX6_keep_28 : decode cX6_keep 28 = .ok (.iconst 1, 1) := by decide +kernel
theorem dX6_keep_29 : decode cX6_keep 29 = .ok (.putfield 39, 3) := by decide +kernel
theorem dX6_keep_32 : decode cX6_keep 32 = .ok (.aload_n 0, 1) := by decide +kernel
theorem dX6_keep_33 : decode cX6_keep 33 = .ok (.getfield 7, 3) := by decide +kernel
theorem dX6_keep_36 : decode cX6_keep 36 = .ok (.iconst 3, 1) := by decide +kernel
theorem dX6_keep_37 : decode cX6_keep 37 = .ok (.iaload, 1) := by decide +kernel
theorem dX6_keep_38 : decode cX6_keep 38 = .ok (.ireturn, 1) := by decide +kernel
theorem dX6_restore_0 : decode cX6_restore 0 = .ok (.aload_n 0, 1) := by decide +kernel
theorem dX6_restore_1 : decode cX6_restore 1 = .ok (.getfield 39, 3) := by decide +kernel
theorem dX6_restore_4 : decode cX6_restore 4 = .ok (.ifCond .ne 6, 3) := by decide +kernel
theorem dX6_restore_7 : decode cX6_restore 7 = .ok (.bipush (-5), 2) := by decide +kernel
theorem dX6_restore_9 : decode cX6_restore 9 = .ok (.ireturn, 1) := by decide +kernel
theorem dX6_restore_10 : decode cX6_restore 10 = .ok (.aload_n 0, 1) := by decide +kernel
theorem dX6_restore_11 : decode cX6_restore 11 = .ok (.invokevirtual 43, 3) := by decide +kernel
theorem dX6_restore_14 : decode cX6_restore 14 = .ok (.iconst 0, 1) := by decide +kernel
theorem dX6_restore_15 : decode cX6_restore 15 = .ok (.istore_n 1, 1) := by decide +kernel
theorem dX6_restore_16 : decode cX6_restore 16 = .ok (.iload_n 1, 1) := by decide +kernel
theorem dX6_restore_17 : decode cX6_restore 17 = .ok (.sipush 444, 3) := by decide +kernel
theorem dX6_restore_20 : decode cX6_restore 20 = .ok (.if_icmp .ge 21, 3) := by decide +kernel
theorem dX6_restore_23 : decode cX6_restore 23 = .ok (.aload_n 0, 1) := by decide +kernel
theorem dX6_restore_24 : decode cX6_restore 24 = .ok (.getfield 7, 3) := by decide +kernel
theorem dX6_restore_27 : decode cX6_restore 27 = .ok (.iload_n 1, 1) := by decide +kernel
theorem dX6_restore_28 : decode cX6_restore 28 = .ok (.aload_n 0, 1) := by decide +kernel
theorem dX6_restore_29 : decode cX6_restore 29 = .ok (.getfield 16, 3) := by decide +kernel
theorem dX6_restore_32 : decode cX6_restore 32 = .ok (.iload_n 1, 1) := by decide +kernel
theorem dX6_restore_33 : decode cX6_restore 33 = .ok (.iaload, 1) := by decide +kernel
theorem dX6_restore_34 : decode cX6_restore 34 = .ok (.iastore, 1) := by decide +kernel
theorem dX6_restore_35 : decode cX6_restore 35 = .ok (.iinc 1 1, 3) := by decide +kernel
theorem dX6_restore_38 : decode cX6_restore 38 = .ok (.goto (-22), 3) := by decide +kernel
theorem dX6_restore_41 : decode cX6_restore 41 = .ok (.aload_n 0, 1) := by decide +kernel
theorem dX6_restore_42 : decode cX6_restore 42 = .ok (.getfield 7, 3) := by decide +kernel
theorem dX6_restore_45 : decode cX6_restore 45 = .ok (.iconst 3, 1) := by decide +kernel
theorem dX6_restore_46 : decode cX6_restore 46 = .ok (.iaload, 1) := by decide +kernel
theorem dX6_restore_47 : decode cX6_restore 47 = .ok (.ireturn, 1) := by decide +kernel
theorem dX6_noSite_0 : decode cX6_noSite 0 = .ok (.iload_n 1, 1) := by decide +kernel
theorem dX6_noSite_1 : decode cX6_noSite 1 = .ok (.iconst 0, 1) := by decide +kernel
theorem dX6_noSite_2 : decode cX6_noSite 2 = .ok (.aload_n 0, 1) := by decide +kernel
theorem dX6_noSite_3 : decode cX6_noSite 3 = .ok (.getfield 7, 3) := by decide +kernel
theorem dX6_noSite_6 : decode cX6_noSite 6 = .ok (.iconst 0, 1) := by decide +kernel
theorem dX6_noSite_7 : decode cX6_noSite 7 = .ok (.iaload, 1) := by decide +kernel
theorem dX6_noSite_8 : decode cX6_noSite 8 = .ok (.iconst 1, 1) := by decide +kernel
theorem dX6_noSite_9 : decode cX6_noSite 9 = .ok (.isub, 1) := by decide +kernel
theorem dX6_noSite_10 : decode cX6_noSite 10 = .ok (.invokestatic 46, 3) := by decide +kernel
theorem dX6_noSite_13 : decode cX6_noSite 13 = .ok (.ifCond .ne 7, 3) := by decide +kernel
theorem dX6_noSite_16 : decode cX6_noSite 16 = .ok (.iconst 1, 1) := by decide +kernel
theorem dX6_noSite_17 : decode cX6_noSite 17 = .ok (.goto 4, 3) := by decide +kernel
theorem dX6_noSite_20 : decode cX6_noSite 20 = .ok (.iconst 0, 1) := by decide +kernel
theorem dX6_noSite_21 : decode cX6_noSite 21 = .ok (.ireturn, 1) := by decide +kernel
theorem dX6_noCustomer_0 : decode cX6_noCustomer 0 = .ok (.iload_n 1, 1) := by decide +kernel
theorem dX6_noCustomer_1 : decode cX6_noCustomer 1 = .ok (.iconst 0, 1) := by decide +kernel
theorem dX6_noCustomer_2 : decode cX6_noCustomer 2 = .ok (.aload_n 0, 1) := by decide +kernel
theorem dX6_noCustomer_3 : decode cX6_noCustomer 3 = .ok (.getfield 7, 3) := by decide +kernel
theorem dX6_noCustomer_6 : decode cX6_noCustomer 6 = .ok (.iconst 1, 1) := by decide +kernel
theorem dX6_noCustomer_7 : decode cX6_noCustomer 7 = .ok (.iaload, 1) := by decide +kernel
theorem dX6_noCustomer_8 : decode cX6_noCustomer 8 = .ok (.iconst 1, 1) := by decide +kernel
theorem dX6_noCustomer_9 : decode cX6_noCustomer 9 = .ok (.isub, 1) := by decide +kernel
theorem dX6_noCustomer_10 : decode cX6_noCustomer 10 = .ok (.invokestatic 46, 3) := by decide +kernel
theorem dX6_noCustomer_13 : decode cX6_noCustomer 13 = .ok (.ifCond .ne 7, 3) := by decide +kernel
theorem dX6_noCustomer_16 : decode cX6_noCustomer 16 = .ok (.iconst 1, 1) := by decide +kernel
theorem dX6_noCustomer_17 : decode cX6_noCustomer 17 = .ok (.goto 4, 3) := by decide +kernel
theorem dX6_noCustomer_20 : decode cX6_noCustomer 20 = .ok (.iconst 0, 1) := by decide +kernel
theorem dX6_noCustomer_21 : decode cX6_noCustomer 21 = .ok (.ireturn, 1) := by decide +kernel
theorem dX6_route_0 : decode cX6_route 0 = .ok (.bipush 21, 2) := by decide +kernel
theorem dX6_route_2 : decode cX6_route 2 = .ok (.bipush 8, 2) := by decide +kernel
theorem dX6_route_4 : decode cX6_route 4 = .ok (.iload_n 0, 1) := by decide +kernel
theorem dX6_route_5 : decode cX6_route 5 = .ok (.imul, 1) := by decide +kernel
theorem dX6_route_6 : decode cX6_route 6 = .ok (.iadd, 1) := by decide +kernel
theorem dX6_route_7 : decode cX6_route 7 = .ok (.iload_n 1, 1) := by decide +kernel
theorem dX6_route_8 : decode cX6_route 8 = .ok (.iadd, 1) := by decide +kernel
theorem dX6_route_9 : decode cX6_route 9 = .ok (.ireturn, 1) := by decide +kernel
theorem dX6_dropAll_0 : decode cX6_dropAll 0 = .ok (.aload_n 0, 1) := by decide +kernel
theorem dX6_dropAll_1 : decode cX6_dropAll 1 = .ok (.getfield 7, 3) := by decide +kernel
theorem dX6_dropAll_4 : decode cX6_dropAll 4 = .ok (.iconst 3, 1) := by decide +kernel
theorem dX6_dropAll_5 : decode cX6_dropAll 5 = .ok (.iconst 0, 1) := by decide +kernel
theorem dX6_dropAll_6 : decode cX6_dropAll 6 = .ok (.iastore, 1) := by decide +kernel
theorem dX6_dropAll_7 : decode cX6_dropAll 7 = .ok (.aload_n 0, 1) := by decide +kernel
theorem dX6_dropAll_8 : decode cX6_dropAll 8 = .ok (.getfield 7, 3) := by decide +kernel
theorem dX6_dropAll_11 : decode cX6_dropAll 11 = .ok (.iconst 4, 1) := by decide +kernel
theorem dX6_dropAll_12 : decode cX6_dropAll 12 = .ok (.bipush (-5), 2) := by decide +kernel
theorem dX6_dropAll_14 : decode cX6_dropAll 14 = .ok (.iastore, 1) := by decide +kernel
theorem dX6_dropAll_15 : decode cX6_dropAll 15 = .ok (.bipush 84, 2) := by decide +kernel
theorem dX6_dropAll_17 : decode cX6_dropAll 17 = .ok (.istore_n 1, 1) := by decide +kernel
theorem dX6_dropAll_18 : decode cX6_dropAll 18 = .ok (.iload_n 1, 1) := by decide +kernel
theorem dX6_dropAll_19 : decode cX6_dropAll 19 = .ok (.sipush 444, 3) := by decide +kernel
theorem dX6_dropAll_22 : decode cX6_dropAll 22 = .ok (.if_icmp .ge 16, 3) := by decide +kernel
theorem dX6_dropAll_25 : decode cX6_dropAll 25 = .ok (.aload_n 0, 1) := by decide +kernel
theorem dX6_dropAll_26 : decode cX6_dropAll 26 = .ok (.getfield 7, 3) := by decide +kernel
theorem dX6_dropAll_29 : decode cX6_dropAll 29 = .ok (.iload_n 1, 1) := by decide +kernel
theorem dX6_dropAll_30 : decode cX6_dropAll 30 = .ok (.iconst 0, 1) := by decide +kernel
theorem dX6_dropAll_31 : decode cX6_dropAll 31 = .ok (.iastore, 1) := by decide +kernel
theorem dX6_dropAll_32 : decode cX6_dropAll 32 = .ok (.iinc 1 1, 3) := by decide +kernel
theorem dX6_dropAll_35 : decode cX6_dropAll 35 = .ok (.goto (-17), 3) := by decide +kernel
theorem dX6_dropAll_38 : decode cX6_dropAll 38 = .ok (.return_, 1) := by decide +kernel
theorem dX6_addSite_0 : decode cX6_addSite 0 = .ok (.iload_n 1, 1) := by decide +kernel
theorem dX6_addSite_1 : decode cX6_addSite 1 = .ok (.iconst 0, 1) := by decide +kernel
theorem dX6_addSite_2 : decode cX6_addSite 2 = .ok (.sipush 999, 3) := by decide +kernel
theorem dX6_addSite_5 : decode cX6_addSite 5 = .ok (.invokestatic 46, 3) := by decide +kernel
theorem dX6_addSite_8 : decode cX6_addSite 8 = .ok (.ifCond .ne 6, 3) := by decide +kernel
theorem dX6_addSite_11 : decode cX6_addSite 11 = .ok (.bipush (-2), 2) := by decide +kernel
theorem dX6_addSite_13 : decode cX6_addSite 13 = .ok (.ireturn, 1) := by decide +kernel
theorem dX6_addSite_14 : decode cX6_addSite 14 = .ok (.aload_n 0, 1) := by decide +kernel
theorem dX6_addSite_15 : decode cX6_addSite 15 = .ok (.getfield 7, 3) := by decide +kernel
theorem dX6_addSite_18 : decode cX6_addSite 18 = .ok (.iconst 0, 1) := by decide +kernel
theorem dX6_addSite_19 : decode cX6_addSite 19 = .ok (.iaload, 1) := by decide +kernel
theorem dX6_addSite_20 : decode cX6_addSite 20 = .ok (.istore_n 2, 1) := by decide +kernel
theorem dX6_addSite_21 : decode cX6_addSite 21 = .ok (.iload_n 2, 1) := by decide +kernel
theorem dX6_addSite_22 : decode cX6_addSite 22 = .ok (.bipush 7, 2) := by decide +kernel
theorem dX6_addSite_24 : decode cX6_addSite 24 = .ok (.if_icmp .ne 6, 3) := by decide +kernel
theorem dX6_addSite_27 : decode cX6_addSite 27 = .ok (.bipush (-3), 2) := by decide +kernel
theorem dX6_addSite_29 : decode cX6_addSite 29 = .ok (.ireturn, 1) := by decide +kernel
theorem dX6_addSite_30 : decode cX6_addSite 30 = .ok (.aload_n 0, 1) := by decide +kernel
theorem dX6_addSite_31 : decode cX6_addSite 31 = .ok (.invokevirtual 43, 3) := by decide +kernel
theorem dX6_addSite_34 : decode cX6_addSite 34 = .ok (.aload_n 0, 1) := by decide +kernel
theorem dX6_addSite_35 : decode cX6_addSite 35 = .ok (.getfield 7, 3) := by decide +kernel
theorem dX6_addSite_38 : decode cX6_addSite 38 = .ok (.bipush 6, 2) := by decide +kernel
theorem dX6_addSite_40 : decode cX6_addSite 40 = .ok (.iload_n 2, 1) := by decide +kernel
theorem dX6_addSite_41 : decode cX6_addSite 41 = .ok (.iadd, 1) := by decide +kernel
theorem dX6_addSite_42 : decode cX6_addSite 42 = .ok (.iload_n 1, 1) := by decide +kernel
theorem dX6_addSite_43 : decode cX6_addSite 43 = .ok (.iastore, 1) := by decide +kernel
theorem dX6_addSite_44 : decode cX6_addSite 44 = .ok (.aload_n 0, 1) := by decide +kernel
theorem dX6_addSite_45 : decode cX6_addSite 45 = .ok (.getfield 7, 3) := by decide +kernel
theorem dX6_addSite_48 : decode cX6_addSite 48 = .ok (.iconst 0, 1) := by decide +kernel
theorem dX6_addSite_49 : decode cX6_addSite 49 = .ok (.dup2, 1) := by decide +kernel
theorem dX6_addSite_50 : decode cX6_addSite 50 = .ok (.iaload, 1) := by decide +kernel
theorem dX6_addSite_51 : decode cX6_addSite 51 = .ok (.iconst 1, 1) := by decide +kernel
theorem dX6_addSite_52 : decode cX6_addSite 52 = .ok (.iadd, 1) := by decide +kernel
theorem dX6_addSite_53 : decode cX6_addSite 53 = .ok (.iastore, 1) := by decide +kernel
theorem dX6_addSite_54 : decode cX6_addSite 54 = .ok (.aload_n 0, 1) := by decide +kernel
theorem dX6_addSite_55 : decode cX6_addSite 55 = .ok (.invokevirtual 50, 3) := by decide +kernel
theorem dX6_addSite_58 : decode cX6_addSite 58 = .ok (.iload_n 2, 1) := by decide +kernel
theorem dX6_addSite_59 : decode cX6_addSite 59 = .ok (.ireturn, 1) := by decide +kernel
theorem dX6_addCustomer_0 : decode cX6_addCustomer 0 = .ok (.iload_n 1, 1) := by decide +kernel
theorem dX6_addCustomer_1 : decode cX6_addCustomer 1 = .ok (.iconst 1, 1) := by decide +kernel
theorem dX6_addCustomer_2 : decode cX6_addCustomer 2 = .ok (.bipush 20, 2) := by decide +kernel
theorem dX6_addCustomer_4 : decode cX6_addCustomer 4 = .ok (.invokestatic 46, 3) := by decide +kernel
theorem dX6_addCustomer_7 : decode cX6_addCustomer 7 = .ok (.ifCond .ne 6, 3) := by decide +kernel
theorem dX6_addCustomer_10 : decode cX6_addCustomer 10 = .ok (.bipush (-2), 2) := by decide +kernel
theorem dX6_addCustomer_12 : decode cX6_addCustomer 12 = .ok (.ireturn, 1) := by decide +kernel
theorem dX6_addCustomer_13 : decode cX6_addCustomer 13 = .ok (.aload_n 0, 1) := by decide +kernel
theorem dX6_addCustomer_14 : decode cX6_addCustomer 14 = .ok (.getfield 7, 3) := by decide +kernel
theorem dX6_addCustomer_17 : decode cX6_addCustomer 17 = .ok (.iconst 1, 1) := by decide +kernel
theorem dX6_addCustomer_18 : decode cX6_addCustomer 18 = .ok (.iaload, 1) := by decide +kernel
theorem dX6_addCustomer_19 : decode cX6_addCustomer 19 = .ok (.istore_n 2, 1) := by decide +kernel
theorem dX6_addCustomer_20 : decode cX6_addCustomer 20 = .ok (.iload_n 2, 1) := by decide +kernel
theorem dX6_addCustomer_21 : decode cX6_addCustomer 21 = .ok (.bipush 8, 2) := by decide +kernel
theorem dX6_addCustomer_23 : decode cX6_addCustomer 23 = .ok (.if_icmp .ne 6, 3) := by decide +kernel
theorem dX6_addCustomer_26 : decode cX6_addCustomer 26 = .ok (.bipush (-3), 2) := by decide +kernel
theorem dX6_addCustomer_28 : decode cX6_addCustomer 28 = .ok (.ireturn, 1) := by decide +kernel
theorem dX6_addCustomer_29 : decode cX6_addCustomer 29 = .ok (.aload_n 0, 1) := by decide +kernel
theorem dX6_addCustomer_30 : decode cX6_addCustomer 30 = .ok (.invokevirtual 43, 3) := by decide +kernel
theorem dX6_addCustomer_33 : decode cX6_addCustomer 33 = .ok (.aload_n 0, 1) := by decide +kernel
theorem dX6_addCustomer_34 : decode cX6_addCustomer 34 = .ok (.getfield 7, 3) := by decide +kernel
theorem dX6_addCustomer_37 : decode cX6_addCustomer 37 = .ok (.bipush 13, 2) := by decide +kernel
theorem dX6_addCustomer_39 : decode cX6_addCustomer 39 = .ok (.iload_n 2, 1) := by decide +kernel
theorem dX6_addCustomer_40 : decode cX6_addCustomer 40 = .ok (.iadd, 1) := by decide +kernel
theorem dX6_addCustomer_41 : decode cX6_addCustomer 41 = .ok (.iload_n 1, 1) := by decide +kernel
theorem dX6_addCustomer_42 : decode cX6_addCustomer 42 = .ok (.iastore, 1) := by decide +kernel
theorem dX6_addCustomer_43 : decode cX6_addCustomer 43 = .ok (.aload_n 0, 1) := by decide +kernel
theorem dX6_addCustomer_44 : decode cX6_addCustomer 44 = .ok (.getfield 7, 3) := by decide +kernel
theorem dX6_addCustomer_47 : decode cX6_addCustomer 47 = .ok (.iconst 1, 1) := by decide +kernel
theorem dX6_addCustomer_48 : decode cX6_addCustomer 48 = .ok (.dup2, 1) := by decide +kernel
theorem dX6_addCustomer_49 : decode cX6_addCustomer 49 = .ok (.iaload, 1) := by decide +kernel
theorem dX6_addCustomer_50 : decode cX6_addCustomer 50 = .ok (.iconst 1, 1) := by decide +kernel
theorem dX6_addCustomer_51 : decode cX6_addCustomer 51 = .ok (.iadd, 1) := by decide +kernel
theorem dX6_addCustomer_52 : decode cX6_addCustomer 52 = .ok (.iastore, 1) := by decide +kernel
theorem dX6_addCustomer_53 : decode cX6_addCustomer 53 = .ok (.aload_n 0, 1) := by decide +kernel
theorem dX6_addCustomer_54 : decode cX6_addCustomer 54 = .ok (.invokevirtual 50, 3) := by decide +kernel
theorem dX6_addCustomer_57 : decode cX6_addCustomer 57 = .ok (.iload_n 2, 1) := by decide +kernel
theorem dX6_addCustomer_58 : decode cX6_addCustomer 58 = .ok (.ireturn, 1) := by decide +kernel
theorem dX6_change_0 : decode cX6_change 0 = .ok (.aload_n 0, 1) := by decide +kernel
theorem dX6_change_1 : decode cX6_change 1 = .ok (.getfield 7, 3) := by decide +kernel
theorem dX6_change_4 : decode cX6_change 4 = .ok (.iload_n 1, 1) := by decide +kernel
theorem dX6_change_5 : decode cX6_change 5 = .ok (.iaload, 1) := by decide +kernel
theorem dX6_change_6 : decode cX6_change 6 = .ok (.istore_n 3, 1) := by decide +kernel
theorem dX6_change_7 : decode cX6_change 7 = .ok (.iload_n 3, 1) := by decide +kernel
theorem dX6_change_8 : decode cX6_change 8 = .ok (.iload_n 2, 1) := by decide +kernel
theorem dX6_change_9 : decode cX6_change 9 = .ok (.if_icmp .ne 6, 3) := by decide +kernel
theorem dX6_change_12 : decode cX6_change 12 = .ok (.bipush (-5), 2) := by decide +kernel
theorem dX6_change_14 : decode cX6_change 14 = .ok (.ireturn, 1) := by decide +kernel
theorem dX6_change_15 : decode cX6_change 15 = .ok (.aload_n 0, 1) := by decide +kernel
theorem dX6_change_16 : decode cX6_change 16 = .ok (.invokevirtual 43, 3) := by decide +kernel
theorem dX6_change_19 : decode cX6_change 19 = .ok (.aload_n 0, 1) := by decide +kernel
theorem dX6_change_20 : decode cX6_change 20 = .ok (.getfield 7, 3) := by decide +kernel
theorem dX6_change_23 : decode cX6_change 23 = .ok (.iload_n 1, 1) := by decide +kernel
theorem dX6_change_24 : decode cX6_change 24 = .ok (.iload_n 2, 1) := by decide +kernel
theorem dX6_change_25 : decode cX6_change 25 = .ok (.iastore, 1) := by decide +kernel
theorem dX6_change_26 : decode cX6_change 26 = .ok (.aload_n 0, 1) := by decide +kernel
theorem dX6_change_27 : decode cX6_change 27 = .ok (.invokevirtual 50, 3) := by decide +kernel
theorem dX6_change_30 : decode cX6_change 30 = .ok (.iload_n 3, 1) := by decide +kernel
theorem dX6_change_31 : decode cX6_change 31 = .ok (.ireturn, 1) := by decide +kernel
theorem dX6_setPrice_0 : decode cX6_setPrice 0 = .ok (.aload_n 0, 1) := by decide +kernel
theorem dX6_setPrice_1 : decode cX6_setPrice 1 = .ok (.iload_n 1, 1) := by decide +kernel
theorem dX6_setPrice_2 : decode cX6_setPrice 2 = .ok (.invokevirtual 53, 3) := by decide +kernel
theorem dX6_setPrice_5 : decode cX6_setPrice 5 = .ok (.ifCond .eq 5, 3) := by decide +kernel
theorem dX6_setPrice_8 : decode cX6_setPrice 8 = .ok (.iconst (-1), 1) := by decide +kernel
theorem dX6_setPrice_9 : decode cX6_setPrice 9 = .ok (.ireturn, 1) := by decide +kernel
theorem dX6_setPrice_10 : decode cX6_setPrice 10 = .ok (.iload_n 2, 1) := by decide +kernel
theorem dX6_setPrice_11 : decode cX6_setPrice 11 = .ok (.iconst 0, 1) := by decide +kernel
theorem dX6_setPrice_12 : decode cX6_setPrice 12 = .ok (.sipush 999, 3) := by decide +kernel
theorem dX6_setPrice_15 : decode cX6_setPrice 15 = .ok (.invokestatic 46, 3) := by decide +kernel
theorem dX6_setPrice_18 : decode cX6_setPrice 18 = .ok (.ifCond .eq 15, 3) := by decide +kernel
theorem dX6_setPrice_21 : decode cX6_setPrice 21 = .ok (.aload_n 0, 1) := by decide +kernel
theorem dX6_setPrice_22 : decode cX6_setPrice 22 = .ok (.bipush 6, 2) := by decide +kernel
theorem dX6_setPrice_24 : decode cX6_setPrice 24 = .ok (.iload_n 1, 1) := by decide +kernel
theorem dX6_setPrice_25 : decode cX6_setPrice 25 = .ok (.iadd, 1) := by decide +kernel
theorem dX6_setPrice_26 : decode cX6_setPrice 26 = .ok (.iload_n 2, 1) := by decide +kernel
theorem dX6_setPrice_27 : decode cX6_setPrice 27 = .ok (.invokevirtual 57, 3) := by decide +kernel
theorem dX6_setPrice_30 : decode cX6_setPrice 30 = .ok (.goto 5, 3) := by decide +kernel
theorem dX6_setPrice_33 : decode cX6_setPrice 33 = .ok (.bipush (-2), 2) := by decide +kernel
theorem dX6_setPrice_35 : decode cX6_setPrice 35 = .ok (.ireturn, 1) := by decide +kernel
theorem dX6_setDemand_0 : decode cX6_setDemand 0 = .ok (.aload_n 0, 1) := by decide +kernel
theorem dX6_setDemand_1 : decode cX6_setDemand 1 = .ok (.iload_n 1, 1) := by decide +kernel
theorem dX6_setDemand_2 : decode cX6_setDemand 2 = .ok (.invokevirtual 61, 3) := by decide +kernel
theorem dX6_setDemand_5 : decode cX6_setDemand 5 = .ok (.ifCond .eq 5, 3) := by decide +kernel
theorem dX6_setDemand_8 : decode cX6_setDemand 8 = .ok (.iconst (-1), 1) := by decide +kernel
theorem dX6_setDemand_9 : decode cX6_setDemand 9 = .ok (.ireturn, 1) := by decide +kernel
theorem dX6_setDemand_10 : decode cX6_setDemand 10 = .ok (.iload_n 2, 1) := by decide +kernel
theorem dX6_setDemand_11 : decode cX6_setDemand 11 = .ok (.iconst 1, 1) := by decide +kernel
theorem dX6_setDemand_12 : decode cX6_setDemand 12 = .ok (.bipush 20, 2) := by decide +kernel
theorem dX6_setDemand_14 : decode cX6_setDemand 14 = .ok (.invokestatic 46, 3) := by decide +kernel
theorem dX6_setDemand_17 : decode cX6_setDemand 17 = .ok (.ifCond .eq 15, 3) := by decide +kernel
theorem dX6_setDemand_20 : decode cX6_setDemand 20 = .ok (.aload_n 0, 1) := by decide +kernel
theorem dX6_setDemand_21 : decode cX6_setDemand 21 = .ok (.bipush 13, 2) := by decide +kernel
theorem dX6_setDemand_23 : decode cX6_setDemand 23 = .ok (.iload_n 1, 1) := by decide +kernel
theorem dX6_setDemand_24 : decode cX6_setDemand 24 = .ok (.iadd, 1) := by decide +kernel
theorem dX6_setDemand_25 : decode cX6_setDemand 25 = .ok (.iload_n 2, 1) := by decide +kernel
theorem dX6_setDemand_26 : decode cX6_setDemand 26 = .ok (.invokevirtual 57, 3) := by decide +kernel
theorem dX6_setDemand_29 : decode cX6_setDemand 29 = .ok (.goto 5, 3) := by decide +kernel
theorem dX6_setDemand_32 : decode cX6_setDemand 32 = .ok (.bipush (-2), 2) := by decide +kernel
theorem dX6_setDemand_34 : decode cX6_setDemand 34 = .ok (.ireturn, 1) := by decide +kernel
theorem dX6_setRoute_0 : decode cX6_setRoute 0 = .ok (.aload_n 0, 1) := by decide +kernel
theorem dX6_setRoute_1 : decode cX6_setRoute 1 = .ok (.iload_n 1, 1) := by decide +kernel
theorem dX6_setRoute_2 : decode cX6_setRoute 2 = .ok (.invokevirtual 53, 3) := by decide +kernel
theorem dX6_setRoute_5 : decode cX6_setRoute 5 = .ok (.ifCond .ne 11, 3) := by decide +kernel
theorem dX6_setRoute_8 : decode cX6_setRoute 8 = .ok (.aload_n 0, 1) := by decide +kernel
theorem dX6_setRoute_9 : decode cX6_setRoute 9 = .ok (.iload_n 2, 1) := by decide +kernel
theorem dX6_setRoute_10 : decode cX6_setRoute 10 = .ok (.invokevirtual 61, 3) := by decide +kernel
theorem dX6_setRoute_13 : decode cX6_setRoute 13 = .ok (.ifCond .eq 5, 3) := by decide +kernel
theorem dX6_setRoute_16 : decode cX6_setRoute 16 = .ok (.iconst (-1), 1) := by decide +kernel
theorem dX6_setRoute_17 : decode cX6_setRoute 17 = .ok (.ireturn, 1) := by decide +kernel
theorem dX6_setRoute_18 : decode cX6_setRoute 18 = .ok (.iload_n 3, 1) := by decide +kernel
theorem dX6_setRoute_19 : decode cX6_setRoute 19 = .ok (.iconst 0, 1) := by decide +kernel
theorem dX6_setRoute_20 : decode cX6_setRoute 20 = .ok (.bipush 100, 2) := by decide +kernel
theorem dX6_setRoute_22 : decode cX6_setRoute 22 = .ok (.invokestatic 46, 3) := by decide +kernel
theorem dX6_setRoute_25 : decode cX6_setRoute 25 = .ok (.ifCond .eq 16, 3) := by decide +kernel
theorem dX6_setRoute_28 : decode cX6_setRoute 28 = .ok (.aload_n 0, 1) := by decide +kernel
theorem dX6_setRoute_29 : decode cX6_setRoute 29 = .ok (.iload_n 1, 1) := by decide +kernel
theorem dX6_setRoute_30 : decode cX6_setRoute 30 = .ok (.iload_n 2, 1) := by decide +kernel
theorem dX6_setRoute_31 : decode cX6_setRoute 31 = .ok (.invokestatic 64, 3) := by decide +kernel
theorem dX6_setRoute_34 : decode cX6_setRoute 34 = .ok (.iload_n 3, 1) := by decide +kernel
theorem dX6_setRoute_35 : decode cX6_setRoute 35 = .ok (.invokevirtual 57, 3) := by decide +kernel
theorem dX6_setRoute_38 : decode cX6_setRoute 38 = .ok (.goto 5, 3) := by decide +kernel
theorem dX6_setRoute_41 : decode cX6_setRoute 41 = .ok (.bipush (-2), 2) := by decide +kernel
theorem dX6_setRoute_43 : decode cX6_setRoute 43 = .ok (.ireturn, 1) := by decide +kernel
theorem dX6_setMost_0 : decode cX6_setMost 0 = .ok (.iload_n 1, 1) := by decide +kernel
theorem dX6_setMost_1 : decode cX6_setMost 1 = .ok (.iconst 1, 1) := by decide +kernel
theorem dX6_setMost_2 : decode cX6_setMost 2 = .ok (.bipush 7, 2) := by decide +kernel
theorem dX6_setMost_4 : decode cX6_setMost 4 = .ok (.invokestatic 46, 3) := by decide +kernel
theorem dX6_setMost_7 : decode cX6_setMost 7 = .ok (.ifCond .ne 6, 3) := by decide +kernel
theorem dX6_setMost_10 : decode cX6_setMost 10 = .ok (.bipush (-2), 2) := by decide +kernel
theorem dX6_setMost_12 : decode cX6_setMost 12 = .ok (.ireturn, 1) := by decide +kernel
theorem dX6_setMost_13 : decode cX6_setMost 13 = .ok (.aload_n 0, 1) := by decide +kernel
theorem dX6_setMost_14 : decode cX6_setMost 14 = .ok (.getfield 7, 3) := by decide +kernel
theorem dX6_setMost_17 : decode cX6_setMost 17 = .ok (.iconst 2, 1) := by decide +kernel
theorem dX6_setMost_18 : decode cX6_setMost 18 = .ok (.iaload, 1) := by decide +kernel
theorem dX6_setMost_19 : decode cX6_setMost 19 = .ok (.istore_n 2, 1) := by decide +kernel
theorem dX6_setMost_20 : decode cX6_setMost 20 = .ok (.iload_n 2, 1) := by decide +kernel
theorem dX6_setMost_21 : decode cX6_setMost 21 = .ok (.iload_n 1, 1) := by decide +kernel
theorem dX6_setMost_22 : decode cX6_setMost 22 = .ok (.if_icmp .ne 6, 3) := by decide +kernel
theorem dX6_setMost_25 : decode cX6_setMost 25 = .ok (.bipush (-5), 2) := by decide +kernel
theorem dX6_setMost_27 : decode cX6_setMost 27 = .ok (.ireturn, 1) := by decide +kernel
theorem dX6_setMost_28 : decode cX6_setMost 28 = .ok (.aload_n 0, 1) := by decide +kernel
theorem dX6_setMost_29 : decode cX6_setMost 29 = .ok (.invokevirtual 43, 3) := by decide +kernel
theorem dX6_setMost_32 : decode cX6_setMost 32 = .ok (.aload_n 0, 1) := by decide +kernel
theorem dX6_setMost_33 : decode cX6_setMost 33 = .ok (.getfield 7, 3) := by decide +kernel
theorem dX6_setMost_36 : decode cX6_setMost 36 = .ok (.iconst 2, 1) := by decide +kernel
theorem dX6_setMost_37 : decode cX6_setMost 37 = .ok (.iload_n 1, 1) := by decide +kernel
theorem dX6_setMost_38 : decode cX6_setMost 38 = .ok (.iastore, 1) := by decide +kernel
theorem dX6_setMost_39 : decode cX6_setMost 39 = .ok (.aload_n 0, 1) := by decide +kernel
theorem dX6_setMost_40 : decode cX6_setMost 40 = .ok (.getfield 7, 3) := by decide +kernel
theorem dX6_setMost_43 : decode cX6_setMost 43 = .ok (.iconst 4, 1) := by decide +kernel
theorem dX6_setMost_44 : decode cX6_setMost 44 = .ok (.bipush (-5), 2) := by decide +kernel
theorem dX6_setMost_46 : decode cX6_setMost 46 = .ok (.iastore, 1) := by decide +kernel
theorem dX6_setMost_47 : decode cX6_setMost 47 = .ok (.iload_n 2, 1) := by decide +kernel
theorem dX6_setMost_48 : decode cX6_setMost 48 = .ok (.ireturn, 1) := by decide +kernel
theorem dX6_exclude_0 : decode cX6_exclude 0 = .ok (.aload_n 0, 1) := by decide +kernel
theorem dX6_exclude_1 : decode cX6_exclude 1 = .ok (.iload_n 1, 1) := by decide +kernel
theorem dX6_exclude_2 : decode cX6_exclude 2 = .ok (.invokevirtual 53, 3) := by decide +kernel
theorem dX6_exclude_5 : decode cX6_exclude 5 = .ok (.ifCond .ne 11, 3) := by decide +kernel
theorem dX6_exclude_8 : decode cX6_exclude 8 = .ok (.aload_n 0, 1) := by decide +kernel
theorem dX6_exclude_9 : decode cX6_exclude 9 = .ok (.iload_n 2, 1) := by decide +kernel
theorem dX6_exclude_10 : decode cX6_exclude 10 = .ok (.invokevirtual 53, 3) := by decide +kernel
theorem dX6_exclude_13 : decode cX6_exclude 13 = .ok (.ifCond .eq 5, 3) := by decide +kernel
theorem dX6_exclude_16 : decode cX6_exclude 16 = .ok (.iconst (-1), 1) := by decide +kernel
theorem dX6_exclude_17 : decode cX6_exclude 17 = .ok (.ireturn, 1) := by decide +kernel
theorem dX6_exclude_18 : decode cX6_exclude 18 = .ok (.iload_n 1, 1) := by decide +kernel
theorem dX6_exclude_19 : decode cX6_exclude 19 = .ok (.iload_n 2, 1) := by decide +kernel
theorem dX6_exclude_20 : decode cX6_exclude 20 = .ok (.if_icmp .ne 6, 3) := by decide +kernel
theorem dX6_exclude_23 : decode cX6_exclude 23 = .ok (.bipush (-2), 2) := by decide +kernel
theorem dX6_exclude_25 : decode cX6_exclude 25 = .ok (.ireturn, 1) := by decide +kernel
theorem dX6_exclude_26 : decode cX6_exclude 26 = .ok (.aload_n 0, 1) := by decide +kernel
theorem dX6_exclude_27 : decode cX6_exclude 27 = .ok (.getfield 7, 3) := by decide +kernel
theorem dX6_exclude_30 : decode cX6_exclude 30 = .ok (.bipush 77, 2) := by decide +kernel
theorem dX6_exclude_32 : decode cX6_exclude 32 = .ok (.iload_n 1, 1) := by decide +kernel
theorem dX6_exclude_33 : decode cX6_exclude 33 = .ok (.iadd, 1) := by decide +kernel
theorem dX6_exclude_34 : decode cX6_exclude 34 = .ok (.iaload, 1) := by decide +kernel
theorem dX6_exclude_35 : decode cX6_exclude 35 = .ok (.iload_n 2, 1) := by decide +kernel
theorem dX6_exclude_36 : decode cX6_exclude 36 = .ok (.invokestatic 67, 3) := by decide +kernel
theorem dX6_exclude_39 : decode cX6_exclude 39 = .ok (.iload_n 3, 1) := by decide +kernel
theorem dX6_exclude_40 : decode cX6_exclude 40 = .ok (.if_icmp .ne 6, 3) := by decide +kernel
theorem dX6_exclude_43 : decode cX6_exclude 43 = .ok (.bipush (-5), 2) := by decide +kernel
theorem dX6_exclude_45 : decode cX6_exclude 45 = .ok (.ireturn, 1) := by decide +kernel
theorem dX6_exclude_46 : decode cX6_exclude 46 = .ok (.aload_n 0, 1) := by decide +kernel
theorem dX6_exclude_47 : decode cX6_exclude 47 = .ok (.invokevirtual 43, 3) := by decide +kernel
theorem dX6_exclude_50 : decode cX6_exclude 50 = .ok (.aload_n 0, 1) := by decide +kernel
theorem dX6_exclude_51 : decode cX6_exclude 51 = .ok (.getfield 7, 3) := by decide +kernel
theorem dX6_exclude_54 : decode cX6_exclude 54 = .ok (.bipush 77, 2) := by decide +kernel
theorem dX6_exclude_56 : decode cX6_exclude 56 = .ok (.iload_n 1, 1) := by decide +kernel
theorem dX6_exclude_57 : decode cX6_exclude 57 = .ok (.iadd, 1) := by decide +kernel
theorem dX6_exclude_58 : decode cX6_exclude 58 = .ok (.dup2, 1) := by decide +kernel
theorem dX6_exclude_59 : decode cX6_exclude 59 = .ok (.iaload, 1) := by decide +kernel
theorem dX6_exclude_60 : decode cX6_exclude 60 = .ok (.iconst 1, 1) := by decide +kernel
theorem dX6_exclude_61 : decode cX6_exclude 61 = .ok (.iload_n 2, 1) := by decide +kernel
theorem dX6_exclude_62 : decode cX6_exclude 62 = .ok (.ishl, 1) := by decide +kernel
theorem dX6_exclude_63 : decode cX6_exclude 63 = .ok (.ixor, 1) := by decide +kernel
theorem dX6_exclude_64 : decode cX6_exclude 64 = .ok (.iastore, 1) := by decide +kernel
theorem dX6_exclude_65 : decode cX6_exclude 65 = .ok (.aload_n 0, 1) := by decide +kernel
theorem dX6_exclude_66 : decode cX6_exclude 66 = .ok (.getfield 7, 3) := by decide +kernel
theorem dX6_exclude_69 : decode cX6_exclude 69 = .ok (.bipush 77, 2) := by decide +kernel
theorem dX6_exclude_71 : decode cX6_exclude 71 = .ok (.iload_n 2, 1) := by decide +kernel
theorem dX6_exclude_72 : decode cX6_exclude 72 = .ok (.iadd, 1) := by decide +kernel
theorem dX6_exclude_73 : decode cX6_exclude 73 = .ok (.dup2, 1) := by decide +kernel
theorem dX6_exclude_74 : decode cX6_exclude 74 = .ok (.iaload, 1) := by decide +kernel
theorem dX6_exclude_75 : decode cX6_exclude 75 = .ok (.iconst 1, 1) := by decide +kernel
theorem dX6_exclude_76 : decode cX6_exclude 76 = .ok (.iload_n 1, 1) := by decide +kernel
theorem dX6_exclude_77 : decode cX6_exclude 77 = .ok (.ishl, 1) := by decide +kernel
theorem dX6_exclude_78 : decode cX6_exclude 78 = .ok (.ixor, 1) := by decide +kernel
theorem dX6_exclude_79 : decode cX6_exclude 79 = .ok (.iastore, 1) := by decide +kernel
theorem dX6_exclude_80 : decode cX6_exclude 80 = .ok (.aload_n 0, 1) := by decide +kernel
theorem dX6_exclude_81 : decode cX6_exclude 81 = .ok (.getfield 7, 3) := by decide +kernel
theorem dX6_exclude_84 : decode cX6_exclude 84 = .ok (.iconst 4, 1) := by decide +kernel
theorem dX6_exclude_85 : decode cX6_exclude 85 = .ok (.bipush (-5), 2) := by decide +kernel
theorem dX6_exclude_87 : decode cX6_exclude 87 = .ok (.iastore, 1) := by decide +kernel
theorem dX6_exclude_88 : decode cX6_exclude 88 = .ok (.aload_n 0, 1) := by decide +kernel
theorem dX6_exclude_89 : decode cX6_exclude 89 = .ok (.getfield 7, 3) := by decide +kernel
theorem dX6_exclude_92 : decode cX6_exclude 92 = .ok (.bipush 77, 2) := by decide +kernel
theorem dX6_exclude_94 : decode cX6_exclude 94 = .ok (.iload_n 1, 1) := by decide +kernel
theorem dX6_exclude_95 : decode cX6_exclude 95 = .ok (.iadd, 1) := by decide +kernel
theorem dX6_exclude_96 : decode cX6_exclude 96 = .ok (.iaload, 1) := by decide +kernel
theorem dX6_exclude_97 : decode cX6_exclude 97 = .ok (.invokestatic 71, 3) := by decide +kernel
theorem dX6_exclude_100 : decode cX6_exclude 100 = .ok (.ireturn, 1) := by decide +kernel
theorem dX6_noPlan_0 : decode cX6_noPlan 0 = .ok (.iload_n 1, 1) := by decide +kernel
theorem dX6_noPlan_1 : decode cX6_noPlan 1 = .ok (.iconst 0, 1) := by decide +kernel
theorem dX6_noPlan_2 : decode cX6_noPlan 2 = .ok (.iconst 1, 1) := by decide +kernel
theorem dX6_noPlan_3 : decode cX6_noPlan 3 = .ok (.aload_n 0, 1) := by decide +kernel
theorem dX6_noPlan_4 : decode cX6_noPlan 4 = .ok (.getfield 7, 3) := by decide +kernel
theorem dX6_noPlan_7 : decode cX6_noPlan 7 = .ok (.iconst 0, 1) := by decide +kernel
theorem dX6_noPlan_8 : decode cX6_noPlan 8 = .ok (.iaload, 1) := by decide +kernel
theorem dX6_noPlan_9 : decode cX6_noPlan 9 = .ok (.ishl, 1) := by decide +kernel
theorem dX6_noPlan_10 : decode cX6_noPlan 10 = .ok (.iconst 1, 1) := by decide +kernel
theorem dX6_noPlan_11 : decode cX6_noPlan 11 = .ok (.isub, 1) := by decide +kernel
theorem dX6_noPlan_12 : decode cX6_noPlan 12 = .ok (.invokestatic 46, 3) := by decide +kernel
theorem dX6_noPlan_15 : decode cX6_noPlan 15 = .ok (.ifCond .ne 7, 3) := by decide +kernel
theorem dX6_noPlan_18 : decode cX6_noPlan 18 = .ok (.iconst 1, 1) := by decide +kernel
theorem dX6_noPlan_19 : decode cX6_noPlan 19 = .ok (.goto 4, 3) := by decide +kernel
theorem dX6_noPlan_22 : decode cX6_noPlan 22 = .ok (.iconst 0, 1) := by decide +kernel
theorem dX6_noPlan_23 : decode cX6_noPlan 23 = .ok (.ireturn, 1) := by decide +kernel
theorem dX6_excludes_0 : decode cX6_excludes 0 = .ok (.iconst 0, 1) := by decide +kernel
theorem dX6_excludes_1 : decode cX6_excludes 1 = .ok (.istore_n 2, 1) := by decide +kernel
theorem dX6_excludes_2 : decode cX6_excludes 2 = .ok (.iconst 0, 1) := by decide +kernel
theorem dX6_excludes_3 : decode cX6_excludes 3 = .ok (.istore_n 3, 1) := by decide +kernel
theorem dX6_excludes_4 : decode cX6_excludes 4 = .ok (.iload_n 3, 1) := by decide +kernel
theorem dX6_excludes_5 : decode cX6_excludes 5 = .ok (.aload_n 0, 1) := by decide +kernel
theorem dX6_excludes_6 : decode cX6_excludes 6 = .ok (.getfield 7, 3) := by decide +kernel
theorem dX6_excludes_9 : decode cX6_excludes 9 = .ok (.iconst 0, 1) := by decide +kernel
theorem dX6_excludes_10 : decode cX6_excludes 10 = .ok (.iaload, 1) := by decide +kernel
theorem dX6_excludes_11 : decode cX6_excludes 11 = .ok (.if_icmp .ge 41, 3) := by decide +kernel
theorem dX6_excludes_14 : decode cX6_excludes 14 = .ok (.iload_n 2, 1) := by decide +kernel
theorem dX6_excludes_15 : decode cX6_excludes 15 = .ok (.ifCond .ne 25, 3) := by decide +kernel
theorem dX6_excludes_18 : decode cX6_excludes 18 = .ok (.iload_n 1, 1) := by decide +kernel
theorem dX6_excludes_19 : decode cX6_excludes 19 = .ok (.iload_n 3, 1) := by decide +kernel
theorem dX6_excludes_20 : decode cX6_excludes 20 = .ok (.invokestatic 67, 3) := by decide +kernel
theorem dX6_excludes_23 : decode cX6_excludes 23 = .ok (.ifCond .eq 21, 3) := by decide +kernel
theorem dX6_excludes_26 : decode cX6_excludes 26 = .ok (.iload_n 1, 1) := by decide +kernel
theorem dX6_excludes_27 : decode cX6_excludes 27 = .ok (.aload_n 0, 1) := by decide +kernel
theorem dX6_excludes_28 : decode cX6_excludes 28 = .ok (.getfield 7, 3) := by decide +kernel
theorem dX6_excludes_31 : decode cX6_excludes 31 = .ok (.bipush 77, 2) := by decide +kernel
theorem dX6_excludes_33 : decode cX6_excludes 33 = .ok (.iload_n 3, 1) := by decide +kernel
theorem dX6_excludes_34 : decode cX6_excludes 34 = .ok (.iadd, 1) := by decide +kernel
theorem dX6_excludes_35 : decode cX6_excludes 35 = .ok (.iaload, 1) := by decide +kernel
theorem dX6_excludes_36 : decode cX6_excludes 36 = .ok (.iand, 1) := by decide +kernel
theorem dX6_excludes_37 : decode cX6_excludes 37 = .ok (.ifCond .eq 7, 3) := by decide +kernel
theorem dX6_excludes_40 : decode cX6_excludes 40 = .ok (.iconst 1, 1) := by decide +kernel
theorem dX6_excludes_41 : decode cX6_excludes 41 = .ok (.goto 4, 3) := by decide +kernel
theorem dX6_excludes_44 : decode cX6_excludes 44 = .ok (.iconst 0, 1) := by decide +kernel
theorem dX6_excludes_45 : decode cX6_excludes 45 = .ok (.istore_n 2, 1) := by decide +kernel
theorem dX6_excludes_46 : decode cX6_excludes 46 = .ok (.iinc 3 1, 3) := by decide +kernel
theorem dX6_excludes_49 : decode cX6_excludes 49 = .ok (.goto (-45), 3) := by decide +kernel
theorem dX6_excludes_52 : decode cX6_excludes 52 = .ok (.iload_n 2, 1) := by decide +kernel
theorem dX6_excludes_53 : decode cX6_excludes 53 = .ok (.ireturn, 1) := by decide +kernel
theorem dX6_isAllowed_0 : decode cX6_isAllowed 0 = .ok (.iload_n 1, 1) := by decide +kernel
theorem dX6_isAllowed_1 : decode cX6_isAllowed 1 = .ok (.invokestatic 71, 3) := by decide +kernel
theorem dX6_isAllowed_4 : decode cX6_isAllowed 4 = .ok (.aload_n 0, 1) := by decide +kernel
theorem dX6_isAllowed_5 : decode cX6_isAllowed 5 = .ok (.getfield 7, 3) := by decide +kernel
theorem dX6_isAllowed_8 : decode cX6_isAllowed 8 = .ok (.iconst 2, 1) := by decide +kernel
theorem dX6_isAllowed_9 : decode cX6_isAllowed 9 = .ok (.iaload, 1) := by decide +kernel
theorem dX6_isAllowed_10 : decode cX6_isAllowed 10 = .ok (.if_icmp .gt 15, 3) := by decide +kernel
theorem dX6_isAllowed_13 : decode cX6_isAllowed 13 = .ok (.aload_n 0, 1) := by decide +kernel
theorem dX6_isAllowed_14 : decode cX6_isAllowed 14 = .ok (.iload_n 1, 1) := by decide +kernel
theorem dX6_isAllowed_15 : decode cX6_isAllowed 15 = .ok (.invokevirtual 75, 3) := by decide +kernel
theorem dX6_isAllowed_18 : decode cX6_isAllowed 18 = .ok (.ifCond .ne 7, 3) := by decide +kernel
theorem dX6_isAllowed_21 : decode cX6_isAllowed 21 = .ok (.iconst 1, 1) := by decide +kernel
theorem dX6_isAllowed_22 : decode cX6_isAllowed 22 = .ok (.goto 4, 3) := by decide +kernel
theorem dX6_isAllowed_25 : decode cX6_isAllowed 25 = .ok (.iconst 0, 1) := by decide +kernel
theorem dX6_isAllowed_26 : decode cX6_isAllowed 26 = .ok (.ireturn, 1) := by decide +kernel
theorem dX6_reachedFrom_0 : decode cX6_reachedFrom 0 = .ok (.iconst 0, 1) := by decide +kernel
theorem dX6_reachedFrom_1 : decode cX6_reachedFrom 1 = .ok (.istore_n 2, 1) := by decide +kernel
theorem dX6_reachedFrom_2 : decode cX6_reachedFrom 2 = .ok (.iconst 0, 1) := by decide +kernel
theorem dX6_reachedFrom_3 : decode cX6_reachedFrom 3 = .ok (.istore_n 3, 1) := by decide +kernel
theorem dX6_reachedFrom_4 : decode cX6_reachedFrom 4 = .ok (.iload_n 3, 1) := by decide +kernel
theorem dX6_reachedFrom_5 : decode cX6_reachedFrom 5 = .ok (.aload_n 0, 1) := by decide +kernel
theorem dX6_reachedFrom_6 : decode cX6_reachedFrom 6 = .ok (.getfield 7, 3) := by decide +kernel
theorem dX6_reachedFrom_9 : decode cX6_reachedFrom 9 = .ok (.iconst 0, 1) := by decide +kernel
theorem dX6_reachedFrom_10 : decode cX6_reachedFrom 10 = .ok (.iaload, 1) := by decide +kernel
theorem dX6_reachedFrom_11 : decode cX6_reachedFrom 11 = .ok (.if_icmp .ge 34, 3) := by decide +kernel
theorem dX6_reachedFrom_14 : decode cX6_reachedFrom 14 = .ok (.iload_n 2, 1) := by decide +kernel
theorem dX6_reachedFrom_15 : decode cX6_reachedFrom 15 = .ok (.aload_n 0, 1) := by decide +kernel
theorem dX6_reachedFrom_16 : decode cX6_reachedFrom 16 = .ok (.getfield 7, 3) := by decide +kernel
theorem dX6_reachedFrom_19 : decode cX6_reachedFrom 19 = .ok (.iload_n 3, 1) := by decide +kernel
theorem dX6_reachedFrom_20 : decode cX6_reachedFrom 20 = .ok (.iload_n 1, 1) := by decide +kernel
theorem dX6_reachedFrom_21 : decode cX6_reachedFrom 21 = .ok (.invokestatic 64, 3) := by decide +kernel
theorem dX6_reachedFrom_24 : decode cX6_reachedFrom 24 = .ok (.iaload, 1) := by decide +kernel
theorem dX6_reachedFrom_25 : decode cX6_reachedFrom 25 = .ok (.bipush 100, 2) := by decide +kernel
theorem dX6_reachedFrom_27 : decode cX6_reachedFrom 27 = .ok (.if_icmp .ge 9, 3) := by decide +kernel
theorem dX6_reachedFrom_30 : decode cX6_reachedFrom 30 = .ok (.iconst 1, 1) := by decide +kernel
theorem dX6_reachedFrom_31 : decode cX6_reachedFrom 31 = .ok (.iload_n 3, 1) := by decide +kernel
theorem dX6_reachedFrom_32 : decode cX6_reachedFrom 32 = .ok (.ishl, 1) := by decide +kernel
theorem dX6_reachedFrom_33 : decode cX6_reachedFrom 33 = .ok (.goto 4, 3) := by decide +kernel
theorem dX6_reachedFrom_36 : decode cX6_reachedFrom 36 = .ok (.iconst 0, 1) := by decide +kernel
theorem dX6_reachedFrom_37 : decode cX6_reachedFrom 37 = .ok (.ior, 1) := by decide +kernel
theorem dX6_reachedFrom_38 : decode cX6_reachedFrom 38 = .ok (.istore_n 2, 1) := by decide +kernel
theorem dX6_reachedFrom_39 : decode cX6_reachedFrom 39 = .ok (.iinc 3 1, 3) := by decide +kernel
theorem dX6_reachedFrom_42 : decode cX6_reachedFrom 42 = .ok (.goto (-38), 3) := by decide +kernel
theorem dX6_reachedFrom_45 : decode cX6_reachedFrom 45 = .ok (.iload_n 2, 1) := by decide +kernel
theorem dX6_reachedFrom_46 : decode cX6_reachedFrom 46 = .ok (.ireturn, 1) := by decide +kernel
theorem dX6_missed_0 : decode cX6_missed 0 = .ok (.iconst 0, 1) := by decide +kernel
theorem dX6_missed_1 : decode cX6_missed 1 = .ok (.istore_n 2, 1) := by decide +kernel
theorem dX6_missed_2 : decode cX6_missed 2 = .ok (.iload_n 2, 1) := by decide +kernel
theorem dX6_missed_3 : decode cX6_missed 3 = .ok (.aload_n 0, 1) := by decide +kernel
theorem dX6_missed_4 : decode cX6_missed 4 = .ok (.getfield 7, 3) := by decide +kernel
theorem dX6_missed_7 : decode cX6_missed 7 = .ok (.iconst 1, 1) := by decide +kernel
theorem dX6_missed_8 : decode cX6_missed 8 = .ok (.iaload, 1) := by decide +kernel
theorem dX6_missed_9 : decode cX6_missed 9 = .ok (.if_icmp .ge 21, 3) := by decide +kernel
theorem dX6_missed_12 : decode cX6_missed 12 = .ok (.iload_n 1, 1) := by decide +kernel
theorem dX6_missed_13 : decode cX6_missed 13 = .ok (.aload_n 0, 1) := by decide +kernel
theorem dX6_missed_14 : decode cX6_missed 14 = .ok (.iload_n 2, 1) := by decide +kernel
theorem dX6_missed_15 : decode cX6_missed 15 = .ok (.invokevirtual 78, 3) := by decide +kernel
theorem dX6_missed_18 : decode cX6_missed 18 = .ok (.iand, 1) := by decide +kernel
theorem dX6_missed_19 : decode cX6_missed 19 = .ok (.ifCond .ne 5, 3) := by decide +kernel
theorem dX6_missed_22 : decode cX6_missed 22 = .ok (.iload_n 2, 1) := by decide +kernel
theorem dX6_missed_23 : decode cX6_missed 23 = .ok (.ireturn, 1) := by decide +kernel
theorem dX6_missed_24 : decode cX6_missed 24 = .ok (.iinc 2 1, 3) := by decide +kernel
theorem dX6_missed_27 : decode cX6_missed 27 = .ok (.goto (-25), 3) := by decide +kernel
theorem dX6_missed_30 : decode cX6_missed 30 = .ok (.bipush (-5), 2) := by decide +kernel
theorem dX6_missed_32 : decode cX6_missed 32 = .ok (.ireturn, 1) := by decide +kernel
theorem dX6_server_0 : decode cX6_server 0 = .ok (.bipush (-5), 2) := by decide +kernel
theorem dX6_server_2 : decode cX6_server 2 = .ok (.istore_n 3, 1) := by decide +kernel
theorem dX6_server_3 : decode cX6_server 3 = .ok (.iconst 0, 1) := by decide +kernel
theorem dX6_server_4 : decode cX6_server 4 = .ok (.istore 4, 2) := by decide +kernel
theorem dX6_server_6 : decode cX6_server 6 = .ok (.iload 4, 2) := by decide +kernel
theorem dX6_server_8 : decode cX6_server 8 = .ok (.aload_n 0, 1) := by decide +kernel
theorem dX6_server_9 : decode cX6_server 9 = .ok (.getfield 7, 3) := by decide +kernel
theorem dX6_server_12 : decode cX6_server 12 = .ok (.iconst 0, 1) := by decide +kernel
theorem dX6_server_13 : decode cX6_server 13 = .ok (.iaload, 1) := by decide +kernel
theorem dX6_server_14 : decode cX6_server 14 = .ok (.if_icmp .ge 81, 3) := by decide +kernel
theorem dX6_server_17 : decode cX6_server 17 = .ok (.iload_n 1, 1) := by decide +kernel
theorem dX6_server_18 : decode cX6_server 18 = .ok (.iload 4, 2) := by decide +kernel
theorem dX6_server_20 : decode cX6_server 20 = .ok (.invokestatic 67, 3) := by decide +kernel
theorem dX6_server_23 : decode cX6_server 23 = .ok (.ifCond .eq 23, 3) := by decide +kernel
theorem dX6_server_26 : decode cX6_server 26 = .ok (.aload_n 0, 1) := by decide +kernel
theorem dX6_server_27 : decode cX6_server 27 = .ok (.getfield 7, 3) := by decide +kernel
theorem dX6_server_30 : decode cX6_server 30 = .ok (.iload 4, 2) := by decide +kernel
theorem dX6_server_32 : decode cX6_server 32 = .ok (.iload_n 2, 1) := by decide +kernel
theorem dX6_server_33 : decode cX6_server 33 = .ok (.invokestatic 64, 3) := by decide +kernel
theorem dX6_server_36 : decode cX6_server 36 = .ok (.iaload, 1) := by decide +kernel
theorem dX6_server_37 : decode cX6_server 37 = .ok (.bipush 100, 2) := by decide +kernel
theorem dX6_server_39 : decode cX6_server 39 = .ok (.if_icmp .ge 7, 3) := by decide +kernel
theorem dX6_server_42 : decode cX6_server 42 = .ok (.iconst 1, 1) := by decide +kernel
theorem dX6_server_43 : decode cX6_server 43 = .ok (.goto 4, 3) := by decide +kernel
theorem dX6_server_46 : decode cX6_server 46 = .ok (.iconst 0, 1) := by decide +kernel
theorem dX6_server_47 : decode cX6_server 47 = .ok (.istore 5, 2) := by decide +kernel
theorem dX6_server_49 : decode cX6_server 49 = .ok (.iload 5, 2) := by decide +kernel
theorem dX6_server_51 : decode cX6_server 51 = .ok (.ifCond .eq 36, 3) := by decide +kernel
theorem dX6_server_54 : decode cX6_server 54 = .ok (.iload_n 3, 1) := by decide +kernel
theorem dX6_server_55 : decode cX6_server 55 = .ok (.ifCond .lt 27, 3) := by decide +kernel
theorem dX6_server_58 : decode cX6_server 58 = .ok (.aload_n 0, 1) := by decide +kernel
theorem dX6_server_59 : decode cX6_server 59 = .ok (.getfield 7, 3) := by decide +kernel
theorem dX6_server_62 : decode cX6_server 62 = .ok (.iload 4, 2) := by decide +kernel
theorem dX6_server_64 : decode cX6_server 64 = .ok (.iload_n 2, 1) := by decide +kernel
theorem dX6_server_65 : decode cX6_server 65 = .ok (.invokestatic 64, 3) := by decide +kernel
theorem dX6_server_68 : decode cX6_server 68 = .ok (.iaload, 1) := by decide +kernel
theorem dX6_server_69 : decode cX6_server 69 = .ok (.aload_n 0, 1) := by decide +kernel
theorem dX6_server_70 : decode cX6_server 70 = .ok (.getfield 7, 3) := by decide +kernel
theorem dX6_server_73 : decode cX6_server 73 = .ok (.iload_n 3, 1) := by decide +kernel
theorem dX6_server_74 : decode cX6_server 74 = .ok (.iload_n 2, 1) := by decide +kernel
theorem dX6_server_75 : decode cX6_server 75 = .ok (.invokestatic 64, 3) := by decide +kernel
theorem dX6_server_78 : decode cX6_server 78 = .ok (.iaload, 1) := by decide +kernel
theorem dX6_server_79 : decode cX6_server 79 = .ok (.if_icmp .ge 8, 3) := by decide +kernel
theorem dX6_server_82 : decode cX6_server 82 = .ok (.iload 4, 2) := by decide +kernel
theorem dX6_server_84 : decode cX6_server 84 = .ok (.goto 4, 3) := by decide +kernel
theorem dX6_server_87 : decode cX6_server 87 = .ok (.iload_n 3, 1) := by decide +kernel
theorem dX6_server_88 : decode cX6_server 88 = .ok (.istore_n 3, 1) := by decide +kernel
theorem dX6_server_89 : decode cX6_server 89 = .ok (.iinc 4 1, 3) := by decide +kernel
theorem dX6_server_92 : decode cX6_server 92 = .ok (.goto (-86), 3) := by decide +kernel
theorem dX6_server_95 : decode cX6_server 95 = .ok (.iload_n 3, 1) := by decide +kernel
theorem dX6_server_96 : decode cX6_server 96 = .ok (.ireturn, 1) := by decide +kernel
theorem dX6_prices_0 : decode cX6_prices 0 = .ok (.iconst 0, 1) := by decide +kernel
theorem dX6_prices_1 : decode cX6_prices 1 = .ok (.istore_n 2, 1) := by decide +kernel
theorem dX6_prices_2 : decode cX6_prices 2 = .ok (.iconst 0, 1) := by decide +kernel
theorem dX6_prices_3 : decode cX6_prices 3 = .ok (.istore_n 3, 1) := by decide +kernel
theorem dX6_prices_4 : decode cX6_prices 4 = .ok (.iload_n 3, 1) := by decide +kernel
theorem dX6_prices_5 : decode cX6_prices 5 = .ok (.aload_n 0, 1) := by decide +kernel
theorem dX6_prices_6 : decode cX6_prices 6 = .ok (.getfield 7, 3) := by decide +kernel
theorem dX6_prices_9 : decode cX6_prices 9 = .ok (.iconst 0, 1) := by decide +kernel
theorem dX6_prices_10 : decode cX6_prices 10 = .ok (.iaload, 1) := by decide +kernel
theorem dX6_prices_11 : decode cX6_prices 11 = .ok (.if_icmp .ge 33, 3) := by decide +kernel
theorem dX6_prices_14 : decode cX6_prices 14 = .ok (.iload_n 2, 1) := by decide +kernel
theorem dX6_prices_15 : decode cX6_prices 15 = .ok (.iload_n 1, 1) := by decide +kernel
theorem dX6_prices_16 : decode cX6_prices 16 = .ok (.iload_n 3, 1) := by decide +kernel
theorem dX6_prices_17 : decode cX6_prices 17 = .ok (.invokestatic 67, 3) := by decide +kernel
theorem dX6_prices_20 : decode cX6_prices 20 = .ok (.ifCond .eq 15, 3) := by decide +kernel
theorem dX6_prices_23 : decode cX6_prices 23 = .ok (.aload_n 0, 1) := by decide +kernel
theorem dX6_prices_24 : decode cX6_prices 24 = .ok (.getfield 7, 3) := by decide +kernel
theorem dX6_prices_27 : decode cX6_prices 27 = .ok (.bipush 6, 2) := by decide +kernel
theorem dX6_prices_29 : decode cX6_prices 29 = .ok (.iload_n 3, 1) := by decide +kernel
theorem dX6_prices_30 : decode cX6_prices 30 = .ok (.iadd, 1) := by decide +kernel
theorem dX6_prices_31 : decode cX6_prices 31 = .ok (.iaload, 1) := by decide +kernel
theorem dX6_prices_32 : decode cX6_prices 32 = .ok (.goto 4, 3) := by decide +kernel
theorem dX6_prices_35 : decode cX6_prices 35 = .ok (.iconst 0, 1) := by decide +kernel
theorem dX6_prices_36 : decode cX6_prices 36 = .ok (.iadd, 1) := by decide +kernel
theorem dX6_prices_37 : decode cX6_prices 37 = .ok (.istore_n 2, 1) := by decide +kernel
theorem dX6_prices_38 : decode cX6_prices 38 = .ok (.iinc 3 1, 3) := by decide +kernel
theorem dX6_prices_41 : decode cX6_prices 41 = .ok (.goto (-37), 3) := by decide +kernel
theorem dX6_prices_44 : decode cX6_prices 44 = .ok (.iload_n 2, 1) := by decide +kernel
theorem dX6_prices_45 : decode cX6_prices 45 = .ok (.ireturn, 1) := by decide +kernel
theorem dX6_routes_0 : decode cX6_routes 0 = .ok (.iconst 0, 1) := by decide +kernel
theorem dX6_routes_1 : decode cX6_routes 1 = .ok (.istore_n 2, 1) := by decide +kernel
theorem dX6_routes_2 : decode cX6_routes 2 = .ok (.iconst 0, 1) := by decide +kernel
theorem dX6_routes_3 : decode cX6_routes 3 = .ok (.istore_n 3, 1) := by decide +kernel
theorem dX6_routes_4 : decode cX6_routes 4 = .ok (.iload_n 3, 1) := by decide +kernel
theorem dX6_routes_5 : decode cX6_routes 5 = .ok (.aload_n 0, 1) := by decide +kernel
theorem dX6_routes_6 : decode cX6_routes 6 = .ok (.getfield 7, 3) := by decide +kernel
theorem dX6_routes_9 : decode cX6_routes 9 = .ok (.iconst 1, 1) := by decide +kernel
theorem dX6_routes_10 : decode cX6_routes 10 = .ok (.iaload, 1) := by decide +kernel
theorem dX6_routes_11 : decode cX6_routes 11 = .ok (.if_icmp .ge 37, 3) := by decide +kernel
theorem dX6_routes_14 : decode cX6_routes 14 = .ok (.iload_n 2, 1) := by decide +kernel
theorem dX6_routes_15 : decode cX6_routes 15 = .ok (.aload_n 0, 1) := by decide +kernel
theorem dX6_routes_16 : decode cX6_routes 16 = .ok (.getfield 7, 3) := by decide +kernel
theorem dX6_routes_19 : decode cX6_routes 19 = .ok (.bipush 13, 2) := by decide +kernel
theorem dX6_routes_21 : decode cX6_routes 21 = .ok (.iload_n 3, 1) := by decide +kernel
theorem dX6_routes_22 : decode cX6_routes 22 = .ok (.iadd, 1) := by decide +kernel
theorem dX6_routes_23 : decode cX6_routes 23 = .ok (.iaload, 1) := by decide +kernel
theorem dX6_routes_24 : decode cX6_routes 24 = .ok (.aload_n 0, 1) := by decide +kernel
theorem dX6_routes_25 : decode cX6_routes 25 = .ok (.getfield 7, 3) := by decide +kernel
theorem dX6_routes_28 : decode cX6_routes 28 = .ok (.aload_n 0, 1) := by decide +kernel
theorem dX6_routes_29 : decode cX6_routes 29 = .ok (.iload_n 1, 1) := by decide +kernel
theorem dX6_routes_30 : decode cX6_routes 30 = .ok (.iload_n 3, 1) := by decide +kernel
theorem dX6_routes_31 : decode cX6_routes 31 = .ok (.invokevirtual 81, 3) := by decide +kernel
theorem dX6_routes_34 : decode cX6_routes 34 = .ok (.iload_n 3, 1) := by decide +kernel
theorem dX6_routes_35 : decode cX6_routes 35 = .ok (.invokestatic 64, 3) := by decide +kernel
theorem dX6_routes_38 : decode cX6_routes 38 = .ok (.iaload, 1) := by decide +kernel
theorem dX6_routes_39 : decode cX6_routes 39 = .ok (.imul, 1) := by decide +kernel
theorem dX6_routes_40 : decode cX6_routes 40 = .ok (.iadd, 1) := by decide +kernel
theorem dX6_routes_41 : decode cX6_routes 41 = .ok (.istore_n 2, 1) := by decide +kernel
theorem dX6_routes_42 : decode cX6_routes 42 = .ok (.iinc 3 1, 3) := by decide +kernel
theorem dX6_routes_45 : decode cX6_routes 45 = .ok (.goto (-41), 3) := by decide +kernel
theorem dX6_routes_48 : decode cX6_routes 48 = .ok (.iload_n 2, 1) := by decide +kernel
theorem dX6_routes_49 : decode cX6_routes 49 = .ok (.ireturn, 1) := by decide +kernel
theorem dX6_isFeasible_0 : decode cX6_isFeasible 0 = .ok (.aload_n 0, 1) := by decide +kernel
theorem dX6_isFeasible_1 : decode cX6_isFeasible 1 = .ok (.iload_n 1, 1) := by decide +kernel
theorem dX6_isFeasible_2 : decode cX6_isFeasible 2 = .ok (.invokevirtual 84, 3) := by decide +kernel
theorem dX6_isFeasible_5 : decode cX6_isFeasible 5 = .ok (.ifCond .eq 15, 3) := by decide +kernel
theorem dX6_isFeasible_8 : decode cX6_isFeasible 8 = .ok (.aload_n 0, 1) := by decide +kernel
theorem dX6_isFeasible_9 : decode cX6_isFeasible 9 = .ok (.iload_n 1, 1) := by decide +kernel
theorem dX6_isFeasible_10 : decode cX6_isFeasible 10 = .ok (.invokevirtual 87, 3) := by decide +kernel
theorem dX6_isFeasible_13 : decode cX6_isFeasible 13 = .ok (.ifCond .ge 7, 3) := by decide +kernel
theorem dX6_isFeasible_16 : decode cX6_isFeasible 16 = .ok (.iconst 1, 1) := by decide +kernel
theorem dX6_isFeasible_17 : decode cX6_isFeasible 17 = .ok (.goto 4, 3) := by decide +kernel
theorem dX6_isFeasible_20 : decode cX6_isFeasible 20 = .ok (.iconst 0, 1) := by decide +kernel
theorem dX6_isFeasible_21 : decode cX6_isFeasible 21 = .ok (.ireturn, 1) := by decide +kernel
theorem dX6_noCut_0 : decode cX6_noCut 0 = .ok (.iload_n 1, 1) := by decide +kernel
theorem dX6_noCut_1 : decode cX6_noCut 1 = .ok (.iconst 0, 1) := by decide +kernel
theorem dX6_noCut_2 : decode cX6_noCut 2 = .ok (.aload_n 0, 1) := by decide +kernel
theorem dX6_noCut_3 : decode cX6_noCut 3 = .ok (.getfield 7, 3) := by decide +kernel
theorem dX6_noCut_6 : decode cX6_noCut 6 = .ok (.iconst 3, 1) := by decide +kernel
theorem dX6_noCut_7 : decode cX6_noCut 7 = .ok (.iaload, 1) := by decide +kernel
theorem dX6_noCut_8 : decode cX6_noCut 8 = .ok (.iconst 1, 1) := by decide +kernel
theorem dX6_noCut_9 : decode cX6_noCut 9 = .ok (.isub, 1) := by decide +kernel
theorem dX6_noCut_10 : decode cX6_noCut 10 = .ok (.invokestatic 46, 3) := by decide +kernel
theorem dX6_noCut_13 : decode cX6_noCut 13 = .ok (.ifCond .ne 7, 3) := by decide +kernel
theorem dX6_noCut_16 : decode cX6_noCut 16 = .ok (.iconst 1, 1) := by decide +kernel
theorem dX6_noCut_17 : decode cX6_noCut 17 = .ok (.goto 4, 3) := by decide +kernel
theorem dX6_noCut_20 : decode cX6_noCut 20 = .ok (.iconst 0, 1) := by decide +kernel
theorem dX6_noCut_21 : decode cX6_noCut 21 = .ok (.ireturn, 1) := by decide +kernel
theorem dX6_isRay_0 : decode cX6_isRay 0 = .ok (.aload_n 0, 1) := by decide +kernel
theorem dX6_isRay_1 : decode cX6_isRay 1 = .ok (.getfield 7, 3) := by decide +kernel
theorem dX6_isRay_4 : decode cX6_isRay 4 = .ok (.bipush 84, 2) := by decide +kernel
theorem dX6_isRay_6 : decode cX6_isRay 6 = .ok (.bipush 9, 2) := by decide +kernel
theorem dX6_isRay_8 : decode cX6_isRay 8 = .ok (.iload_n 1, 1) := by decide +kernel
theorem dX6_isRay_9 : decode cX6_isRay 9 = .ok (.imul, 1) := by decide +kernel
theorem dX6_isRay_10 : decode cX6_isRay 10 = .ok (.iadd, 1) := by decide +kernel
theorem dX6_isRay_11 : decode cX6_isRay 11 = .ok (.iaload, 1) := by decide +kernel
theorem dX6_isRay_12 : decode cX6_isRay 12 = .ok (.ifCond .lt 7, 3) := by decide +kernel
theorem dX6_isRay_15 : decode cX6_isRay 15 = .ok (.iconst 1, 1) := by decide +kernel
theorem dX6_isRay_16 : decode cX6_isRay 16 = .ok (.goto 4, 3) := by decide +kernel
theorem dX6_isRay_19 : decode cX6_isRay 19 = .ok (.iconst 0, 1) := by decide +kernel
theorem dX6_isRay_20 : decode cX6_isRay 20 = .ok (.ireturn, 1) := by decide +kernel
theorem dX6_weightOf_0 : decode cX6_weightOf 0 = .ok (.iconst 0, 1) := by decide +kernel
theorem dX6_weightOf_1 : decode cX6_weightOf 1 = .ok (.istore_n 3, 1) := by decide +kernel
theorem dX6_weightOf_2 : decode cX6_weightOf 2 = .ok (.iconst 0, 1) := by decide +kernel
theorem dX6_weightOf_3 : decode cX6_weightOf 3 = .ok (.istore 4, 2) := by decide +kernel
theorem dX6_weightOf_5 : decode cX6_weightOf 5 = .ok (.iload 4, 2) := by decide +kernel
theorem dX6_weightOf_7 : decode cX6_weightOf 7 = .ok (.aload_n 0, 1) := by decide +kernel
theorem dX6_weightOf_8 : decode cX6_weightOf 8 = .ok (.getfield 7, 3) := by decide +kernel
theorem dX6_weightOf_11 : decode cX6_weightOf 11 = .ok (.iconst 1, 1) := by decide +kernel
theorem dX6_weightOf_12 : decode cX6_weightOf 12 = .ok (.iaload, 1) := by decide +kernel
theorem dX6_weightOf_13 : decode cX6_weightOf 13 = .ok (.if_icmp .ge 65, 3) := by decide +kernel
theorem dX6_weightOf_16 : decode cX6_weightOf 16 = .ok (.aload_n 0, 1) := by decide +kernel
theorem dX6_weightOf_17 : decode cX6_weightOf 17 = .ok (.getfield 7, 3) := by decide +kernel
theorem dX6_weightOf_20 : decode cX6_weightOf 20 = .ok (.bipush 84, 2) := by decide +kernel
theorem dX6_weightOf_22 : decode cX6_weightOf 22 = .ok (.bipush 9, 2) := by decide +kernel
theorem dX6_weightOf_24 : decode cX6_weightOf 24 = .ok (.iload_n 1, 1) := by decide +kernel
theorem dX6_weightOf_25 : decode cX6_weightOf 25 = .ok (.imul, 1) := by decide +kernel
theorem dX6_weightOf_26 : decode cX6_weightOf 26 = .ok (.iadd, 1) := by decide +kernel
theorem dX6_weightOf_27 : decode cX6_weightOf 27 = .ok (.iconst 1, 1) := by decide +kernel
theorem dX6_weightOf_28 : decode cX6_weightOf 28 = .ok (.iadd, 1) := by decide +kernel
theorem dX6_weightOf_29 : decode cX6_weightOf 29 = .ok (.iload 4, 2) := by decide +kernel
theorem dX6_weightOf_31 : decode cX6_weightOf 31 = .ok (.iadd, 1) := by decide +kernel
theorem dX6_weightOf_32 : decode cX6_weightOf 32 = .ok (.iaload, 1) := by decide +kernel
theorem dX6_weightOf_33 : decode cX6_weightOf 33 = .ok (.aload_n 0, 1) := by decide +kernel
theorem dX6_weightOf_34 : decode cX6_weightOf 34 = .ok (.getfield 7, 3) := by decide +kernel
theorem dX6_weightOf_37 : decode cX6_weightOf 37 = .ok (.iload_n 2, 1) := by decide +kernel
theorem dX6_weightOf_38 : decode cX6_weightOf 38 = .ok (.iload 4, 2) := by decide +kernel
theorem dX6_weightOf_40 : decode cX6_weightOf 40 = .ok (.invokestatic 64, 3) := by decide +kernel
theorem dX6_weightOf_43 : decode cX6_weightOf 43 = .ok (.iaload, 1) := by decide +kernel
theorem dX6_weightOf_44 : decode cX6_weightOf 44 = .ok (.isub, 1) := by decide +kernel
theorem dX6_weightOf_45 : decode cX6_weightOf 45 = .ok (.istore 5, 2) := by decide +kernel
theorem dX6_weightOf_47 : decode cX6_weightOf 47 = .ok (.iload_n 3, 1) := by decide +kernel
theorem dX6_weightOf_48 : decode cX6_weightOf 48 = .ok (.iload 5, 2) := by decide +kernel
theorem dX6_weightOf_50 : decode cX6_weightOf 50 = .ok (.ifCond .le 19, 3) := by decide +kernel
theorem dX6_weightOf_53 : decode cX6_weightOf 53 = .ok (.aload_n 0, 1) := by decide +kernel
theorem dX6_weightOf_54 : decode cX6_weightOf 54 = .ok (.getfield 7, 3) := by decide +kernel
theorem dX6_weightOf_57 : decode cX6_weightOf 57 = .ok (.bipush 13, 2) := by decide +kernel
theorem dX6_weightOf_59 : decode cX6_weightOf 59 = .ok (.iload 4, 2) := by decide +kernel
theorem dX6_weightOf_61 : decode cX6_weightOf 61 = .ok (.iadd, 1) := by decide +kernel
theorem dX6_weightOf_62 : decode cX6_weightOf 62 = .ok (.iaload, 1) := by decide +kernel
theorem dX6_weightOf_63 : decode cX6_weightOf 63 = .ok (.iload 5, 2) := by decide +kernel
theorem dX6_weightOf_65 : decode cX6_weightOf 65 = .ok (.imul, 1) := by decide +kernel
theorem dX6_weightOf_66 : decode cX6_weightOf 66 = .ok (.goto 4, 3) := by decide +kernel
theorem dX6_weightOf_69 : decode cX6_weightOf 69 = .ok (.iconst 0, 1) := by decide +kernel
theorem dX6_weightOf_70 : decode cX6_weightOf 70 = .ok (.iadd, 1) := by decide +kernel
theorem dX6_weightOf_71 : decode cX6_weightOf 71 = .ok (.istore_n 3, 1) := by decide +kernel
theorem dX6_weightOf_72 : decode cX6_weightOf 72 = .ok (.iinc 4 1, 3) := by decide +kernel
theorem dX6_weightOf_75 : decode cX6_weightOf 75 = .ok (.goto (-70), 3) := by decide +kernel
theorem dX6_weightOf_78 : decode cX6_weightOf 78 = .ok (.iload_n 3, 1) := by decide +kernel
theorem dX6_weightOf_79 : decode cX6_weightOf 79 = .ok (.ireturn, 1) := by decide +kernel
theorem dX6_valueOf_0 : decode cX6_valueOf 0 = .ok (.iconst 0, 1) := by decide +kernel
theorem dX6_valueOf_1 : decode cX6_valueOf 1 = .ok (.istore_n 3, 1) := by decide +kernel
theorem dX6_valueOf_2 : decode cX6_valueOf 2 = .ok (.iconst 0, 1) := by decide +kernel
theorem dX6_valueOf_3 : decode cX6_valueOf 3 = .ok (.istore 4, 2) := by decide +kernel
theorem dX6_valueOf_5 : decode cX6_valueOf 5 = .ok (.iload 4, 2) := by decide +kernel
theorem dX6_valueOf_7 : decode cX6_valueOf 7 = .ok (.aload_n 0, 1) := by decide +kernel
theorem dX6_valueOf_8 : decode cX6_valueOf 8 = .ok (.getfield 7, 3) := by decide +kernel
theorem dX6_valueOf_11 : decode cX6_valueOf 11 = .ok (.iconst 1, 1) := by decide +kernel
theorem dX6_valueOf_12 : decode cX6_valueOf 12 = .ok (.iaload, 1) := by decide +kernel
theorem dX6_valueOf_13 : decode cX6_valueOf 13 = .ok (.if_icmp .ge 40, 3) := by decide +kernel
theorem dX6_valueOf_16 : decode cX6_valueOf 16 = .ok (.iload_n 3, 1) := by decide +kernel
theorem dX6_valueOf_17 : decode cX6_valueOf 17 = .ok (.aload_n 0, 1) := by decide +kernel
theorem dX6_valueOf_18 : decode cX6_valueOf 18 = .ok (.getfield 7, 3) := by decide +kernel
theorem dX6_valueOf_21 : decode cX6_valueOf 21 = .ok (.bipush 13, 2) := by decide +kernel
theorem dX6_valueOf_23 : decode cX6_valueOf 23 = .ok (.iload 4, 2) := by decide +kernel
theorem dX6_valueOf_25 : decode cX6_valueOf 25 = .ok (.iadd, 1) := by decide +kernel
theorem dX6_valueOf_26 : decode cX6_valueOf 26 = .ok (.iaload, 1) := by decide +kernel
theorem dX6_valueOf_27 : decode cX6_valueOf 27 = .ok (.aload_n 0, 1) := by decide +kernel
theorem dX6_valueOf_28 : decode cX6_valueOf 28 = .ok (.getfield 7, 3) := by decide +kernel
theorem dX6_valueOf_31 : decode cX6_valueOf 31 = .ok (.bipush 84, 2) := by decide +kernel
theorem dX6_valueOf_33 : decode cX6_valueOf 33 = .ok (.bipush 9, 2) := by decide +kernel
theorem dX6_valueOf_35 : decode cX6_valueOf 35 = .ok (.iload_n 1, 1) := by decide +kernel
theorem dX6_valueOf_36 : decode cX6_valueOf 36 = .ok (.imul, 1) := by decide +kernel
theorem dX6_valueOf_37 : decode cX6_valueOf 37 = .ok (.iadd, 1) := by decide +kernel
theorem dX6_valueOf_38 : decode cX6_valueOf 38 = .ok (.iconst 1, 1) := by decide +kernel
theorem dX6_valueOf_39 : decode cX6_valueOf 39 = .ok (.iadd, 1) := by decide +kernel
theorem dX6_valueOf_40 : decode cX6_valueOf 40 = .ok (.iload 4, 2) := by decide +kernel
theorem dX6_valueOf_42 : decode cX6_valueOf 42 = .ok (.iadd, 1) := by decide +kernel
theorem dX6_valueOf_43 : decode cX6_valueOf 43 = .ok (.iaload, 1) := by decide +kernel
theorem dX6_valueOf_44 : decode cX6_valueOf 44 = .ok (.imul, 1) := by decide +kernel
theorem dX6_valueOf_45 : decode cX6_valueOf 45 = .ok (.iadd, 1) := by decide +kernel
theorem dX6_valueOf_46 : decode cX6_valueOf 46 = .ok (.istore_n 3, 1) := by decide +kernel
theorem dX6_valueOf_47 : decode cX6_valueOf 47 = .ok (.iinc 4 1, 3) := by decide +kernel
theorem dX6_valueOf_50 : decode cX6_valueOf 50 = .ok (.goto (-45), 3) := by decide +kernel
theorem dX6_valueOf_53 : decode cX6_valueOf 53 = .ok (.iconst 0, 1) := by decide +kernel
theorem dX6_valueOf_54 : decode cX6_valueOf 54 = .ok (.istore 4, 2) := by decide +kernel
theorem dX6_valueOf_56 : decode cX6_valueOf 56 = .ok (.iload 4, 2) := by decide +kernel
theorem dX6_valueOf_58 : decode cX6_valueOf 58 = .ok (.aload_n 0, 1) := by decide +kernel
theorem dX6_valueOf_59 : decode cX6_valueOf 59 = .ok (.getfield 7, 3) := by decide +kernel
theorem dX6_valueOf_62 : decode cX6_valueOf 62 = .ok (.iconst 0, 1) := by decide +kernel
theorem dX6_valueOf_63 : decode cX6_valueOf 63 = .ok (.iaload, 1) := by decide +kernel
theorem dX6_valueOf_64 : decode cX6_valueOf 64 = .ok (.if_icmp .ge 32, 3) := by decide +kernel
theorem dX6_valueOf_67 : decode cX6_valueOf 67 = .ok (.iload_n 3, 1) := by decide +kernel
theorem dX6_valueOf_68 : decode cX6_valueOf 68 = .ok (.iload_n 2, 1) := by decide +kernel
theorem dX6_valueOf_69 : decode cX6_valueOf 69 = .ok (.iload 4, 2) := by decide +kernel
theorem dX6_valueOf_71 : decode cX6_valueOf 71 = .ok (.invokestatic 67, 3) := by decide +kernel
theorem dX6_valueOf_74 : decode cX6_valueOf 74 = .ok (.ifCond .eq 13, 3) := by decide +kernel
theorem dX6_valueOf_77 : decode cX6_valueOf 77 = .ok (.aload_n 0, 1) := by decide +kernel
theorem dX6_valueOf_78 : decode cX6_valueOf 78 = .ok (.iload_n 1, 1) := by decide +kernel
theorem dX6_valueOf_79 : decode cX6_valueOf 79 = .ok (.iload 4, 2) := by decide +kernel
theorem dX6_valueOf_81 : decode cX6_valueOf 81 = .ok (.invokevirtual 90, 3) := by decide +kernel
theorem dX6_valueOf_84 : decode cX6_valueOf 84 = .ok (.goto 4, 3) := by decide +kernel
theorem dX6_valueOf_87 : decode cX6_valueOf 87 = .ok (.iconst 0, 1) := by decide +kernel
theorem dX6_valueOf_88 : decode cX6_valueOf 88 = .ok (.isub, 1) := by decide +kernel
theorem dX6_valueOf_89 : decode cX6_valueOf 89 = .ok (.istore_n 3, 1) := by decide +kernel
theorem dX6_valueOf_90 : decode cX6_valueOf 90 = .ok (.iinc 4 1, 3) := by decide +kernel
theorem dX6_valueOf_93 : decode cX6_valueOf 93 = .ok (.goto (-37), 3) := by decide +kernel
theorem dX6_valueOf_96 : decode cX6_valueOf 96 = .ok (.iload_n 3, 1) := by decide +kernel
theorem dX6_valueOf_97 : decode cX6_valueOf 97 = .ok (.ireturn, 1) := by decide +kernel
theorem dX6_asked_0 : decode cX6_asked 0 = .ok (.iload_n 2, 1) := by decide +kernel
theorem dX6_asked_1 : decode cX6_asked 1 = .ok (.aload_n 0, 1) := by decide +kernel
theorem dX6_asked_2 : decode cX6_asked 2 = .ok (.aload_n 0, 1) := by decide +kernel
theorem dX6_asked_3 : decode cX6_asked 3 = .ok (.getfield 7, 3) := by decide +kernel
theorem dX6_asked_6 : decode cX6_asked 6 = .ok (.bipush 84, 2) := by decide +kernel
theorem dX6_asked_8 : decode cX6_asked 8 = .ok (.bipush 9, 2) := by decide +kernel
theorem dX6_asked_10 : decode cX6_asked 10 = .ok (.iload_n 1, 1) := by decide +kernel
theorem dX6_asked_11 : decode cX6_asked 11 = .ok (.imul, 1) := by decide +kernel
theorem dX6_asked_12 : decode cX6_asked 12 = .ok (.iadd, 1) := by decide +kernel
theorem dX6_asked_13 : decode cX6_asked 13 = .ok (.iaload, 1) := by decide +kernel
theorem dX6_asked_14 : decode cX6_asked 14 = .ok (.invokevirtual 78, 3) := by decide +kernel
theorem dX6_asked_17 : decode cX6_asked 17 = .ok (.iand, 1) := by decide +kernel
theorem dX6_asked_18 : decode cX6_asked 18 = .ok (.invokestatic 71, 3) := by decide +kernel
theorem dX6_asked_21 : decode cX6_asked 21 = .ok (.ireturn, 1) := by decide +kernel
theorem dX6_raysMissed_0 : decode cX6_raysMissed 0 = .ok (.iconst 0, 1) := by decide +kernel
theorem dX6_raysMissed_1 : decode cX6_raysMissed 1 = .ok (.istore_n 2, 1) := by decide +kernel
theorem dX6_raysMissed_2 : decode cX6_raysMissed 2 = .ok (.iconst 0, 1) := by decide +kernel
theorem dX6_raysMissed_3 : decode cX6_raysMissed 3 = .ok (.istore_n 3, 1) := by decide +kernel
theorem dX6_raysMissed_4 : decode cX6_raysMissed 4 = .ok (.iload_n 3, 1) := by decide +kernel
theorem dX6_raysMissed_5 : decode cX6_raysMissed 5 = .ok (.aload_n 0, 1) := by decide +kernel
theorem dX6_raysMissed_6 : decode cX6_raysMissed 6 = .ok (.getfield 7, 3) := by decide +kernel
theorem dX6_raysMissed_9 : decode cX6_raysMissed 9 = .ok (.iconst 3, 1) := by decide +kernel
theorem dX6_raysMissed_10 : decode cX6_raysMissed 10 = .ok (.iaload, 1) := by decide +kernel
theorem dX6_raysMissed_11 : decode cX6_raysMissed 11 = .ok (.if_icmp .ge 34, 3) := by decide +kernel
theorem dX6_raysMissed_14 : decode cX6_raysMissed 14 = .ok (.iload_n 2, 1) := by decide +kernel
theorem dX6_raysMissed_15 : decode cX6_raysMissed 15 = .ok (.aload_n 0, 1) := by decide +kernel
theorem dX6_raysMissed_16 : decode cX6_raysMissed 16 = .ok (.iload_n 3, 1) := by decide +kernel
theorem dX6_raysMissed_17 : decode cX6_raysMissed 17 = .ok (.invokevirtual 93, 3) := by decide +kernel
theorem dX6_raysMissed_20 : decode cX6_raysMissed 20 = .ok (.ifCond .eq 16, 3) := by decide +kernel
theorem dX6_raysMissed_23 : decode cX6_raysMissed 23 = .ok (.aload_n 0, 1) := by decide +kernel
theorem dX6_raysMissed_24 : decode cX6_raysMissed 24 = .ok (.iload_n 3, 1) := by decide +kernel
theorem dX6_raysMissed_25 : decode cX6_raysMissed 25 = .ok (.iload_n 1, 1) := by decide +kernel
theorem dX6_raysMissed_26 : decode cX6_raysMissed 26 = .ok (.invokevirtual 96, 3) := by decide +kernel
theorem dX6_raysMissed_29 : decode cX6_raysMissed 29 = .ok (.ifCond .ne 7, 3) := by decide +kernel
theorem dX6_raysMissed_32 : decode cX6_raysMissed 32 = .ok (.iconst 1, 1) := by decide +kernel
theorem dX6_raysMissed_33 : decode cX6_raysMissed 33 = .ok (.goto 4, 3) := by decide +kernel
theorem dX6_raysMissed_36 : decode cX6_raysMissed 36 = .ok (.iconst 0, 1) := by decide +kernel
theorem dX6_raysMissed_37 : decode cX6_raysMissed 37 = .ok (.iadd, 1) := by decide +kernel
theorem dX6_raysMissed_38 : decode cX6_raysMissed 38 = .ok (.istore_n 2, 1) := by decide +kernel
theorem dX6_raysMissed_39 : decode cX6_raysMissed 39 = .ok (.iinc 3 1, 3) := by decide +kernel
theorem dX6_raysMissed_42 : decode cX6_raysMissed 42 = .ok (.goto (-38), 3) := by decide +kernel
theorem dX6_raysMissed_45 : decode cX6_raysMissed 45 = .ok (.iload_n 2, 1) := by decide +kernel
theorem dX6_raysMissed_46 : decode cX6_raysMissed 46 = .ok (.ireturn, 1) := by decide +kernel
theorem dX6_guess_0 : decode cX6_guess 0 = .ok (.iconst 0, 1) := by decide +kernel
theorem dX6_guess_1 : decode cX6_guess 1 = .ok (.istore_n 2, 1) := by decide +kernel
theorem dX6_guess_2 : decode cX6_guess 2 = .ok (.iconst 0, 1) := by decide +kernel
theorem dX6_guess_3 : decode cX6_guess 3 = .ok (.istore_n 3, 1) := by decide +kernel
theorem dX6_guess_4 : decode cX6_guess 4 = .ok (.iload_n 3, 1) := by decide +kernel
theorem dX6_guess_5 : decode cX6_guess 5 = .ok (.aload_n 0, 1) := by decide +kernel
theorem dX6_guess_6 : decode cX6_guess 6 = .ok (.getfield 7, 3) := by decide +kernel
theorem dX6_guess_9 : decode cX6_guess 9 = .ok (.iconst 3, 1) := by decide +kernel
theorem dX6_guess_10 : decode cX6_guess 10 = .ok (.iaload, 1) := by decide +kernel
theorem dX6_guess_11 : decode cX6_guess 11 = .ok (.if_icmp .ge 42, 3) := by decide +kernel
theorem dX6_guess_14 : decode cX6_guess 14 = .ok (.aload_n 0, 1) := by decide +kernel
theorem dX6_guess_15 : decode cX6_guess 15 = .ok (.iload_n 3, 1) := by decide +kernel
theorem dX6_guess_16 : decode cX6_guess 16 = .ok (.invokevirtual 93, 3) := by decide +kernel
theorem dX6_guess_19 : decode cX6_guess 19 = .ok (.ifCond .eq 7, 3) := by decide +kernel
theorem dX6_guess_22 : decode cX6_guess 22 = .ok (.iconst 0, 1) := by decide +kernel
theorem dX6_guess_23 : decode cX6_guess 23 = .ok (.goto 9, 3) := by decide +kernel
theorem dX6_guess_26 : decode cX6_guess 26 = .ok (.aload_n 0, 1) := by decide +kernel
theorem dX6_guess_27 : decode cX6_guess 27 = .ok (.iload_n 3, 1) := by decide +kernel
theorem dX6_guess_28 : decode cX6_guess 28 = .ok (.iload_n 1, 1) := by decide +kernel
theorem dX6_guess_29 : decode cX6_guess 29 = .ok (.invokevirtual 99, 3) := by decide +kernel
theorem dX6_guess_32 : decode cX6_guess 32 = .ok (.istore 4, 2) := by decide +kernel
theorem dX6_guess_34 : decode cX6_guess 34 = .ok (.iload 4, 2) := by decide +kernel
theorem dX6_guess_36 : decode cX6_guess 36 = .ok (.iload_n 2, 1) := by decide +kernel
theorem dX6_guess_37 : decode cX6_guess 37 = .ok (.if_icmp .le 8, 3) := by decide +kernel
theorem dX6_guess_40 : decode cX6_guess 40 = .ok (.iload 4, 2) := by decide +kernel
theorem dX6_guess_42 : decode cX6_guess 42 = .ok (.goto 4, 3) := by decide +kernel
theorem dX6_guess_45 : decode cX6_guess 45 = .ok (.iload_n 2, 1) := by decide +kernel
theorem dX6_guess_46 : decode cX6_guess 46 = .ok (.istore_n 2, 1) := by decide +kernel
theorem dX6_guess_47 : decode cX6_guess 47 = .ok (.iinc 3 1, 3) := by decide +kernel
theorem dX6_guess_50 : decode cX6_guess 50 = .ok (.goto (-46), 3) := by decide +kernel
theorem dX6_guess_53 : decode cX6_guess 53 = .ok (.aload_n 0, 1) := by decide +kernel
theorem dX6_guess_54 : decode cX6_guess 54 = .ok (.iload_n 1, 1) := by decide +kernel
theorem dX6_guess_55 : decode cX6_guess 55 = .ok (.invokevirtual 102, 3) := by decide +kernel
theorem dX6_guess_58 : decode cX6_guess 58 = .ok (.iload_n 2, 1) := by decide +kernel
theorem dX6_guess_59 : decode cX6_guess 59 = .ok (.iadd, 1) := by decide +kernel
theorem dX6_guess_60 : decode cX6_guess 60 = .ok (.ireturn, 1) := by decide +kernel
theorem dX6_masterPlan_0 : decode cX6_masterPlan 0 = .ok (.bipush (-5), 2) := by decide +kernel
theorem dX6_masterPlan_2 : decode cX6_masterPlan 2 = .ok (.istore_n 1, 1) := by decide +kernel
theorem dX6_masterPlan_3 : decode cX6_masterPlan 3 = .ok (.iconst 0, 1) := by decide +kernel
theorem dX6_masterPlan_4 : decode cX6_masterPlan 4 = .ok (.istore_n 2, 1) := by decide +kernel
theorem dX6_masterPlan_5 : decode cX6_masterPlan 5 = .ok (.iconst 0, 1) := by decide +kernel
theorem dX6_masterPlan_6 : decode cX6_masterPlan 6 = .ok (.istore_n 3, 1) := by decide +kernel
theorem dX6_masterPlan_7 : decode cX6_masterPlan 7 = .ok (.iload_n 3, 1) := by decide +kernel
theorem dX6_masterPlan_8 : decode cX6_masterPlan 8 = .ok (.iconst 1, 1) := by decide +kernel
theorem dX6_masterPlan_9 : decode cX6_masterPlan 9 = .ok (.aload_n 0, 1) := by decide +kernel
theorem dX6_masterPlan_10 : decode cX6_masterPlan 10 = .ok (.getfield 7, 3) := by decide +kernel
theorem dX6_masterPlan_13 : decode cX6_masterPlan 13 = .ok (.iconst 0, 1) := by decide +kernel
theorem dX6_masterPlan_14 : decode cX6_masterPlan 14 = .ok (.iaload, 1) := by decide +kernel
theorem dX6_masterPlan_15 : decode cX6_masterPlan 15 = .ok (.ishl, 1) := by decide +kernel
theorem dX6_masterPlan_16 : decode cX6_masterPlan 16 = .ok (.if_icmp .ge 47, 3) := by decide +kernel
theorem dX6_masterPlan_19 : decode cX6_masterPlan 19 = .ok (.aload_n 0, 1) := by decide +kernel
theorem dX6_masterPlan_20 : decode cX6_masterPlan 20 = .ok (.iload_n 3, 1) := by decide +kernel
theorem dX6_masterPlan_21 : decode cX6_masterPlan 21 = .ok (.invokevirtual 84, 3) := by decide +kernel
theorem dX6_masterPlan_24 : decode cX6_masterPlan 24 = .ok (.ifCond .eq 33, 3) := by decide +kernel
theorem dX6_masterPlan_27 : decode cX6_masterPlan 27 = .ok (.aload_n 0, 1) := by decide +kernel
theorem dX6_masterPlan_28 : decode cX6_masterPlan 28 = .ok (.iload_n 3, 1) := by decide +kernel
theorem dX6_masterPlan_29 : decode cX6_masterPlan 29 = .ok (.invokevirtual 105, 3) := by decide +kernel
theorem dX6_masterPlan_32 : decode cX6_masterPlan 32 = .ok (.ifCond .ne 25, 3) := by decide +kernel
theorem dX6_masterPlan_35 : decode cX6_masterPlan 35 = .ok (.aload_n 0, 1) := by decide +kernel
theorem dX6_masterPlan_36 : decode cX6_masterPlan 36 = .ok (.iload_n 3, 1) := by decide +kernel
theorem dX6_masterPlan_37 : decode cX6_masterPlan 37 = .ok (.invokevirtual 108, 3) := by decide +kernel
theorem dX6_masterPlan_40 : decode cX6_masterPlan 40 = .ok (.istore 4, 2) := by decide +kernel
theorem dX6_masterPlan_42 : decode cX6_masterPlan 42 = .ok (.iload_n 1, 1) := by decide +kernel
theorem dX6_masterPlan_43 : decode cX6_masterPlan 43 = .ok (.ifCond .lt 9, 3) := by decide +kernel
theorem dX6_masterPlan_46 : decode cX6_masterPlan 46 = .ok (.iload 4, 2) := by decide +kernel
theorem dX6_masterPlan_48 : decode cX6_masterPlan 48 = .ok (.iload_n 2, 1) := by decide +kernel
theorem dX6_masterPlan_49 : decode cX6_masterPlan 49 = .ok (.if_icmp .ge 8, 3) := by decide +kernel
theorem dX6_masterPlan_52 : decode cX6_masterPlan 52 = .ok (.iload_n 3, 1) := by decide +kernel
theorem dX6_masterPlan_53 : decode cX6_masterPlan 53 = .ok (.istore_n 1, 1) := by decide +kernel
theorem dX6_masterPlan_54 : decode cX6_masterPlan 54 = .ok (.iload 4, 2) := by decide +kernel
theorem dX6_masterPlan_56 : decode cX6_masterPlan 56 = .ok (.istore_n 2, 1) := by decide +kernel
theorem dX6_masterPlan_57 : decode cX6_masterPlan 57 = .ok (.iinc 3 1, 3) := by decide +kernel
theorem dX6_masterPlan_60 : decode cX6_masterPlan 60 = .ok (.goto (-53), 3) := by decide +kernel
theorem dX6_masterPlan_63 : decode cX6_masterPlan 63 = .ok (.iload_n 1, 1) := by decide +kernel
theorem dX6_masterPlan_64 : decode cX6_masterPlan 64 = .ok (.ireturn, 1) := by decide +kernel
theorem dX6_makeStep_0 : decode cX6_makeStep 0 = .ok (.aload_n 0, 1) := by decide +kernel
theorem dX6_makeStep_1 : decode cX6_makeStep 1 = .ok (.getfield 7, 3) := by decide +kernel
theorem dX6_makeStep_4 : decode cX6_makeStep 4 = .ok (.iconst 1, 1) := by decide +kernel
theorem dX6_makeStep_5 : decode cX6_makeStep 5 = .ok (.iaload, 1) := by decide +kernel
theorem dX6_makeStep_6 : decode cX6_makeStep 6 = .ok (.ifCond .ne 8, 3) := by decide +kernel
theorem dX6_makeStep_9 : decode cX6_makeStep 9 = .ok (.bipush (-5), 2) := by decide +kernel
theorem dX6_makeStep_11 : decode cX6_makeStep 11 = .ok (.goto 7, 3) := by decide +kernel
theorem dX6_makeStep_14 : decode cX6_makeStep 14 = .ok (.aload_n 0, 1) := by decide +kernel
theorem dX6_makeStep_15 : decode cX6_makeStep 15 = .ok (.invokevirtual 111, 3) := by decide +kernel
theorem dX6_makeStep_18 : decode cX6_makeStep 18 = .ok (.istore_n 1, 1) := by decide +kernel
theorem dX6_makeStep_19 : decode cX6_makeStep 19 = .ok (.iload_n 1, 1) := by decide +kernel
theorem dX6_makeStep_20 : decode cX6_makeStep 20 = .ok (.ifCond .ge 6, 3) := by decide +kernel
theorem dX6_makeStep_23 : decode cX6_makeStep 23 = .ok (.bipush (-4), 2) := by decide +kernel
theorem dX6_makeStep_25 : decode cX6_makeStep 25 = .ok (.ireturn, 1) := by decide +kernel
theorem dX6_makeStep_26 : decode cX6_makeStep 26 = .ok (.aload_n 0, 1) := by decide +kernel
theorem dX6_makeStep_27 : decode cX6_makeStep 27 = .ok (.iload_n 1, 1) := by decide +kernel
theorem dX6_makeStep_28 : decode cX6_makeStep 28 = .ok (.invokevirtual 87, 3) := by decide +kernel
theorem dX6_makeStep_31 : decode cX6_makeStep 31 = .ok (.istore_n 2, 1) := by decide +kernel
theorem dX6_makeStep_32 : decode cX6_makeStep 32 = .ok (.iload_n 2, 1) := by decide +kernel
theorem dX6_makeStep_33 : decode cX6_makeStep 33 = .ok (.ifCond .ge 17, 3) := by decide +kernel
theorem dX6_makeStep_36 : decode cX6_makeStep 36 = .ok (.aload_n 0, 1) := by decide +kernel
theorem dX6_makeStep_37 : decode cX6_makeStep 37 = .ok (.iload_n 1, 1) := by decide +kernel
theorem dX6_makeStep_38 : decode cX6_makeStep 38 = .ok (.invokevirtual 102, 3) := by decide +kernel
theorem dX6_makeStep_41 : decode cX6_makeStep 41 = .ok (.aload_n 0, 1) := by decide +kernel
theorem dX6_makeStep_42 : decode cX6_makeStep 42 = .ok (.iload_n 1, 1) := by decide +kernel
theorem dX6_makeStep_43 : decode cX6_makeStep 43 = .ok (.invokevirtual 115, 3) := by decide +kernel
theorem dX6_makeStep_46 : decode cX6_makeStep 46 = .ok (.iadd, 1) := by decide +kernel
theorem dX6_makeStep_47 : decode cX6_makeStep 47 = .ok (.goto 4, 3) := by decide +kernel
theorem dX6_makeStep_50 : decode cX6_makeStep 50 = .ok (.iconst 0, 1) := by decide +kernel
theorem dX6_makeStep_51 : decode cX6_makeStep 51 = .ok (.istore_n 3, 1) := by decide +kernel
theorem dX6_makeStep_52 : decode cX6_makeStep 52 = .ok (.iload_n 2, 1) := by decide +kernel
theorem dX6_makeStep_53 : decode cX6_makeStep 53 = .ok (.ifCond .ge 16, 3) := by decide +kernel
theorem dX6_makeStep_56 : decode cX6_makeStep 56 = .ok (.iload_n 3, 1) := by decide +kernel
theorem dX6_makeStep_57 : decode cX6_makeStep 57 = .ok (.aload_n 0, 1) := by decide +kernel
theorem dX6_makeStep_58 : decode cX6_makeStep 58 = .ok (.iload_n 1, 1) := by decide +kernel
theorem dX6_makeStep_59 : decode cX6_makeStep 59 = .ok (.invokevirtual 108, 3) := by decide +kernel
theorem dX6_makeStep_62 : decode cX6_makeStep 62 = .ok (.if_icmp .ne 7, 3) := by decide +kernel
theorem dX6_makeStep_65 : decode cX6_makeStep 65 = .ok (.iconst 1, 1) := by decide +kernel
theorem dX6_makeStep_66 : decode cX6_makeStep 66 = .ok (.goto 4, 3) := by decide +kernel
theorem dX6_makeStep_69 : decode cX6_makeStep 69 = .ok (.iconst 0, 1) := by decide +kernel
theorem dX6_makeStep_70 : decode cX6_makeStep 70 = .ok (.istore 4, 2) := by decide +kernel
theorem dX6_makeStep_72 : decode cX6_makeStep 72 = .ok (.iload 4, 2) := by decide +kernel
theorem dX6_makeStep_74 : decode cX6_makeStep 74 = .ok (.ifCond .ne 17, 3) := by decide +kernel
theorem dX6_makeStep_77 : decode cX6_makeStep 77 = .ok (.aload_n 0, 1) := by decide +kernel
theorem dX6_makeStep_78 : decode cX6_makeStep 78 = .ok (.getfield 7, 3) := by decide +kernel
theorem dX6_makeStep_81 : decode cX6_makeStep 81 = .ok (.iconst 3, 1) := by decide +kernel
theorem dX6_makeStep_82 : decode cX6_makeStep 82 = .ok (.iaload, 1) := by decide +kernel
theorem dX6_makeStep_83 : decode cX6_makeStep 83 = .ok (.bipush 40, 2) := by decide +kernel
theorem dX6_makeStep_85 : decode cX6_makeStep 85 = .ok (.if_icmp .ne 6, 3) := by decide +kernel
theorem dX6_makeStep_88 : decode cX6_makeStep 88 = .ok (.bipush (-3), 2) := by decide +kernel
theorem dX6_makeStep_90 : decode cX6_makeStep 90 = .ok (.ireturn, 1) := by decide +kernel
theorem dX6_makeStep_91 : decode cX6_makeStep 91 = .ok (.aload_n 0, 1) := by decide +kernel
theorem dX6_makeStep_92 : decode cX6_makeStep 92 = .ok (.getfield 7, 3) := by decide +kernel
theorem dX6_makeStep_95 : decode cX6_makeStep 95 = .ok (.iconst 5, 1) := by decide +kernel
theorem dX6_makeStep_96 : decode cX6_makeStep 96 = .ok (.dup2, 1) := by decide +kernel
theorem dX6_makeStep_97 : decode cX6_makeStep 97 = .ok (.iaload, 1) := by decide +kernel
theorem dX6_makeStep_98 : decode cX6_makeStep 98 = .ok (.iconst 1, 1) := by decide +kernel
theorem dX6_makeStep_99 : decode cX6_makeStep 99 = .ok (.iadd, 1) := by decide +kernel
theorem dX6_makeStep_100 : decode cX6_makeStep 100 = .ok (.iastore, 1) := by decide +kernel
theorem dX6_makeStep_101 : decode cX6_makeStep 101 = .ok (.iload_n 2, 1) := by decide +kernel
theorem dX6_makeStep_102 : decode cX6_makeStep 102 = .ok (.ifCond .ge 44, 3) := by decide +kernel
theorem dX6_makeStep_105 : decode cX6_makeStep 105 = .ok (.aload_n 0, 1) := by decide +kernel
theorem dX6_makeStep_106 : decode cX6_makeStep 106 = .ok (.getfield 7, 3) := by decide +kernel
theorem dX6_makeStep_109 : decode cX6_makeStep 109 = .ok (.iconst 4, 1) := by decide +kernel
theorem dX6_makeStep_110 : decode cX6_makeStep 110 = .ok (.iaload, 1) := by decide +kernel
theorem dX6_makeStep_111 : decode cX6_makeStep 111 = .ok (.ifCond .lt 28, 3) := by decide +kernel
theorem dX6_makeStep_114 : decode cX6_makeStep 114 = .ok (.iload_n 3, 1) := by decide +kernel
theorem dX6_makeStep_115 : decode cX6_makeStep 115 = .ok (.aload_n 0, 1) := by decide +kernel
theorem dX6_makeStep_116 : decode cX6_makeStep 116 = .ok (.aload_n 0, 1) := by decide +kernel
theorem dX6_makeStep_117 : decode cX6_makeStep 117 = .ok (.getfield 7, 3) := by decide +kernel
theorem dX6_makeStep_120 : decode cX6_makeStep 120 = .ok (.iconst 4, 1) := by decide +kernel
theorem dX6_makeStep_121 : decode cX6_makeStep 121 = .ok (.iaload, 1) := by decide +kernel
theorem dX6_makeStep_122 : decode cX6_makeStep 122 = .ok (.invokevirtual 102, 3) := by decide +kernel
theorem dX6_makeStep_125 : decode cX6_makeStep 125 = .ok (.aload_n 0, 1) := by decide +kernel
theorem dX6_makeStep_126 : decode cX6_makeStep 126 = .ok (.aload_n 0, 1) := by decide +kernel
theorem dX6_makeStep_127 : decode cX6_makeStep 127 = .ok (.getfield 7, 3) := by decide +kernel
theorem dX6_makeStep_130 : decode cX6_makeStep 130 = .ok (.iconst 4, 1) := by decide +kernel
theorem dX6_makeStep_131 : decode cX6_makeStep 131 = .ok (.iaload, 1) := by decide +kernel
theorem dX6_makeStep_132 : decode cX6_makeStep 132 = .ok (.invokevirtual 115, 3) := by decide +kernel
theorem dX6_makeStep_135 : decode cX6_makeStep 135 = .ok (.iadd, 1) := by decide +kernel
theorem dX6_makeStep_136 : decode cX6_makeStep 136 = .ok (.if_icmp .ge 10, 3) := by decide +kernel
theorem dX6_makeStep_139 : decode cX6_makeStep 139 = .ok (.aload_n 0, 1) := by decide +kernel
theorem dX6_makeStep_140 : decode cX6_makeStep 140 = .ok (.getfield 7, 3) := by decide +kernel
theorem dX6_makeStep_143 : decode cX6_makeStep 143 = .ok (.iconst 4, 1) := by decide +kernel
theorem dX6_makeStep_144 : decode cX6_makeStep 144 = .ok (.iload_n 1, 1) := by decide +kernel
theorem dX6_makeStep_145 : decode cX6_makeStep 145 = .ok (.iastore, 1) := by decide +kernel
theorem dX6_makeStep_146 : decode cX6_makeStep 146 = .ok (.iload 4, 2) := by decide +kernel
theorem dX6_makeStep_148 : decode cX6_makeStep 148 = .ok (.ifCond .eq 5, 3) := by decide +kernel
theorem dX6_makeStep_151 : decode cX6_makeStep 151 = .ok (.iconst 2, 1) := by decide +kernel
theorem dX6_makeStep_152 : decode cX6_makeStep 152 = .ok (.ireturn, 1) := by decide +kernel
theorem dX6_makeStep_153 : decode cX6_makeStep 153 = .ok (.bipush 84, 2) := by decide +kernel
theorem dX6_makeStep_155 : decode cX6_makeStep 155 = .ok (.bipush 9, 2) := by decide +kernel
theorem dX6_makeStep_157 : decode cX6_makeStep 157 = .ok (.aload_n 0, 1) := by decide +kernel
theorem dX6_makeStep_158 : decode cX6_makeStep 158 = .ok (.getfield 7, 3) := by decide +kernel
theorem dX6_makeStep_161 : decode cX6_makeStep 161 = .ok (.iconst 3, 1) := by decide +kernel
theorem dX6_makeStep_162 : decode cX6_makeStep 162 = .ok (.iaload, 1) := by decide +kernel
theorem dX6_makeStep_163 : decode cX6_makeStep 163 = .ok (.imul, 1) := by decide +kernel
theorem dX6_makeStep_164 : decode cX6_makeStep 164 = .ok (.iadd, 1) := by decide +kernel
theorem dX6_makeStep_165 : decode cX6_makeStep 165 = .ok (.istore 5, 2) := by decide +kernel
theorem dX6_makeStep_167 : decode cX6_makeStep 167 = .ok (.aload_n 0, 1) := by decide +kernel
theorem dX6_makeStep_168 : decode cX6_makeStep 168 = .ok (.getfield 7, 3) := by decide +kernel
theorem dX6_makeStep_171 : decode cX6_makeStep 171 = .ok (.iload 5, 2) := by decide +kernel
theorem dX6_makeStep_173 : decode cX6_makeStep 173 = .ok (.iload_n 2, 1) := by decide +kernel
theorem dX6_makeStep_174 : decode cX6_makeStep 174 = .ok (.iastore, 1) := by decide +kernel
theorem dX6_makeStep_175 : decode cX6_makeStep 175 = .ok (.iconst 0, 1) := by decide +kernel
theorem dX6_makeStep_176 : decode cX6_makeStep 176 = .ok (.istore 6, 2) := by decide +kernel
theorem dX6_makeStep_178 : decode cX6_makeStep 178 = .ok (.iload 6, 2) := by decide +kernel
theorem dX6_makeStep_180 : decode cX6_makeStep 180 = .ok (.aload_n 0, 1) := by decide +kernel
theorem dX6_makeStep_181 : decode cX6_makeStep 181 = .ok (.getfield 7, 3) := by decide +kernel
theorem dX6_makeStep_184 : decode cX6_makeStep 184 = .ok (.iconst 1, 1) := by decide +kernel
theorem dX6_makeStep_185 : decode cX6_makeStep 185 = .ok (.iaload, 1) := by decide +kernel
theorem dX6_makeStep_186 : decode cX6_makeStep 186 = .ok (.if_icmp .ge 46, 3) := by decide +kernel
theorem dX6_makeStep_189 : decode cX6_makeStep 189 = .ok (.aload_n 0, 1) := by decide +kernel
theorem dX6_makeStep_190 : decode cX6_makeStep 190 = .ok (.getfield 7, 3) := by decide +kernel
theorem dX6_makeStep_193 : decode cX6_makeStep 193 = .ok (.iload 5, 2) := by decide +kernel
theorem dX6_makeStep_195 : decode cX6_makeStep 195 = .ok (.iconst 1, 1) := by decide +kernel
theorem dX6_makeStep_196 : decode cX6_makeStep 196 = .ok (.iadd, 1) := by decide +kernel
theorem dX6_makeStep_197 : decode cX6_makeStep 197 = .ok (.iload 6, 2) := by decide +kernel
theorem dX6_makeStep_199 : decode cX6_makeStep 199 = .ok (.iadd, 1) := by decide +kernel
theorem dX6_makeStep_200 : decode cX6_makeStep 200 = .ok (.iload_n 2, 1) := by decide +kernel
theorem dX6_makeStep_201 : decode cX6_makeStep 201 = .ok (.ifCond .ge 23, 3) := by decide +kernel
theorem dX6_makeStep_204 : decode cX6_makeStep 204 = .ok (.aload_n 0, 1) := by decide +kernel
theorem dX6_makeStep_205 : decode cX6_makeStep 205 = .ok (.getfield 7, 3) := by decide +kernel
theorem dX6_makeStep_208 : decode cX6_makeStep 208 = .ok (.aload_n 0, 1) := by decide +kernel
theorem dX6_makeStep_209 : decode cX6_makeStep 209 = .ok (.iload_n 1, 1) := by decide +kernel
theorem dX6_makeStep_210 : decode cX6_makeStep 210 = .ok (.iload 6, 2) := by decide +kernel
theorem dX6_makeStep_212 : decode cX6_makeStep 212 = .ok (.invokevirtual 81, 3) := by decide +kernel
theorem dX6_makeStep_215 : decode cX6_makeStep 215 = .ok (.iload 6, 2) := by decide +kernel
theorem dX6_makeStep_217 : decode cX6_makeStep 217 = .ok (.invokestatic 64, 3) := by decide +kernel
theorem dX6_makeStep_220 : decode cX6_makeStep 220 = .ok (.iaload, 1) := by decide +kernel
theorem dX6_makeStep_221 : decode cX6_makeStep 221 = .ok (.goto 4, 3) := by decide +kernel
theorem dX6_makeStep_224 : decode cX6_makeStep 224 = .ok (.iconst 0, 1) := by decide +kernel
theorem dX6_makeStep_225 : decode cX6_makeStep 225 = .ok (.iastore, 1) := by decide +kernel
theorem dX6_makeStep_226 : decode cX6_makeStep 226 = .ok (.iinc 6 1, 3) := by decide +kernel
theorem dX6_makeStep_229 : decode cX6_makeStep 229 = .ok (.goto (-51), 3) := by decide +kernel
theorem dX6_makeStep_232 : decode cX6_makeStep 232 = .ok (.aload_n 0, 1) := by decide +kernel
theorem dX6_makeStep_233 : decode cX6_makeStep 233 = .ok (.getfield 7, 3) := by decide +kernel
theorem dX6_makeStep_236 : decode cX6_makeStep 236 = .ok (.iconst 3, 1) := by decide +kernel
theorem dX6_makeStep_237 : decode cX6_makeStep 237 = .ok (.dup2, 1) := by decide +kernel
theorem dX6_makeStep_238 : decode cX6_makeStep 238 = .ok (.iaload, 1) := by decide +kernel
theorem dX6_makeStep_239 : decode cX6_makeStep 239 = .ok (.iconst 1, 1) := by decide +kernel
theorem dX6_makeStep_240 : decode cX6_makeStep 240 = .ok (.iadd, 1) := by decide +kernel
theorem dX6_makeStep_241 : decode cX6_makeStep 241 = .ok (.iastore, 1) := by decide +kernel
theorem dX6_makeStep_242 : decode cX6_makeStep 242 = .ok (.iload_n 2, 1) := by decide +kernel
theorem dX6_makeStep_243 : decode cX6_makeStep 243 = .ok (.ifCond .ge 7, 3) := by decide +kernel
theorem dX6_makeStep_246 : decode cX6_makeStep 246 = .ok (.iconst 1, 1) := by decide +kernel
theorem dX6_makeStep_247 : decode cX6_makeStep 247 = .ok (.goto 4, 3) := by decide +kernel
theorem dX6_makeStep_250 : decode cX6_makeStep 250 = .ok (.iconst 0, 1) := by decide +kernel
theorem dX6_makeStep_251 : decode cX6_makeStep 251 = .ok (.ireturn, 1) := by decide +kernel
theorem dX6_step_0 : decode cX6_step 0 = .ok (.aload_n 0, 1) := by decide +kernel
theorem dX6_step_1 : decode cX6_step 1 = .ok (.invokevirtual 33, 3) := by decide +kernel
theorem dX6_step_4 : decode cX6_step 4 = .ok (.aload_n 0, 1) := by decide +kernel
theorem dX6_step_5 : decode cX6_step 5 = .ok (.invokevirtual 118, 3) := by decide +kernel
theorem dX6_step_8 : decode cX6_step 8 = .ok (.istore_n 1, 1) := by decide +kernel
theorem dX6_step_9 : decode cX6_step 9 = .ok (.iload_n 1, 1) := by decide +kernel
theorem dX6_step_10 : decode cX6_step 10 = .ok (.ifCond .lt 7, 3) := by decide +kernel
theorem dX6_step_13 : decode cX6_step 13 = .ok (.aload_n 0, 1) := by decide +kernel
theorem dX6_step_14 : decode cX6_step 14 = .ok (.invokevirtual 36, 3) := by decide +kernel
theorem dX6_step_17 : decode cX6_step 17 = .ok (.iload_n 1, 1) := by decide +kernel
theorem dX6_step_18 : decode cX6_step 18 = .ok (.ireturn, 1) := by decide +kernel
theorem dX6_solve_0 : decode cX6_solve 0 = .ok (.aload_n 0, 1) := by decide +kernel
theorem dX6_solve_1 : decode cX6_solve 1 = .ok (.invokevirtual 33, 3) := by decide +kernel
theorem dX6_solve_4 : decode cX6_solve 4 = .ok (.aload_n 0, 1) := by decide +kernel
theorem dX6_solve_5 : decode cX6_solve 5 = .ok (.getfield 7, 3) := by decide +kernel
theorem dX6_solve_8 : decode cX6_solve 8 = .ok (.iconst 3, 1) := by decide +kernel
theorem dX6_solve_9 : decode cX6_solve 9 = .ok (.iaload, 1) := by decide +kernel
theorem dX6_solve_10 : decode cX6_solve 10 = .ok (.istore_n 1, 1) := by decide +kernel
theorem dX6_solve_11 : decode cX6_solve 11 = .ok (.iconst 0, 1) := by decide +kernel
theorem dX6_solve_12 : decode cX6_solve 12 = .ok (.istore_n 2, 1) := by decide +kernel
theorem dX6_solve_13 : decode cX6_solve 13 = .ok (.aload_n 0, 1) := by decide +kernel
theorem dX6_solve_14 : decode cX6_solve 14 = .ok (.invokevirtual 118, 3) := by decide +kernel
theorem dX6_solve_17 : decode cX6_solve 17 = .ok (.istore_n 3, 1) := by decide +kernel
theorem dX6_solve_18 : decode cX6_solve 18 = .ok (.iload_n 3, 1) := by decide +kernel
theorem dX6_solve_19 : decode cX6_solve 19 = .ok (.ifCond .lt 19, 3) := by decide +kernel
theorem dX6_solve_22 : decode cX6_solve 22 = .ok (.iload_n 3, 1) := by decide +kernel
theorem dX6_solve_23 : decode cX6_solve 23 = .ok (.iconst 2, 1) := by decide +kernel
theorem dX6_solve_24 : decode cX6_solve 24 = .ok (.if_icmp .eq 14, 3) := by decide +kernel
theorem dX6_solve_27 : decode cX6_solve 27 = .ok (.iinc 2 1, 3) := by decide +kernel
theorem dX6_solve_30 : decode cX6_solve 30 = .ok (.aload_n 0, 1) := by decide +kernel
theorem dX6_solve_31 : decode cX6_solve 31 = .ok (.invokevirtual 118, 3) := by decide +kernel
theorem dX6_solve_34 : decode cX6_solve 34 = .ok (.istore_n 3, 1) := by decide +kernel
theorem dX6_solve_35 : decode cX6_solve 35 = .ok (.goto (-17), 3) := by decide +kernel
theorem dX6_solve_38 : decode cX6_solve 38 = .ok (.iload_n 3, 1) := by decide +kernel
theorem dX6_solve_39 : decode cX6_solve 39 = .ok (.bipush (-3), 2) := by decide +kernel
theorem dX6_solve_41 : decode cX6_solve 41 = .ok (.if_icmp .eq 13, 3) := by decide +kernel
theorem dX6_solve_44 : decode cX6_solve 44 = .ok (.iload_n 3, 1) := by decide +kernel
theorem dX6_solve_45 : decode cX6_solve 45 = .ok (.bipush (-4), 2) := by decide +kernel
theorem dX6_solve_47 : decode cX6_solve 47 = .ok (.if_icmp .ne 13, 3) := by decide +kernel
theorem dX6_solve_50 : decode cX6_solve 50 = .ok (.iload_n 2, 1) := by decide +kernel
theorem dX6_solve_51 : decode cX6_solve 51 = .ok (.ifCond .ne 9, 3) := by decide +kernel
theorem dX6_solve_54 : decode cX6_solve 54 = .ok (.aload_n 0, 1) := by decide +kernel
theorem dX6_solve_55 : decode cX6_solve 55 = .ok (.invokevirtual 121, 3) := by decide +kernel
theorem dX6_solve_58 : decode cX6_solve 58 = .ok (.iload_n 3, 1) := by decide +kernel
theorem dX6_solve_59 : decode cX6_solve 59 = .ok (.ireturn, 1) := by decide +kernel
theorem dX6_solve_60 : decode cX6_solve 60 = .ok (.aload_n 0, 1) := by decide +kernel
theorem dX6_solve_61 : decode cX6_solve 61 = .ok (.invokevirtual 36, 3) := by decide +kernel
theorem dX6_solve_64 : decode cX6_solve 64 = .ok (.aload_n 0, 1) := by decide +kernel
theorem dX6_solve_65 : decode cX6_solve 65 = .ok (.getfield 7, 3) := by decide +kernel
theorem dX6_solve_68 : decode cX6_solve 68 = .ok (.iconst 3, 1) := by decide +kernel
theorem dX6_solve_69 : decode cX6_solve 69 = .ok (.iaload, 1) := by decide +kernel
theorem dX6_solve_70 : decode cX6_solve 70 = .ok (.iload_n 1, 1) := by decide +kernel
theorem dX6_solve_71 : decode cX6_solve 71 = .ok (.isub, 1) := by decide +kernel
theorem dX6_solve_72 : decode cX6_solve 72 = .ok (.ireturn, 1) := by decide +kernel
theorem dX6_dropOne_0 : decode cX6_dropOne 0 = .ok (.bipush 84, 2) := by decide +kernel
theorem dX6_dropOne_2 : decode cX6_dropOne 2 = .ok (.bipush 9, 2) := by decide +kernel
theorem dX6_dropOne_4 : decode cX6_dropOne 4 = .ok (.iload_n 1, 1) := by decide +kernel
theorem dX6_dropOne_5 : decode cX6_dropOne 5 = .ok (.imul, 1) := by decide +kernel
theorem dX6_dropOne_6 : decode cX6_dropOne 6 = .ok (.iadd, 1) := by decide +kernel
theorem dX6_dropOne_7 : decode cX6_dropOne 7 = .ok (.istore_n 2, 1) := by decide +kernel
theorem dX6_dropOne_8 : decode cX6_dropOne 8 = .ok (.iload_n 2, 1) := by decide +kernel
theorem dX6_dropOne_9 : decode cX6_dropOne 9 = .ok (.sipush 444, 3) := by decide +kernel
theorem dX6_dropOne_12 : decode cX6_dropOne 12 = .ok (.if_icmp .ge 38, 3) := by decide +kernel
theorem dX6_dropOne_15 : decode cX6_dropOne 15 = .ok (.aload_n 0, 1) := by decide +kernel
theorem dX6_dropOne_16 : decode cX6_dropOne 16 = .ok (.getfield 7, 3) := by decide +kernel
theorem dX6_dropOne_19 : decode cX6_dropOne 19 = .ok (.iload_n 2, 1) := by decide +kernel
theorem dX6_dropOne_20 : decode cX6_dropOne 20 = .ok (.iload_n 2, 1) := by decide +kernel
theorem dX6_dropOne_21 : decode cX6_dropOne 21 = .ok (.bipush 9, 2) := by decide +kernel
theorem dX6_dropOne_23 : decode cX6_dropOne 23 = .ok (.iadd, 1) := by decide +kernel
theorem dX6_dropOne_24 : decode cX6_dropOne 24 = .ok (.sipush 444, 3) := by decide +kernel
theorem dX6_dropOne_27 : decode cX6_dropOne 27 = .ok (.if_icmp .ge 15, 3) := by decide +kernel
theorem dX6_dropOne_30 : decode cX6_dropOne 30 = .ok (.aload_n 0, 1) := by decide +kernel
theorem dX6_dropOne_31 : decode cX6_dropOne 31 = .ok (.getfield 7, 3) := by decide +kernel
theorem dX6_dropOne_34 : decode cX6_dropOne 34 = .ok (.iload_n 2, 1) := by decide +kernel
theorem dX6_dropOne_35 : decode cX6_dropOne 35 = .ok (.bipush 9, 2) := by decide +kernel
theorem dX6_dropOne_37 : decode cX6_dropOne 37 = .ok (.iadd, 1) := by decide +kernel
theorem dX6_dropOne_38 : decode cX6_dropOne 38 = .ok (.iaload, 1) := by decide +kernel
theorem dX6_dropOne_39 : decode cX6_dropOne 39 = .ok (.goto 4, 3) := by decide +kernel
theorem dX6_dropOne_42 : decode cX6_dropOne 42 = .ok (.iconst 0, 1) := by decide +kernel
theorem dX6_dropOne_43 : decode cX6_dropOne 43 = .ok (.iastore, 1) := by decide +kernel
theorem dX6_dropOne_44 : decode cX6_dropOne 44 = .ok (.iinc 2 1, 3) := by decide +kernel
theorem dX6_dropOne_47 : decode cX6_dropOne 47 = .ok (.goto (-39), 3) := by decide +kernel
theorem dX6_dropOne_50 : decode cX6_dropOne 50 = .ok (.aload_n 0, 1) := by decide +kernel
theorem dX6_dropOne_51 : decode cX6_dropOne 51 = .ok (.getfield 7, 3) := by decide +kernel
theorem dX6_dropOne_54 : decode cX6_dropOne 54 = .ok (.iconst 3, 1) := by decide +kernel
theorem dX6_dropOne_55 : decode cX6_dropOne 55 = .ok (.dup2, 1) := by decide +kernel
theorem dX6_dropOne_56 : decode cX6_dropOne 56 = .ok (.iaload, 1) := by decide +kernel
theorem dX6_dropOne_57 : decode cX6_dropOne 57 = .ok (.iconst 1, 1) := by decide +kernel
theorem dX6_dropOne_58 : decode cX6_dropOne 58 = .ok (.isub, 1) := by decide +kernel
theorem dX6_dropOne_59 : decode cX6_dropOne 59 = .ok (.iastore, 1) := by decide +kernel
theorem dX6_dropOne_60 : decode cX6_dropOne 60 = .ok (.return_, 1) := by decide +kernel
theorem dX6_drop_0 : decode cX6_drop 0 = .ok (.aload_n 0, 1) := by decide +kernel
theorem dX6_drop_1 : decode cX6_drop 1 = .ok (.iload_n 1, 1) := by decide +kernel
theorem dX6_drop_2 : decode cX6_drop 2 = .ok (.invokevirtual 124, 3) := by decide +kernel
theorem dX6_drop_5 : decode cX6_drop 5 = .ok (.ifCond .eq 5, 3) := by decide +kernel
theorem dX6_drop_8 : decode cX6_drop 8 = .ok (.iconst (-1), 1) := by decide +kernel
theorem dX6_drop_9 : decode cX6_drop 9 = .ok (.ireturn, 1) := by decide +kernel
theorem dX6_drop_10 : decode cX6_drop 10 = .ok (.aload_n 0, 1) := by decide +kernel
theorem dX6_drop_11 : decode cX6_drop 11 = .ok (.invokevirtual 43, 3) := by decide +kernel
theorem dX6_drop_14 : decode cX6_drop 14 = .ok (.aload_n 0, 1) := by decide +kernel
theorem dX6_drop_15 : decode cX6_drop 15 = .ok (.iload_n 1, 1) := by decide +kernel
theorem dX6_drop_16 : decode cX6_drop 16 = .ok (.invokevirtual 127, 3) := by decide +kernel
theorem dX6_drop_19 : decode cX6_drop 19 = .ok (.aload_n 0, 1) := by decide +kernel
theorem dX6_drop_20 : decode cX6_drop 20 = .ok (.getfield 7, 3) := by decide +kernel
theorem dX6_drop_23 : decode cX6_drop 23 = .ok (.iconst 3, 1) := by decide +kernel
theorem dX6_drop_24 : decode cX6_drop 24 = .ok (.iaload, 1) := by decide +kernel
theorem dX6_drop_25 : decode cX6_drop 25 = .ok (.ireturn, 1) := by decide +kernel
theorem dX6_isLoose_0 : decode cX6_isLoose 0 = .ok (.aload_n 0, 1) := by decide +kernel
theorem dX6_isLoose_1 : decode cX6_isLoose 1 = .ok (.iload_n 1, 1) := by decide +kernel
theorem dX6_isLoose_2 : decode cX6_isLoose 2 = .ok (.invokevirtual 93, 3) := by decide +kernel
theorem dX6_isLoose_5 : decode cX6_isLoose 5 = .ok (.ifCond .eq 21, 3) := by decide +kernel
theorem dX6_isLoose_8 : decode cX6_isLoose 8 = .ok (.aload_n 0, 1) := by decide +kernel
theorem dX6_isLoose_9 : decode cX6_isLoose 9 = .ok (.iload_n 1, 1) := by decide +kernel
theorem dX6_isLoose_10 : decode cX6_isLoose 10 = .ok (.iload_n 2, 1) := by decide +kernel
theorem dX6_isLoose_11 : decode cX6_isLoose 11 = .ok (.invokevirtual 96, 3) := by decide +kernel
theorem dX6_isLoose_14 : decode cX6_isLoose 14 = .ok (.iconst 1, 1) := by decide +kernel
theorem dX6_isLoose_15 : decode cX6_isLoose 15 = .ok (.if_icmp .le 7, 3) := by decide +kernel
theorem dX6_isLoose_18 : decode cX6_isLoose 18 = .ok (.iconst 1, 1) := by decide +kernel
theorem dX6_isLoose_19 : decode cX6_isLoose 19 = .ok (.goto 22, 3) := by decide +kernel
theorem dX6_isLoose_22 : decode cX6_isLoose 22 = .ok (.iconst 0, 1) := by decide +kernel
theorem dX6_isLoose_23 : decode cX6_isLoose 23 = .ok (.goto 18, 3) := by decide +kernel
theorem dX6_isLoose_26 : decode cX6_isLoose 26 = .ok (.aload_n 0, 1) := by decide +kernel
theorem dX6_isLoose_27 : decode cX6_isLoose 27 = .ok (.iload_n 1, 1) := by decide +kernel
theorem dX6_isLoose_28 : decode cX6_isLoose 28 = .ok (.iload_n 2, 1) := by decide +kernel
theorem dX6_isLoose_29 : decode cX6_isLoose 29 = .ok (.invokevirtual 99, 3) := by decide +kernel
theorem dX6_isLoose_32 : decode cX6_isLoose 32 = .ok (.iload_n 3, 1) := by decide +kernel
theorem dX6_isLoose_33 : decode cX6_isLoose 33 = .ok (.if_icmp .ge 7, 3) := by decide +kernel
theorem dX6_isLoose_36 : decode cX6_isLoose 36 = .ok (.iconst 1, 1) := by decide +kernel
theorem dX6_isLoose_37 : decode cX6_isLoose 37 = .ok (.goto 4, 3) := by decide +kernel
theorem dX6_isLoose_40 : decode cX6_isLoose 40 = .ok (.iconst 0, 1) := by decide +kernel
theorem dX6_isLoose_41 : decode cX6_isLoose 41 = .ok (.ireturn, 1) := by decide +kernel
theorem dX6_dropLoose_0 : decode cX6_dropLoose 0 = .ok (.aload_n 0, 1) := by decide +kernel
theorem dX6_dropLoose_1 : decode cX6_dropLoose 1 = .ok (.invokevirtual 111, 3) := by decide +kernel
theorem dX6_dropLoose_4 : decode cX6_dropLoose 4 = .ok (.istore_n 1, 1) := by decide +kernel
theorem dX6_dropLoose_5 : decode cX6_dropLoose 5 = .ok (.iload_n 1, 1) := by decide +kernel
theorem dX6_dropLoose_6 : decode cX6_dropLoose 6 = .ok (.ifCond .ge 6, 3) := by decide +kernel
theorem dX6_dropLoose_9 : decode cX6_dropLoose 9 = .ok (.bipush (-4), 2) := by decide +kernel
theorem dX6_dropLoose_11 : decode cX6_dropLoose 11 = .ok (.ireturn, 1) := by decide +kernel
theorem dX6_dropLoose_12 : decode cX6_dropLoose 12 = .ok (.aload_n 0, 1) := by decide +kernel
theorem dX6_dropLoose_13 : decode cX6_dropLoose 13 = .ok (.iload_n 1, 1) := by decide +kernel
theorem dX6_dropLoose_14 : decode cX6_dropLoose 14 = .ok (.invokevirtual 108, 3) := by decide +kernel
theorem dX6_dropLoose_17 : decode cX6_dropLoose 17 = .ok (.aload_n 0, 1) := by decide +kernel
theorem dX6_dropLoose_18 : decode cX6_dropLoose 18 = .ok (.iload_n 1, 1) := by decide +kernel
theorem dX6_dropLoose_19 : decode cX6_dropLoose 19 = .ok (.invokevirtual 102, 3) := by decide +kernel
theorem dX6_dropLoose_22 : decode cX6_dropLoose 22 = .ok (.isub, 1) := by decide +kernel
theorem dX6_dropLoose_23 : decode cX6_dropLoose 23 = .ok (.istore_n 2, 1) := by decide +kernel
theorem dX6_dropLoose_24 : decode cX6_dropLoose 24 = .ok (.iconst 0, 1) := by decide +kernel
theorem dX6_dropLoose_25 : decode cX6_dropLoose 25 = .ok (.istore_n 3, 1) := by decide +kernel
theorem dX6_dropLoose_26 : decode cX6_dropLoose 26 = .ok (.iconst 0, 1) := by decide +kernel
theorem dX6_dropLoose_27 : decode cX6_dropLoose 27 = .ok (.istore 4, 2) := by decide +kernel
theorem dX6_dropLoose_29 : decode cX6_dropLoose 29 = .ok (.iload 4, 2) := by decide +kernel
theorem dX6_dropLoose_31 : decode cX6_dropLoose 31 = .ok (.aload_n 0, 1) := by decide +kernel
theorem dX6_dropLoose_32 : decode cX6_dropLoose 32 = .ok (.getfield 7, 3) := by decide +kernel
theorem dX6_dropLoose_35 : decode cX6_dropLoose 35 = .ok (.iconst 3, 1) := by decide +kernel
theorem dX6_dropLoose_36 : decode cX6_dropLoose 36 = .ok (.iaload, 1) := by decide +kernel
theorem dX6_dropLoose_37 : decode cX6_dropLoose 37 = .ok (.if_icmp .ge 28, 3) := by decide +kernel
theorem dX6_dropLoose_40 : decode cX6_dropLoose 40 = .ok (.iload_n 3, 1) := by decide +kernel
theorem dX6_dropLoose_41 : decode cX6_dropLoose 41 = .ok (.aload_n 0, 1) := by decide +kernel
theorem dX6_dropLoose_42 : decode cX6_dropLoose 42 = .ok (.iload 4, 2) := by decide +kernel
theorem dX6_dropLoose_44 : decode cX6_dropLoose 44 = .ok (.iload_n 1, 1) := by decide +kernel
theorem dX6_dropLoose_45 : decode cX6_dropLoose 45 = .ok (.iload_n 2, 1) := by decide +kernel
theorem dX6_dropLoose_46 : decode cX6_dropLoose 46 = .ok (.invokevirtual 131, 3) := by decide +kernel
theorem dX6_dropLoose_49 : decode cX6_dropLoose 49 = .ok (.ifCond .eq 7, 3) := by decide +kernel
theorem dX6_dropLoose_52 : decode cX6_dropLoose 52 = .ok (.iconst 1, 1) := by decide +kernel
theorem dX6_dropLoose_53 : decode cX6_dropLoose 53 = .ok (.goto 4, 3) := by decide +kernel
theorem dX6_dropLoose_56 : decode cX6_dropLoose 56 = .ok (.iconst 0, 1) := by decide +kernel
theorem dX6_dropLoose_57 : decode cX6_dropLoose 57 = .ok (.iadd, 1) := by decide +kernel
theorem dX6_dropLoose_58 : decode cX6_dropLoose 58 = .ok (.istore_n 3, 1) := by decide +kernel
theorem dX6_dropLoose_59 : decode cX6_dropLoose 59 = .ok (.iinc 4 1, 3) := by decide +kernel
theorem dX6_dropLoose_62 : decode cX6_dropLoose 62 = .ok (.goto (-33), 3) := by decide +kernel
theorem dX6_dropLoose_65 : decode cX6_dropLoose 65 = .ok (.iload_n 3, 1) := by decide +kernel
theorem dX6_dropLoose_66 : decode cX6_dropLoose 66 = .ok (.ifCond .ne 6, 3) := by decide +kernel
theorem dX6_dropLoose_69 : decode cX6_dropLoose 69 = .ok (.bipush (-5), 2) := by decide +kernel
theorem dX6_dropLoose_71 : decode cX6_dropLoose 71 = .ok (.ireturn, 1) := by decide +kernel
theorem dX6_dropLoose_72 : decode cX6_dropLoose 72 = .ok (.aload_n 0, 1) := by decide +kernel
theorem dX6_dropLoose_73 : decode cX6_dropLoose 73 = .ok (.invokevirtual 43, 3) := by decide +kernel
theorem dX6_dropLoose_76 : decode cX6_dropLoose 76 = .ok (.aload_n 0, 1) := by decide +kernel
theorem dX6_dropLoose_77 : decode cX6_dropLoose 77 = .ok (.getfield 7, 3) := by decide +kernel
theorem dX6_dropLoose_80 : decode cX6_dropLoose 80 = .ok (.iconst 3, 1) := by decide +kernel
theorem dX6_dropLoose_81 : decode cX6_dropLoose 81 = .ok (.iaload, 1) := by decide +kernel
theorem dX6_dropLoose_82 : decode cX6_dropLoose 82 = .ok (.iconst 1, 1) := by decide +kernel
theorem dX6_dropLoose_83 : decode cX6_dropLoose 83 = .ok (.isub, 1) := by decide +kernel
theorem dX6_dropLoose_84 : decode cX6_dropLoose 84 = .ok (.istore 4, 2) := by decide +kernel
theorem dX6_dropLoose_86 : decode cX6_dropLoose 86 = .ok (.iload 4, 2) := by decide +kernel
theorem dX6_dropLoose_88 : decode cX6_dropLoose 88 = .ok (.ifCond .lt 26, 3) := by decide +kernel
theorem dX6_dropLoose_91 : decode cX6_dropLoose 91 = .ok (.aload_n 0, 1) := by decide +kernel
theorem dX6_dropLoose_92 : decode cX6_dropLoose 92 = .ok (.iload 4, 2) := by decide +kernel
theorem dX6_dropLoose_94 : decode cX6_dropLoose 94 = .ok (.iload_n 1, 1) := by decide +kernel
theorem dX6_dropLoose_95 : decode cX6_dropLoose 95 = .ok (.iload_n 2, 1) := by decide +kernel
theorem dX6_dropLoose_96 : decode cX6_dropLoose 96 = .ok (.invokevirtual 131, 3) := by decide +kernel
theorem dX6_dropLoose_99 : decode cX6_dropLoose 99 = .ok (.ifCond .eq 9, 3) := by decide +kernel
theorem dX6_dropLoose_102 : decode cX6_dropLoose 102 = .ok (.aload_n 0, 1) := by decide +kernel
theorem dX6_dropLoose_103 : decode cX6_dropLoose 103 = .ok (.iload 4, 2) := by decide +kernel
theorem dX6_dropLoose_105 : decode cX6_dropLoose 105 = .ok (.invokevirtual 127, 3) := by decide +kernel
theorem dX6_dropLoose_108 : decode cX6_dropLoose 108 = .ok (.iinc 4 (-1), 3) := by decide +kernel
theorem dX6_dropLoose_111 : decode cX6_dropLoose 111 = .ok (.goto (-25), 3) := by decide +kernel
theorem dX6_dropLoose_114 : decode cX6_dropLoose 114 = .ok (.iload_n 3, 1) := by decide +kernel
theorem dX6_dropLoose_115 : decode cX6_dropLoose 115 = .ok (.ireturn, 1) := by decide +kernel
theorem dX6_type_0 : decode cX6_type 0 = .ok (.aload_n 0, 1) := by decide +kernel
theorem dX6_type_1 : decode cX6_type 1 = .ok (.getfield 134, 3) := by decide +kernel
theorem dX6_type_4 : decode cX6_type 4 = .ok (.bipush 60, 2) := by decide +kernel
theorem dX6_type_6 : decode cX6_type 6 = .ok (.if_icmp .ne 6, 3) := by decide +kernel
theorem dX6_type_9 : decode cX6_type 9 = .ok (.bipush (-3), 2) := by decide +kernel
theorem dX6_type_11 : decode cX6_type 11 = .ok (.ireturn, 1) := by decide +kernel
theorem dX6_type_12 : decode cX6_type 12 = .ok (.aload_n 0, 1) := by decide +kernel
theorem dX6_type_13 : decode cX6_type 13 = .ok (.getfield 22, 3) := by decide +kernel
theorem dX6_type_16 : decode cX6_type 16 = .ok (.aload_n 0, 1) := by decide +kernel
theorem dX6_type_17 : decode cX6_type 17 = .ok (.getfield 134, 3) := by decide +kernel
theorem dX6_type_20 : decode cX6_type 20 = .ok (.iload_n 1, 1) := by decide +kernel
theorem dX6_type_21 : decode cX6_type 21 = .ok (.castore, 1) := by decide +kernel
theorem dX6_type_22 : decode cX6_type 22 = .ok (.aload_n 0, 1) := by decide +kernel
theorem dX6_type_23 : decode cX6_type 23 = .ok (.dup, 1) := by decide +kernel
theorem dX6_type_24 : decode cX6_type 24 = .ok (.getfield 134, 3) := by decide +kernel
theorem dX6_type_27 : decode cX6_type 27 = .ok (.iconst 1, 1) := by decide +kernel
theorem dX6_type_28 : decode cX6_type 28 = .ok (.iadd, 1) := by decide +kernel
theorem dX6_type_29 : decode cX6_type 29 = .ok (.putfield 134, 3) := by decide +kernel
theorem dX6_type_32 : decode cX6_type 32 = .ok (.aload_n 0, 1) := by decide +kernel
theorem dX6_type_33 : decode cX6_type 33 = .ok (.getfield 134, 3) := by decide +kernel
theorem dX6_type_36 : decode cX6_type 36 = .ok (.ireturn, 1) := by decide +kernel
theorem dX6_clearText_0 : decode cX6_clearText 0 = .ok (.aload_n 0, 1) := by decide +kernel
theorem dX6_clearText_1 : decode cX6_clearText 1 = .ok (.getfield 134, 3) := by decide +kernel
theorem dX6_clearText_4 : decode cX6_clearText 4 = .ok (.istore_n 1, 1) := by decide +kernel
theorem dX6_clearText_5 : decode cX6_clearText 5 = .ok (.aload_n 0, 1) := by decide +kernel
theorem dX6_clearText_6 : decode cX6_clearText 6 = .ok (.iconst 0, 1) := by decide +kernel
theorem dX6_clearText_7 : decode cX6_clearText 7 = .ok (.putfield 134, 3) := by decide +kernel
theorem dX6_clearText_10 : decode cX6_clearText 10 = .ok (.iload_n 1, 1) := by decide +kernel
theorem dX6_clearText_11 : decode cX6_clearText 11 = .ok (.ireturn, 1) := by decide +kernel
theorem dX6_sees_0 : decode cX6_sees 0 = .ok (.aload_n 0, 1) := by decide +kernel
theorem dX6_sees_1 : decode cX6_sees 1 = .ok (.getfield 137, 3) := by decide +kernel
theorem dX6_sees_4 : decode cX6_sees 4 = .ok (.aload_n 0, 1) := by decide +kernel
theorem dX6_sees_5 : decode cX6_sees 5 = .ok (.getfield 134, 3) := by decide +kernel
theorem dX6_sees_8 : decode cX6_sees 8 = .ok (.if_icmp .ge 24, 3) := by decide +kernel
theorem dX6_sees_11 : decode cX6_sees 11 = .ok (.aload_n 0, 1) := by decide +kernel
theorem dX6_sees_12 : decode cX6_sees 12 = .ok (.getfield 22, 3) := by decide +kernel
theorem dX6_sees_15 : decode cX6_sees 15 = .ok (.aload_n 0, 1) := by decide +kernel
theorem dX6_sees_16 : decode cX6_sees 16 = .ok (.getfield 137, 3) := by decide +kernel
theorem dX6_sees_19 : decode cX6_sees 19 = .ok (.caload, 1) := by decide +kernel
theorem dX6_sees_20 : decode cX6_sees 20 = .ok (.iload_n 1, 1) := by decide +kernel
theorem dX6_sees_21 : decode cX6_sees 21 = .ok (.iload_n 2, 1) := by decide +kernel
theorem dX6_sees_22 : decode cX6_sees 22 = .ok (.invokestatic 46, 3) := by decide +kernel
theorem dX6_sees_25 : decode cX6_sees 25 = .ok (.ifCond .eq 7, 3) := by decide +kernel
theorem dX6_sees_28 : decode cX6_sees 28 = .ok (.iconst 1, 1) := by decide +kernel
theorem dX6_sees_29 : decode cX6_sees 29 = .ok (.goto 4, 3) := by decide +kernel
theorem dX6_sees_32 : decode cX6_sees 32 = .ok (.iconst 0, 1) := by decide +kernel
theorem dX6_sees_33 : decode cX6_sees 33 = .ok (.ireturn, 1) := by decide +kernel
theorem dX6_readNumbers_0 : decode cX6_readNumbers 0 = .ok (.aload_n 0, 1) := by decide +kernel
theorem dX6_readNumbers_1 : decode cX6_readNumbers 1 = .ok (.iconst 0, 1) := by decide +kernel
theorem dX6_readNumbers_2 : decode cX6_readNumbers 2 = .ok (.putfield 137, 3) := by decide +kernel
theorem dX6_readNumbers_5 : decode cX6_readNumbers 5 = .ok (.iconst 0, 1) := by decide +kernel
theorem dX6_readNumbers_6 : decode cX6_readNumbers 6 = .ok (.istore_n 1, 1) := by decide +kernel
theorem dX6_readNumbers_7 : decode cX6_readNumbers 7 = .ok (.iload_n 1, 1) := by decide +kernel
theorem dX6_readNumbers_8 : decode cX6_readNumbers 8 = .ok (.aload_n 0, 1) := by decide +kernel
theorem dX6_readNumbers_9 : decode cX6_readNumbers 9 = .ok (.getfield 7, 3) := by decide +kernel
theorem dX6_readNumbers_12 : decode cX6_readNumbers 12 = .ok (.iconst 1, 1) := by decide +kernel
theorem dX6_readNumbers_13 : decode cX6_readNumbers 13 = .ok (.iaload, 1) := by decide +kernel
theorem dX6_readNumbers_14 : decode cX6_readNumbers 14 = .ok (.if_icmp .ge 122, 3) := by decide +kernel
theorem dX6_readNumbers_17 : decode cX6_readNumbers 17 = .ok (.iload_n 1, 1) := by decide +kernel
theorem dX6_readNumbers_18 : decode cX6_readNumbers 18 = .ok (.ifCond .le 26, 3) := by decide +kernel
theorem dX6_readNumbers_21 : decode cX6_readNumbers 21 = .ok (.aload_n 0, 1) := by decide +kernel
theorem dX6_readNumbers_22 : decode cX6_readNumbers 22 = .ok (.bipush 44, 2) := by decide +kernel
theorem dX6_readNumbers_24 : decode cX6_readNumbers 24 = .ok (.bipush 44, 2) := by decide +kernel
theorem dX6_readNumbers_26 : decode cX6_readNumbers 26 = .ok (.invokevirtual 140, 3) := by decide +kernel
theorem dX6_readNumbers_29 : decode cX6_readNumbers 29 = .ok (.ifCond .ne 5, 3) := by decide +kernel
theorem dX6_readNumbers_32 : decode cX6_readNumbers 32 = .ok (.iconst 0, 1) := by decide +kernel
theorem dX6_readNumbers_33 : decode cX6_readNumbers 33 = .ok (.ireturn, 1) := by decide +kernel
theorem dX6_readNumbers_34 : decode cX6_readNumbers 34 = .ok (.aload_n 0, 1) := by decide +kernel
theorem dX6_readNumbers_35 : decode cX6_readNumbers 35 = .ok (.dup, 1) := by decide +kernel
theorem dX6_readNumbers_36 : decode cX6_readNumbers 36 = .ok (.getfield 137, 3) := by decide +kernel
theorem dX6_readNumbers_39 : decode cX6_readNumbers 39 = .ok (.iconst 1, 1) := by decide +kernel
theorem dX6_readNumbers_40 : decode cX6_readNumbers 40 = .ok (.iadd, 1) := by decide +kernel
theorem dX6_readNumbers_41 : decode cX6_readNumbers 41 = .ok (.putfield 137, 3) := by decide +kernel
theorem dX6_readNumbers_44 : decode cX6_readNumbers 44 = .ok (.aload_n 0, 1) := by decide +kernel
theorem dX6_readNumbers_45 : decode cX6_readNumbers 45 = .ok (.bipush 48, 2) := by decide +kernel
theorem dX6_readNumbers_47 : decode cX6_readNumbers 47 = .ok (.bipush 57, 2) := by decide +kernel
theorem dX6_readNumbers_49 : decode cX6_readNumbers 49 = .ok (.invokevirtual 140, 3) := by decide +kernel
theorem dX6_readNumbers_52 : decode cX6_readNumbers 52 = .ok (.ifCond .ne 5, 3) := by decide +kernel
theorem dX6_readNumbers_55 : decode cX6_readNumbers 55 = .ok (.iconst 0, 1) := by decide +kernel
theorem dX6_readNumbers_56 : decode cX6_readNumbers 56 = .ok (.ireturn, 1) := by decide +kernel
theorem dX6_readNumbers_57 : decode cX6_readNumbers 57 = .ok (.aload_n 0, 1) := by decide +kernel
theorem dX6_readNumbers_58 : decode cX6_readNumbers 58 = .ok (.getfield 22, 3) := by decide +kernel
theorem dX6_readNumbers_61 : decode cX6_readNumbers 61 = .ok (.aload_n 0, 1) := by decide +kernel
theorem dX6_readNumbers_62 : decode cX6_readNumbers 62 = .ok (.getfield 137, 3) := by decide +kernel
theorem dX6_readNumbers_65 : decode cX6_readNumbers 65 = .ok (.caload, 1) := by decide +kernel
theorem dX6_readNumbers_66 : decode cX6_readNumbers 66 = .ok (.bipush 48, 2) := by decide +kernel
theorem dX6_readNumbers_68 : decode cX6_readNumbers 68 = .ok (.isub, 1) := by decide +kernel
theorem dX6_readNumbers_69 : decode cX6_readNumbers 69 = .ok (.istore_n 2, 1) := by decide +kernel
theorem dX6_readNumbers_70 : decode cX6_readNumbers 70 = .ok (.aload_n 0, 1) := by decide +kernel
theorem dX6_readNumbers_71 : decode cX6_readNumbers 71 = .ok (.dup, 1) := by decide +kernel
theorem dX6_readNumbers_72 : decode cX6_readNumbers 72 = .ok (.getfield 137, 3) := by decide +kernel
theorem dX6_readNumbers_75 : decode cX6_readNumbers 75 = .ok (.iconst 1, 1) := by decide +kernel
theorem dX6_readNumbers_76 : decode cX6_readNumbers 76 = .ok (.iadd, 1) := by decide +kernel
theorem dX6_readNumbers_77 : decode cX6_readNumbers 77 = .ok (.putfield 137, 3) := by decide +kernel
theorem dX6_readNumbers_80 : decode cX6_readNumbers 80 = .ok (.iload_n 2, 1) := by decide +kernel
theorem dX6_readNumbers_81 : decode cX6_readNumbers 81 = .ok (.ifCond .le 42, 3) := by decide +kernel
theorem dX6_readNumbers_84 : decode cX6_readNumbers 84 = .ok (.aload_n 0, 1) := by decide +kernel
theorem dX6_readNumbers_85 : decode cX6_readNumbers 85 = .ok (.bipush 48, 2) := by decide +kernel
theorem dX6_readNumbers_87 : decode cX6_readNumbers 87 = .ok (.bipush 57, 2) := by decide +kernel
theorem dX6_readNumbers_89 : decode cX6_readNumbers 89 = .ok (.invokevirtual 140, 3) := by decide +kernel
theorem dX6_readNumbers_92 : decode cX6_readNumbers 92 = .ok (.ifCond .eq 31, 3) := by decide +kernel
theorem dX6_readNumbers_95 : decode cX6_readNumbers 95 = .ok (.bipush 10, 2) := by decide +kernel
theorem dX6_readNumbers_97 : decode cX6_readNumbers 97 = .ok (.iload_n 2, 1) := by decide +kernel
theorem dX6_readNumbers_98 : decode cX6_readNumbers 98 = .ok (.imul, 1) := by decide +kernel
theorem dX6_readNumbers_99 : decode cX6_readNumbers 99 = .ok (.aload_n 0, 1) := by decide +kernel
theorem dX6_readNumbers_100 : decode cX6_readNumbers 100 = .ok (.getfield 22, 3) := by decide +kernel
theorem dX6_readNumbers_103 : decode cX6_readNumbers 103 = .ok (.aload_n 0, 1) := by decide +kernel
theorem dX6_readNumbers_104 : decode cX6_readNumbers 104 = .ok (.getfield 137, 3) := by decide +kernel
theorem dX6_readNumbers_107 : decode cX6_readNumbers 107 = .ok (.caload, 1) := by decide +kernel
theorem dX6_readNumbers_108 : decode cX6_readNumbers 108 = .ok (.iadd, 1) := by decide +kernel
theorem dX6_readNumbers_109 : decode cX6_readNumbers 109 = .ok (.bipush 48, 2) := by decide +kernel
theorem dX6_readNumbers_111 : decode cX6_readNumbers 111 = .ok (.isub, 1) := by decide +kernel
theorem dX6_readNumbers_112 : decode cX6_readNumbers 112 = .ok (.istore_n 2, 1) := by decide +kernel
theorem dX6_readNumbers_113 : decode cX6_readNumbers 113 = .ok (.aload_n 0, 1) := by decide +kernel
theorem dX6_readNumbers_114 : decode cX6_readNumbers 114 = .ok (.dup, 1) := by decide +kernel
theorem dX6_readNumbers_115 : decode cX6_readNumbers 115 = .ok (.getfield 137, 3) := by decide +kernel
theorem dX6_readNumbers_118 : decode cX6_readNumbers 118 = .ok (.iconst 1, 1) := by decide +kernel
theorem dX6_readNumbers_119 : decode cX6_readNumbers 119 = .ok (.iadd, 1) := by decide +kernel
theorem dX6_readNumbers_120 : decode cX6_readNumbers 120 = .ok (.putfield 137, 3) := by decide +kernel
theorem dX6_readNumbers_123 : decode cX6_readNumbers 123 = .ok (.aload_n 0, 1) := by decide +kernel
theorem dX6_readNumbers_124 : decode cX6_readNumbers 124 = .ok (.getfield 26, 3) := by decide +kernel
theorem dX6_readNumbers_127 : decode cX6_readNumbers 127 = .ok (.iload_n 1, 1) := by decide +kernel
theorem dX6_readNumbers_128 : decode cX6_readNumbers 128 = .ok (.iload_n 2, 1) := by decide +kernel
theorem dX6_readNumbers_129 : decode cX6_readNumbers 129 = .ok (.iastore, 1) := by decide +kernel
theorem dX6_readNumbers_130 : decode cX6_readNumbers 130 = .ok (.iinc 1 1, 3) := by decide +kernel
theorem dX6_readNumbers_133 : decode cX6_readNumbers 133 = .ok (.goto (-126), 3) := by decide +kernel
theorem dX6_readNumbers_136 : decode cX6_readNumbers 136 = .ok (.aload_n 0, 1) := by decide +kernel
theorem dX6_readNumbers_137 : decode cX6_readNumbers 137 = .ok (.getfield 137, 3) := by decide +kernel
theorem dX6_readNumbers_140 : decode cX6_readNumbers 140 = .ok (.aload_n 0, 1) := by decide +kernel
theorem dX6_readNumbers_141 : decode cX6_readNumbers 141 = .ok (.getfield 134, 3) := by decide +kernel
theorem dX6_readNumbers_144 : decode cX6_readNumbers 144 = .ok (.if_icmp .ne 7, 3) := by decide +kernel
theorem dX6_readNumbers_147 : decode cX6_readNumbers 147 = .ok (.iconst 1, 1) := by decide +kernel
theorem dX6_readNumbers_148 : decode cX6_readNumbers 148 = .ok (.goto 4, 3) := by decide +kernel
theorem dX6_readNumbers_151 : decode cX6_readNumbers 151 = .ok (.iconst 0, 1) := by decide +kernel
theorem dX6_readNumbers_152 : decode cX6_readNumbers 152 = .ok (.ireturn, 1) := by decide +kernel
theorem dX6_readCut_0 : decode cX6_readCut 0 = .ok (.aload_n 0, 1) := by decide +kernel
theorem dX6_readCut_1 : decode cX6_readCut 1 = .ok (.getfield 7, 3) := by decide +kernel
theorem dX6_readCut_4 : decode cX6_readCut 4 = .ok (.iconst 1, 1) := by decide +kernel
theorem dX6_readCut_5 : decode cX6_readCut 5 = .ok (.iaload, 1) := by decide +kernel
theorem dX6_readCut_6 : decode cX6_readCut 6 = .ok (.ifCond .ne 6, 3) := by decide +kernel
theorem dX6_readCut_9 : decode cX6_readCut 9 = .ok (.bipush (-4), 2) := by decide +kernel
theorem dX6_readCut_11 : decode cX6_readCut 11 = .ok (.ireturn, 1) := by decide +kernel
theorem dX6_readCut_12 : decode cX6_readCut 12 = .ok (.aload_n 0, 1) := by decide +kernel
theorem dX6_readCut_13 : decode cX6_readCut 13 = .ok (.invokevirtual 143, 3) := by decide +kernel
theorem dX6_readCut_16 : decode cX6_readCut 16 = .ok (.ifCond .ne 11, 3) := by decide +kernel
theorem dX6_readCut_19 : decode cX6_readCut 19 = .ok (.bipush (-100), 2) := by decide +kernel
theorem dX6_readCut_21 : decode cX6_readCut 21 = .ok (.aload_n 0, 1) := by decide +kernel
theorem dX6_readCut_22 : decode cX6_readCut 22 = .ok (.getfield 137, 3) := by decide +kernel
theorem dX6_readCut_25 : decode cX6_readCut 25 = .ok (.isub, 1) := by decide +kernel
theorem dX6_readCut_26 : decode cX6_readCut 26 = .ok (.ireturn, 1) := by decide +kernel
theorem dX6_readCut_27 : decode cX6_readCut 27 = .ok (.aload_n 0, 1) := by decide +kernel
theorem dX6_readCut_28 : decode cX6_readCut 28 = .ok (.getfield 7, 3) := by decide +kernel
theorem dX6_readCut_31 : decode cX6_readCut 31 = .ok (.iconst 3, 1) := by decide +kernel
theorem dX6_readCut_32 : decode cX6_readCut 32 = .ok (.iaload, 1) := by decide +kernel
theorem dX6_readCut_33 : decode cX6_readCut 33 = .ok (.istore_n 1, 1) := by decide +kernel
theorem dX6_readCut_34 : decode cX6_readCut 34 = .ok (.iload_n 1, 1) := by decide +kernel
theorem dX6_readCut_35 : decode cX6_readCut 35 = .ok (.bipush 40, 2) := by decide +kernel
theorem dX6_readCut_37 : decode cX6_readCut 37 = .ok (.if_icmp .ne 6, 3) := by decide +kernel
theorem dX6_readCut_40 : decode cX6_readCut 40 = .ok (.bipush (-3), 2) := by decide +kernel
theorem dX6_readCut_42 : decode cX6_readCut 42 = .ok (.ireturn, 1) := by decide +kernel
theorem dX6_readCut_43 : decode cX6_readCut 43 = .ok (.aload_n 0, 1) := by decide +kernel
theorem dX6_readCut_44 : decode cX6_readCut 44 = .ok (.invokevirtual 43, 3) := by decide +kernel
theorem dX6_readCut_47 : decode cX6_readCut 47 = .ok (.aload_n 0, 1) := by decide +kernel
theorem dX6_readCut_48 : decode cX6_readCut 48 = .ok (.getfield 7, 3) := by decide +kernel
theorem dX6_readCut_51 : decode cX6_readCut 51 = .ok (.bipush 84, 2) := by decide +kernel
theorem dX6_readCut_53 : decode cX6_readCut 53 = .ok (.bipush 9, 2) := by decide +kernel
theorem dX6_readCut_55 : decode cX6_readCut 55 = .ok (.iload_n 1, 1) := by decide +kernel
theorem dX6_readCut_56 : decode cX6_readCut 56 = .ok (.imul, 1) := by decide +kernel
theorem dX6_readCut_57 : decode cX6_readCut 57 = .ok (.iadd, 1) := by decide +kernel
theorem dX6_readCut_58 : decode cX6_readCut 58 = .ok (.bipush (-5), 2) := by decide +kernel
theorem dX6_readCut_60 : decode cX6_readCut 60 = .ok (.iastore, 1) := by decide +kernel
theorem dX6_readCut_61 : decode cX6_readCut 61 = .ok (.iconst 0, 1) := by decide +kernel
theorem dX6_readCut_62 : decode cX6_readCut 62 = .ok (.istore_n 2, 1) := by decide +kernel
theorem dX6_readCut_63 : decode cX6_readCut 63 = .ok (.iload_n 2, 1) := by decide +kernel
theorem dX6_readCut_64 : decode cX6_readCut 64 = .ok (.aload_n 0, 1) := by decide +kernel
theorem dX6_readCut_65 : decode cX6_readCut 65 = .ok (.getfield 7, 3) := by decide +kernel
theorem dX6_readCut_68 : decode cX6_readCut 68 = .ok (.iconst 1, 1) := by decide +kernel
theorem dX6_readCut_69 : decode cX6_readCut 69 = .ok (.iaload, 1) := by decide +kernel
theorem dX6_readCut_70 : decode cX6_readCut 70 = .ok (.if_icmp .ge 31, 3) := by decide +kernel
theorem dX6_readCut_73 : decode cX6_readCut 73 = .ok (.aload_n 0, 1) := by decide +kernel
theorem dX6_readCut_74 : decode cX6_readCut 74 = .ok (.getfield 7, 3) := by decide +kernel
theorem dX6_readCut_77 : decode cX6_readCut 77 = .ok (.bipush 84, 2) := by decide +kernel
theorem dX6_readCut_79 : decode cX6_readCut 79 = .ok (.bipush 9, 2) := by decide +kernel
theorem dX6_readCut_81 : decode cX6_readCut 81 = .ok (.iload_n 1, 1) := by decide +kernel
theorem dX6_readCut_82 : decode cX6_readCut 82 = .ok (.imul, 1) := by decide +kernel
theorem dX6_readCut_83 : decode cX6_readCut 83 = .ok (.iadd, 1) := by decide +kernel
theorem dX6_readCut_84 : decode cX6_readCut 84 = .ok (.iconst 1, 1) := by decide +kernel
theorem dX6_readCut_85 : decode cX6_readCut 85 = .ok (.iadd, 1) := by decide +kernel
theorem dX6_readCut_86 : decode cX6_readCut 86 = .ok (.iload_n 2, 1) := by decide +kernel
theorem dX6_readCut_87 : decode cX6_readCut 87 = .ok (.iadd, 1) := by decide +kernel
theorem dX6_readCut_88 : decode cX6_readCut 88 = .ok (.aload_n 0, 1) := by decide +kernel
theorem dX6_readCut_89 : decode cX6_readCut 89 = .ok (.getfield 26, 3) := by decide +kernel
theorem dX6_readCut_92 : decode cX6_readCut 92 = .ok (.iload_n 2, 1) := by decide +kernel
theorem dX6_readCut_93 : decode cX6_readCut 93 = .ok (.iaload, 1) := by decide +kernel
theorem dX6_readCut_94 : decode cX6_readCut 94 = .ok (.iastore, 1) := by decide +kernel
theorem dX6_readCut_95 : decode cX6_readCut 95 = .ok (.iinc 2 1, 3) := by decide +kernel
theorem dX6_readCut_98 : decode cX6_readCut 98 = .ok (.goto (-35), 3) := by decide +kernel
theorem dX6_readCut_101 : decode cX6_readCut 101 = .ok (.aload_n 0, 1) := by decide +kernel
theorem dX6_readCut_102 : decode cX6_readCut 102 = .ok (.getfield 7, 3) := by decide +kernel
theorem dX6_readCut_105 : decode cX6_readCut 105 = .ok (.iconst 3, 1) := by decide +kernel
theorem dX6_readCut_106 : decode cX6_readCut 106 = .ok (.dup2, 1) := by decide +kernel
theorem dX6_readCut_107 : decode cX6_readCut 107 = .ok (.iaload, 1) := by decide +kernel
theorem dX6_readCut_108 : decode cX6_readCut 108 = .ok (.iconst 1, 1) := by decide +kernel
theorem dX6_readCut_109 : decode cX6_readCut 109 = .ok (.iadd, 1) := by decide +kernel
theorem dX6_readCut_110 : decode cX6_readCut 110 = .ok (.iastore, 1) := by decide +kernel
theorem dX6_readCut_111 : decode cX6_readCut 111 = .ok (.iload_n 1, 1) := by decide +kernel
theorem dX6_readCut_112 : decode cX6_readCut 112 = .ok (.ireturn, 1) := by decide +kernel
theorem dX6_judge_0 : decode cX6_judge 0 = .ok (.aload_n 0, 1) := by decide +kernel
theorem dX6_judge_1 : decode cX6_judge 1 = .ok (.iload_n 1, 1) := by decide +kernel
theorem dX6_judge_2 : decode cX6_judge 2 = .ok (.invokevirtual 147, 3) := by decide +kernel
theorem dX6_judge_5 : decode cX6_judge 5 = .ok (.ifCond .eq 6, 3) := by decide +kernel
theorem dX6_judge_8 : decode cX6_judge 8 = .ok (.bipush (-2), 2) := by decide +kernel
theorem dX6_judge_10 : decode cX6_judge 10 = .ok (.ireturn, 1) := by decide +kernel
theorem dX6_judge_11 : decode cX6_judge 11 = .ok (.iload_n 1, 1) := by decide +kernel
theorem dX6_judge_12 : decode cX6_judge 12 = .ok (.invokestatic 71, 3) := by decide +kernel
theorem dX6_judge_15 : decode cX6_judge 15 = .ok (.aload_n 0, 1) := by decide +kernel
theorem dX6_judge_16 : decode cX6_judge 16 = .ok (.getfield 7, 3) := by decide +kernel
theorem dX6_judge_19 : decode cX6_judge 19 = .ok (.iconst 2, 1) := by decide +kernel
theorem dX6_judge_20 : decode cX6_judge 20 = .ok (.iaload, 1) := by decide +kernel
theorem dX6_judge_21 : decode cX6_judge 21 = .ok (.if_icmp .le 7, 3) := by decide +kernel
theorem dX6_judge_24 : decode cX6_judge 24 = .ok (.iconst 1, 1) := by decide +kernel
theorem dX6_judge_25 : decode cX6_judge 25 = .ok (.goto 28, 3) := by decide +kernel
theorem dX6_judge_28 : decode cX6_judge 28 = .ok (.aload_n 0, 1) := by decide +kernel
theorem dX6_judge_29 : decode cX6_judge 29 = .ok (.iload_n 1, 1) := by decide +kernel
theorem dX6_judge_30 : decode cX6_judge 30 = .ok (.invokevirtual 75, 3) := by decide +kernel
theorem dX6_judge_33 : decode cX6_judge 33 = .ok (.ifCond .eq 7, 3) := by decide +kernel
theorem dX6_judge_36 : decode cX6_judge 36 = .ok (.iconst 2, 1) := by decide +kernel
theorem dX6_judge_37 : decode cX6_judge 37 = .ok (.goto 16, 3) := by decide +kernel
theorem dX6_judge_40 : decode cX6_judge 40 = .ok (.aload_n 0, 1) := by decide +kernel
theorem dX6_judge_41 : decode cX6_judge 41 = .ok (.iload_n 1, 1) := by decide +kernel
theorem dX6_judge_42 : decode cX6_judge 42 = .ok (.invokevirtual 87, 3) := by decide +kernel
theorem dX6_judge_45 : decode cX6_judge 45 = .ok (.ifCond .lt 7, 3) := by decide +kernel
theorem dX6_judge_48 : decode cX6_judge 48 = .ok (.iconst 3, 1) := by decide +kernel
theorem dX6_judge_49 : decode cX6_judge 49 = .ok (.goto 4, 3) := by decide +kernel
theorem dX6_judge_52 : decode cX6_judge 52 = .ok (.iconst 0, 1) := by decide +kernel
theorem dX6_judge_53 : decode cX6_judge 53 = .ok (.ireturn, 1) := by decide +kernel
theorem dX6_plan_0 : decode cX6_plan 0 = .ok (.aload_n 0, 1) := by decide +kernel
theorem dX6_plan_1 : decode cX6_plan 1 = .ok (.iload_n 1, 1) := by decide +kernel
theorem dX6_plan_2 : decode cX6_plan 2 = .ok (.invokevirtual 147, 3) := by decide +kernel
theorem dX6_plan_5 : decode cX6_plan 5 = .ok (.ifCond .ne 12, 3) := by decide +kernel
theorem dX6_plan_8 : decode cX6_plan 8 = .ok (.iload_n 2, 1) := by decide +kernel
theorem dX6_plan_9 : decode cX6_plan 9 = .ok (.iconst 0, 1) := by decide +kernel
theorem dX6_plan_10 : decode cX6_plan 10 = .ok (.iconst 4, 1) := by decide +kernel
theorem dX6_plan_11 : decode cX6_plan 11 = .ok (.invokestatic 46, 3) := by decide +kernel
theorem dX6_plan_14 : decode cX6_plan 14 = .ok (.ifCond .ne 6, 3) := by decide +kernel
theorem dX6_plan_17 : decode cX6_plan 17 = .ok (.bipush (-2), 2) := by decide +kernel
theorem dX6_plan_19 : decode cX6_plan 19 = .ok (.ireturn, 1) := by decide +kernel
theorem dX6_plan_20 : decode cX6_plan 20 = .ok (.iload_n 2, 1) := by decide +kernel
theorem dX6_plan_21 : decode cX6_plan 21 = .ok (.ifCond .eq 8, 3) := by decide +kernel
theorem dX6_plan_24 : decode cX6_plan 24 = .ok (.iload_n 2, 1) := by decide +kernel
theorem dX6_plan_25 : decode cX6_plan 25 = .ok (.iconst 2, 1) := by decide +kernel
theorem dX6_plan_26 : decode cX6_plan 26 = .ok (.if_icmp .ne 14, 3) := by decide +kernel
theorem dX6_plan_29 : decode cX6_plan 29 = .ok (.aload_n 0, 1) := by decide +kernel
theorem dX6_plan_30 : decode cX6_plan 30 = .ok (.iload_n 1, 1) := by decide +kernel
theorem dX6_plan_31 : decode cX6_plan 31 = .ok (.invokevirtual 87, 3) := by decide +kernel
theorem dX6_plan_34 : decode cX6_plan 34 = .ok (.ifCond .lt 6, 3) := by decide +kernel
theorem dX6_plan_37 : decode cX6_plan 37 = .ok (.bipush (-4), 2) := by decide +kernel
theorem dX6_plan_39 : decode cX6_plan 39 = .ok (.ireturn, 1) := by decide +kernel
theorem dX6_plan_40 : decode cX6_plan 40 = .ok (.iload_n 2, 1) := by decide +kernel
theorem dX6_plan_41 : decode cX6_plan 41 = .ok (.tableswitch 61 0 3 #[31, 43, 49, 55], 31) := by decide +kernel
theorem dX6_plan_72 : decode cX6_plan 72 = .ok (.aload_n 0, 1) := by decide +kernel
theorem dX6_plan_73 : decode cX6_plan 73 = .ok (.iload_n 1, 1) := by decide +kernel
theorem dX6_plan_74 : decode cX6_plan 74 = .ok (.invokevirtual 102, 3) := by decide +kernel
theorem dX6_plan_77 : decode cX6_plan 77 = .ok (.aload_n 0, 1) := by decide +kernel
theorem dX6_plan_78 : decode cX6_plan 78 = .ok (.iload_n 1, 1) := by decide +kernel
theorem dX6_plan_79 : decode cX6_plan 79 = .ok (.invokevirtual 115, 3) := by decide +kernel
theorem dX6_plan_82 : decode cX6_plan 82 = .ok (.iadd, 1) := by decide +kernel
theorem dX6_plan_83 : decode cX6_plan 83 = .ok (.ireturn, 1) := by decide +kernel
theorem dX6_plan_84 : decode cX6_plan 84 = .ok (.aload_n 0, 1) := by decide +kernel
theorem dX6_plan_85 : decode cX6_plan 85 = .ok (.iload_n 1, 1) := by decide +kernel
theorem dX6_plan_86 : decode cX6_plan 86 = .ok (.invokevirtual 102, 3) := by decide +kernel
theorem dX6_plan_89 : decode cX6_plan 89 = .ok (.ireturn, 1) := by decide +kernel
theorem dX6_plan_90 : decode cX6_plan 90 = .ok (.aload_n 0, 1) := by decide +kernel
theorem dX6_plan_91 : decode cX6_plan 91 = .ok (.iload_n 1, 1) := by decide +kernel
theorem dX6_plan_92 : decode cX6_plan 92 = .ok (.invokevirtual 115, 3) := by decide +kernel
theorem dX6_plan_95 : decode cX6_plan 95 = .ok (.ireturn, 1) := by decide +kernel
theorem dX6_plan_96 : decode cX6_plan 96 = .ok (.aload_n 0, 1) := by decide +kernel
theorem dX6_plan_97 : decode cX6_plan 97 = .ok (.iload_n 1, 1) := by decide +kernel
theorem dX6_plan_98 : decode cX6_plan 98 = .ok (.invokevirtual 108, 3) := by decide +kernel
theorem dX6_plan_101 : decode cX6_plan 101 = .ok (.ireturn, 1) := by decide +kernel
theorem dX6_plan_102 : decode cX6_plan 102 = .ok (.aload_n 0, 1) := by decide +kernel
theorem dX6_plan_103 : decode cX6_plan 103 = .ok (.iload_n 1, 1) := by decide +kernel
theorem dX6_plan_104 : decode cX6_plan 104 = .ok (.invokevirtual 105, 3) := by decide +kernel
theorem dX6_plan_107 : decode cX6_plan 107 = .ok (.ireturn, 1) := by decide +kernel
theorem dX6_serves_0 : decode cX6_serves 0 = .ok (.aload_n 0, 1) := by decide +kernel
theorem dX6_serves_1 : decode cX6_serves 1 = .ok (.iload_n 1, 1) := by decide +kernel
theorem dX6_serves_2 : decode cX6_serves 2 = .ok (.invokevirtual 147, 3) := by decide +kernel
theorem dX6_serves_5 : decode cX6_serves 5 = .ok (.ifCond .eq 6, 3) := by decide +kernel
theorem dX6_serves_8 : decode cX6_serves 8 = .ok (.bipush (-2), 2) := by decide +kernel
theorem dX6_serves_10 : decode cX6_serves 10 = .ok (.ireturn, 1) := by decide +kernel
theorem dX6_serves_11 : decode cX6_serves 11 = .ok (.aload_n 0, 1) := by decide +kernel
theorem dX6_serves_12 : decode cX6_serves 12 = .ok (.iload_n 2, 1) := by decide +kernel
theorem dX6_serves_13 : decode cX6_serves 13 = .ok (.invokevirtual 61, 3) := by decide +kernel
theorem dX6_serves_16 : decode cX6_serves 16 = .ok (.ifCond .eq 7, 3) := by decide +kernel
theorem dX6_serves_19 : decode cX6_serves 19 = .ok (.iconst (-1), 1) := by decide +kernel
theorem dX6_serves_20 : decode cX6_serves 20 = .ok (.goto 9, 3) := by decide +kernel
theorem dX6_serves_23 : decode cX6_serves 23 = .ok (.aload_n 0, 1) := by decide +kernel
theorem dX6_serves_24 : decode cX6_serves 24 = .ok (.iload_n 1, 1) := by decide +kernel
theorem dX6_serves_25 : decode cX6_serves 25 = .ok (.iload_n 2, 1) := by decide +kernel
theorem dX6_serves_26 : decode cX6_serves 26 = .ok (.invokevirtual 81, 3) := by decide +kernel
theorem dX6_serves_29 : decode cX6_serves 29 = .ok (.ireturn, 1) := by decide +kernel
theorem dX6_plansBy_0 : decode cX6_plansBy 0 = .ok (.iconst 0, 1) := by decide +kernel
theorem dX6_plansBy_1 : decode cX6_plansBy 1 = .ok (.istore_n 3, 1) := by decide +kernel
theorem dX6_plansBy_2 : decode cX6_plansBy 2 = .ok (.iconst 0, 1) := by decide +kernel
theorem dX6_plansBy_3 : decode cX6_plansBy 3 = .ok (.istore 4, 2) := by decide +kernel
theorem dX6_plansBy_5 : decode cX6_plansBy 5 = .ok (.iload 4, 2) := by decide +kernel
theorem dX6_plansBy_7 : decode cX6_plansBy 7 = .ok (.iconst 1, 1) := by decide +kernel
theorem dX6_plansBy_8 : decode cX6_plansBy 8 = .ok (.aload_n 0, 1) := by decide +kernel
theorem dX6_plansBy_9 : decode cX6_plansBy 9 = .ok (.getfield 7, 3) := by decide +kernel
theorem dX6_plansBy_12 : decode cX6_plansBy 12 = .ok (.iconst 0, 1) := by decide +kernel
theorem dX6_plansBy_13 : decode cX6_plansBy 13 = .ok (.iaload, 1) := by decide +kernel
theorem dX6_plansBy_14 : decode cX6_plansBy 14 = .ok (.ishl, 1) := by decide +kernel
theorem dX6_plansBy_15 : decode cX6_plansBy 15 = .ok (.if_icmp .ge 124, 3) := by decide +kernel
theorem dX6_plansBy_18 : decode cX6_plansBy 18 = .ok (.aload_n 0, 1) := by decide +kernel
theorem dX6_plansBy_19 : decode cX6_plansBy 19 = .ok (.iload 4, 2) := by decide +kernel
theorem dX6_plansBy_21 : decode cX6_plansBy 21 = .ok (.invokevirtual 150, 3) := by decide +kernel
theorem dX6_plansBy_24 : decode cX6_plansBy 24 = .ok (.ifCond .eq 109, 3) := by decide +kernel
theorem dX6_plansBy_27 : decode cX6_plansBy 27 = .ok (.aload_n 0, 1) := by decide +kernel
theorem dX6_plansBy_28 : decode cX6_plansBy 28 = .ok (.iload_n 1, 1) := by decide +kernel
theorem dX6_plansBy_29 : decode cX6_plansBy 29 = .ok (.invokevirtual 93, 3) := by decide +kernel
theorem dX6_plansBy_32 : decode cX6_plansBy 32 = .ok (.ifCond .eq 13, 3) := by decide +kernel
theorem dX6_plansBy_35 : decode cX6_plansBy 35 = .ok (.aload_n 0, 1) := by decide +kernel
theorem dX6_plansBy_36 : decode cX6_plansBy 36 = .ok (.iload_n 1, 1) := by decide +kernel
theorem dX6_plansBy_37 : decode cX6_plansBy 37 = .ok (.iload 4, 2) := by decide +kernel
theorem dX6_plansBy_39 : decode cX6_plansBy 39 = .ok (.invokevirtual 96, 3) := by decide +kernel
theorem dX6_plansBy_42 : decode cX6_plansBy 42 = .ok (.goto 17, 3) := by decide +kernel
theorem dX6_plansBy_45 : decode cX6_plansBy 45 = .ok (.aload_n 0, 1) := by decide +kernel
theorem dX6_plansBy_46 : decode cX6_plansBy 46 = .ok (.iload_n 1, 1) := by decide +kernel
theorem dX6_plansBy_47 : decode cX6_plansBy 47 = .ok (.iload 4, 2) := by decide +kernel
theorem dX6_plansBy_49 : decode cX6_plansBy 49 = .ok (.invokevirtual 99, 3) := by decide +kernel
theorem dX6_plansBy_52 : decode cX6_plansBy 52 = .ok (.aload_n 0, 1) := by decide +kernel
theorem dX6_plansBy_53 : decode cX6_plansBy 53 = .ok (.iload 4, 2) := by decide +kernel
theorem dX6_plansBy_55 : decode cX6_plansBy 55 = .ok (.invokevirtual 115, 3) := by decide +kernel
theorem dX6_plansBy_58 : decode cX6_plansBy 58 = .ok (.isub, 1) := by decide +kernel
theorem dX6_plansBy_59 : decode cX6_plansBy 59 = .ok (.istore 5, 2) := by decide +kernel
theorem dX6_plansBy_61 : decode cX6_plansBy 61 = .ok (.aload_n 0, 1) := by decide +kernel
theorem dX6_plansBy_62 : decode cX6_plansBy 62 = .ok (.iload_n 1, 1) := by decide +kernel
theorem dX6_plansBy_63 : decode cX6_plansBy 63 = .ok (.invokevirtual 93, 3) := by decide +kernel
theorem dX6_plansBy_66 : decode cX6_plansBy 66 = .ok (.ifCond .eq 25, 3) := by decide +kernel
theorem dX6_plansBy_69 : decode cX6_plansBy 69 = .ok (.iload 5, 2) := by decide +kernel
theorem dX6_plansBy_71 : decode cX6_plansBy 71 = .ok (.iload_n 2, 1) := by decide +kernel
theorem dX6_plansBy_72 : decode cX6_plansBy 72 = .ok (.ifCond .eq 7, 3) := by decide +kernel
theorem dX6_plansBy_75 : decode cX6_plansBy 75 = .ok (.iconst 1, 1) := by decide +kernel
theorem dX6_plansBy_76 : decode cX6_plansBy 76 = .ok (.goto 4, 3) := by decide +kernel
theorem dX6_plansBy_79 : decode cX6_plansBy 79 = .ok (.iconst 0, 1) := by decide +kernel
theorem dX6_plansBy_80 : decode cX6_plansBy 80 = .ok (.if_icmp .ne 7, 3) := by decide +kernel
theorem dX6_plansBy_83 : decode cX6_plansBy 83 = .ok (.iconst 1, 1) := by decide +kernel
theorem dX6_plansBy_84 : decode cX6_plansBy 84 = .ok (.goto 34, 3) := by decide +kernel
theorem dX6_plansBy_87 : decode cX6_plansBy 87 = .ok (.iconst 0, 1) := by decide +kernel
theorem dX6_plansBy_88 : decode cX6_plansBy 88 = .ok (.goto 30, 3) := by decide +kernel
theorem dX6_plansBy_91 : decode cX6_plansBy 91 = .ok (.iload_n 2, 1) := by decide +kernel
theorem dX6_plansBy_92 : decode cX6_plansBy 92 = .ok (.ifCond .eq 16, 3) := by decide +kernel
theorem dX6_plansBy_95 : decode cX6_plansBy 95 = .ok (.iload 5, 2) := by decide +kernel
theorem dX6_plansBy_97 : decode cX6_plansBy 97 = .ok (.ifCond .ne 7, 3) := by decide +kernel
theorem dX6_plansBy_100 : decode cX6_plansBy 100 = .ok (.iconst 1, 1) := by decide +kernel
theorem dX6_plansBy_101 : decode cX6_plansBy 101 = .ok (.goto 17, 3) := by decide +kernel
theorem dX6_plansBy_104 : decode cX6_plansBy 104 = .ok (.iconst 0, 1) := by decide +kernel
theorem dX6_plansBy_105 : decode cX6_plansBy 105 = .ok (.goto 13, 3) := by decide +kernel
theorem dX6_plansBy_108 : decode cX6_plansBy 108 = .ok (.iload 5, 2) := by decide +kernel
theorem dX6_plansBy_110 : decode cX6_plansBy 110 = .ok (.ifCond .le 7, 3) := by decide +kernel
theorem dX6_plansBy_113 : decode cX6_plansBy 113 = .ok (.iconst 1, 1) := by decide +kernel
theorem dX6_plansBy_114 : decode cX6_plansBy 114 = .ok (.goto 4, 3) := by decide +kernel
theorem dX6_plansBy_117 : decode cX6_plansBy 117 = .ok (.iconst 0, 1) := by decide +kernel
theorem dX6_plansBy_118 : decode cX6_plansBy 118 = .ok (.istore 6, 2) := by decide +kernel
theorem dX6_plansBy_120 : decode cX6_plansBy 120 = .ok (.iload_n 3, 1) := by decide +kernel
theorem dX6_plansBy_121 : decode cX6_plansBy 121 = .ok (.iload 6, 2) := by decide +kernel
theorem dX6_plansBy_123 : decode cX6_plansBy 123 = .ok (.ifCond .eq 7, 3) := by decide +kernel
theorem dX6_plansBy_126 : decode cX6_plansBy 126 = .ok (.iconst 1, 1) := by decide +kernel
theorem dX6_plansBy_127 : decode cX6_plansBy 127 = .ok (.goto 4, 3) := by decide +kernel
theorem dX6_plansBy_130 : decode cX6_plansBy 130 = .ok (.iconst 0, 1) := by decide +kernel
theorem dX6_plansBy_131 : decode cX6_plansBy 131 = .ok (.iadd, 1) := by decide +kernel
theorem dX6_plansBy_132 : decode cX6_plansBy 132 = .ok (.istore_n 3, 1) := by decide +kernel
theorem dX6_plansBy_133 : decode cX6_plansBy 133 = .ok (.iinc 4 1, 3) := by decide +kernel
theorem dX6_plansBy_136 : decode cX6_plansBy 136 = .ok (.goto (-131), 3) := by decide +kernel
theorem dX6_plansBy_139 : decode cX6_plansBy 139 = .ok (.iload_n 3, 1) := by decide +kernel
theorem dX6_plansBy_140 : decode cX6_plansBy 140 = .ok (.ireturn, 1) := by decide +kernel
theorem dX6_cut_0 : decode cX6_cut 0 = .ok (.aload_n 0, 1) := by decide +kernel
theorem dX6_cut_1 : decode cX6_cut 1 = .ok (.iload_n 1, 1) := by decide +kernel
theorem dX6_cut_2 : decode cX6_cut 2 = .ok (.invokevirtual 124, 3) := by decide +kernel
theorem dX6_cut_5 : decode cX6_cut 5 = .ok (.ifCond .eq 5, 3) := by decide +kernel
theorem dX6_cut_8 : decode cX6_cut 8 = .ok (.iconst (-1), 1) := by decide +kernel
theorem dX6_cut_9 : decode cX6_cut 9 = .ok (.ireturn, 1) := by decide +kernel
theorem dX6_cut_10 : decode cX6_cut 10 = .ok (.iload_n 2, 1) := by decide +kernel
theorem dX6_cut_11 : decode cX6_cut 11 = .ok (.tableswitch 106 0 4 #[33, 47, 73, 92, 99], 33) := by decide +kernel
theorem dX6_cut_44 : decode cX6_cut 44 = .ok (.aload_n 0, 1) := by decide +kernel
theorem dX6_cut_45 : decode cX6_cut 45 = .ok (.iload_n 1, 1) := by decide +kernel
theorem dX6_cut_46 : decode cX6_cut 46 = .ok (.invokevirtual 93, 3) := by decide +kernel
theorem dX6_cut_49 : decode cX6_cut 49 = .ok (.ifCond .eq 7, 3) := by decide +kernel
theorem dX6_cut_52 : decode cX6_cut 52 = .ok (.iconst 0, 1) := by decide +kernel
theorem dX6_cut_53 : decode cX6_cut 53 = .ok (.goto 4, 3) := by decide +kernel
theorem dX6_cut_56 : decode cX6_cut 56 = .ok (.iconst 1, 1) := by decide +kernel
theorem dX6_cut_57 : decode cX6_cut 57 = .ok (.ireturn, 1) := by decide +kernel
theorem dX6_cut_58 : decode cX6_cut 58 = .ok (.aload_n 0, 1) := by decide +kernel
theorem dX6_cut_59 : decode cX6_cut 59 = .ok (.iload_n 1, 1) := by decide +kernel
theorem dX6_cut_60 : decode cX6_cut 60 = .ok (.invokevirtual 93, 3) := by decide +kernel
theorem dX6_cut_63 : decode cX6_cut 63 = .ok (.ifCond .eq 18, 3) := by decide +kernel
theorem dX6_cut_66 : decode cX6_cut 66 = .ok (.aload_n 0, 1) := by decide +kernel
theorem dX6_cut_67 : decode cX6_cut 67 = .ok (.getfield 7, 3) := by decide +kernel
theorem dX6_cut_70 : decode cX6_cut 70 = .ok (.bipush 84, 2) := by decide +kernel
theorem dX6_cut_72 : decode cX6_cut 72 = .ok (.bipush 9, 2) := by decide +kernel
theorem dX6_cut_74 : decode cX6_cut 74 = .ok (.iload_n 1, 1) := by decide +kernel
theorem dX6_cut_75 : decode cX6_cut 75 = .ok (.imul, 1) := by decide +kernel
theorem dX6_cut_76 : decode cX6_cut 76 = .ok (.iadd, 1) := by decide +kernel
theorem dX6_cut_77 : decode cX6_cut 77 = .ok (.iaload, 1) := by decide +kernel
theorem dX6_cut_78 : decode cX6_cut 78 = .ok (.goto 5, 3) := by decide +kernel
theorem dX6_cut_81 : decode cX6_cut 81 = .ok (.bipush (-5), 2) := by decide +kernel
theorem dX6_cut_83 : decode cX6_cut 83 = .ok (.ireturn, 1) := by decide +kernel
theorem dX6_cut_84 : decode cX6_cut 84 = .ok (.aload_n 0, 1) := by decide +kernel
theorem dX6_cut_85 : decode cX6_cut 85 = .ok (.iload_n 1, 1) := by decide +kernel
theorem dX6_cut_86 : decode cX6_cut 86 = .ok (.invokevirtual 93, 3) := by decide +kernel
theorem dX6_cut_89 : decode cX6_cut 89 = .ok (.ifCond .eq 7, 3) := by decide +kernel
theorem dX6_cut_92 : decode cX6_cut 92 = .ok (.iconst 1, 1) := by decide +kernel
theorem dX6_cut_93 : decode cX6_cut 93 = .ok (.goto 9, 3) := by decide +kernel
theorem dX6_cut_96 : decode cX6_cut 96 = .ok (.aload_n 0, 1) := by decide +kernel
theorem dX6_cut_97 : decode cX6_cut 97 = .ok (.iload_n 1, 1) := by decide +kernel
theorem dX6_cut_98 : decode cX6_cut 98 = .ok (.iconst 0, 1) := by decide +kernel
theorem dX6_cut_99 : decode cX6_cut 99 = .ok (.invokevirtual 99, 3) := by decide +kernel
theorem dX6_cut_102 : decode cX6_cut 102 = .ok (.ireturn, 1) := by decide +kernel
theorem dX6_cut_103 : decode cX6_cut 103 = .ok (.aload_n 0, 1) := by decide +kernel
theorem dX6_cut_104 : decode cX6_cut 104 = .ok (.iload_n 1, 1) := by decide +kernel
theorem dX6_cut_105 : decode cX6_cut 105 = .ok (.iconst 0, 1) := by decide +kernel
theorem dX6_cut_106 : decode cX6_cut 106 = .ok (.invokevirtual 153, 3) := by decide +kernel
theorem dX6_cut_109 : decode cX6_cut 109 = .ok (.ireturn, 1) := by decide +kernel
theorem dX6_cut_110 : decode cX6_cut 110 = .ok (.aload_n 0, 1) := by decide +kernel
theorem dX6_cut_111 : decode cX6_cut 111 = .ok (.iload_n 1, 1) := by decide +kernel
theorem dX6_cut_112 : decode cX6_cut 112 = .ok (.iconst 1, 1) := by decide +kernel
theorem dX6_cut_113 : decode cX6_cut 113 = .ok (.invokevirtual 153, 3) := by decide +kernel
theorem dX6_cut_116 : decode cX6_cut 116 = .ok (.ireturn, 1) := by decide +kernel
theorem dX6_cut_117 : decode cX6_cut 117 = .ok (.bipush (-2), 2) := by decide +kernel
theorem dX6_cut_119 : decode cX6_cut 119 = .ok (.ireturn, 1) := by decide +kernel
theorem dX6_weight_0 : decode cX6_weight 0 = .ok (.aload_n 0, 1) := by decide +kernel
theorem dX6_weight_1 : decode cX6_weight 1 = .ok (.iload_n 1, 1) := by decide +kernel
theorem dX6_weight_2 : decode cX6_weight 2 = .ok (.invokevirtual 124, 3) := by decide +kernel
theorem dX6_weight_5 : decode cX6_weight 5 = .ok (.ifCond .ne 11, 3) := by decide +kernel
theorem dX6_weight_8 : decode cX6_weight 8 = .ok (.aload_n 0, 1) := by decide +kernel
theorem dX6_weight_9 : decode cX6_weight 9 = .ok (.iload_n 2, 1) := by decide +kernel
theorem dX6_weight_10 : decode cX6_weight 10 = .ok (.invokevirtual 53, 3) := by decide +kernel
theorem dX6_weight_13 : decode cX6_weight 13 = .ok (.ifCond .eq 5, 3) := by decide +kernel
theorem dX6_weight_16 : decode cX6_weight 16 = .ok (.iconst (-1), 1) := by decide +kernel
theorem dX6_weight_17 : decode cX6_weight 17 = .ok (.ireturn, 1) := by decide +kernel
theorem dX6_weight_18 : decode cX6_weight 18 = .ok (.aload_n 0, 1) := by decide +kernel
theorem dX6_weight_19 : decode cX6_weight 19 = .ok (.iload_n 1, 1) := by decide +kernel
theorem dX6_weight_20 : decode cX6_weight 20 = .ok (.invokevirtual 93, 3) := by decide +kernel
theorem dX6_weight_23 : decode cX6_weight 23 = .ok (.ifCond .eq 14, 3) := by decide +kernel
theorem dX6_weight_26 : decode cX6_weight 26 = .ok (.aload_n 0, 1) := by decide +kernel
theorem dX6_weight_27 : decode cX6_weight 27 = .ok (.iload_n 1, 1) := by decide +kernel
theorem dX6_weight_28 : decode cX6_weight 28 = .ok (.iconst 1, 1) := by decide +kernel
theorem dX6_weight_29 : decode cX6_weight 29 = .ok (.iload_n 2, 1) := by decide +kernel
theorem dX6_weight_30 : decode cX6_weight 30 = .ok (.ishl, 1) := by decide +kernel
theorem dX6_weight_31 : decode cX6_weight 31 = .ok (.invokevirtual 96, 3) := by decide +kernel
theorem dX6_weight_34 : decode cX6_weight 34 = .ok (.goto 9, 3) := by decide +kernel
theorem dX6_weight_37 : decode cX6_weight 37 = .ok (.aload_n 0, 1) := by decide +kernel
theorem dX6_weight_38 : decode cX6_weight 38 = .ok (.iload_n 1, 1) := by decide +kernel
theorem dX6_weight_39 : decode cX6_weight 39 = .ok (.iload_n 2, 1) := by decide +kernel
theorem dX6_weight_40 : decode cX6_weight 40 = .ok (.invokevirtual 90, 3) := by decide +kernel
theorem dX6_weight_43 : decode cX6_weight 43 = .ok (.ireturn, 1) := by decide +kernel
theorem dX6_value_0 : decode cX6_value 0 = .ok (.aload_n 0, 1) := by decide +kernel
theorem dX6_value_1 : decode cX6_value 1 = .ok (.iload_n 1, 1) := by decide +kernel
theorem dX6_value_2 : decode cX6_value 2 = .ok (.invokevirtual 124, 3) := by decide +kernel
theorem dX6_value_5 : decode cX6_value 5 = .ok (.ifCond .eq 5, 3) := by decide +kernel
theorem dX6_value_8 : decode cX6_value 8 = .ok (.iconst (-1), 1) := by decide +kernel
theorem dX6_value_9 : decode cX6_value 9 = .ok (.ireturn, 1) := by decide +kernel
theorem dX6_value_10 : decode cX6_value 10 = .ok (.aload_n 0, 1) := by decide +kernel
theorem dX6_value_11 : decode cX6_value 11 = .ok (.iload_n 2, 1) := by decide +kernel
theorem dX6_value_12 : decode cX6_value 12 = .ok (.invokevirtual 147, 3) := by decide +kernel
theorem dX6_value_15 : decode cX6_value 15 = .ok (.ifCond .eq 6, 3) := by decide +kernel
theorem dX6_value_18 : decode cX6_value 18 = .ok (.bipush (-2), 2) := by decide +kernel
theorem dX6_value_20 : decode cX6_value 20 = .ok (.ireturn, 1) := by decide +kernel
theorem dX6_value_21 : decode cX6_value 21 = .ok (.aload_n 0, 1) := by decide +kernel
theorem dX6_value_22 : decode cX6_value 22 = .ok (.iload_n 1, 1) := by decide +kernel
theorem dX6_value_23 : decode cX6_value 23 = .ok (.invokevirtual 93, 3) := by decide +kernel
theorem dX6_value_26 : decode cX6_value 26 = .ok (.ifCond .eq 12, 3) := by decide +kernel
theorem dX6_value_29 : decode cX6_value 29 = .ok (.aload_n 0, 1) := by decide +kernel
theorem dX6_value_30 : decode cX6_value 30 = .ok (.iload_n 1, 1) := by decide +kernel
theorem dX6_value_31 : decode cX6_value 31 = .ok (.iload_n 2, 1) := by decide +kernel
theorem dX6_value_32 : decode cX6_value 32 = .ok (.invokevirtual 96, 3) := by decide +kernel
theorem dX6_value_35 : decode cX6_value 35 = .ok (.goto 12, 3) := by decide +kernel
theorem dX6_value_38 : decode cX6_value 38 = .ok (.ldc 157, 2) := by decide +kernel
theorem dX6_value_40 : decode cX6_value 40 = .ok (.aload_n 0, 1) := by decide +kernel
theorem dX6_value_41 : decode cX6_value 41 = .ok (.iload_n 1, 1) := by decide +kernel
theorem dX6_value_42 : decode cX6_value 42 = .ok (.iload_n 2, 1) := by decide +kernel
theorem dX6_value_43 : decode cX6_value 43 = .ok (.invokevirtual 99, 3) := by decide +kernel
theorem dX6_value_46 : decode cX6_value 46 = .ok (.iadd, 1) := by decide +kernel
theorem dX6_value_47 : decode cX6_value 47 = .ok (.ireturn, 1) := by decide +kernel
theorem dX6_master_0 : decode cX6_master 0 = .ok (.iload_n 1, 1) := by decide +kernel
theorem dX6_master_1 : decode cX6_master 1 = .ok (.iconst 0, 1) := by decide +kernel
theorem dX6_master_2 : decode cX6_master 2 = .ok (.iconst 4, 1) := by decide +kernel
theorem dX6_master_3 : decode cX6_master 3 = .ok (.invokestatic 46, 3) := by decide +kernel
theorem dX6_master_6 : decode cX6_master 6 = .ok (.ifCond .ne 6, 3) := by decide +kernel
theorem dX6_master_9 : decode cX6_master 9 = .ok (.bipush (-2), 2) := by decide +kernel
theorem dX6_master_11 : decode cX6_master 11 = .ok (.ireturn, 1) := by decide +kernel
theorem dX6_master_12 : decode cX6_master 12 = .ok (.iload_n 1, 1) := by decide +kernel
theorem dX6_master_13 : decode cX6_master 13 = .ok (.iconst 2, 1) := by decide +kernel
theorem dX6_master_14 : decode cX6_master 14 = .ok (.if_icmp .eq 8, 3) := by decide +kernel
theorem dX6_master_17 : decode cX6_master 17 = .ok (.iload_n 1, 1) := by decide +kernel
theorem dX6_master_18 : decode cX6_master 18 = .ok (.iconst 3, 1) := by decide +kernel
theorem dX6_master_19 : decode cX6_master 19 = .ok (.if_icmp .ne 7, 3) := by decide +kernel
theorem dX6_master_22 : decode cX6_master 22 = .ok (.iconst 0, 1) := by decide +kernel
theorem dX6_master_23 : decode cX6_master 23 = .ok (.goto 7, 3) := by decide +kernel
theorem dX6_master_26 : decode cX6_master 26 = .ok (.aload_n 0, 1) := by decide +kernel
theorem dX6_master_27 : decode cX6_master 27 = .ok (.invokevirtual 111, 3) := by decide +kernel
theorem dX6_master_30 : decode cX6_master 30 = .ok (.istore_n 2, 1) := by decide +kernel
theorem dX6_master_31 : decode cX6_master 31 = .ok (.aload_n 0, 1) := by decide +kernel
theorem dX6_master_32 : decode cX6_master 32 = .ok (.getfield 7, 3) := by decide +kernel
theorem dX6_master_35 : decode cX6_master 35 = .ok (.iconst 4, 1) := by decide +kernel
theorem dX6_master_36 : decode cX6_master 36 = .ok (.iaload, 1) := by decide +kernel
theorem dX6_master_37 : decode cX6_master 37 = .ok (.istore_n 3, 1) := by decide +kernel
theorem dX6_master_38 : decode cX6_master 38 = .ok (.iload_n 2, 1) := by decide +kernel
theorem dX6_master_39 : decode cX6_master 39 = .ok (.ifCond .lt 12, 3) := by decide +kernel
theorem dX6_master_42 : decode cX6_master 42 = .ok (.iload_n 1, 1) := by decide +kernel
theorem dX6_master_43 : decode cX6_master 43 = .ok (.iconst 1, 1) := by decide +kernel
theorem dX6_master_44 : decode cX6_master 44 = .ok (.if_icmp .le 10, 3) := by decide +kernel
theorem dX6_master_47 : decode cX6_master 47 = .ok (.iload_n 3, 1) := by decide +kernel
theorem dX6_master_48 : decode cX6_master 48 = .ok (.ifCond .ge 6, 3) := by decide +kernel
theorem dX6_master_51 : decode cX6_master 51 = .ok (.bipush (-5), 2) := by decide +kernel
theorem dX6_master_53 : decode cX6_master 53 = .ok (.ireturn, 1) := by decide +kernel
theorem dX6_master_54 : decode cX6_master 54 = .ok (.aload_n 0, 1) := by decide +kernel
theorem dX6_master_55 : decode cX6_master 55 = .ok (.iload_n 2, 1) := by decide +kernel
theorem dX6_master_56 : decode cX6_master 56 = .ok (.invokevirtual 108, 3) := by decide +kernel
theorem dX6_master_59 : decode cX6_master 59 = .ok (.istore 4, 2) := by decide +kernel
theorem dX6_master_61 : decode cX6_master 61 = .ok (.iload_n 1, 1) := by decide +kernel
theorem dX6_master_62 : decode cX6_master 62 = .ok (.iconst 1, 1) := by decide +kernel
theorem dX6_master_63 : decode cX6_master 63 = .ok (.if_icmp .le 17, 3) := by decide +kernel
theorem dX6_master_66 : decode cX6_master 66 = .ok (.aload_n 0, 1) := by decide +kernel
theorem dX6_master_67 : decode cX6_master 67 = .ok (.iload_n 3, 1) := by decide +kernel
theorem dX6_master_68 : decode cX6_master 68 = .ok (.invokevirtual 102, 3) := by decide +kernel
theorem dX6_master_71 : decode cX6_master 71 = .ok (.aload_n 0, 1) := by decide +kernel
theorem dX6_master_72 : decode cX6_master 72 = .ok (.iload_n 3, 1) := by decide +kernel
theorem dX6_master_73 : decode cX6_master 73 = .ok (.invokevirtual 115, 3) := by decide +kernel
theorem dX6_master_76 : decode cX6_master 76 = .ok (.iadd, 1) := by decide +kernel
theorem dX6_master_77 : decode cX6_master 77 = .ok (.goto 4, 3) := by decide +kernel
theorem dX6_master_80 : decode cX6_master 80 = .ok (.iconst 0, 1) := by decide +kernel
theorem dX6_master_81 : decode cX6_master 81 = .ok (.istore 5, 2) := by decide +kernel
theorem dX6_master_83 : decode cX6_master 83 = .ok (.iload_n 1, 1) := by decide +kernel
theorem dX6_master_84 : decode cX6_master 84 = .ok (.ifCond .ne 7, 3) := by decide +kernel
theorem dX6_master_87 : decode cX6_master 87 = .ok (.iload_n 2, 1) := by decide +kernel
theorem dX6_master_88 : decode cX6_master 88 = .ok (.goto 37, 3) := by decide +kernel
theorem dX6_master_91 : decode cX6_master 91 = .ok (.iload_n 1, 1) := by decide +kernel
theorem dX6_master_92 : decode cX6_master 92 = .ok (.iconst 1, 1) := by decide +kernel
theorem dX6_master_93 : decode cX6_master 93 = .ok (.if_icmp .ne 8, 3) := by decide +kernel
theorem dX6_master_96 : decode cX6_master 96 = .ok (.iload 4, 2) := by decide +kernel
theorem dX6_master_98 : decode cX6_master 98 = .ok (.goto 27, 3) := by decide +kernel
theorem dX6_master_101 : decode cX6_master 101 = .ok (.iload_n 1, 1) := by decide +kernel
theorem dX6_master_102 : decode cX6_master 102 = .ok (.iconst 2, 1) := by decide +kernel
theorem dX6_master_103 : decode cX6_master 103 = .ok (.if_icmp .ne 7, 3) := by decide +kernel
theorem dX6_master_106 : decode cX6_master 106 = .ok (.iload_n 3, 1) := by decide +kernel
theorem dX6_master_107 : decode cX6_master 107 = .ok (.goto 18, 3) := by decide +kernel
theorem dX6_master_110 : decode cX6_master 110 = .ok (.iload_n 1, 1) := by decide +kernel
theorem dX6_master_111 : decode cX6_master 111 = .ok (.iconst 3, 1) := by decide +kernel
theorem dX6_master_112 : decode cX6_master 112 = .ok (.if_icmp .ne 8, 3) := by decide +kernel
theorem dX6_master_115 : decode cX6_master 115 = .ok (.iload 5, 2) := by decide +kernel
theorem dX6_master_117 : decode cX6_master 117 = .ok (.goto 8, 3) := by decide +kernel
theorem dX6_master_120 : decode cX6_master 120 = .ok (.iload 5, 2) := by decide +kernel
theorem dX6_master_122 : decode cX6_master 122 = .ok (.iload 4, 2) := by decide +kernel
theorem dX6_master_124 : decode cX6_master 124 = .ok (.isub, 1) := by decide +kernel
theorem dX6_master_125 : decode cX6_master 125 = .ok (.ireturn, 1) := by decide +kernel
theorem dX6_byAll_0 : decode cX6_byAll 0 = .ok (.iload_n 1, 1) := by decide +kernel
theorem dX6_byAll_1 : decode cX6_byAll 1 = .ok (.iconst 0, 1) := by decide +kernel
theorem dX6_byAll_2 : decode cX6_byAll 2 = .ok (.iconst 2, 1) := by decide +kernel
theorem dX6_byAll_3 : decode cX6_byAll 3 = .ok (.invokestatic 46, 3) := by decide +kernel
theorem dX6_byAll_6 : decode cX6_byAll 6 = .ok (.ifCond .ne 6, 3) := by decide +kernel
theorem dX6_byAll_9 : decode cX6_byAll 9 = .ok (.bipush (-2), 2) := by decide +kernel
theorem dX6_byAll_11 : decode cX6_byAll 11 = .ok (.ireturn, 1) := by decide +kernel
theorem dX6_byAll_12 : decode cX6_byAll 12 = .ok (.bipush (-5), 2) := by decide +kernel
theorem dX6_byAll_14 : decode cX6_byAll 14 = .ok (.istore_n 2, 1) := by decide +kernel
theorem dX6_byAll_15 : decode cX6_byAll 15 = .ok (.iconst 0, 1) := by decide +kernel
theorem dX6_byAll_16 : decode cX6_byAll 16 = .ok (.istore_n 3, 1) := by decide +kernel
theorem dX6_byAll_17 : decode cX6_byAll 17 = .ok (.iconst 0, 1) := by decide +kernel
theorem dX6_byAll_18 : decode cX6_byAll 18 = .ok (.istore 4, 2) := by decide +kernel
theorem dX6_byAll_20 : decode cX6_byAll 20 = .ok (.iconst 0, 1) := by decide +kernel
theorem dX6_byAll_21 : decode cX6_byAll 21 = .ok (.istore 5, 2) := by decide +kernel
theorem dX6_byAll_23 : decode cX6_byAll 23 = .ok (.iload 5, 2) := by decide +kernel
theorem dX6_byAll_25 : decode cX6_byAll 25 = .ok (.iconst 1, 1) := by decide +kernel
theorem dX6_byAll_26 : decode cX6_byAll 26 = .ok (.aload_n 0, 1) := by decide +kernel
theorem dX6_byAll_27 : decode cX6_byAll 27 = .ok (.getfield 7, 3) := by decide +kernel
theorem dX6_byAll_30 : decode cX6_byAll 30 = .ok (.iconst 0, 1) := by decide +kernel
theorem dX6_byAll_31 : decode cX6_byAll 31 = .ok (.iaload, 1) := by decide +kernel
theorem dX6_byAll_32 : decode cX6_byAll 32 = .ok (.ishl, 1) := by decide +kernel
theorem dX6_byAll_33 : decode cX6_byAll 33 = .ok (.if_icmp .ge 52, 3) := by decide +kernel
theorem dX6_byAll_36 : decode cX6_byAll 36 = .ok (.aload_n 0, 1) := by decide +kernel
theorem dX6_byAll_37 : decode cX6_byAll 37 = .ok (.iload 5, 2) := by decide +kernel
theorem dX6_byAll_39 : decode cX6_byAll 39 = .ok (.invokevirtual 150, 3) := by decide +kernel
theorem dX6_byAll_42 : decode cX6_byAll 42 = .ok (.ifCond .eq 37, 3) := by decide +kernel
theorem dX6_byAll_45 : decode cX6_byAll 45 = .ok (.aload_n 0, 1) := by decide +kernel
theorem dX6_byAll_46 : decode cX6_byAll 46 = .ok (.iload 5, 2) := by decide +kernel
theorem dX6_byAll_48 : decode cX6_byAll 48 = .ok (.invokevirtual 102, 3) := by decide +kernel
theorem dX6_byAll_51 : decode cX6_byAll 51 = .ok (.aload_n 0, 1) := by decide +kernel
theorem dX6_byAll_52 : decode cX6_byAll 52 = .ok (.iload 5, 2) := by decide +kernel
theorem dX6_byAll_54 : decode cX6_byAll 54 = .ok (.invokevirtual 115, 3) := by decide +kernel
theorem dX6_byAll_57 : decode cX6_byAll 57 = .ok (.iadd, 1) := by decide +kernel
theorem dX6_byAll_58 : decode cX6_byAll 58 = .ok (.istore 6, 2) := by decide +kernel
theorem dX6_byAll_60 : decode cX6_byAll 60 = .ok (.iload_n 2, 1) := by decide +kernel
theorem dX6_byAll_61 : decode cX6_byAll 61 = .ok (.ifCond .lt 9, 3) := by decide +kernel
theorem dX6_byAll_64 : decode cX6_byAll 64 = .ok (.iload 6, 2) := by decide +kernel
theorem dX6_byAll_66 : decode cX6_byAll 66 = .ok (.iload_n 3, 1) := by decide +kernel
theorem dX6_byAll_67 : decode cX6_byAll 67 = .ok (.if_icmp .ge 9, 3) := by decide +kernel
theorem dX6_byAll_70 : decode cX6_byAll 70 = .ok (.iload 5, 2) := by decide +kernel
theorem dX6_byAll_72 : decode cX6_byAll 72 = .ok (.istore_n 2, 1) := by decide +kernel
theorem dX6_byAll_73 : decode cX6_byAll 73 = .ok (.iload 6, 2) := by decide +kernel
theorem dX6_byAll_75 : decode cX6_byAll 75 = .ok (.istore_n 3, 1) := by decide +kernel
theorem dX6_byAll_76 : decode cX6_byAll 76 = .ok (.iinc 4 1, 3) := by decide +kernel
theorem dX6_byAll_79 : decode cX6_byAll 79 = .ok (.iinc 5 1, 3) := by decide +kernel
theorem dX6_byAll_82 : decode cX6_byAll 82 = .ok (.goto (-59), 3) := by decide +kernel
theorem dX6_byAll_85 : decode cX6_byAll 85 = .ok (.iload_n 1, 1) := by decide +kernel
theorem dX6_byAll_86 : decode cX6_byAll 86 = .ok (.iconst 2, 1) := by decide +kernel
theorem dX6_byAll_87 : decode cX6_byAll 87 = .ok (.if_icmp .ne 8, 3) := by decide +kernel
theorem dX6_byAll_90 : decode cX6_byAll 90 = .ok (.iload 4, 2) := by decide +kernel
theorem dX6_byAll_92 : decode cX6_byAll 92 = .ok (.goto 21, 3) := by decide +kernel
theorem dX6_byAll_95 : decode cX6_byAll 95 = .ok (.iload_n 2, 1) := by decide +kernel
theorem dX6_byAll_96 : decode cX6_byAll 96 = .ok (.ifCond .ge 8, 3) := by decide +kernel
theorem dX6_byAll_99 : decode cX6_byAll 99 = .ok (.bipush (-5), 2) := by decide +kernel
theorem dX6_byAll_101 : decode cX6_byAll 101 = .ok (.goto 12, 3) := by decide +kernel
theorem dX6_byAll_104 : decode cX6_byAll 104 = .ok (.iload_n 1, 1) := by decide +kernel
theorem dX6_byAll_105 : decode cX6_byAll 105 = .ok (.ifCond .ne 7, 3) := by decide +kernel
theorem dX6_byAll_108 : decode cX6_byAll 108 = .ok (.iload_n 2, 1) := by decide +kernel
theorem dX6_byAll_109 : decode cX6_byAll 109 = .ok (.goto 4, 3) := by decide +kernel
theorem dX6_byAll_112 : decode cX6_byAll 112 = .ok (.iload_n 3, 1) := by decide +kernel
theorem dX6_byAll_113 : decode cX6_byAll 113 = .ok (.ireturn, 1) := by decide +kernel
theorem dX6_rays_0 : decode cX6_rays 0 = .ok (.iconst 0, 1) := by decide +kernel
theorem dX6_rays_1 : decode cX6_rays 1 = .ok (.istore_n 1, 1) := by decide +kernel
theorem dX6_rays_2 : decode cX6_rays 2 = .ok (.iconst 0, 1) := by decide +kernel
theorem dX6_rays_3 : decode cX6_rays 3 = .ok (.istore_n 2, 1) := by decide +kernel
theorem dX6_rays_4 : decode cX6_rays 4 = .ok (.iload_n 2, 1) := by decide +kernel
theorem dX6_rays_5 : decode cX6_rays 5 = .ok (.aload_n 0, 1) := by decide +kernel
theorem dX6_rays_6 : decode cX6_rays 6 = .ok (.getfield 7, 3) := by decide +kernel
theorem dX6_rays_9 : decode cX6_rays 9 = .ok (.iconst 3, 1) := by decide +kernel
theorem dX6_rays_10 : decode cX6_rays 10 = .ok (.iaload, 1) := by decide +kernel
theorem dX6_rays_11 : decode cX6_rays 11 = .ok (.if_icmp .ge 25, 3) := by decide +kernel
theorem dX6_rays_14 : decode cX6_rays 14 = .ok (.iload_n 1, 1) := by decide +kernel
theorem dX6_rays_15 : decode cX6_rays 15 = .ok (.aload_n 0, 1) := by decide +kernel
theorem dX6_rays_16 : decode cX6_rays 16 = .ok (.iload_n 2, 1) := by decide +kernel
theorem dX6_rays_17 : decode cX6_rays 17 = .ok (.invokevirtual 93, 3) := by decide +kernel
theorem dX6_rays_20 : decode cX6_rays 20 = .ok (.ifCond .eq 7, 3) := by decide +kernel
theorem dX6_rays_23 : decode cX6_rays 23 = .ok (.iconst 1, 1) := by decide +kernel
theorem dX6_rays_24 : decode cX6_rays 24 = .ok (.goto 4, 3) := by decide +kernel
theorem dX6_rays_27 : decode cX6_rays 27 = .ok (.iconst 0, 1) := by decide +kernel
theorem dX6_rays_28 : decode cX6_rays 28 = .ok (.iadd, 1) := by decide +kernel
theorem dX6_rays_29 : decode cX6_rays 29 = .ok (.istore_n 1, 1) := by decide +kernel
theorem dX6_rays_30 : decode cX6_rays 30 = .ok (.iinc 2 1, 3) := by decide +kernel
theorem dX6_rays_33 : decode cX6_rays 33 = .ok (.goto (-29), 3) := by decide +kernel
theorem dX6_rays_36 : decode cX6_rays 36 = .ok (.iload_n 1, 1) := by decide +kernel
theorem dX6_rays_37 : decode cX6_rays 37 = .ok (.ireturn, 1) := by decide +kernel
theorem dX6_pairs_0 : decode cX6_pairs 0 = .ok (.iconst 0, 1) := by decide +kernel
theorem dX6_pairs_1 : decode cX6_pairs 1 = .ok (.istore_n 1, 1) := by decide +kernel
theorem dX6_pairs_2 : decode cX6_pairs 2 = .ok (.iconst 0, 1) := by decide +kernel
theorem dX6_pairs_3 : decode cX6_pairs 3 = .ok (.istore_n 2, 1) := by decide +kernel
theorem dX6_pairs_4 : decode cX6_pairs 4 = .ok (.iload_n 2, 1) := by decide +kernel
theorem dX6_pairs_5 : decode cX6_pairs 5 = .ok (.aload_n 0, 1) := by decide +kernel
theorem dX6_pairs_6 : decode cX6_pairs 6 = .ok (.getfield 7, 3) := by decide +kernel
theorem dX6_pairs_9 : decode cX6_pairs 9 = .ok (.iconst 0, 1) := by decide +kernel
theorem dX6_pairs_10 : decode cX6_pairs 10 = .ok (.iaload, 1) := by decide +kernel
theorem dX6_pairs_11 : decode cX6_pairs 11 = .ok (.if_icmp .ge 24, 3) := by decide +kernel
theorem dX6_pairs_14 : decode cX6_pairs 14 = .ok (.iload_n 1, 1) := by decide +kernel
theorem dX6_pairs_15 : decode cX6_pairs 15 = .ok (.aload_n 0, 1) := by decide +kernel
theorem dX6_pairs_16 : decode cX6_pairs 16 = .ok (.getfield 7, 3) := by decide +kernel
theorem dX6_pairs_19 : decode cX6_pairs 19 = .ok (.bipush 77, 2) := by decide +kernel
theorem dX6_pairs_21 : decode cX6_pairs 21 = .ok (.iload_n 2, 1) := by decide +kernel
theorem dX6_pairs_22 : decode cX6_pairs 22 = .ok (.iadd, 1) := by decide +kernel
theorem dX6_pairs_23 : decode cX6_pairs 23 = .ok (.iaload, 1) := by decide +kernel
theorem dX6_pairs_24 : decode cX6_pairs 24 = .ok (.invokestatic 71, 3) := by decide +kernel
theorem dX6_pairs_27 : decode cX6_pairs 27 = .ok (.iadd, 1) := by decide +kernel
theorem dX6_pairs_28 : decode cX6_pairs 28 = .ok (.istore_n 1, 1) := by decide +kernel
theorem dX6_pairs_29 : decode cX6_pairs 29 = .ok (.iinc 2 1, 3) := by decide +kernel
theorem dX6_pairs_32 : decode cX6_pairs 32 = .ok (.goto (-28), 3) := by decide +kernel
theorem dX6_pairs_35 : decode cX6_pairs 35 = .ok (.iload_n 1, 1) := by decide +kernel
theorem dX6_pairs_36 : decode cX6_pairs 36 = .ok (.iconst 2, 1) := by decide +kernel
theorem dX6_pairs_37 : decode cX6_pairs 37 = .ok (.idiv, 1) := by decide +kernel
theorem dX6_pairs_38 : decode cX6_pairs 38 = .ok (.ireturn, 1) := by decide +kernel
theorem dX6_allRoutes_0 : decode cX6_allRoutes 0 = .ok (.iconst 0, 1) := by decide +kernel
theorem dX6_allRoutes_1 : decode cX6_allRoutes 1 = .ok (.istore_n 1, 1) := by decide +kernel
theorem dX6_allRoutes_2 : decode cX6_allRoutes 2 = .ok (.iconst 0, 1) := by decide +kernel
theorem dX6_allRoutes_3 : decode cX6_allRoutes 3 = .ok (.istore_n 2, 1) := by decide +kernel
theorem dX6_allRoutes_4 : decode cX6_allRoutes 4 = .ok (.iload_n 2, 1) := by decide +kernel
theorem dX6_allRoutes_5 : decode cX6_allRoutes 5 = .ok (.bipush 56, 2) := by decide +kernel
theorem dX6_allRoutes_7 : decode cX6_allRoutes 7 = .ok (.if_icmp .ge 31, 3) := by decide +kernel
theorem dX6_allRoutes_10 : decode cX6_allRoutes 10 = .ok (.iload_n 1, 1) := by decide +kernel
theorem dX6_allRoutes_11 : decode cX6_allRoutes 11 = .ok (.aload_n 0, 1) := by decide +kernel
theorem dX6_allRoutes_12 : decode cX6_allRoutes 12 = .ok (.getfield 7, 3) := by decide +kernel
theorem dX6_allRoutes_15 : decode cX6_allRoutes 15 = .ok (.bipush 21, 2) := by decide +kernel
theorem dX6_allRoutes_17 : decode cX6_allRoutes 17 = .ok (.iload_n 2, 1) := by decide +kernel
theorem dX6_allRoutes_18 : decode cX6_allRoutes 18 = .ok (.iadd, 1) := by decide +kernel
theorem dX6_allRoutes_19 : decode cX6_allRoutes 19 = .ok (.iaload, 1) := by decide +kernel
theorem dX6_allRoutes_20 : decode cX6_allRoutes 20 = .ok (.bipush 100, 2) := by decide +kernel
theorem dX6_allRoutes_22 : decode cX6_allRoutes 22 = .ok (.if_icmp .ge 7, 3) := by decide +kernel
theorem dX6_allRoutes_25 : decode cX6_allRoutes 25 = .ok (.iconst 1, 1) := by decide +kernel
theorem dX6_allRoutes_26 : decode cX6_allRoutes 26 = .ok (.goto 4, 3) := by decide +kernel
theorem dX6_allRoutes_29 : decode cX6_allRoutes 29 = .ok (.iconst 0, 1) := by decide +kernel
theorem dX6_allRoutes_30 : decode cX6_allRoutes 30 = .ok (.iadd, 1) := by decide +kernel
theorem dX6_allRoutes_31 : decode cX6_allRoutes 31 = .ok (.istore_n 1, 1) := by decide +kernel
theorem dX6_allRoutes_32 : decode cX6_allRoutes 32 = .ok (.iinc 2 1, 3) := by decide +kernel
theorem dX6_allRoutes_35 : decode cX6_allRoutes 35 = .ok (.goto (-31), 3) := by decide +kernel
theorem dX6_allRoutes_38 : decode cX6_allRoutes 38 = .ok (.iload_n 1, 1) := by decide +kernel
theorem dX6_allRoutes_39 : decode cX6_allRoutes 39 = .ok (.ireturn, 1) := by decide +kernel
theorem dX6_count_0 : decode cX6_count 0 = .ok (.iload_n 1, 1) := by decide +kernel
theorem dX6_count_1 : decode cX6_count 1 = .ok (.tableswitch 115 0 9 #[55, 62, 69, 74, 81, 86, 93, 98, 105, 110], 55) := by decide +kernel
theorem dX6_count_56 : decode cX6_count 56 = .ok (.aload_n 0, 1) := by decide +kernel
theorem dX6_count_57 : decode cX6_count 57 = .ok (.getfield 7, 3) := by decide +kernel
theorem dX6_count_60 : decode cX6_count 60 = .ok (.iconst 0, 1) := by decide +kernel
theorem dX6_count_61 : decode cX6_count 61 = .ok (.iaload, 1) := by decide +kernel
theorem dX6_count_62 : decode cX6_count 62 = .ok (.ireturn, 1) := by decide +kernel
theorem dX6_count_63 : decode cX6_count 63 = .ok (.aload_n 0, 1) := by decide +kernel
theorem dX6_count_64 : decode cX6_count 64 = .ok (.getfield 7, 3) := by decide +kernel
theorem dX6_count_67 : decode cX6_count 67 = .ok (.iconst 1, 1) := by decide +kernel
theorem dX6_count_68 : decode cX6_count 68 = .ok (.iaload, 1) := by decide +kernel
theorem dX6_count_69 : decode cX6_count 69 = .ok (.ireturn, 1) := by decide +kernel
theorem dX6_count_70 : decode cX6_count 70 = .ok (.aload_n 0, 1) := by decide +kernel
theorem dX6_count_71 : decode cX6_count 71 = .ok (.invokevirtual 158, 3) := by decide +kernel
theorem dX6_count_74 : decode cX6_count 74 = .ok (.ireturn, 1) := by decide +kernel
theorem dX6_count_75 : decode cX6_count 75 = .ok (.aload_n 0, 1) := by decide +kernel
theorem dX6_count_76 : decode cX6_count 76 = .ok (.getfield 7, 3) := by decide +kernel
theorem dX6_count_79 : decode cX6_count 79 = .ok (.iconst 2, 1) := by decide +kernel
theorem dX6_count_80 : decode cX6_count 80 = .ok (.iaload, 1) := by decide +kernel
theorem dX6_count_81 : decode cX6_count 81 = .ok (.ireturn, 1) := by decide +kernel
theorem dX6_count_82 : decode cX6_count 82 = .ok (.aload_n 0, 1) := by decide +kernel
theorem dX6_count_83 : decode cX6_count 83 = .ok (.invokevirtual 161, 3) := by decide +kernel
theorem dX6_count_86 : decode cX6_count 86 = .ok (.ireturn, 1) := by decide +kernel
theorem dX6_count_87 : decode cX6_count 87 = .ok (.aload_n 0, 1) := by decide +kernel
theorem dX6_count_88 : decode cX6_count 88 = .ok (.getfield 7, 3) := by decide +kernel
theorem dX6_count_91 : decode cX6_count 91 = .ok (.iconst 3, 1) := by decide +kernel
theorem dX6_count_92 : decode cX6_count 92 = .ok (.iaload, 1) := by decide +kernel
theorem dX6_count_93 : decode cX6_count 93 = .ok (.ireturn, 1) := by decide +kernel
theorem dX6_count_94 : decode cX6_count 94 = .ok (.aload_n 0, 1) := by decide +kernel
theorem dX6_count_95 : decode cX6_count 95 = .ok (.invokevirtual 164, 3) := by decide +kernel
theorem dX6_count_98 : decode cX6_count 98 = .ok (.ireturn, 1) := by decide +kernel
theorem dX6_count_99 : decode cX6_count 99 = .ok (.aload_n 0, 1) := by decide +kernel
theorem dX6_count_100 : decode cX6_count 100 = .ok (.getfield 7, 3) := by decide +kernel
theorem dX6_count_103 : decode cX6_count 103 = .ok (.iconst 5, 1) := by decide +kernel
theorem dX6_count_104 : decode cX6_count 104 = .ok (.iaload, 1) := by decide +kernel
theorem dX6_count_105 : decode cX6_count 105 = .ok (.ireturn, 1) := by decide +kernel
theorem dX6_count_106 : decode cX6_count 106 = .ok (.aload_n 0, 1) := by decide +kernel
theorem dX6_count_107 : decode cX6_count 107 = .ok (.getfield 29, 3) := by decide +kernel
theorem dX6_count_110 : decode cX6_count 110 = .ok (.ireturn, 1) := by decide +kernel
theorem dX6_count_111 : decode cX6_count 111 = .ok (.aload_n 0, 1) := by decide +kernel
theorem dX6_count_112 : decode cX6_count 112 = .ok (.getfield 134, 3) := by decide +kernel
theorem dX6_count_115 : decode cX6_count 115 = .ok (.ireturn, 1) := by decide +kernel
theorem dX6_count_116 : decode cX6_count 116 = .ok (.bipush (-2), 2) := by decide +kernel
theorem dX6_count_118 : decode cX6_count 118 = .ok (.ireturn, 1) := by decide +kernel
end
section
theorem dL_law_0 : decode cL_law 0 = .ok (.new 7, 3) := by decide +kernel
theorem dL_law_3 : decode cL_law 3 = .ok (.dup, 1) := by decide +kernel
theorem dL_law_4 : decode cL_law 4 = .ok (.invokespecial 9, 3) := by decide +kernel
theorem dL_law_7 : decode cL_law 7 = .ok (.astore_n 1, 1) := by decide +kernel
theorem dL_law_8 : decode cL_law 8 = .ok (.new 10, 3) := by decide +kernel
theorem dL_law_11 : decode cL_law 11 = .ok (.dup, 1) := by decide +kernel
theorem dL_law_12 : decode cL_law 12 = .ok (.invokespecial 12, 3) := by decide +kernel
theorem dL_law_15 : decode cL_law 15 = .ok (.astore_n 2, 1) := by decide +kernel
theorem dL_law_16 : decode cL_law 16 = .ok (.iconst 0, 1) := by decide +kernel
theorem dL_law_17 : decode cL_law 17 = .ok (.istore_n 3, 1) := by decide +kernel
theorem dL_law_18 : decode cL_law 18 = .ok (.iload_n 3, 1) := by decide +kernel
theorem dL_law_19 : decode cL_law 19 = .ok (.aload_n 0, 1) := by decide +kernel
theorem dL_law_20 : decode cL_law 20 = .ok (.arraylength, 1) := by decide +kernel
theorem dL_law_21 : decode cL_law 21 = .ok (.iconst 4, 1) := by decide +kernel
theorem dL_law_22 : decode cL_law 22 = .ok (.isub, 1) := by decide +kernel
theorem dL_law_23 : decode cL_law 23 = .ok (.if_icmp .gt 781, 3) := by decide +kernel
theorem dL_law_26 : decode cL_law 26 = .ok (.aload_n 0, 1) := by decide +kernel
theorem dL_law_27 : decode cL_law 27 = .ok (.iload_n 3, 1) := by decide +kernel
theorem dL_law_28 : decode cL_law 28 = .ok (.iaload, 1) := by decide +kernel
theorem dL_law_29 : decode cL_law 29 = .ok (.bipush 31, 2) := by decide +kernel
theorem dL_law_31 : decode cL_law 31 = .ok (.iand, 1) := by decide +kernel
theorem dL_law_32 : decode cL_law 32 = .ok (.tableswitch 766 0 25 #[120, 143, 166, 199, 232, 275, 298, 357, 370, 383, 396, 419, 432, 457, 470, 483, 496, 509, 532, 565, 598, 631, 664, 697, 720, 743], 120) := by decide +kernel
theorem dL_law_152 : decode cL_law 152 = .ok (.aload_n 1, 1) := by decide +kernel
theorem dL_law_153 : decode cL_law 153 = .ok (.aload_n 0, 1) := by decide +kernel
theorem dL_law_154 : decode cL_law 154 = .ok (.iload_n 3, 1) := by decide +kernel
theorem dL_law_155 : decode cL_law 155 = .ok (.iconst 1, 1) := by decide +kernel
theorem dL_law_156 : decode cL_law 156 = .ok (.iadd, 1) := by decide +kernel
theorem dL_law_157 : decode cL_law 157 = .ok (.iaload, 1) := by decide +kernel
theorem dL_law_158 : decode cL_law 158 = .ok (.invokevirtual 13, 3) := by decide +kernel
theorem dL_law_161 : decode cL_law 161 = .ok (.aload_n 2, 1) := by decide +kernel
theorem dL_law_162 : decode cL_law 162 = .ok (.aload_n 0, 1) := by decide +kernel
theorem dL_law_163 : decode cL_law 163 = .ok (.iload_n 3, 1) := by decide +kernel
theorem dL_law_164 : decode cL_law 164 = .ok (.iconst 1, 1) := by decide +kernel
theorem dL_law_165 : decode cL_law 165 = .ok (.iadd, 1) := by decide +kernel
theorem dL_law_166 : decode cL_law 166 = .ok (.iaload, 1) := by decide +kernel
theorem dL_law_167 : decode cL_law 167 = .ok (.invokevirtual 17, 3) := by decide +kernel
theorem dL_law_170 : decode cL_law 170 = .ok (.if_icmp .eq 628, 3) := by decide +kernel
theorem dL_law_173 : decode cL_law 173 = .ok (.iconst 0, 1) := by decide +kernel
theorem dL_law_174 : decode cL_law 174 = .ok (.ireturn, 1) := by decide +kernel
theorem dL_law_175 : decode cL_law 175 = .ok (.aload_n 1, 1) := by decide +kernel
theorem dL_law_176 : decode cL_law 176 = .ok (.aload_n 0, 1) := by decide +kernel
theorem dL_law_177 : decode cL_law 177 = .ok (.iload_n 3, 1) := by decide +kernel
theorem dL_law_178 : decode cL_law 178 = .ok (.iconst 1, 1) := by decide +kernel
theorem dL_law_179 : decode cL_law 179 = .ok (.iadd, 1) := by decide +kernel
theorem dL_law_180 : decode cL_law 180 = .ok (.iaload, 1) := by decide +kernel
theorem dL_law_181 : decode cL_law 181 = .ok (.invokevirtual 18, 3) := by decide +kernel
theorem dL_law_184 : decode cL_law 184 = .ok (.aload_n 2, 1) := by decide +kernel
theorem dL_law_185 : decode cL_law 185 = .ok (.aload_n 0, 1) := by decide +kernel
theorem dL_law_186 : decode cL_law 186 = .ok (.iload_n 3, 1) := by decide +kernel
theorem dL_law_187 : decode cL_law 187 = .ok (.iconst 1, 1) := by decide +kernel
theorem dL_law_188 : decode cL_law 188 = .ok (.iadd, 1) := by decide +kernel
theorem dL_law_189 : decode cL_law 189 = .ok (.iaload, 1) := by decide +kernel
theorem dL_law_190 : decode cL_law 190 = .ok (.invokevirtual 21, 3) := by decide +kernel
theorem dL_law_193 : decode cL_law 193 = .ok (.if_icmp .eq 605, 3) := by decide +kernel
theorem dL_law_196 : decode cL_law 196 = .ok (.iconst 0, 1) := by decide +kernel
theorem dL_law_197 : decode cL_law 197 = .ok (.ireturn, 1) := by decide +kernel
theorem dL_law_198 : decode cL_law 198 = .ok (.aload_n 1, 1) := by decide +kernel
theorem dL_law_199 : decode cL_law 199 = .ok (.aload_n 0, 1) := by decide +kernel
theorem dL_law_200 : decode cL_law 200 = .ok (.iload_n 3, 1) := by decide +kernel
theorem dL_law_201 : decode cL_law 201 = .ok (.iconst 1, 1) := by decide +kernel
theorem dL_law_202 : decode cL_law 202 = .ok (.iadd, 1) := by decide +kernel
theorem dL_law_203 : decode cL_law 203 = .ok (.iaload, 1) := by decide +kernel
theorem dL_law_204 : decode cL_law 204 = .ok (.aload_n 0, 1) := by decide +kernel
theorem dL_law_205 : decode cL_law 205 = .ok (.iload_n 3, 1) := by decide +kernel
theorem dL_law_206 : decode cL_law 206 = .ok (.iconst 2, 1) := by decide +kernel
theorem dL_law_207 : decode cL_law 207 = .ok (.iadd, 1) := by decide +kernel
theorem dL_law_208 : decode cL_law 208 = .ok (.iaload, 1) := by decide +kernel
theorem dL_law_209 : decode cL_law 209 = .ok (.invokevirtual 22, 3) := by decide +kernel
theorem dL_law_212 : decode cL_law 212 = .ok (.aload_n 2, 1) := by decide +kernel
theorem dL_law_213 : decode cL_law 213 = .ok (.aload_n 0, 1) := by decide +kernel
theorem dL_law_214 : decode cL_law 214 = .ok (.iload_n 3, 1) := by decide +kernel
theorem dL_law_215 : decode cL_law 215 = .ok (.iconst 1, 1) := by decide +kernel
theorem dL_law_216 : decode cL_law 216 = .ok (.iadd, 1) := by decide +kernel
theorem dL_law_217 : decode cL_law 217 = .ok (.iaload, 1) := by decide +kernel
theorem dL_law_218 : decode cL_law 218 = .ok (.aload_n 0, 1) := by decide +kernel
theorem dL_law_219 : decode cL_law 219 = .ok (.iload_n 3, 1) := by decide +kernel
theorem dL_law_220 : decode cL_law 220 = .ok (.iconst 2, 1) := by decide +kernel
theorem dL_law_221 : decode cL_law 221 = .ok (.iadd, 1) := by decide +kernel
theorem dL_law_222 : decode cL_law 222 = .ok (.iaload, 1) := by decide +kernel
theorem dL_law_223 : decode cL_law 223 = .ok (.invokevirtual 26, 3) := by decide +kernel
theorem dL_law_226 : decode cL_law 226 = .ok (.if_icmp .eq 572, 3) := by decide +kernel
theorem dL_law_229 : decode cL_law 229 = .ok (.iconst 0, 1) := by decide +kernel
theorem dL_law_230 : decode cL_law 230 = .ok (.ireturn, 1) := by decide +kernel
theorem dL_law_231 : decode cL_law 231 = .ok (.aload_n 1, 1) := by decide +kernel
theorem dL_law_232 : decode cL_law 232 = .ok (.aload_n 0, 1) := by decide +kernel
theorem dL_law_233 : decode cL_law 233 = .ok (.iload_n 3, 1) := by decide +kernel
theorem dL_law_234 : decode cL_law 234 = .ok (.iconst 1, 1) := by decide +kernel
theorem dL_law_235 : decode cL_law 235 = .ok (.iadd, 1) := by decide +kernel
theorem dL_law_236 : decode cL_law 236 = .ok (.iaload, 1) := by decide +kernel
theorem dL_law_237 : decode cL_law 237 = .ok (.aload_n 0, 1) := by decide +kernel
theorem dL_law_238 : decode cL_law 238 = .ok (.iload_n 3, 1) := by decide +kernel
theorem dL_law_239 : decode cL_law 239 = .ok (.iconst 2, 1) := by decide +kernel
theorem dL_law_240 : decode cL_law 240 = .ok (.iadd, 1) := by decide +kernel
theorem dL_law_241 : decode cL_law 241 = .ok (.iaload, 1) := by decide +kernel
theorem dL_law_242 : decode cL_law 242 = .ok (.invokevirtual 27, 3) := by decide +kernel
theorem dL_law_245 : decode cL_law 245 = .ok (.aload_n 2, 1) := by decide +kernel
theorem dL_law_246 : decode cL_law 246 = .ok (.aload_n 0, 1) := by decide +kernel
theorem dL_law_247 : decode cL_law 247 = .ok (.iload_n 3, 1) := by decide +kernel
theorem dL_law_248 : decode cL_law 248 = .ok (.iconst 1, 1) := by decide +kernel
theorem dL_law_249 : decode cL_law 249 = .ok (.iadd, 1) := by decide +kernel
theorem dL_law_250 : decode cL_law 250 = .ok (.iaload, 1) := by decide +kernel
theorem dL_law_251 : decode cL_law 251 = .ok (.aload_n 0, 1) := by decide +kernel
theorem dL_law_252 : decode cL_law 252 = .ok (.iload_n 3, 1) := by decide +kernel
theorem dL_law_253 : decode cL_law 253 = .ok (.iconst 2, 1) := by decide +kernel
theorem dL_law_254 : decode cL_law 254 = .ok (.iadd, 1) := by decide +kernel
theorem dL_law_255 : decode cL_law 255 = .ok (.iaload, 1) := by decide +kernel
theorem dL_law_256 : decode cL_law 256 = .ok (.invokevirtual 30, 3) := by decide +kernel
theorem dL_law_259 : decode cL_law 259 = .ok (.if_icmp .eq 539, 3) := by decide +kernel
theorem dL_law_262 : decode cL_law 262 = .ok (.iconst 0, 1) := by decide +kernel
theorem dL_law_263 : decode cL_law 263 = .ok (.ireturn, 1) := by decide +kernel
theorem dL_law_264 : decode cL_law 264 = .ok (.aload_n 1, 1) := by decide +kernel
theorem dL_law_265 : decode cL_law 265 = .ok (.aload_n 0, 1) := by decide +kernel
theorem dL_law_266 : decode cL_law 266 = .ok (.iload_n 3, 1) := by decide +kernel
theorem dL_law_267 : decode cL_law 267 = .ok (.iconst 1, 1) := by decide +kernel
theorem dL_law_268 : decode cL_law 268 = .ok (.iadd, 1) := by decide +kernel
theorem dL_law_269 : decode cL_law 269 = .ok (.iaload, 1) := by decide +kernel
theorem dL_law_270 : decode cL_law 270 = .ok (.aload_n 0, 1) := by decide +kernel
theorem dL_law_271 : decode cL_law 271 = .ok (.iload_n 3, 1) := by decide +kernel
theorem dL_law_272 : decode cL_law 272 = .ok (.iconst 2, 1) := by decide +kernel
theorem dL_law_273 : decode cL_law 273 = .ok (.iadd, 1) := by decide +kernel
theorem dL_law_274 : decode cL_law 274 = .ok (.iaload, 1) := by decide +kernel
theorem dL_law_275 : decode cL_law 275 = .ok (.aload_n 0, 1) := by decide +kernel
theorem dL_law_276 : decode cL_law 276 = .ok (.iload_n 3, 1) := by decide +kernel
theorem dL_law_277 : decode cL_law 277 = .ok (.iconst 3, 1) := by decide +kernel
theorem dL_law_278 : decode cL_law 278 = .ok (.iadd, 1) := by decide +kernel
theorem dL_law_279 : decode cL_law 279 = .ok (.iaload, 1) := by decide +kernel
theorem dL_law_280 : decode cL_law 280 = .ok (.invokevirtual 31, 3) := by decide +kernel
theorem dL_law_283 : decode cL_law 283 = .ok (.aload_n 2, 1) := by decide +kernel
theorem dL_law_284 : decode cL_law 284 = .ok (.aload_n 0, 1) := by decide +kernel
theorem dL_law_285 : decode cL_law 285 = .ok (.iload_n 3, 1) := by decide +kernel
theorem dL_law_286 : decode cL_law 286 = .ok (.iconst 1, 1) := by decide +kernel
theorem dL_law_287 : decode cL_law 287 = .ok (.iadd, 1) := by decide +kernel
theorem dL_law_288 : decode cL_law 288 = .ok (.iaload, 1) := by decide +kernel
theorem dL_law_289 : decode cL_law 289 = .ok (.aload_n 0, 1) := by decide +kernel
theorem dL_law_290 : decode cL_law 290 = .ok (.iload_n 3, 1) := by decide +kernel
theorem dL_law_291 : decode cL_law 291 = .ok (.iconst 2, 1) := by decide +kernel
theorem dL_law_292 : decode cL_law 292 = .ok (.iadd, 1) := by decide +kernel
theorem dL_law_293 : decode cL_law 293 = .ok (.iaload, 1) := by decide +kernel
theorem dL_law_294 : decode cL_law 294 = .ok (.aload_n 0, 1) := by decide +kernel
theorem dL_law_295 : decode cL_law 295 = .ok (.iload_n 3, 1) := by decide +kernel
theorem dL_law_296 : decode cL_law 296 = .ok (.iconst 3, 1) := by decide +kernel
theorem dL_law_297 : decode cL_law 297 = .ok (.iadd, 1) := by decide +kernel
theorem dL_law_298 : decode cL_law 298 = .ok (.iaload, 1) := by decide +kernel
theorem dL_law_299 : decode cL_law 299 = .ok (.invokevirtual 35, 3) := by decide +kernel
theorem dL_law_302 : decode cL_law 302 = .ok (.if_icmp .eq 496, 3) := by decide +kernel
theorem dL_law_305 : decode cL_law 305 = .ok (.iconst 0, 1) := by decide +kernel
theorem dL_law_306 : decode cL_law 306 = .ok (.ireturn, 1) := by decide +kernel
theorem dL_law_307 : decode cL_law 307 = .ok (.aload_n 1, 1) := by decide +kernel
theorem dL_law_308 : decode cL_law 308 = .ok (.aload_n 0, 1) := by decide +kernel
theorem dL_law_309 : decode cL_law 309 = .ok (.iload_n 3, 1) := by decide +kernel
theorem dL_law_310 : decode cL_law 310 = .ok (.iconst 1, 1) := by decide +kernel
theorem dL_law_311 : decode cL_law 311 = .ok (.iadd, 1) := by decide +kernel
theorem dL_law_312 : decode cL_law 312 = .ok (.iaload, 1) := by decide +kernel
theorem dL_law_313 : decode cL_law 313 = .ok (.invokevirtual 36, 3) := by decide +kernel
theorem dL_law_316 : decode cL_law 316 = .ok (.aload_n 2, 1) := by decide +kernel
theorem dL_law_317 : decode cL_law 317 = .ok (.aload_n 0, 1) := by decide +kernel
theorem dL_law_318 : decode cL_law 318 = .ok (.iload_n 3, 1) := by decide +kernel
theorem dL_law_319 : decode cL_law 319 = .ok (.iconst 1, 1) := by decide +kernel
theorem dL_law_320 : decode cL_law 320 = .ok (.iadd, 1) := by decide +kernel
theorem dL_law_321 : decode cL_law 321 = .ok (.iaload, 1) := by decide +kernel
theorem dL_law_322 : decode cL_law 322 = .ok (.invokevirtual 39, 3) := by decide +kernel
theorem dL_law_325 : decode cL_law 325 = .ok (.if_icmp .eq 473, 3) := by decide +kernel
theorem dL_law_328 : decode cL_law 328 = .ok (.iconst 0, 1) := by decide +kernel
theorem dL_law_329 : decode cL_law 329 = .ok (.ireturn, 1) := by decide +kernel
theorem dL_law_330 : decode cL_law 330 = .ok (.aload_n 1, 1) := by decide +kernel
theorem dL_law_331 : decode cL_law 331 = .ok (.aload_n 0, 1) := by decide +kernel
theorem dL_law_332 : decode cL_law 332 = .ok (.iload_n 3, 1) := by decide +kernel
theorem dL_law_333 : decode cL_law 333 = .ok (.iconst 1, 1) := by decide +kernel
theorem dL_law_334 : decode cL_law 334 = .ok (.iadd, 1) := by decide +kernel
theorem dL_law_335 : decode cL_law 335 = .ok (.iaload, 1) := by decide +kernel
theorem dL_law_336 : decode cL_law 336 = .ok (.aload_n 0, 1) := by decide +kernel
theorem dL_law_337 : decode cL_law 337 = .ok (.iload_n 3, 1) := by decide +kernel
theorem dL_law_338 : decode cL_law 338 = .ok (.iconst 2, 1) := by decide +kernel
theorem dL_law_339 : decode cL_law 339 = .ok (.iadd, 1) := by decide +kernel
theorem dL_law_340 : decode cL_law 340 = .ok (.iaload, 1) := by decide +kernel
theorem dL_law_341 : decode cL_law 341 = .ok (.aload_n 0, 1) := by decide +kernel
theorem dL_law_342 : decode cL_law 342 = .ok (.iload_n 3, 1) := by decide +kernel
theorem dL_law_343 : decode cL_law 343 = .ok (.iconst 3, 1) := by decide +kernel
theorem dL_law_344 : decode cL_law 344 = .ok (.iadd, 1) := by decide +kernel
theorem dL_law_345 : decode cL_law 345 = .ok (.iaload, 1) := by decide +kernel
theorem dL_law_346 : decode cL_law 346 = .ok (.ifCond .eq 7, 3) := by decide +kernel
theorem dL_law_349 : decode cL_law 349 = .ok (.iconst 1, 1) := by decide +kernel
theorem dL_law_350 : decode cL_law 350 = .ok (.goto 4, 3) := by decide +kernel
theorem dL_law_353 : decode cL_law 353 = .ok (.iconst 0, 1) := by decide +kernel
theorem dL_law_354 : decode cL_law 354 = .ok (.invokevirtual 40, 3) := by decide +kernel
theorem dL_law_357 : decode cL_law 357 = .ok (.aload_n 2, 1) := by decide +kernel
theorem dL_law_358 : decode cL_law 358 = .ok (.aload_n 0, 1) := by decide +kernel
theorem dL_law_359 : decode cL_law 359 = .ok (.iload_n 3, 1) := by decide +kernel
theorem dL_law_360 : decode cL_law 360 = .ok (.iconst 1, 1) := by decide +kernel
theorem dL_law_361 : decode cL_law 361 = .ok (.iadd, 1) := by decide +kernel
theorem dL_law_362 : decode cL_law 362 = .ok (.iaload, 1) := by decide +kernel
theorem dL_law_363 : decode cL_law 363 = .ok (.aload_n 0, 1) := by decide +kernel
theorem dL_law_364 : decode cL_law 364 = .ok (.iload_n 3, 1) := by decide +kernel
theorem dL_law_365 : decode cL_law 365 = .ok (.iconst 2, 1) := by decide +kernel
theorem dL_law_366 : decode cL_law 366 = .ok (.iadd, 1) := by decide +kernel
theorem dL_law_367 : decode cL_law 367 = .ok (.iaload, 1) := by decide +kernel
theorem dL_law_368 : decode cL_law 368 = .ok (.aload_n 0, 1) := by decide +kernel
theorem dL_law_369 : decode cL_law 369 = .ok (.iload_n 3, 1) := by decide +kernel
theorem dL_law_370 : decode cL_law 370 = .ok (.iconst 3, 1) := by decide +kernel
theorem dL_law_371 : decode cL_law 371 = .ok (.iadd, 1) := by decide +kernel
theorem dL_law_372 : decode cL_law 372 = .ok (.iaload, 1) := by decide +kernel
theorem dL_law_373 : decode cL_law 373 = .ok (.ifCond .eq 7, 3) := by decide +kernel
theorem dL_law_376 : decode cL_law 376 = .ok (.iconst 1, 1) := by decide +kernel
theorem dL_law_377 : decode cL_law 377 = .ok (.goto 4, 3) := by decide +kernel
theorem dL_law_380 : decode cL_law 380 = .ok (.iconst 0, 1) := by decide +kernel
theorem dL_law_381 : decode cL_law 381 = .ok (.invokevirtual 44, 3) := by decide +kernel
theorem dL_law_384 : decode cL_law 384 = .ok (.if_icmp .eq 414, 3) := by decide +kernel
theorem dL_law_387 : decode cL_law 387 = .ok (.iconst 0, 1) := by decide +kernel
theorem dL_law_388 : decode cL_law 388 = .ok (.ireturn, 1) := by decide +kernel
theorem dL_law_389 : decode cL_law 389 = .ok (.aload_n 1, 1) := by decide +kernel
theorem dL_law_390 : decode cL_law 390 = .ok (.invokevirtual 45, 3) := by decide +kernel
theorem dL_law_393 : decode cL_law 393 = .ok (.aload_n 2, 1) := by decide +kernel
theorem dL_law_394 : decode cL_law 394 = .ok (.invokevirtual 49, 3) := by decide +kernel
theorem dL_law_397 : decode cL_law 397 = .ok (.if_icmp .eq 401, 3) := by decide +kernel
theorem dL_law_400 : decode cL_law 400 = .ok (.iconst 0, 1) := by decide +kernel
theorem dL_law_401 : decode cL_law 401 = .ok (.ireturn, 1) := by decide +kernel
theorem dL_law_402 : decode cL_law 402 = .ok (.aload_n 1, 1) := by decide +kernel
theorem dL_law_403 : decode cL_law 403 = .ok (.invokevirtual 50, 3) := by decide +kernel
theorem dL_law_406 : decode cL_law 406 = .ok (.aload_n 2, 1) := by decide +kernel
theorem dL_law_407 : decode cL_law 407 = .ok (.invokevirtual 53, 3) := by decide +kernel
theorem dL_law_410 : decode cL_law 410 = .ok (.if_icmp .eq 388, 3) := by decide +kernel
theorem dL_law_413 : decode cL_law 413 = .ok (.iconst 0, 1) := by decide +kernel
theorem dL_law_414 : decode cL_law 414 = .ok (.ireturn, 1) := by decide +kernel
theorem dL_law_415 : decode cL_law 415 = .ok (.aload_n 1, 1) := by decide +kernel
theorem dL_law_416 : decode cL_law 416 = .ok (.invokevirtual 54, 3) := by decide +kernel
theorem dL_law_419 : decode cL_law 419 = .ok (.aload_n 2, 1) := by decide +kernel
theorem dL_law_420 : decode cL_law 420 = .ok (.invokevirtual 57, 3) := by decide +kernel
theorem dL_law_423 : decode cL_law 423 = .ok (.if_icmp .eq 375, 3) := by decide +kernel
theorem dL_law_426 : decode cL_law 426 = .ok (.iconst 0, 1) := by decide +kernel
theorem dL_law_427 : decode cL_law 427 = .ok (.ireturn, 1) := by decide +kernel
theorem dL_law_428 : decode cL_law 428 = .ok (.aload_n 1, 1) := by decide +kernel
theorem dL_law_429 : decode cL_law 429 = .ok (.aload_n 0, 1) := by decide +kernel
theorem dL_law_430 : decode cL_law 430 = .ok (.iload_n 3, 1) := by decide +kernel
theorem dL_law_431 : decode cL_law 431 = .ok (.iconst 1, 1) := by decide +kernel
theorem dL_law_432 : decode cL_law 432 = .ok (.iadd, 1) := by decide +kernel
theorem dL_law_433 : decode cL_law 433 = .ok (.iaload, 1) := by decide +kernel
theorem dL_law_434 : decode cL_law 434 = .ok (.invokevirtual 58, 3) := by decide +kernel
theorem dL_law_437 : decode cL_law 437 = .ok (.aload_n 2, 1) := by decide +kernel
theorem dL_law_438 : decode cL_law 438 = .ok (.aload_n 0, 1) := by decide +kernel
theorem dL_law_439 : decode cL_law 439 = .ok (.iload_n 3, 1) := by decide +kernel
theorem dL_law_440 : decode cL_law 440 = .ok (.iconst 1, 1) := by decide +kernel
theorem dL_law_441 : decode cL_law 441 = .ok (.iadd, 1) := by decide +kernel
theorem dL_law_442 : decode cL_law 442 = .ok (.iaload, 1) := by decide +kernel
theorem dL_law_443 : decode cL_law 443 = .ok (.invokevirtual 61, 3) := by decide +kernel
theorem dL_law_446 : decode cL_law 446 = .ok (.if_icmp .eq 352, 3) := by decide +kernel
theorem dL_law_449 : decode cL_law 449 = .ok (.iconst 0, 1) := by decide +kernel
theorem dL_law_450 : decode cL_law 450 = .ok (.ireturn, 1) := by decide +kernel
theorem dL_law_451 : decode cL_law 451 = .ok (.aload_n 1, 1) := by decide +kernel
theorem dL_law_452 : decode cL_law 452 = .ok (.invokevirtual 62, 3) := by decide +kernel
theorem dL_law_455 : decode cL_law 455 = .ok (.aload_n 2, 1) := by decide +kernel
theorem dL_law_456 : decode cL_law 456 = .ok (.invokevirtual 65, 3) := by decide +kernel
theorem dL_law_459 : decode cL_law 459 = .ok (.if_icmp .eq 339, 3) := by decide +kernel
theorem dL_law_462 : decode cL_law 462 = .ok (.iconst 0, 1) := by decide +kernel
theorem dL_law_463 : decode cL_law 463 = .ok (.ireturn, 1) := by decide +kernel
theorem dL_law_464 : decode cL_law 464 = .ok (.aload_n 1, 1) := by decide +kernel
theorem dL_law_465 : decode cL_law 465 = .ok (.aload_n 0, 1) := by decide +kernel
theorem dL_law_466 : decode cL_law 466 = .ok (.iload_n 3, 1) := by decide +kernel
theorem dL_law_467 : decode cL_law 467 = .ok (.iconst 1, 1) := by decide +kernel
theorem dL_law_468 : decode cL_law 468 = .ok (.iadd, 1) := by decide +kernel
theorem dL_law_469 : decode cL_law 469 = .ok (.iaload, 1) := by decide +kernel
theorem dL_law_470 : decode cL_law 470 = .ok (.i2c, 1) := by decide +kernel
theorem dL_law_471 : decode cL_law 471 = .ok (.invokevirtual 66, 3) := by decide +kernel
theorem dL_law_474 : decode cL_law 474 = .ok (.aload_n 2, 1) := by decide +kernel
theorem dL_law_475 : decode cL_law 475 = .ok (.aload_n 0, 1) := by decide +kernel
theorem dL_law_476 : decode cL_law 476 = .ok (.iload_n 3, 1) := by decide +kernel
theorem dL_law_477 : decode cL_law 477 = .ok (.iconst 1, 1) := by decide +kernel
theorem dL_law_478 : decode cL_law 478 = .ok (.iadd, 1) := by decide +kernel
theorem dL_law_479 : decode cL_law 479 = .ok (.iaload, 1) := by decide +kernel
theorem dL_law_480 : decode cL_law 480 = .ok (.i2c, 1) := by decide +kernel
theorem dL_law_481 : decode cL_law 481 = .ok (.invokevirtual 70, 3) := by decide +kernel
theorem dL_law_484 : decode cL_law 484 = .ok (.if_icmp .eq 314, 3) := by decide +kernel
theorem dL_law_487 : decode cL_law 487 = .ok (.iconst 0, 1) := by decide +kernel
theorem dL_law_488 : decode cL_law 488 = .ok (.ireturn, 1) := by decide +kernel
theorem dL_law_489 : decode cL_law 489 = .ok (.aload_n 1, 1) := by decide +kernel
theorem dL_law_490 : decode cL_law 490 = .ok (.invokevirtual 71, 3) := by decide +kernel
theorem dL_law_493 : decode cL_law 493 = .ok (.aload_n 2, 1) := by decide +kernel
theorem dL_law_494 : decode cL_law 494 = .ok (.invokevirtual 74, 3) := by decide +kernel
theorem dL_law_497 : decode cL_law 497 = .ok (.if_icmp .eq 301, 3) := by decide +kernel
theorem dL_law_500 : decode cL_law 500 = .ok (.iconst 0, 1) := by decide +kernel
theorem dL_law_501 : decode cL_law 501 = .ok (.ireturn, 1) := by decide +kernel
theorem dL_law_502 : decode cL_law 502 = .ok (.aload_n 1, 1) := by decide +kernel
theorem dL_law_503 : decode cL_law 503 = .ok (.invokevirtual 75, 3) := by decide +kernel
theorem dL_law_506 : decode cL_law 506 = .ok (.aload_n 2, 1) := by decide +kernel
theorem dL_law_507 : decode cL_law 507 = .ok (.invokevirtual 78, 3) := by decide +kernel
theorem dL_law_510 : decode cL_law 510 = .ok (.if_icmp .eq 288, 3) := by decide +kernel
theorem dL_law_513 : decode cL_law 513 = .ok (.iconst 0, 1) := by decide +kernel
theorem dL_law_514 : decode cL_law 514 = .ok (.ireturn, 1) := by decide +kernel
theorem dL_law_515 : decode cL_law 515 = .ok (.aload_n 1, 1) := by decide +kernel
theorem dL_law_516 : decode cL_law 516 = .ok (.invokevirtual 79, 3) := by decide +kernel
theorem dL_law_519 : decode cL_law 519 = .ok (.aload_n 2, 1) := by decide +kernel
theorem dL_law_520 : decode cL_law 520 = .ok (.invokevirtual 82, 3) := by decide +kernel
theorem dL_law_523 : decode cL_law 523 = .ok (.if_icmp .eq 275, 3) := by decide +kernel
theorem dL_law_526 : decode cL_law 526 = .ok (.iconst 0, 1) := by decide +kernel
theorem dL_law_527 : decode cL_law 527 = .ok (.ireturn, 1) := by decide +kernel
theorem dL_law_528 : decode cL_law 528 = .ok (.aload_n 1, 1) := by decide +kernel
theorem dL_law_529 : decode cL_law 529 = .ok (.invokevirtual 83, 3) := by decide +kernel
theorem dL_law_532 : decode cL_law 532 = .ok (.aload_n 2, 1) := by decide +kernel
theorem dL_law_533 : decode cL_law 533 = .ok (.invokevirtual 86, 3) := by decide +kernel
theorem dL_law_536 : decode cL_law 536 = .ok (.if_icmp .eq 262, 3) := by decide +kernel
theorem dL_law_539 : decode cL_law 539 = .ok (.iconst 0, 1) := by decide +kernel
theorem dL_law_540 : decode cL_law 540 = .ok (.ireturn, 1) := by decide +kernel
theorem dL_law_541 : decode cL_law 541 = .ok (.aload_n 1, 1) := by decide +kernel
theorem dL_law_542 : decode cL_law 542 = .ok (.aload_n 0, 1) := by decide +kernel
theorem dL_law_543 : decode cL_law 543 = .ok (.iload_n 3, 1) := by decide +kernel
theorem dL_law_544 : decode cL_law 544 = .ok (.iconst 1, 1) := by decide +kernel
theorem dL_law_545 : decode cL_law 545 = .ok (.iadd, 1) := by decide +kernel
theorem dL_law_546 : decode cL_law 546 = .ok (.iaload, 1) := by decide +kernel
theorem dL_law_547 : decode cL_law 547 = .ok (.invokevirtual 87, 3) := by decide +kernel
theorem dL_law_550 : decode cL_law 550 = .ok (.aload_n 2, 1) := by decide +kernel
theorem dL_law_551 : decode cL_law 551 = .ok (.aload_n 0, 1) := by decide +kernel
theorem dL_law_552 : decode cL_law 552 = .ok (.iload_n 3, 1) := by decide +kernel
theorem dL_law_553 : decode cL_law 553 = .ok (.iconst 1, 1) := by decide +kernel
theorem dL_law_554 : decode cL_law 554 = .ok (.iadd, 1) := by decide +kernel
theorem dL_law_555 : decode cL_law 555 = .ok (.iaload, 1) := by decide +kernel
theorem dL_law_556 : decode cL_law 556 = .ok (.invokevirtual 90, 3) := by decide +kernel
theorem dL_law_559 : decode cL_law 559 = .ok (.if_icmp .eq 239, 3) := by decide +kernel
theorem dL_law_562 : decode cL_law 562 = .ok (.iconst 0, 1) := by decide +kernel
theorem dL_law_563 : decode cL_law 563 = .ok (.ireturn, 1) := by decide +kernel
theorem dL_law_564 : decode cL_law 564 = .ok (.aload_n 1, 1) := by decide +kernel
theorem dL_law_565 : decode cL_law 565 = .ok (.aload_n 0, 1) := by decide +kernel
theorem dL_law_566 : decode cL_law 566 = .ok (.iload_n 3, 1) := by decide +kernel
theorem dL_law_567 : decode cL_law 567 = .ok (.iconst 1, 1) := by decide +kernel
theorem dL_law_568 : decode cL_law 568 = .ok (.iadd, 1) := by decide +kernel
theorem dL_law_569 : decode cL_law 569 = .ok (.iaload, 1) := by decide +kernel
theorem dL_law_570 : decode cL_law 570 = .ok (.aload_n 0, 1) := by decide +kernel
theorem dL_law_571 : decode cL_law 571 = .ok (.iload_n 3, 1) := by decide +kernel
theorem dL_law_572 : decode cL_law 572 = .ok (.iconst 2, 1) := by decide +kernel
theorem dL_law_573 : decode cL_law 573 = .ok (.iadd, 1) := by decide +kernel
theorem dL_law_574 : decode cL_law 574 = .ok (.iaload, 1) := by decide +kernel
theorem dL_law_575 : decode cL_law 575 = .ok (.invokevirtual 91, 3) := by decide +kernel
theorem dL_law_578 : decode cL_law 578 = .ok (.aload_n 2, 1) := by decide +kernel
theorem dL_law_579 : decode cL_law 579 = .ok (.aload_n 0, 1) := by decide +kernel
theorem dL_law_580 : decode cL_law 580 = .ok (.iload_n 3, 1) := by decide +kernel
theorem dL_law_581 : decode cL_law 581 = .ok (.iconst 1, 1) := by decide +kernel
theorem dL_law_582 : decode cL_law 582 = .ok (.iadd, 1) := by decide +kernel
theorem dL_law_583 : decode cL_law 583 = .ok (.iaload, 1) := by decide +kernel
theorem dL_law_584 : decode cL_law 584 = .ok (.aload_n 0, 1) := by decide +kernel
theorem dL_law_585 : decode cL_law 585 = .ok (.iload_n 3, 1) := by decide +kernel
theorem dL_law_586 : decode cL_law 586 = .ok (.iconst 2, 1) := by decide +kernel
theorem dL_law_587 : decode cL_law 587 = .ok (.iadd, 1) := by decide +kernel
theorem dL_law_588 : decode cL_law 588 = .ok (.iaload, 1) := by decide +kernel
theorem dL_law_589 : decode cL_law 589 = .ok (.invokevirtual 94, 3) := by decide +kernel
theorem dL_law_592 : decode cL_law 592 = .ok (.if_icmp .eq 206, 3) := by decide +kernel
theorem dL_law_595 : decode cL_law 595 = .ok (.iconst 0, 1) := by decide +kernel
theorem dL_law_596 : decode cL_law 596 = .ok (.ireturn, 1) := by decide +kernel
theorem dL_law_597 : decode cL_law 597 = .ok (.aload_n 1, 1) := by decide +kernel
theorem dL_law_598 : decode cL_law 598 = .ok (.aload_n 0, 1) := by decide +kernel
theorem dL_law_599 : decode cL_law 599 = .ok (.iload_n 3, 1) := by decide +kernel
theorem dL_law_600 : decode cL_law 600 = .ok (.iconst 1, 1) := by decide +kernel
theorem dL_law_601 : decode cL_law 601 = .ok (.iadd, 1) := by decide +kernel
theorem dL_law_602 : decode cL_law 602 = .ok (.iaload, 1) := by decide +kernel
theorem dL_law_603 : decode cL_law 603 = .ok (.aload_n 0, 1) := by decide +kernel
theorem dL_law_604 : decode cL_law 604 = .ok (.iload_n 3, 1) := by decide +kernel
theorem dL_law_605 : decode cL_law 605 = .ok (.iconst 2, 1) := by decide +kernel
theorem dL_law_606 : decode cL_law 606 = .ok (.iadd, 1) := by decide +kernel
theorem dL_law_607 : decode cL_law 607 = .ok (.iaload, 1) := by decide +kernel
theorem dL_law_608 : decode cL_law 608 = .ok (.invokevirtual 95, 3) := by decide +kernel
theorem dL_law_611 : decode cL_law 611 = .ok (.aload_n 2, 1) := by decide +kernel
theorem dL_law_612 : decode cL_law 612 = .ok (.aload_n 0, 1) := by decide +kernel
theorem dL_law_613 : decode cL_law 613 = .ok (.iload_n 3, 1) := by decide +kernel
theorem dL_law_614 : decode cL_law 614 = .ok (.iconst 1, 1) := by decide +kernel
theorem dL_law_615 : decode cL_law 615 = .ok (.iadd, 1) := by decide +kernel
theorem dL_law_616 : decode cL_law 616 = .ok (.iaload, 1) := by decide +kernel
theorem dL_law_617 : decode cL_law 617 = .ok (.aload_n 0, 1) := by decide +kernel
theorem dL_law_618 : decode cL_law 618 = .ok (.iload_n 3, 1) := by decide +kernel
theorem dL_law_619 : decode cL_law 619 = .ok (.iconst 2, 1) := by decide +kernel
theorem dL_law_620 : decode cL_law 620 = .ok (.iadd, 1) := by decide +kernel
theorem dL_law_621 : decode cL_law 621 = .ok (.iaload, 1) := by decide +kernel
theorem dL_law_622 : decode cL_law 622 = .ok (.invokevirtual 98, 3) := by decide +kernel
theorem dL_law_625 : decode cL_law 625 = .ok (.if_icmp .eq 173, 3) := by decide +kernel
theorem dL_law_628 : decode cL_law 628 = .ok (.iconst 0, 1) := by decide +kernel
theorem dL_law_629 : decode cL_law 629 = .ok (.ireturn, 1) := by decide +kernel
theorem dL_law_630 : decode cL_law 630 = .ok (.aload_n 1, 1) := by decide +kernel
theorem dL_law_631 : decode cL_law 631 = .ok (.aload_n 0, 1) := by decide +kernel
theorem dL_law_632 : decode cL_law 632 = .ok (.iload_n 3, 1) := by decide +kernel
theorem dL_law_633 : decode cL_law 633 = .ok (.iconst 1, 1) := by decide +kernel
theorem dL_law_634 : decode cL_law 634 = .ok (.iadd, 1) := by decide +kernel
theorem dL_law_635 : decode cL_law 635 = .ok (.iaload, 1) := by decide +kernel
theorem dL_law_636 : decode cL_law 636 = .ok (.aload_n 0, 1) := by decide +kernel
theorem dL_law_637 : decode cL_law 637 = .ok (.iload_n 3, 1) := by decide +kernel
theorem dL_law_638 : decode cL_law 638 = .ok (.iconst 2, 1) := by decide +kernel
theorem dL_law_639 : decode cL_law 639 = .ok (.iadd, 1) := by decide +kernel
theorem dL_law_640 : decode cL_law 640 = .ok (.iaload, 1) := by decide +kernel
theorem dL_law_641 : decode cL_law 641 = .ok (.invokevirtual 99, 3) := by decide +kernel
theorem dL_law_644 : decode cL_law 644 = .ok (.aload_n 2, 1) := by decide +kernel
theorem dL_law_645 : decode cL_law 645 = .ok (.aload_n 0, 1) := by decide +kernel
theorem dL_law_646 : decode cL_law 646 = .ok (.iload_n 3, 1) := by decide +kernel
theorem dL_law_647 : decode cL_law 647 = .ok (.iconst 1, 1) := by decide +kernel
theorem dL_law_648 : decode cL_law 648 = .ok (.iadd, 1) := by decide +kernel
theorem dL_law_649 : decode cL_law 649 = .ok (.iaload, 1) := by decide +kernel
theorem dL_law_650 : decode cL_law 650 = .ok (.aload_n 0, 1) := by decide +kernel
theorem dL_law_651 : decode cL_law 651 = .ok (.iload_n 3, 1) := by decide +kernel
theorem dL_law_652 : decode cL_law 652 = .ok (.iconst 2, 1) := by decide +kernel
theorem dL_law_653 : decode cL_law 653 = .ok (.iadd, 1) := by decide +kernel
theorem dL_law_654 : decode cL_law 654 = .ok (.iaload, 1) := by decide +kernel
theorem dL_law_655 : decode cL_law 655 = .ok (.invokevirtual 102, 3) := by decide +kernel
theorem dL_law_658 : decode cL_law 658 = .ok (.if_icmp .eq 140, 3) := by decide +kernel
theorem dL_law_661 : decode cL_law 661 = .ok (.iconst 0, 1) := by decide +kernel
theorem dL_law_662 : decode cL_law 662 = .ok (.ireturn, 1) := by decide +kernel
theorem dL_law_663 : decode cL_law 663 = .ok (.aload_n 1, 1) := by decide +kernel
theorem dL_law_664 : decode cL_law 664 = .ok (.aload_n 0, 1) := by decide +kernel
theorem dL_law_665 : decode cL_law 665 = .ok (.iload_n 3, 1) := by decide +kernel
theorem dL_law_666 : decode cL_law 666 = .ok (.iconst 1, 1) := by decide +kernel
theorem dL_law_667 : decode cL_law 667 = .ok (.iadd, 1) := by decide +kernel
theorem dL_law_668 : decode cL_law 668 = .ok (.iaload, 1) := by decide +kernel
theorem dL_law_669 : decode cL_law 669 = .ok (.aload_n 0, 1) := by decide +kernel
theorem dL_law_670 : decode cL_law 670 = .ok (.iload_n 3, 1) := by decide +kernel
theorem dL_law_671 : decode cL_law 671 = .ok (.iconst 2, 1) := by decide +kernel
theorem dL_law_672 : decode cL_law 672 = .ok (.iadd, 1) := by decide +kernel
theorem dL_law_673 : decode cL_law 673 = .ok (.iaload, 1) := by decide +kernel
theorem dL_law_674 : decode cL_law 674 = .ok (.invokevirtual 103, 3) := by decide +kernel
theorem dL_law_677 : decode cL_law 677 = .ok (.aload_n 2, 1) := by decide +kernel
theorem dL_law_678 : decode cL_law 678 = .ok (.aload_n 0, 1) := by decide +kernel
theorem dL_law_679 : decode cL_law 679 = .ok (.iload_n 3, 1) := by decide +kernel
theorem dL_law_680 : decode cL_law 680 = .ok (.iconst 1, 1) := by decide +kernel
theorem dL_law_681 : decode cL_law 681 = .ok (.iadd, 1) := by decide +kernel
theorem dL_law_682 : decode cL_law 682 = .ok (.iaload, 1) := by decide +kernel
theorem dL_law_683 : decode cL_law 683 = .ok (.aload_n 0, 1) := by decide +kernel
theorem dL_law_684 : decode cL_law 684 = .ok (.iload_n 3, 1) := by decide +kernel
theorem dL_law_685 : decode cL_law 685 = .ok (.iconst 2, 1) := by decide +kernel
theorem dL_law_686 : decode cL_law 686 = .ok (.iadd, 1) := by decide +kernel
theorem dL_law_687 : decode cL_law 687 = .ok (.iaload, 1) := by decide +kernel
theorem dL_law_688 : decode cL_law 688 = .ok (.invokevirtual 106, 3) := by decide +kernel
theorem dL_law_691 : decode cL_law 691 = .ok (.if_icmp .eq 107, 3) := by decide +kernel
theorem dL_law_694 : decode cL_law 694 = .ok (.iconst 0, 1) := by decide +kernel
theorem dL_law_695 : decode cL_law 695 = .ok (.ireturn, 1) := by decide +kernel
theorem dL_law_696 : decode cL_law 696 = .ok (.aload_n 1, 1) := by decide +kernel
theorem dL_law_697 : decode cL_law 697 = .ok (.aload_n 0, 1) := by decide +kernel
theorem dL_law_698 : decode cL_law 698 = .ok (.iload_n 3, 1) := by decide +kernel
theorem dL_law_699 : decode cL_law 699 = .ok (.iconst 1, 1) := by decide +kernel
theorem dL_law_700 : decode cL_law 700 = .ok (.iadd, 1) := by decide +kernel
theorem dL_law_701 : decode cL_law 701 = .ok (.iaload, 1) := by decide +kernel
theorem dL_law_702 : decode cL_law 702 = .ok (.aload_n 0, 1) := by decide +kernel
theorem dL_law_703 : decode cL_law 703 = .ok (.iload_n 3, 1) := by decide +kernel
theorem dL_law_704 : decode cL_law 704 = .ok (.iconst 2, 1) := by decide +kernel
theorem dL_law_705 : decode cL_law 705 = .ok (.iadd, 1) := by decide +kernel
theorem dL_law_706 : decode cL_law 706 = .ok (.iaload, 1) := by decide +kernel
theorem dL_law_707 : decode cL_law 707 = .ok (.invokevirtual 107, 3) := by decide +kernel
theorem dL_law_710 : decode cL_law 710 = .ok (.aload_n 2, 1) := by decide +kernel
theorem dL_law_711 : decode cL_law 711 = .ok (.aload_n 0, 1) := by decide +kernel
theorem dL_law_712 : decode cL_law 712 = .ok (.iload_n 3, 1) := by decide +kernel
theorem dL_law_713 : decode cL_law 713 = .ok (.iconst 1, 1) := by decide +kernel
theorem dL_law_714 : decode cL_law 714 = .ok (.iadd, 1) := by decide +kernel
theorem dL_law_715 : decode cL_law 715 = .ok (.iaload, 1) := by decide +kernel
theorem dL_law_716 : decode cL_law 716 = .ok (.aload_n 0, 1) := by decide +kernel
theorem dL_law_717 : decode cL_law 717 = .ok (.iload_n 3, 1) := by decide +kernel
theorem dL_law_718 : decode cL_law 718 = .ok (.iconst 2, 1) := by decide +kernel
theorem dL_law_719 : decode cL_law 719 = .ok (.iadd, 1) := by decide +kernel
theorem dL_law_720 : decode cL_law 720 = .ok (.iaload, 1) := by decide +kernel
theorem dL_law_721 : decode cL_law 721 = .ok (.invokevirtual 110, 3) := by decide +kernel
theorem dL_law_724 : decode cL_law 724 = .ok (.if_icmp .eq 74, 3) := by decide +kernel
theorem dL_law_727 : decode cL_law 727 = .ok (.iconst 0, 1) := by decide +kernel
theorem dL_law_728 : decode cL_law 728 = .ok (.ireturn, 1) := by decide +kernel
theorem dL_law_729 : decode cL_law 729 = .ok (.aload_n 1, 1) := by decide +kernel
theorem dL_law_730 : decode cL_law 730 = .ok (.aload_n 0, 1) := by decide +kernel
theorem dL_law_731 : decode cL_law 731 = .ok (.iload_n 3, 1) := by decide +kernel
theorem dL_law_732 : decode cL_law 732 = .ok (.iconst 1, 1) := by decide +kernel
theorem dL_law_733 : decode cL_law 733 = .ok (.iadd, 1) := by decide +kernel
theorem dL_law_734 : decode cL_law 734 = .ok (.iaload, 1) := by decide +kernel
theorem dL_law_735 : decode cL_law 735 = .ok (.invokevirtual 111, 3) := by decide +kernel
theorem dL_law_738 : decode cL_law 738 = .ok (.aload_n 2, 1) := by decide +kernel
theorem dL_law_739 : decode cL_law 739 = .ok (.aload_n 0, 1) := by decide +kernel
theorem dL_law_740 : decode cL_law 740 = .ok (.iload_n 3, 1) := by decide +kernel
theorem dL_law_741 : decode cL_law 741 = .ok (.iconst 1, 1) := by decide +kernel
theorem dL_law_742 : decode cL_law 742 = .ok (.iadd, 1) := by decide +kernel
theorem dL_law_743 : decode cL_law 743 = .ok (.iaload, 1) := by decide +kernel
theorem dL_law_744 : decode cL_law 744 = .ok (.invokevirtual 114, 3) := by decide +kernel
theorem dL_law_747 : decode cL_law 747 = .ok (.if_icmp .eq 51, 3) := by decide +kernel
theorem dL_law_750 : decode cL_law 750 = .ok (.iconst 0, 1) := by decide +kernel
theorem dL_law_751 : decode cL_law 751 = .ok (.ireturn, 1) := by decide +kernel
theorem dL_law_752 : decode cL_law 752 = .ok (.aload_n 1, 1) := by decide +kernel
theorem dL_law_753 : decode cL_law 753 = .ok (.aload_n 0, 1) := by decide +kernel
theorem dL_law_754 : decode cL_law 754 = .ok (.iload_n 3, 1) := by decide +kernel
theorem dL_law_755 : decode cL_law 755 = .ok (.iconst 1, 1) := by decide +kernel
theorem dL_law_756 : decode cL_law 756 = .ok (.iadd, 1) := by decide +kernel
theorem dL_law_757 : decode cL_law 757 = .ok (.iaload, 1) := by decide +kernel
theorem dL_law_758 : decode cL_law 758 = .ok (.invokevirtual 115, 3) := by decide +kernel
theorem dL_law_761 : decode cL_law 761 = .ok (.aload_n 2, 1) := by decide +kernel
theorem dL_law_762 : decode cL_law 762 = .ok (.aload_n 0, 1) := by decide +kernel
theorem dL_law_763 : decode cL_law 763 = .ok (.iload_n 3, 1) := by decide +kernel
theorem dL_law_764 : decode cL_law 764 = .ok (.iconst 1, 1) := by decide +kernel
theorem dL_law_765 : decode cL_law 765 = .ok (.iadd, 1) := by decide +kernel
theorem dL_law_766 : decode cL_law 766 = .ok (.iaload, 1) := by decide +kernel
theorem dL_law_767 : decode cL_law 767 = .ok (.invokevirtual 118, 3) := by decide +kernel
theorem dL_law_770 : decode cL_law 770 = .ok (.if_icmp .eq 28, 3) := by decide +kernel
theorem dL_law_773 : decode cL_law 773 = .ok (.iconst 0, 1) := by decide +kernel
theorem dL_law_774 : decode cL_law 774 = .ok (.ireturn, 1) := by decide +kernel
theorem dL_law_775 : decode cL_law 775 = .ok (.aload_n 1, 1) := by decide +kernel
theorem dL_law_776 : decode cL_law 776 = .ok (.aload_n 0, 1) := by decide +kernel
theorem dL_law_777 : decode cL_law 777 = .ok (.iload_n 3, 1) := by decide +kernel
theorem dL_law_778 : decode cL_law 778 = .ok (.iconst 1, 1) := by decide +kernel
theorem dL_law_779 : decode cL_law 779 = .ok (.iadd, 1) := by decide +kernel
theorem dL_law_780 : decode cL_law 780 = .ok (.iaload, 1) := by decide +kernel
theorem dL_law_781 : decode cL_law 781 = .ok (.invokevirtual 119, 3) := by decide +kernel
theorem dL_law_784 : decode cL_law 784 = .ok (.aload_n 2, 1) := by decide +kernel
theorem dL_law_785 : decode cL_law 785 = .ok (.aload_n 0, 1) := by decide +kernel
theorem dL_law_786 : decode cL_law 786 = .ok (.iload_n 3, 1) := by decide +kernel
theorem dL_law_787 : decode cL_law 787 = .ok (.iconst 1, 1) := by decide +kernel
theorem dL_law_788 : decode cL_law 788 = .ok (.iadd, 1) := by decide +kernel
theorem dL_law_789 : decode cL_law 789 = .ok (.iaload, 1) := by decide +kernel
theorem dL_law_790 : decode cL_law 790 = .ok (.invokevirtual 122, 3) := by decide +kernel
theorem dL_law_793 : decode cL_law 793 = .ok (.if_icmp .eq 5, 3) := by decide +kernel
theorem dL_law_796 : decode cL_law 796 = .ok (.iconst 0, 1) := by decide +kernel
theorem dL_law_797 : decode cL_law 797 = .ok (.ireturn, 1) := by decide +kernel
theorem dL_law_798 : decode cL_law 798 = .ok (.iinc 3 4, 3) := by decide +kernel
theorem dL_law_801 : decode cL_law 801 = .ok (.goto (-783), 3) := by decide +kernel
theorem dL_law_804 : decode cL_law 804 = .ok (.iconst 1, 1) := by decide +kernel
theorem dL_law_805 : decode cL_law 805 = .ok (.ireturn, 1) := by decide +kernel
end
section
/-! THE LAYER: one world of N numbered cells at addresses ad 0, ad 1 ..; what they hold: V. A method that only reads: RM. One that writes: MM, MV. -/
abbrev CL4 : Type := ClassId × ClassId × ClassId × ClassId
def tyL (t : CL4) : List (ClassId × FieldType) := [(t.1, .int), (t.2.1, .char), (t.2.2.1, .array .int), (t.2.2.2, .object RX4)]
def nw3 : Cond := .methodLinkNest RX3 40 yX5_isIn RX5
def nw1 : Cond := .methodLinkNest RX1 59 yX5_isIn RX5
/-- what a state's tables say, beside the words of GW -/
def Cx (dd : va_G) (t : CL4) (U : State) : Prop := va_K dd vwCl (tyL t) U ∧ va_Nw nw3 U ∧ va_Nw nw1 U
theorem Cx.warm {dd : va_G} {t : CL4} {s U : State} (hW : s.WarmedH U.vm) (h : Cx dd t s) : Cx dd t U := ⟨va_K.moved hW.alike h.1, va_Nw.warmM hW h.2.1, va_Nw.warmM hW h.2.2⟩
theorem Cx.calling {dd : va_G} {t : CL4} {U : State} {g : JFrame} {mk : MethodId} {a : Array Value} (h : Cx dd t U) : Cx dd t (U.calling g mk a) :=
  ⟨va_K.moved (u := U) (U := U.calling g mk a) (Vm.Alike.refl U.vm) h.1, va_Nw.same (u := U) rfl rfl h.2.1, va_Nw.same (u := U) rfl rfl h.2.2⟩
def WX (p : Program) (s : State) (m : MethodId) (as : Array Value) (c : Code) (cc : ByteArray) (nL : Nat) (own : String) (dd : va_G) (t : CL4) : Prop := CallFix p m c cc nL s as GW own ∧ Cx dd t s
/-- the world -/
def wd (N : Nat) (ad : Nat → Nat) (V : Nat → va_E) : va_W := (List.range N).map (fun k => (ad k, V k))
theorem wd_at {N : Nat} {ad : Nat → Nat} {V : Nat → va_E} {k : Nat} (h : k < N) : (wd N ad V)[k]? = some (ad k, V k) := by
  unfold wd
  rw [List.getElem?_map, List.getElem?_range h]
  rfl
theorem wd_len {N : Nat} {ad : Nat → Nat} {V : Nat → va_E} : (wd N ad V).length = N := by simp [wd]
theorem wd_of {N : Nat} {ad : Nat → Nat} {V : Nat → va_E} {k : Nat} {q : Nat × va_E} (h : (wd N ad V)[k]? = some q) : k < N ∧ q = (ad k, V k) := by
  have hk : k < N := by
    have := (List.getElem?_eq_some_iff.mp h).1
    rwa [wd_len] at this
  rw [wd_at hk] at h
  exact ⟨hk, (Option.some.inj h).symm⟩
theorem wd_set {N : Nat} {ad : Nat → Nat} {V : Nat → va_E} {k : Nat} {e : va_E} (h : k < N) : (wd N ad V).set k (ad k, e) = wd N ad (va_up V k e) := by
  apply List.ext_getElem?
  intro j
  by_cases hj : j = k
  · subst hj
    rw [List.getElem?_set_self (by rw [wd_len]; exact h), wd_at h, va_up_self]
  · rw [List.getElem?_set_ne (Ne.symm hj)]
    by_cases hN : j < N
    · rw [wd_at hN, wd_at hN, va_up_ne _ _ hj]
    · rw [List.getElem?_eq_none (by rw [wd_len]; omega), List.getElem?_eq_none (by rw [wd_len]; omega)]
def inj (N : Nat) (ad : Nat → Nat) : Prop := ∀ i j, i < N → j < N → ad i = ad j → i = j
def dm (N : Nat) (ad : Nat → Nat) (sz : Nat) : Nat → Prop := fun q => (∃ k, k < N ∧ q = ad k) ∨ sz ≤ q
theorem dm_in {N : Nat} {ad : Nat → Nat} {sz k : Nat} (h : k < N) : dm N ad sz (ad k) := Or.inl ⟨k, h, rfl⟩
theorem dm_new {N : Nat} {ad : Nat → Nat} {sz q : Nat} (h : sz ≤ q) : dm N ad sz q := Or.inr h
theorem wd_D {N : Nat} {ad : Nat → Nat} {V : Nat → va_E} {sz : Nat} (hi : inj N ad) : va_D (dm N ad sz) (wd N ad V) := by
  refine ⟨fun i j p q h1 h2 h3 => ?_, fun k q h => ?_⟩
  · obtain ⟨a1, a2⟩ := wd_of h1
    obtain ⟨b1, b2⟩ := wd_of h2
    rw [a2, b2] at h3
    exact hi i j a1 b1 h3
  · obtain ⟨a1, a2⟩ := wd_of h
    rw [a2]
    exact dm_in a1
abbrev HP (dd : va_G) (N : Nat) (ad : Nat → Nat) (V : Nat → va_E) (H : Heap) : Prop := va_P dd vwCl (wd N ad V) H
theorem HP.congr {dd : va_G} {N : Nat} {ad : Nat → Nat} {V V' : Nat → va_E} {H : Heap} (h : HP dd N ad V H) (e : ∀ k, k < N → V' k = V k) : HP dd N ad V' H := by
  intro k q hq
  obtain ⟨a1, a2⟩ := wd_of hq
  rw [a2, e k a1]
  exact h k _ (wd_at a1)
theorem dm_mono {N : Nat} {ad : Nat → Nat} {sz sz' q : Nat} (h : sz ≤ sz') (hq : dm N ad sz' q) : dm N ad sz q := by
  rcases hq with h1 | h1
  · exact Or.inl h1
  · exact Or.inr (Nat.le_trans h h1)
/-- contracts -/
def RM (l : Launch) (dd : va_G) (t : CL4) (N : Nat) (ad : Nat → Nat) (V : Nat → va_E) (y : MethodName) (b : ByteArray) (nL : Nat) (ret : Option FieldType) (rm : Room) (args : List Value) (v : Int32) : Prop :=
  Met l y (Cond.code y b nL ret :: GW) rm (va_Pc args (fun U => Cx dd t U ∧ HP dd N ad V U.heap)) (vp_Si (fun r => r = v)) 0 0 (fun _ => False)
def MM (l : Launch) (dd : va_G) (t : CL4) (N : Nat) (ad : Nat → Nat) (V : Nat → va_E) (y : MethodName) (b : ByteArray) (nL : Nat) (ret : Option FieldType) (rm : Room) (args : List Value) (post : Int32 → (Nat → va_E) → Prop) : Prop :=
  ∀ sz : Nat, Met l y (Cond.code y b nL ret :: GW) rm (va_Pc args (fun U => U.heap.size = sz ∧ Cx dd t U ∧ HP dd N ad V U.heap)) (va_Qi post (fun V' t' => HP dd N ad V' t'.heap) (dm N ad sz)) 0 0 (dm N ad sz)
def MV (l : Launch) (dd : va_G) (t : CL4) (N : Nat) (ad : Nat → Nat) (V : Nat → va_E) (y : MethodName) (b : ByteArray) (nL : Nat) (rm : Room) (args : List Value) (post : (Nat → va_E) → Prop) : Prop :=
  ∀ sz : Nat, Met l y (Cond.code y b nL none :: GW) rm (va_Pc args (fun U => U.heap.size = sz ∧ Cx dd t U ∧ HP dd N ad V U.heap)) (va_Qv post (fun V' t' => HP dd N ad V' t'.heap) (dm N ad sz)) 0 0 (dm N ad sz)
section LY
variable {p : Program} {l : Launch} {e : Env} {R : Room} {s : State} {m : MethodId} {as : Array Value} {below : List Frame} {meth : Method} {c : Code} {H H0 : Heap} {locs : List Loc} {cells slots : Nat} {Q : State → Prop}
variable {cc : ByteArray} {nL pc : Nat} {own : String} {ls : Array Slot} {rest : List Value} {dd : va_G} {t : CL4} {N : Nat} {ad : Nat → Nat} {V : Nat → va_E}
theorem r_get (X : WX p s m as c cc nL own dd t) (hP : HP dd N ad V H) {k ci : Nat} {C : String} {T : u_T} {n : Nat} (hc : vwCl[ci]? = some (C, T, n)) (hin : ∀ w ∈ u_ws C T n, w ∈ GW) {fs : List Value} (hk : k < N) (hV : V k = .inr (ci, fs)) (j : Nat) (hj : j < n) {index : Nat}
    (hlink : Cond.fieldLink own index (T j).1 (T j).2.1 (T j).2.2.1 ∈ GW) {v : Value} (hv : fs[j]? = some v) (hdg : decode cc pc = .ok (.getfield index, 3))
    (kk : W p l e R s m as below meth c H locs cells slots Q (F0 m (pc + 3) ls (v :: rest))) : W p l e R s m as below meth c H locs cells slots Q (F0 m pc ls (.ref (ad k) :: rest)) :=
  va_get X.1.1 X.1.2.1 X.1.2.2.2.2 hin X.1.2.2.2.1 X.2.1 hP k (by rw [wd_at hk, hV]) hc j hj (X.1.2.2.2.2 _ hlink) (fun _ h => h) hv hdg kk
theorem r_put (X : WX p s m as c cc nL own dd t) (hi : inj N ad) (hP : HP dd N ad V H) (hS : va_S (dm N ad H0.size) H0 H locs) {k ci : Nat} {C : String} {T : u_T} {n : Nat} (hc : vwCl[ci]? = some (C, T, n)) (hin : ∀ w ∈ u_ws C T n, w ∈ GW)
    (ty0 : Nat → FieldType) (hty : ∀ k, k < n → parseFieldDescriptor (T k).2.2.1 = some (ty0 k)) (hnm : ∀ a, a < n → ∀ b, b < n → a ≠ b → (T a).2.1 ≠ (T b).2.1) {fs : List Value} (hk : k < N) (hV : V k = .inr (ci, fs)) (j : Nat) (hj : j < n) {index : Nat}
    (hlink : Cond.fieldLink own index (T j).1 (T j).2.1 (T j).2.2.1 ∈ GW) (hfin : (T j).2.2.2 = false) {ty : FieldType} {v : Value} (hd : parseFieldDescriptor (T j).2.2.1 = some ty) (hn : narrow ty v = v) (hfit : fits ty v = true) (hl : j < fs.length) {fs' : List Value} (hfs : fs.set j v = fs') (hdg : decode cc pc = .ok (.putfield index, 3))
    (kk : ∀ (V1 : Nat → va_E) (H1 : Heap) (locs1 : List Loc), V1 k = .inr (ci, fs') → (∀ i, i ≠ k → V1 i = V i) → HP dd N ad V1 H1 → va_S (dm N ad H0.size) H0 H1 locs1 → W p l e R s m as below meth c H1 locs1 cells slots Q (F0 m (pc + 3) ls rest)) : W p l e R s m as below meth c H locs cells slots Q (F0 m pc ls (v :: .ref (ad k) :: rest)) := by
  subst hfs
  refine va_put X.1.1 X.1.2.1 X.1.2.2.2.2 hin ty0 hty hnm X.1.2.2.2.1 X.2.1 hP (wd_D hi) hS k (by rw [wd_at hk, hV]) hc j hj (X.1.2.2.2.2 _ hlink) (fun _ h => h) hfin hd hn hfit hl hdg (fun H1 locs1 hP1 _ hS1 => ?_)
  rw [wd_set hk] at hP1
  exact kk _ H1 locs1 (va_up_self _ _ _) (fun i hi => va_up_ne _ _ hi) hP1 hS1
theorem r_ild (X : WX p s m as c cc nL own dd t) (hP : HP dd N ad V H) {k n : Nat} {f : Nat → Int32} (hk : k < N) (hV : V k = .inl (t.1, n, .inl f)) {j : Nat} (hj : j < n) (hn : n < 2 ^ 31) (hdg : decode cc pc = .ok (.iaload, 1))
    (kk : W p l e R s m as below meth c H locs cells slots Q (F0 m (pc + 1) ls (.int (f j) :: rest))) : W p l e R s m as below meth c H locs cells slots Q (F0 m pc ls (.int (nI j) :: .ref (ad k) :: rest)) := by
  refine va_iald X.1.1 X.1.2.1 X.2.1 hP k 0 (by rw [wd_at hk, hV]) rfl (vp_in_nI hj hn) hdg ?_
  rw [nI_clamp (by omega)]
  exact kk
theorem r_cld (X : WX p s m as c cc nL own dd t) (hP : HP dd N ad V H) {k n : Nat} {f : Nat → Int32} (hk : k < N) (hV : V k = .inl (t.2.1, n, .inl f)) {j : Nat} (hj : j < n) (hn : n < 2 ^ 31) (hdg : decode cc pc = .ok (.caload, 1))
    (kk : W p l e R s m as below meth c H locs cells slots Q (F0 m (pc + 1) ls (.int (f j) :: rest))) : W p l e R s m as below meth c H locs cells slots Q (F0 m pc ls (.int (nI j) :: .ref (ad k) :: rest)) := by
  refine va_cald X.1.1 X.1.2.1 X.2.1 hP k 1 (by rw [wd_at hk, hV]) rfl (vp_in_nI hj hn) hdg ?_
  rw [nI_clamp (by omega)]
  exact kk
theorem r_ist (X : WX p s m as c cc nL own dd t) (hi : inj N ad) (hP : HP dd N ad V H) (hS : va_S (dm N ad H0.size) H0 H locs) {k n : Nat} {f : Nat → Int32} (hk : k < N) (hV : V k = .inl (t.1, n, .inl f)) {j : Nat} {x : Int32} (hj : j < n) (hn : n < 2 ^ 31) (hdg : decode cc pc = .ok (.iastore, 1))
    (kk : ∀ (V1 : Nat → va_E) (H1 : Heap) (locs1 : List Loc), V1 k = .inl (t.1, n, .inl (upd f j x)) → (∀ i, i ≠ k → V1 i = V i) → HP dd N ad V1 H1 → va_S (dm N ad H0.size) H0 H1 locs1 → W p l e R s m as below meth c H1 locs1 cells slots Q (F0 m (pc + 1) ls rest)) : W p l e R s m as below meth c H locs cells slots Q (F0 m pc ls (.int x :: .int (nI j) :: .ref (ad k) :: rest)) := by
  refine va_iast X.1.1 X.1.2.1 X.2.1 hP (wd_D hi) hS k 0 (by rw [wd_at hk, hV]) rfl (vp_in_nI hj hn) hdg (fun H1 locs1 hP1 _ hS1 => ?_)
  rw [nI_clamp (by omega), wd_set hk] at hP1
  exact kk _ H1 locs1 (va_up_self _ _ _) (fun i hi => va_up_ne _ _ hi) hP1 hS1
theorem r_cst (X : WX p s m as c cc nL own dd t) (hi : inj N ad) (hP : HP dd N ad V H) (hS : va_S (dm N ad H0.size) H0 H locs) {k n : Nat} {f : Nat → Int32} (hk : k < N) (hV : V k = .inl (t.2.1, n, .inl f)) {j : Nat} {x : Int32} (hj : j < n) (hn : n < 2 ^ 31) (hdg : decode cc pc = .ok (.castore, 1))
    (kk : ∀ (V1 : Nat → va_E) (H1 : Heap) (locs1 : List Loc), V1 k = .inl (t.2.1, n, .inl (upd f j (vp_nar .char x))) → (∀ i, i ≠ k → V1 i = V i) → HP dd N ad V1 H1 → va_S (dm N ad H0.size) H0 H1 locs1 → W p l e R s m as below meth c H1 locs1 cells slots Q (F0 m (pc + 1) ls rest)) : W p l e R s m as below meth c H locs cells slots Q (F0 m pc ls (.int x :: .int (nI j) :: .ref (ad k) :: rest)) := by
  refine va_cast X.1.1 X.1.2.1 X.2.1 hP (wd_D hi) hS k 1 (by rw [wd_at hk, hV]) rfl (vp_in_nI hj hn) hdg (fun H1 locs1 hP1 _ hS1 => ?_)
  rw [nI_clamp (by omega), wd_set hk] at hP1
  exact kk _ H1 locs1 (va_up_self _ _ _) (fun i hi => va_up_ne _ _ hi) hP1 hS1
/-- a row of a grid -/
theorem r_gld (X : WX p s m as c cc nL own dd t) (hP : HP dd N ad V H) {k n : Nat} {f : Nat → Option Nat} (hk : k < N) (hV : V k = .inl (t.2.2.1, n, .inr (.inr (.inr (.inr f))))) {j a : Nat} (hj : j < n) (hn : n < 2 ^ 31) (hf : f j = some a) (hdg : decode cc pc = .ok (.aaload, 1))
    (kk : W p l e R s m as below meth c H locs cells slots Q (F0 m (pc + 1) ls (.ref a :: rest))) : W p l e R s m as below meth c H locs cells slots Q (F0 m pc ls (.int (nI j) :: .ref (ad k) :: rest)) := by
  have hcl : (nI j).toNatClampNeg = j := nI_clamp (by omega)
  have h1 : H[ad k]? = some (vp_cell t.2.2.1 (n, .inr (.inr (.inr (.inr f))))) := hP k (ad k, .inl (t.2.2.1, n, .inr (.inr (.inr (.inr f))))) (by rw [wd_at hk, hV])
  refine W.aald (v := .ref a) (ty := .array .int) X.1.1 X.1.2.1 h1 ((X.2.1.2 2 _ rfl).1 n (fun j => va_rf (f j))) rfl (fun q => by cases q) (by show ¬ (nI j < 0 ∨ (arrV _ _ _).slots.size ≤ _); rw [arrV_size]; exact vp_in_nI hj hn) (by show (arrV _ _ _).slots[_]? = _; rw [hcl, arrV_read _ _ hj, hf]; rfl) rfl rfl hdg kk
/-- an object out of an array of States -/
theorem r_qld (X : WX p s m as c cc nL own dd t) (hP : HP dd N ad V H) {k n : Nat} {f : Nat → Option Nat} (hk : k < N) (hV : V k = .inl (t.2.2.2, n, .inr (.inr (.inr (.inr f))))) {j a : Nat} (hj : j < n) (hn : n < 2 ^ 31) (hf : f j = some a) (hdg : decode cc pc = .ok (.aaload, 1))
    (kk : W p l e R s m as below meth c H locs cells slots Q (F0 m (pc + 1) ls (.ref a :: rest))) : W p l e R s m as below meth c H locs cells slots Q (F0 m pc ls (.int (nI j) :: .ref (ad k) :: rest)) := by
  refine va_aldq (C := RX4) X.1.1 X.1.2.1 X.2.1 hP k 3 (by rw [wd_at hk, hV]) rfl (vp_in_nI hj hn) hdg ?_
  rw [nI_clamp (by omega), hf]
  exact kk
theorem r_qst (X : WX p s m as c cc nL own dd t) (hi : inj N ad) (hP : HP dd N ad V H) (hS : va_S (dm N ad H0.size) H0 H locs) {k n k2 : Nat} {f : Nat → Option Nat} {vs : List Value} (hk : k < N) (hV : V k = .inl (t.2.2.2, n, .inr (.inr (.inr (.inr f))))) (hk2 : k2 < N) (hV2 : V k2 = .inr (4, vs)) {j : Nat} (hj : j < n) (hn : n < 2 ^ 31) (hdg : decode cc pc = .ok (.aastore, 1))
    (kk : ∀ (V1 : Nat → va_E) (H1 : Heap) (locs1 : List Loc), V1 k = .inl (t.2.2.2, n, .inr (.inr (.inr (.inr (va_up f j (some (ad k2))))))) → (∀ i, i ≠ k → V1 i = V i) → HP dd N ad V1 H1 → va_S (dm N ad H0.size) H0 H1 locs1 → W p l e R s m as below meth c H1 locs1 cells slots Q (F0 m (pc + 1) ls rest)) : W p l e R s m as below meth c H locs cells slots Q (F0 m pc ls (.ref (ad k2) :: .int (nI j) :: .ref (ad k) :: rest)) := by
  refine va_astq (r := (RX4, TX4, 4)) X.1.1 X.1.2.1 X.2.1 hP (wd_D hi) hS k 3 k2 4 (by rw [wd_at hk, hV]) rfl (by rw [wd_at hk2, hV2]) rfl (vp_in_nI hj hn) hdg (fun H1 locs1 hP1 _ hS1 => ?_)
  rw [nI_clamp (by omega), wd_set hk] at hP1
  exact kk _ H1 locs1 (va_up_self _ _ _) (fun i hi => va_up_ne _ _ hi) hP1 hS1
end LY
/-! calls -/
theorem GW_goodIn {y : MethodName} {b : ByteArray} {nL : Nat} {ret : Option FieldType} (h : Cond.code y b nL ret ∈ GW) : GoodIn GW (Cond.code y b nL ret :: GW) := by
  intro w hw
  have h2 : w ∈ GW := by
    rcases List.mem_cons.mp hw with rfl | h3
    · exact h
    · exact h3
  exact ⟨h2, good_of_word (List.all_eq_true.mp GW_good w h2)⟩
/-- what is known of a callee -/
def okV (y : MethodName) (b : ByteArray) (nL : Nat) (ret : Option FieldType) (n : Nat) : Prop := Cond.instanceMethod y ∈ GW ∧ Cond.selects y.cls y y ∈ GW ∧ Cond.initialized y.cls ∈ GW ∧ Cond.code y b nL ret ∈ GW ∧ y.cls ≠ "java/lang/invoke/MethodHandle" ∧ y.cls ≠ "java/lang/invoke/VarHandle" ∧ (parseMethodDescriptor y.desc).map (fun d => d.parameters.length) = some n
def okS (y : MethodName) (b : ByteArray) (nL : Nat) (ret : Option FieldType) (n : Nat) : Prop := Cond.static y ∈ GW ∧ Cond.initialized y.cls ∈ GW ∧ Cond.code y b nL ret ∈ GW ∧ y.cls ≠ "java/lang/invoke/MethodHandle" ∧ y.cls ≠ "java/lang/invoke/VarHandle" ∧ (parseMethodDescriptor y.desc).map (fun d => d.parameters.length) = some n
def rmLe (rm R : Room) (nL : Nat) : Prop := rm.frames + 1 ≤ R.frames ∧ 8 + (nL + 11) + rm.locals ≤ R.locals
section CY
variable {p : Program} {l : Launch} {e : Env} {R : Room} {s : State} {m : MethodId} {as : Array Value} {below : List Frame} {meth : Method} {c : Code} {H H0 : Heap} {locs : List Loc} {cells slots : Nat} {Q : State → Prop}
variable {cc b : ByteArray} {nL nM n pc index k ci : Nat} {own : String} {ls : Array Slot} {rest As : List Value} {dd : va_G} {t : CL4} {N : Nat} {ad : Nat → Nat} {V : Nat → va_E} {y : MethodName} {ret : Option FieldType} {rm : Room} {v : Int32} {vs : List Value} {T : u_T} {nf : Nat} {st0 : List Value}
theorem cb_of (X : WX p s m as c cc nL own dd t) (hcode : Cond.code y b nM ret ∈ GW) (hini : Cond.initialized y.cls ∈ GW) (hd : y.cls ≠ "java/lang/invoke/MethodHandle" ∧ y.cls ≠ "java/lang/invoke/VarHandle" ∧ (parseMethodDescriptor y.desc).map (fun d => d.parameters.length) = some n) (hl : Cond.methodLink own index y ∈ GW) (hrm : rm.cells = 0 ∧ rm.slots = 0) (hR : rmLe rm R nM) :
    CallB R s as own index y b nM ret (Cond.code y b nM ret :: GW) rm 0 0 n :=
  callB_of n X.1.2.2.2.2 (GW_goodIn hcode) rfl hrm.1 hrm.2 (X.1.2.2.2.2 _ hini) (X.1.2.2.2.2 _ hl) hd hR
theorem rcv_of (X : WX p s m as c cc nL own dd t) (hP : HP dd N ad V H) {C : String} (hc : vwCl[ci]? = some (C, T, nf)) (hk : k < N) (hV : V k = .inr (ci, vs)) : ∃ cellB : Cell, H[ad k]? = some cellB ∧ cellB.vm.isStatics = false ∧ s.vm.findClass C = some cellB.cls :=
  va_recv X.2.1 hP hc (by rw [wd_at hk, hV])
/-- a reader, called on an object -/
theorem r_call (X : WX p s m as c cc nL own dd t) (hP : HP dd N ad V H) (hM : RM l dd t N ad V y b nM ret rm (.ref (ad k) :: As) v) (ok : okV y b nM ret n) (hc : vwCl[ci]? = some (y.cls, T, nf)) (hk : k < N) (hV : V k = .inr (ci, vs)) (hl : Cond.methodLink own index y ∈ GW) (hrm : rm.cells = 0 ∧ rm.slots = 0) (hR : rmLe rm R nM) (hn : As.length = n) (hls : ls.size = nL) (hst : st0 = As.reverse ++ .ref (ad k) :: rest) (hW : (rest.map fun v => v.category).sum ≤ 8) (hf : cells ≤ R.cells ∧ slots ≤ R.slots) (hdg : decode cc pc = .ok (.invokevirtual index, 3))
    (kk : W p l e R s m as below meth c H locs cells slots Q (F0 m (pc + 3) ls (.int v :: rest))) : W p l e R s m as below meth c H locs cells slots Q (F0 m pc ls st0) := by
  obtain ⟨o1, o2, o3, o4, o5⟩ := ok
  refine vp_callSi (rest := rest) (W.runV (b := ad k) (As := As) (rest := rest) X.1 hM (C := y.cls) ⟨cb_of X o4 o3 o5 hl hrm hR, X.1.2.2.2.2 _ o1, X.1.2.2.2.2 _ o2⟩ ⟨fun a U g mk h => ⟨h.1, h.2.1.calling, h.2.2⟩, rcv_of X hP hc hk hV, fun U hU hW => ⟨rfl, X.2.warm hW, by rw [hU]; exact hP⟩⟩ rfl hn hls hst (lv_room hW) hdg hf) (fun r hr => ?_)
  rw [hr]
  exact kk
/-- a reader that is static -/
theorem r_callS (X : WX p s m as c cc nL own dd t) (hP : HP dd N ad V H) (hM : RM l dd t N ad V y b nM ret rm As v) (ok : okS y b nM ret n) (hl : Cond.methodLink own index y ∈ GW) (hrm : rm.cells = 0 ∧ rm.slots = 0) (hR : rmLe rm R nM) (hn : As.length = n) (hls : ls.size = nL) (hst : st0 = As.reverse ++ rest) (hW : (rest.map fun v => v.category).sum ≤ 8) (hf : cells ≤ R.cells ∧ slots ≤ R.slots) (hdg : decode cc pc = .ok (.invokestatic index, 3))
    (kk : W p l e R s m as below meth c H locs cells slots Q (F0 m (pc + 3) ls (.int v :: rest))) : W p l e R s m as below meth c H locs cells slots Q (F0 m pc ls st0) := by
  obtain ⟨o1, o3, o4, o5⟩ := ok
  refine vp_callSi (rest := rest) (W.runS (As := As) (rest := rest) X.1 hM ⟨cb_of X o4 o3 o5 hl hrm hR, X.1.2.2.2.2 _ o1⟩ ⟨fun a U g mk h => ⟨h.1, h.2.1.calling, h.2.2⟩, fun U hU hW => ⟨rfl, X.2.warm hW, by rw [hU]; exact hP⟩⟩ rfl hn hls hst (lv_room hW) hdg hf) (fun r hr => ?_)
  rw [hr]
  exact kk
theorem va_run_si {post : Int32 → Prop} {a : Array Value} (hr : va_Run p l e R s m as below meth c H locs cells slots 0 0 (F0 m pc ls st0) rest (vp_Si post a) (fun _ => False))
    (kk : ∀ r : Int32, post r → W p l e R s m as below meth c H locs cells slots Q (F0 m (pc + 3) ls (.int r :: rest))) : W p l e R s m as below meth c H locs cells slots Q (F0 m pc ls st0) := by
  intro T hT X
  obtain ⟨v, st₀, t, T', L, h0, X', hL, e1, e2, ⟨r, hv, hp, hh⟩, st⟩ := hr T hT X
  cases hv
  obtain ⟨t2, a1, b1⟩ := kk r hp T' (by rw [e1, hh, h0]) (Stand.forget X' (fun q h => (hL q h).elim))
  exact ⟨t2, st t2 a1, b1⟩
/-- isIn, a private static of the outer class -/
theorem r_callN (X : WX p s m as c cc nL own dd t) (hP : HP dd N ad V H) (hM : RM l dd t N ad V y b nM ret rm As v) (ok : okS y b nM ret n) {host : String} (hl : va_Nw (.methodLinkNest own index y host) s) (hrm : rm.cells = 0 ∧ rm.slots = 0) (hR : rmLe rm R nM) (hn : As.length = n) (hls : ls.size = nL) (hst : st0 = As.reverse ++ rest) (hW : (rest.map fun v => v.category).sum ≤ 8) (hf : cells ≤ R.cells ∧ slots ≤ R.slots) (hdg : decode cc pc = .ok (.invokestatic index, 3))
    (kk : W p l e R s m as below meth c H locs cells slots Q (F0 m (pc + 3) ls (.int v :: rest))) : W p l e R s m as below meth c H locs cells slots Q (F0 m pc ls st0) := by
  obtain ⟨o1, o3, o4, o5⟩ := ok
  refine va_run_si (rest := rest) (va_runSN (As := As) (rest := rest) X.1 hM ⟨va_cnB n X.1.2.2.2.2 (GW_goodIn o4) rfl hrm.1 hrm.2 hl (X.1.2.2.2.2 _ o3) o5 hR, X.1.2.2.2.2 _ o1, trivial⟩ ⟨fun a U g mk h => ⟨h.1, h.2.1.calling, h.2.2⟩, fun U hU hW => ⟨rfl, X.2.warm hW, by rw [hU]; exact hP⟩⟩ rfl hn hls hst (lv_room hW) hdg hf) (fun r hr => ?_)
  rw [hr]
  exact kk
theorem dm_call {q : Nat} (hS : va_S (dm N ad H0.size) H0 H locs) (h : dm N ad H.size q) : dm N ad H0.size q := dm_mono hS.1 h
/-- a writer with an answer, called on an object -/
theorem r_callM (X : WX p s m as c cc nL own dd t) (hP : HP dd N ad V H) (hS : va_S (dm N ad H0.size) H0 H locs) {post : Int32 → (Nat → va_E) → Prop} (hM : MM l dd t N ad V y b nM ret rm (.ref (ad k) :: As) post) (ok : okV y b nM ret n) (hc : vwCl[ci]? = some (y.cls, T, nf)) (hk : k < N) (hV : V k = .inr (ci, vs)) (hl : Cond.methodLink own index y ∈ GW) (hrm : rm.cells = 0 ∧ rm.slots = 0) (hR : rmLe rm R nM) (hn : As.length = n) (hls : ls.size = nL) (hst : st0 = As.reverse ++ .ref (ad k) :: rest) (hW : (rest.map fun v => v.category).sum ≤ 8) (hf : cells ≤ R.cells ∧ slots ≤ R.slots) (hdg : decode cc pc = .ok (.invokevirtual index, 3))
    (kk : ∀ (r : Int32) (V1 : Nat → va_E) (H1 : Heap) (locs1 : List Loc), post r V1 → HP dd N ad V1 H1 → va_S (dm N ad H0.size) H0 H1 locs1 → W p l e R s m as below meth c H1 locs1 cells slots Q (F0 m (pc + 3) ls (.int r :: rest))) : W p l e R s m as below meth c H locs cells slots Q (F0 m pc ls st0) := by
  obtain ⟨o1, o2, o3, o4, o5⟩ := ok
  refine va_calli (rest := rest) (va_runV (b := ad k) (As := As) (rest := rest) X.1 (hM H.size) (C := y.cls) ⟨cb_of X o4 o3 o5 hl hrm hR, X.1.2.2.2.2 _ o1, X.1.2.2.2.2 _ o2⟩ ⟨fun a U g mk h => ⟨h.1, h.2.1, h.2.2.1.calling, h.2.2.2⟩, rcv_of X hP hc hk hV, fun U hU hW => ⟨rfl, by rw [hU], X.2.warm hW, by rw [hU]; exact hP⟩⟩ rfl hn hls hst (lv_room hW) hdg hf) hS (fun q _ h => dm_call hS h) (fun q h => dm_call hS h) (fun r V1 t1 H1 locs1 e1 _ hp hB _ _ hS1 => ?_)
  rw [e1] at hB
  exact kk r V1 H1 locs1 hp hB hS1
/-- a writer without an answer -/
theorem r_callW (X : WX p s m as c cc nL own dd t) (hP : HP dd N ad V H) (hS : va_S (dm N ad H0.size) H0 H locs) {post : (Nat → va_E) → Prop} (hM : MV l dd t N ad V y b nM rm (.ref (ad k) :: As) post) (ok : okV y b nM none n) (hc : vwCl[ci]? = some (y.cls, T, nf)) (hk : k < N) (hV : V k = .inr (ci, vs)) (hl : Cond.methodLink own index y ∈ GW) (hrm : rm.cells = 0 ∧ rm.slots = 0) (hR : rmLe rm R nM) (hn : As.length = n) (hls : ls.size = nL) (hst : st0 = As.reverse ++ .ref (ad k) :: rest) (hW : (rest.map fun v => v.category).sum ≤ 8) (hf : cells ≤ R.cells ∧ slots ≤ R.slots) (hdg : decode cc pc = .ok (.invokevirtual index, 3))
    (kk : ∀ (V1 : Nat → va_E) (H1 : Heap) (locs1 : List Loc), post V1 → HP dd N ad V1 H1 → va_S (dm N ad H0.size) H0 H1 locs1 → W p l e R s m as below meth c H1 locs1 cells slots Q (F0 m (pc + 3) ls rest)) : W p l e R s m as below meth c H locs cells slots Q (F0 m pc ls st0) := by
  obtain ⟨o1, o2, o3, o4, o5⟩ := ok
  refine va_callv (rest := rest) (va_runV (b := ad k) (As := As) (rest := rest) X.1 (hM H.size) (C := y.cls) ⟨cb_of X o4 o3 o5 hl hrm hR, X.1.2.2.2.2 _ o1, X.1.2.2.2.2 _ o2⟩ ⟨fun a U g mk h => ⟨h.1, h.2.1, h.2.2.1.calling, h.2.2.2⟩, rcv_of X hP hc hk hV, fun U hU hW => ⟨rfl, by rw [hU], X.2.warm hW, by rw [hU]; exact hP⟩⟩ rfl hn hls hst (lv_room hW) hdg hf) hS (fun q _ h => dm_call hS h) (fun q h => dm_call hS h) (fun V1 t1 H1 locs1 e1 _ hp hB _ _ hS1 => ?_)
  rw [e1] at hB
  exact kk V1 H1 locs1 hp hB hS1
end CY
/-! contracts out of walks -/
def narOk (ret : Option FieldType) (v : Int32) : Prop := ∃ ty, ret = some ty ∧ narrow ty (.int v) = .int v
theorem narI (v : Int32) : narOk (some .int) v := ⟨.int, rfl, rfl⟩
def b01 (q : Bool) : Int32 := if q = true then 1 else 0
theorem narB (q : Bool) : narOk (some .boolean) (b01 q) := ⟨.boolean, rfl, by cases q <;> rfl⟩
section MK
variable {l : Launch} {dd : va_G} {t : CL4} {N : Nat} {ad : Nat → Nat} {V : Nat → va_E} {y : MethodName} {b : ByteArray} {nL : Nat} {ret : Option FieldType} {rm : Room} {args : List Value}
theorem RM.of {v : Int32} (hy : plainName y.cls = true) (hrm : rm.cells = 0 ∧ rm.slots = 0) (hlen : (lg_sl args).length ≤ nL) (hv : narOk ret v)
    (w : ∀ (p : Program) (e : Env) (s : State) (m : MethodId) (as : Array Value) (below : List Frame) (meth : Method) (c : Code) (Q : State → Prop), WX p s m as c b nL y.cls dd t → ∀ (H : Heap), HP dd N ad V H → ∀ ls : Array Slot, lv_has ls nL (lv_args 0 args) →
      (∀ (pc : Nat) (ls : Array Slot) (r : Int32), r = v → decode b pc = .ok (.ireturn, 1) → W p l e rm s m as below meth c H [] 0 0 Q (F0 m pc ls [.int r])) → W p l e rm s m as below meth c H [] 0 0 Q (F0 m 0 ls [])) :
    RM l dd t N ad V y b nL ret rm args v := by
  refine Met.ofW (cc := b) (maxL := nL) (ret := ret) hy rfl ?_
  intro p e s m as below meth c s₁ B hml hv0
  obtain ⟨rfl, hC, hP⟩ := hv0
  have hts := atoms_spec (ws := Cond.code y b nL ret :: GW) B.pre
  have hX : WX p s m args.toArray c b nL y.cls dd t := ⟨⟨B.exec, B.bytes, hml, findClass_of_methodNamed B.named, fun w hw => hts w (List.mem_cons_of_mem _ hw)⟩, hC⟩
  have hl := lv_entry args (n := nL) hlen
  rw [lg_entry_eq]
  obtain ⟨ty, hret, hn⟩ := hv
  have hlocks := B.notSynchronized
  refine w p e s m args.toArray below meth c _ hX s.heap hP _ hl (fun pc ls r hr hdg => ?_)
  subst hr
  exact W.zret (ty := ty) B.exec B.bytes (by rw [B.returns, hret]) hn (fun t ht hW => ⟨r, rfl, rfl, ht⟩) (fun q hq => by cases hq) hdg
theorem MM.of {post : Int32 → (Nat → va_E) → Prop} (hy : plainName y.cls = true) (hrm : rm.cells = 0 ∧ rm.slots = 0) (hlen : (lg_sl args).length ≤ nL) {ty : FieldType} (hret : ret = some ty)
    (w : ∀ (p : Program) (e : Env) (s : State) (m : MethodId) (as : Array Value) (below : List Frame) (meth : Method) (c : Code) (Q : State → Prop), WX p s m as c b nL y.cls dd t → ∀ (H : Heap), HP dd N ad V H → va_S (dm N ad H.size) H H [] → ∀ ls : Array Slot, lv_has ls nL (lv_args 0 args) →
      (∀ (pc : Nat) (ls : Array Slot) (r : Int32) (V1 : Nat → va_E) (H1 : Heap) (locs1 : List Loc), HP dd N ad V1 H1 → va_S (dm N ad H.size) H H1 locs1 → narrow ty (.int r) = .int r → post r V1 → decode b pc = .ok (.ireturn, 1) → W p l e rm s m as below meth c H1 locs1 0 0 Q (F0 m pc ls [.int r])) → W p l e rm s m as below meth c H [] 0 0 Q (F0 m 0 ls [])) :
    MM l dd t N ad V y b nL ret rm args post := by
  intro sz
  refine Met.ofW (cc := b) (maxL := nL) (ret := ret) hy rfl ?_
  intro p e s m as below meth c s₁ B hml hv0
  obtain ⟨rfl, hsz, hC, hP⟩ := hv0
  subst hsz
  have hts := atoms_spec (ws := Cond.code y b nL ret :: GW) B.pre
  have hX : WX p s m args.toArray c b nL y.cls dd t := ⟨⟨B.exec, B.bytes, hml, findClass_of_methodNamed B.named, fun w hw => hts w (List.mem_cons_of_mem _ hw)⟩, hC⟩
  have hl := lv_entry args (n := nL) hlen
  rw [lg_entry_eq]
  have hlocks := B.notSynchronized
  refine w p e s m args.toArray below meth c _ hX s.heap hP va_S.rf _ hl (fun pc ls r V1 H1 locs1 hP1 hS1 hn hp hdg => ?_)
  exact W.zret (ty := ty) B.exec B.bytes (by rw [B.returns, hret]) hn (fun t ht hW => ⟨⟨r, V1, rfl, hp, by show HP dd N ad V1 t.heap; rw [ht]; exact hP1⟩, hS1.F ht⟩) hS1.2.2 hdg
theorem MV.of {post : (Nat → va_E) → Prop} (hy : plainName y.cls = true) (hrm : rm.cells = 0 ∧ rm.slots = 0) (hlen : (lg_sl args).length ≤ nL)
    (w : ∀ (p : Program) (e : Env) (s : State) (m : MethodId) (as : Array Value) (below : List Frame) (meth : Method) (c : Code) (Q : State → Prop), WX p s m as c b nL y.cls dd t → ∀ (H : Heap), HP dd N ad V H → va_S (dm N ad H.size) H H [] → ∀ ls : Array Slot, lv_has ls nL (lv_args 0 args) →
      (∀ (pc : Nat) (ls : Array Slot) (V1 : Nat → va_E) (H1 : Heap) (locs1 : List Loc), HP dd N ad V1 H1 → va_S (dm N ad H.size) H H1 locs1 → post V1 → decode b pc = .ok (.return_, 1) → W p l e rm s m as below meth c H1 locs1 0 0 Q (F0 m pc ls [])) → W p l e rm s m as below meth c H [] 0 0 Q (F0 m 0 ls [])) :
    MV l dd t N ad V y b nL rm args post := by
  intro sz
  refine Met.ofW (cc := b) (maxL := nL) (ret := none) hy rfl ?_
  intro p e s m as below meth c s₁ B hml hv0
  obtain ⟨rfl, hsz, hC, hP⟩ := hv0
  subst hsz
  have hts := atoms_spec (ws := Cond.code y b nL none :: GW) B.pre
  have hX : WX p s m args.toArray c b nL y.cls dd t := ⟨⟨B.exec, B.bytes, hml, findClass_of_methodNamed B.named, fun w hw => hts w (List.mem_cons_of_mem _ hw)⟩, hC⟩
  have hl := lv_entry args (n := nL) hlen
  rw [lg_entry_eq]
  have hlocks := B.notSynchronized
  refine w p e s m args.toArray below meth c _ hX s.heap hP va_S.rf _ hl (fun pc ls V1 H1 locs1 hP1 hS1 hp hdg => ?_)
  exact W.vret B.exec B.bytes B.returns (fun t ht hW => ⟨⟨V1, rfl, hp, by show HP dd N ad V1 t.heap; rw [ht]; exact hP1⟩, hS1.F ht⟩) hS1.2.2 hdg
end MK
end
section
/-! PICTURES: what the cells of one object hold, as a tuple of plain values (only what lies in range is said) -/
def arr (cA : ClassId) (n : Nat) (f : Nat → Int32) (e : va_E) : Prop := ∃ g : Nat → Int32, e = .inl (cA, n, .inl g) ∧ ∀ j, j < n → g j = f j
theorem arr.ext {cA : ClassId} {n : Nat} {f f' : Nat → Int32} {e : va_E} (h : arr cA n f e) (hf : ∀ j, j < n → f j = f' j) : arr cA n f' e := by
  obtain ⟨g, e1, e2⟩ := h
  exact ⟨g, e1, fun j hj => (e2 j hj).trans (hf j hj)⟩
def refs (cA : ClassId) (n : Nat) (f : Nat → Nat) (e : va_E) : Prop := ∃ g : Nat → Option Nat, e = .inl (cA, n, .inr (.inr (.inr (.inr g)))) ∧ ∀ j, j < n → g j = some (f j)
theorem upd_at (f : Nat → Int32) (k : Nat) (x : Int32) : upd f k x k = x := by simp [upd]
theorem upd_ne (f : Nat → Int32) {k j : Nat} (x : Int32) (h : j ≠ k) : upd f k x j = f j := by simp [upd, h]
theorem arr_upd {cA : ClassId} {n j : Nat} {f g : Nat → Int32} {x : Int32} {e : va_E} (hg : ∀ j, j < n → g j = f j) (he : e = .inl (cA, n, .inl (upd g j x))) : arr cA n (upd f j x) e := by
  refine ⟨_, he, fun i hi => ?_⟩
  by_cases h : i = j
  · subst h
    rw [upd_at, upd_at]
  · rw [upd_ne _ _ h, upd_ne _ _ h, hg i hi]
section AR
variable {p : Program} {l : Launch} {e : Env} {R : Room} {s : State} {m : MethodId} {as : Array Value} {below : List Frame} {meth : Method} {c : Code} {H H0 : Heap} {locs : List Loc} {cells slots : Nat} {Q : State → Prop}
variable {cc : ByteArray} {nL pc : Nat} {own : String} {ls : Array Slot} {rest : List Value} {dd : va_G} {t : CL4} {N : Nat} {ad : Nat → Nat} {V : Nat → va_E} {b k n : Nat}
theorem a_ild (X : WX p s m as c cc nL own dd t) (hP : HP dd N ad V H) {f : Nat → Int32} (hk : k < N) (hV : arr t.1 n f (V k)) {j : Nat} (hj : j < n) (hn : n < 2 ^ 31) (hdg : decode cc pc = .ok (.iaload, 1))
    (kk : W p l e R s m as below meth c H locs cells slots Q (F0 m (pc + 1) ls (.int (f j) :: rest))) : W p l e R s m as below meth c H locs cells slots Q (F0 m pc ls (.int (nI j) :: .ref (ad k) :: rest)) := by
  obtain ⟨g, e1, e2⟩ := hV
  refine r_ild X hP hk e1 hj hn hdg ?_
  rw [e2 j hj]
  exact kk
theorem a_cld (X : WX p s m as c cc nL own dd t) (hP : HP dd N ad V H) {f : Nat → Int32} (hk : k < N) (hV : arr t.2.1 n f (V k)) {j : Nat} (hj : j < n) (hn : n < 2 ^ 31) (hdg : decode cc pc = .ok (.caload, 1))
    (kk : W p l e R s m as below meth c H locs cells slots Q (F0 m (pc + 1) ls (.int (f j) :: rest))) : W p l e R s m as below meth c H locs cells slots Q (F0 m pc ls (.int (nI j) :: .ref (ad k) :: rest)) := by
  obtain ⟨g, e1, e2⟩ := hV
  refine r_cld X hP hk e1 hj hn hdg ?_
  rw [e2 j hj]
  exact kk
theorem a_ist (X : WX p s m as c cc nL own dd t) (hi : inj N ad) (hP : HP dd N ad V H) (hS : va_S (dm N ad H0.size) H0 H locs) {f : Nat → Int32} (hk : k < N) (hV : arr t.1 n f (V k)) {j : Nat} {x : Int32} (hj : j < n) (hn : n < 2 ^ 31) (hdg : decode cc pc = .ok (.iastore, 1))
    (kk : ∀ (V1 : Nat → va_E) (H1 : Heap) (locs1 : List Loc), arr t.1 n (upd f j x) (V1 k) → (∀ i, i ≠ k → V1 i = V i) → HP dd N ad V1 H1 → va_S (dm N ad H0.size) H0 H1 locs1 → W p l e R s m as below meth c H1 locs1 cells slots Q (F0 m (pc + 1) ls rest)) : W p l e R s m as below meth c H locs cells slots Q (F0 m pc ls (.int x :: .int (nI j) :: .ref (ad k) :: rest)) := by
  obtain ⟨g, e1, e2⟩ := hV
  exact r_ist X hi hP hS hk e1 hj hn hdg (fun V1 H1 locs1 h1 h2 h3 h4 => kk V1 H1 locs1 (arr_upd e2 h1) h2 h3 h4)
theorem a_cst (X : WX p s m as c cc nL own dd t) (hi : inj N ad) (hP : HP dd N ad V H) (hS : va_S (dm N ad H0.size) H0 H locs) {f : Nat → Int32} (hk : k < N) (hV : arr t.2.1 n f (V k)) {j : Nat} {x : Int32} (hj : j < n) (hn : n < 2 ^ 31) (hdg : decode cc pc = .ok (.castore, 1))
    (kk : ∀ (V1 : Nat → va_E) (H1 : Heap) (locs1 : List Loc), arr t.2.1 n (upd f j (vp_nar .char x)) (V1 k) → (∀ i, i ≠ k → V1 i = V i) → HP dd N ad V1 H1 → va_S (dm N ad H0.size) H0 H1 locs1 → W p l e R s m as below meth c H1 locs1 cells slots Q (F0 m (pc + 1) ls rest)) : W p l e R s m as below meth c H locs cells slots Q (F0 m pc ls (.int x :: .int (nI j) :: .ref (ad k) :: rest)) := by
  obtain ⟨g, e1, e2⟩ := hV
  exact r_cst X hi hP hS hk e1 hj hn hdg (fun V1 H1 locs1 h1 h2 h3 h4 => kk V1 H1 locs1 (arr_upd e2 h1) h2 h3 h4)
theorem a_gld (X : WX p s m as c cc nL own dd t) (hP : HP dd N ad V H) {f : Nat → Nat} (hk : k < N) (hV : refs t.2.2.1 n f (V k)) {j : Nat} (hj : j < n) (hn : n < 2 ^ 31) (hdg : decode cc pc = .ok (.aaload, 1))
    (kk : W p l e R s m as below meth c H locs cells slots Q (F0 m (pc + 1) ls (.ref (f j) :: rest))) : W p l e R s m as below meth c H locs cells slots Q (F0 m pc ls (.int (nI j) :: .ref (ad k) :: rest)) := by
  obtain ⟨g, e1, e2⟩ := hV
  exact r_gld X hP hk e1 hj hn (e2 j hj) hdg kk
theorem a_qld (X : WX p s m as c cc nL own dd t) (hP : HP dd N ad V H) {f : Nat → Nat} (hk : k < N) (hV : refs t.2.2.2 n f (V k)) {j : Nat} (hj : j < n) (hn : n < 2 ^ 31) (hdg : decode cc pc = .ok (.aaload, 1))
    (kk : W p l e R s m as below meth c H locs cells slots Q (F0 m (pc + 1) ls (.ref (f j) :: rest))) : W p l e R s m as below meth c H locs cells slots Q (F0 m pc ls (.int (nI j) :: .ref (ad k) :: rest)) := by
  obtain ⟨g, e1, e2⟩ := hV
  exact r_qld X hP hk e1 hj hn (e2 j hj) hdg kk
theorem a_qst (X : WX p s m as c cc nL own dd t) (hi : inj N ad) (hP : HP dd N ad V H) (hS : va_S (dm N ad H0.size) H0 H locs) {f : Nat → Nat} (hk : k < N) (hV : refs t.2.2.2 n f (V k)) {k2 : Nat} {vs : List Value} (hk2 : k2 < N) (hV2 : V k2 = .inr (4, vs)) {j : Nat} (hj : j < n) (hn : n < 2 ^ 31) (hdg : decode cc pc = .ok (.aastore, 1))
    (kk : ∀ (V1 : Nat → va_E) (H1 : Heap) (locs1 : List Loc), refs t.2.2.2 n (va_up f j (ad k2)) (V1 k) → (∀ i, i ≠ k → V1 i = V i) → HP dd N ad V1 H1 → va_S (dm N ad H0.size) H0 H1 locs1 → W p l e R s m as below meth c H1 locs1 cells slots Q (F0 m (pc + 1) ls rest)) : W p l e R s m as below meth c H locs cells slots Q (F0 m pc ls (.ref (ad k2) :: .int (nI j) :: .ref (ad k) :: rest)) := by
  obtain ⟨g, e1, e2⟩ := hV
  refine r_qst X hi hP hS hk e1 hk2 hV2 hj hn hdg (fun V1 H1 locs1 h1 h2 h3 h4 => kk V1 H1 locs1 ⟨_, h1, fun i hi => ?_⟩ h2 h3 h4)
  by_cases h : i = j
  · subst h
    rw [va_up_self, va_up_self]
  · rw [va_up_ne _ _ h, va_up_ne _ _ h, e2 i hi]
end AR
abbrev PlC : Type := Nat × Nat × Int32 × (Nat → Int32) × (Nat → Int32) × (Nat → Nat → Int32) × (Nat → Int32)
abbrev pN (x : PlC) : Nat := x.1
abbrev pM (x : PlC) : Nat := x.2.1
abbrev pO (x : PlC) : Int32 := x.2.2.1
abbrev pP (x : PlC) : Nat → Int32 := x.2.2.2.1
abbrev pD (x : PlC) : Nat → Int32 := x.2.2.2.2.1
abbrev pR (x : PlC) : Nat → Nat → Int32 := x.2.2.2.2.2.1
abbrev pE (x : PlC) : Nat → Int32 := x.2.2.2.2.2.2
abbrev mkP (n m : Nat) (o : Int32) (p d : Nat → Int32) (r : Nat → Nat → Int32) (e : Nat → Int32) : PlC := (n, m, o, p, d, r, e)
abbrev CuC : Type := Nat × (Nat → Int32) × (Nat → Int32) × (Nat → Nat → Int32)
abbrev kA (x : CuC) : Nat := x.1
abbrev kC (x : CuC) : Nat → Int32 := x.2.1
abbrev kS (x : CuC) : Nat → Int32 := x.2.2.1
abbrev kW (x : CuC) : Nat → Nat → Int32 := x.2.2.2
abbrev mkC (a : Nat) (c s : Nat → Int32) (w : Nat → Nat → Int32) : CuC := (a, c, s, w)
abbrev StC : Type := PlC × CuC × Int32 × Int32
abbrev sP (z : StC) : PlC := z.1
abbrev sK (z : StC) : CuC := z.2.1
abbrev sB (z : StC) : Int32 := z.2.2.1
abbrev sT (z : StC) : Int32 := z.2.2.2
abbrev mkS (x : PlC) (y : CuC) (b t : Int32) : StC := (x, y, b, t)
abbrev MoC : Type := (Nat → Int32) × (Nat → Int32) × (Nat → Int32) × (Nat → Int32) × Nat × Int32 × (Nat → Int32) × Nat × Nat × (Nat → Int32)
abbrev oR (x : MoC) : Nat → Int32 := x.1
abbrev oP (x : MoC) : Nat → Int32 := x.2.1
abbrev oA (x : MoC) : Nat → Int32 := x.2.2.1
abbrev oB (x : MoC) : Nat → Int32 := x.2.2.2.1
abbrev oS (x : MoC) : Nat := x.2.2.2.2.1
abbrev oI (x : MoC) : Int32 := x.2.2.2.2.2.1
abbrev oX (x : MoC) : Nat → Int32 := x.2.2.2.2.2.2.1
abbrev oL (x : MoC) : Nat := x.2.2.2.2.2.2.2.1
abbrev oT (x : MoC) : Nat := x.2.2.2.2.2.2.2.2.1
abbrev oN (x : MoC) : Nat → Int32 := x.2.2.2.2.2.2.2.2.2
abbrev mkM (r p a b : Nat → Int32) (s : Nat) (i : Int32) (x : Nat → Int32) (l t : Nat) (n : Nat → Int32) : MoC := (r, p, a, b, s, i, x, l, t, n)
abbrev TxC : Type := (Nat → Int32) × Nat
abbrev tC (x : TxC) : Nat → Int32 := x.1
abbrev tL (x : TxC) : Nat := x.2
abbrev mkX (c : Nat → Int32) (l : Nat) : TxC := (c, l)
abbrev SoC : Type := Int32 × Int32
abbrev uB (x : SoC) : Int32 := x.1
abbrev uT (x : SoC) : Int32 := x.2
abbrev mkO (a b : Int32) : SoC := (a, b)
abbrev HoC : Type := Nat
abbrev hA (x : HoC) : Nat := x
abbrev mkH (a : Nat) : HoC := a
abbrev ZoC : Type := Int32
abbrev zS (x : ZoC) : Int32 := x
abbrev mkZ (a : Int32) : ZoC := a
/-- a row of eight numbers -/
def NuP (N : Nat) (V : Nat → va_E) (t : CL4) (b : Nat) (f : Nat → Int32) : Prop := b < N ∧ arr t.1 8 f (V b)
theorem NuP.keep {N : Nat} {V V1 : Nat → va_E} {t : CL4} {b : Nat} {f : Nat → Int32} (h : NuP N V t b f) (q : ∀ k, b ≤ k → k < b + 1 → V1 k = V k) : NuP N V1 t b f := ⟨h.1, by rw [q b (by omega) (by omega)]; exact h.2⟩
def PlP (N : Nat) (ad : Nat → Nat) (V : Nat → va_E) (t : CL4) (b : Nat) (x : PlC) : Prop := (b + 12 ≤ N) ∧ (V b = .inr (3, [.int (nI (pN x)), .int (nI (pM x)), .int (pO x), .ref (ad (b + 1)), .ref (ad (b + 2)), .ref (ad (b + 3)), .ref (ad (b + 11))])) ∧ (arr t.1 7 (pP x) (V (b + 1))) ∧ (arr t.1 8 (pD x) (V (b + 2))) ∧ (refs t.2.2.1 7 (fun i => ad (b + 4 + i)) (V (b + 3))) ∧ (∀ i, i < 7 → arr t.1 8 (pR x i) (V (b + 4 + i))) ∧ (arr t.1 7 (pE x) (V (b + 11))) ∧ (pN x ≤ 7) ∧ (pM x ≤ 8)
theorem PlP.le {N : Nat} {ad : Nat → Nat} {V : Nat → va_E} {t : CL4} {b : Nat} {x : PlC} (h : PlP N ad V t b x) : b + 12 ≤ N := h.1
theorem PlP.ob {N : Nat} {ad : Nat → Nat} {V : Nat → va_E} {t : CL4} {b : Nat} {x : PlC} (h : PlP N ad V t b x) : V b = .inr (3, [.int (nI (pN x)), .int (nI (pM x)), .int (pO x), .ref (ad (b + 1)), .ref (ad (b + 2)), .ref (ad (b + 3)), .ref (ad (b + 11))]) := h.2.1
theorem PlP.a_sitePrices {N : Nat} {ad : Nat → Nat} {V : Nat → va_E} {t : CL4} {b : Nat} {x : PlC} (h : PlP N ad V t b x) : arr t.1 7 (pP x) (V (b + 1)) := h.2.2.1
theorem PlP.a_demands {N : Nat} {ad : Nat → Nat} {V : Nat → va_E} {t : CL4} {b : Nat} {x : PlC} (h : PlP N ad V t b x) : arr t.1 8 (pD x) (V (b + 2)) := h.2.2.2.1
theorem PlP.g_routePrices {N : Nat} {ad : Nat → Nat} {V : Nat → va_E} {t : CL4} {b : Nat} {x : PlC} (h : PlP N ad V t b x) : refs t.2.2.1 7 (fun i => ad (b + 4 + i)) (V (b + 3)) := h.2.2.2.2.1
theorem PlP.r_routePrices {N : Nat} {ad : Nat → Nat} {V : Nat → va_E} {t : CL4} {b : Nat} {x : PlC} (h : PlP N ad V t b x) : ∀ i, i < 7 → arr t.1 8 (pR x i) (V (b + 4 + i)) := h.2.2.2.2.2.1
theorem PlP.a_excluded {N : Nat} {ad : Nat → Nat} {V : Nat → va_E} {t : CL4} {b : Nat} {x : PlC} (h : PlP N ad V t b x) : arr t.1 7 (pE x) (V (b + 11)) := h.2.2.2.2.2.2.1
theorem PlP.i0 {N : Nat} {ad : Nat → Nat} {V : Nat → va_E} {t : CL4} {b : Nat} {x : PlC} (h : PlP N ad V t b x) : pN x ≤ 7 := h.2.2.2.2.2.2.2.1
theorem PlP.i1 {N : Nat} {ad : Nat → Nat} {V : Nat → va_E} {t : CL4} {b : Nat} {x : PlC} (h : PlP N ad V t b x) : pM x ≤ 8 := h.2.2.2.2.2.2.2.2
theorem PlP.lt {N : Nat} {ad : Nat → Nat} {V : Nat → va_E} {t : CL4} {b : Nat} {x : PlC} (h : PlP N ad V t b x) : b < N := by have := h.le; omega
theorem PlP.lt_sitePrices {N : Nat} {ad : Nat → Nat} {V : Nat → va_E} {t : CL4} {b : Nat} {x : PlC} (h : PlP N ad V t b x) : b + 1 < N := by have := h.le; omega
theorem PlP.lt_demands {N : Nat} {ad : Nat → Nat} {V : Nat → va_E} {t : CL4} {b : Nat} {x : PlC} (h : PlP N ad V t b x) : b + 2 < N := by have := h.le; omega
theorem PlP.lt_routePrices {N : Nat} {ad : Nat → Nat} {V : Nat → va_E} {t : CL4} {b : Nat} {x : PlC} (h : PlP N ad V t b x) : b + 3 < N := by have := h.le; omega
theorem PlP.lt_excluded {N : Nat} {ad : Nat → Nat} {V : Nat → va_E} {t : CL4} {b : Nat} {x : PlC} (h : PlP N ad V t b x) : b + 11 < N := by have := h.le; omega
theorem PlP.keep {N : Nat} {ad : Nat → Nat} {V V1 : Nat → va_E} {t : CL4} {b : Nat} {x : PlC} (h : PlP N ad V t b x) (q : ∀ k, b ≤ k → k < b + 12 → V1 k = V k) : PlP N ad V1 t b x := ⟨h.le, (q b (by omega) (by omega)).trans h.ob, by rw [q (b + 1) (by omega) (by omega)]; exact h.a_sitePrices, by rw [q (b + 2) (by omega) (by omega)]; exact h.a_demands, by rw [q (b + 3) (by omega) (by omega)]; exact h.g_routePrices, fun i hi => by rw [q (b + 4 + i) (by omega) (by omega)]; exact h.r_routePrices i hi, by rw [q (b + 11) (by omega) (by omega)]; exact h.a_excluded, h.i0, h.i1⟩
theorem PlP.ext {N : Nat} {ad : Nat → Nat} {V : Nat → va_E} {t : CL4} {b : Nat} {x : PlC} {x2 : PlC} (h : PlP N ad V t b x) (e0 : pN x = pN x2) (e1 : pM x = pM x2) (e2 : pO x = pO x2) (e3 : ∀ j, j < 7 → pP x j = pP x2 j) (e4 : ∀ j, j < 8 → pD x j = pD x2 j) (e5 : ∀ i, i < 7 → ∀ j, j < 8 → pR x i j = pR x2 i j) (e6 : ∀ j, j < 7 → pE x j = pE x2 j) : PlP N ad V t b x2 := ⟨h.le, by rw [h.ob, e0, e1, e2], h.a_sitePrices.ext e3, h.a_demands.ext e4, h.g_routePrices, fun i hi => (h.r_routePrices i hi).ext (e5 i hi), h.a_excluded.ext e6, by rw [← e0]; exact h.i0, by rw [← e1]; exact h.i1⟩
section RPl
variable {p : Program} {l : Launch} {e : Env} {R : Room} {s : State} {m : MethodId} {as : Array Value} {below : List Frame} {meth : Method} {c : Code} {H H0 : Heap} {locs : List Loc} {cells slots : Nat} {Q : State → Prop}
variable {cc : ByteArray} {nL pc : Nat} {own : String} {ls : Array Slot} {rest : List Value} {dd : va_G} {t : CL4} {N : Nat} {ad : Nat → Nat} {V : Nat → va_E} {b k n : Nat}
variable {x : PlC}
theorem g_Pl_siteCount (X : WX p s m as c cc nL own dd t) (hP : HP dd N ad V H) (hp : PlP N ad V t b x) {index : Nat} (hl : Cond.fieldLink own index "SiteCuts$Places" "siteCount" "I" ∈ GW) (hdg : decode cc pc = .ok (.getfield index, 3)) (kk : W p l e R s m as below meth c H locs cells slots Q (F0 m (pc + 3) ls (.int (nI (pN x)) :: rest))) : W p l e R s m as below meth c H locs cells slots Q (F0 m pc ls (.ref (ad b) :: rest)) := r_get X hP (ci := 3) rfl inlX3 hp.lt hp.ob 0 (by decide) hl rfl hdg kk
theorem p_Pl_siteCount (X : WX p s m as c cc nL own dd t) (hi : inj N ad) (hP : HP dd N ad V H) (hS : va_S (dm N ad H0.size) H0 H locs) (hp : PlP N ad V t b x) {index : Nat} (hl : Cond.fieldLink own index "SiteCuts$Places" "siteCount" "I" ∈ GW) {v : Nat} (hv : v ≤ 7) (hdg : decode cc pc = .ok (.putfield index, 3)) (kk : ∀ (V1 : Nat → va_E) (H1 : Heap) (locs1 : List Loc), PlP N ad V1 t b (mkP v (pM x) (pO x) (pP x) (pD x) (pR x) (pE x)) → (∀ k, k ≠ b → V1 k = V k) → HP dd N ad V1 H1 → va_S (dm N ad H0.size) H0 H1 locs1 → W p l e R s m as below meth c H1 locs1 cells slots Q (F0 m (pc + 3) ls rest)) : W p l e R s m as below meth c H locs cells slots Q (F0 m pc ls (.int (nI v) :: .ref (ad b) :: rest)) :=
  r_put X hi hP hS (ci := 3) (ty := .int) rfl inlX3 tyX3 tyX3_ok nmX3 hp.lt hp.ob 0 (by decide) hl rfl (by decide +kernel) rfl rfl (Nat.le_of_ble_eq_true rfl) rfl hdg (fun V1 H1 locs1 h1 h2 h3 h4 => kk V1 H1 locs1 ⟨hp.le, h1, by rw [h2 _ (by omega)]; exact hp.a_sitePrices, by rw [h2 _ (by omega)]; exact hp.a_demands, by rw [h2 _ (by omega)]; exact hp.g_routePrices, fun i hi => by rw [h2 _ (by omega)]; exact hp.r_routePrices i hi, by rw [h2 _ (by omega)]; exact hp.a_excluded, hv, hp.i1⟩ h2 h3 h4)
theorem g_Pl_customerCount (X : WX p s m as c cc nL own dd t) (hP : HP dd N ad V H) (hp : PlP N ad V t b x) {index : Nat} (hl : Cond.fieldLink own index "SiteCuts$Places" "customerCount" "I" ∈ GW) (hdg : decode cc pc = .ok (.getfield index, 3)) (kk : W p l e R s m as below meth c H locs cells slots Q (F0 m (pc + 3) ls (.int (nI (pM x)) :: rest))) : W p l e R s m as below meth c H locs cells slots Q (F0 m pc ls (.ref (ad b) :: rest)) := r_get X hP (ci := 3) rfl inlX3 hp.lt hp.ob 1 (by decide) hl rfl hdg kk
theorem p_Pl_customerCount (X : WX p s m as c cc nL own dd t) (hi : inj N ad) (hP : HP dd N ad V H) (hS : va_S (dm N ad H0.size) H0 H locs) (hp : PlP N ad V t b x) {index : Nat} (hl : Cond.fieldLink own index "SiteCuts$Places" "customerCount" "I" ∈ GW) {v : Nat} (hv : v ≤ 8) (hdg : decode cc pc = .ok (.putfield index, 3)) (kk : ∀ (V1 : Nat → va_E) (H1 : Heap) (locs1 : List Loc), PlP N ad V1 t b (mkP (pN x) v (pO x) (pP x) (pD x) (pR x) (pE x)) → (∀ k, k ≠ b → V1 k = V k) → HP dd N ad V1 H1 → va_S (dm N ad H0.size) H0 H1 locs1 → W p l e R s m as below meth c H1 locs1 cells slots Q (F0 m (pc + 3) ls rest)) : W p l e R s m as below meth c H locs cells slots Q (F0 m pc ls (.int (nI v) :: .ref (ad b) :: rest)) :=
  r_put X hi hP hS (ci := 3) (ty := .int) rfl inlX3 tyX3 tyX3_ok nmX3 hp.lt hp.ob 1 (by decide) hl rfl (by decide +kernel) rfl rfl (Nat.le_of_ble_eq_true rfl) rfl hdg (fun V1 H1 locs1 h1 h2 h3 h4 => kk V1 H1 locs1 ⟨hp.le, h1, by rw [h2 _ (by omega)]; exact hp.a_sitePrices, by rw [h2 _ (by omega)]; exact hp.a_demands, by rw [h2 _ (by omega)]; exact hp.g_routePrices, fun i hi => by rw [h2 _ (by omega)]; exact hp.r_routePrices i hi, by rw [h2 _ (by omega)]; exact hp.a_excluded, hp.i0, hv⟩ h2 h3 h4)
theorem g_Pl_most (X : WX p s m as c cc nL own dd t) (hP : HP dd N ad V H) (hp : PlP N ad V t b x) {index : Nat} (hl : Cond.fieldLink own index "SiteCuts$Places" "most" "I" ∈ GW) (hdg : decode cc pc = .ok (.getfield index, 3)) (kk : W p l e R s m as below meth c H locs cells slots Q (F0 m (pc + 3) ls (.int (pO x) :: rest))) : W p l e R s m as below meth c H locs cells slots Q (F0 m pc ls (.ref (ad b) :: rest)) := r_get X hP (ci := 3) rfl inlX3 hp.lt hp.ob 2 (by decide) hl rfl hdg kk
theorem p_Pl_most (X : WX p s m as c cc nL own dd t) (hi : inj N ad) (hP : HP dd N ad V H) (hS : va_S (dm N ad H0.size) H0 H locs) (hp : PlP N ad V t b x) {index : Nat} (hl : Cond.fieldLink own index "SiteCuts$Places" "most" "I" ∈ GW) {v : Int32} (hdg : decode cc pc = .ok (.putfield index, 3)) (kk : ∀ (V1 : Nat → va_E) (H1 : Heap) (locs1 : List Loc), PlP N ad V1 t b (mkP (pN x) (pM x) v (pP x) (pD x) (pR x) (pE x)) → (∀ k, k ≠ b → V1 k = V k) → HP dd N ad V1 H1 → va_S (dm N ad H0.size) H0 H1 locs1 → W p l e R s m as below meth c H1 locs1 cells slots Q (F0 m (pc + 3) ls rest)) : W p l e R s m as below meth c H locs cells slots Q (F0 m pc ls (.int (v) :: .ref (ad b) :: rest)) :=
  r_put X hi hP hS (ci := 3) (ty := .int) rfl inlX3 tyX3 tyX3_ok nmX3 hp.lt hp.ob 2 (by decide) hl rfl (by decide +kernel) rfl rfl (Nat.le_of_ble_eq_true rfl) rfl hdg (fun V1 H1 locs1 h1 h2 h3 h4 => kk V1 H1 locs1 ⟨hp.le, h1, by rw [h2 _ (by omega)]; exact hp.a_sitePrices, by rw [h2 _ (by omega)]; exact hp.a_demands, by rw [h2 _ (by omega)]; exact hp.g_routePrices, fun i hi => by rw [h2 _ (by omega)]; exact hp.r_routePrices i hi, by rw [h2 _ (by omega)]; exact hp.a_excluded, hp.i0, hp.i1⟩ h2 h3 h4)
theorem g_Pl_sitePrices (X : WX p s m as c cc nL own dd t) (hP : HP dd N ad V H) (hp : PlP N ad V t b x) {index : Nat} (hl : Cond.fieldLink own index "SiteCuts$Places" "sitePrices" "[I" ∈ GW) (hdg : decode cc pc = .ok (.getfield index, 3)) (kk : W p l e R s m as below meth c H locs cells slots Q (F0 m (pc + 3) ls (.ref (ad (b + 1)) :: rest))) : W p l e R s m as below meth c H locs cells slots Q (F0 m pc ls (.ref (ad b) :: rest)) := r_get X hP (ci := 3) rfl inlX3 hp.lt hp.ob 3 (by decide) hl rfl hdg kk
theorem l_Pl_sitePrices (X : WX p s m as c cc nL own dd t) (hP : HP dd N ad V H) (hp : PlP N ad V t b x) {j : Nat} (hj : j < 7) (hdg : decode cc pc = .ok (.iaload, 1)) (kk : W p l e R s m as below meth c H locs cells slots Q (F0 m (pc + 1) ls (.int (pP x j) :: rest))) : W p l e R s m as below meth c H locs cells slots Q (F0 m pc ls (.int (nI j) :: .ref (ad (b + 1)) :: rest)) := a_ild X hP hp.lt_sitePrices hp.a_sitePrices hj (by omega) hdg kk
theorem s_Pl_sitePrices (X : WX p s m as c cc nL own dd t) (hi : inj N ad) (hP : HP dd N ad V H) (hS : va_S (dm N ad H0.size) H0 H locs) (hp : PlP N ad V t b x) {j : Nat} {v : Int32} (hj : j < 7) (hdg : decode cc pc = .ok (.iastore, 1)) (kk : ∀ (V1 : Nat → va_E) (H1 : Heap) (locs1 : List Loc), PlP N ad V1 t b (mkP (pN x) (pM x) (pO x) (upd (pP x) j v) (pD x) (pR x) (pE x)) → (∀ k, k ≠ b + 1 → V1 k = V k) → HP dd N ad V1 H1 → va_S (dm N ad H0.size) H0 H1 locs1 → W p l e R s m as below meth c H1 locs1 cells slots Q (F0 m (pc + 1) ls rest)) : W p l e R s m as below meth c H locs cells slots Q (F0 m pc ls (.int v :: .int (nI j) :: .ref (ad (b + 1)) :: rest)) :=
  a_ist X hi hP hS hp.lt_sitePrices hp.a_sitePrices hj (by omega) hdg (fun V1 H1 locs1 h1 h2 h3 h4 => kk V1 H1 locs1 ⟨hp.le, (h2 _ (by omega)).trans hp.ob, h1, by rw [h2 _ (by omega)]; exact hp.a_demands, by rw [h2 _ (by omega)]; exact hp.g_routePrices, fun i hi => by rw [h2 _ (by omega)]; exact hp.r_routePrices i hi, by rw [h2 _ (by omega)]; exact hp.a_excluded, hp.i0, hp.i1⟩ h2 h3 h4)
theorem g_Pl_demands (X : WX p s m as c cc nL own dd t) (hP : HP dd N ad V H) (hp : PlP N ad V t b x) {index : Nat} (hl : Cond.fieldLink own index "SiteCuts$Places" "demands" "[I" ∈ GW) (hdg : decode cc pc = .ok (.getfield index, 3)) (kk : W p l e R s m as below meth c H locs cells slots Q (F0 m (pc + 3) ls (.ref (ad (b + 2)) :: rest))) : W p l e R s m as below meth c H locs cells slots Q (F0 m pc ls (.ref (ad b) :: rest)) := r_get X hP (ci := 3) rfl inlX3 hp.lt hp.ob 4 (by decide) hl rfl hdg kk
theorem l_Pl_demands (X : WX p s m as c cc nL own dd t) (hP : HP dd N ad V H) (hp : PlP N ad V t b x) {j : Nat} (hj : j < 8) (hdg : decode cc pc = .ok (.iaload, 1)) (kk : W p l e R s m as below meth c H locs cells slots Q (F0 m (pc + 1) ls (.int (pD x j) :: rest))) : W p l e R s m as below meth c H locs cells slots Q (F0 m pc ls (.int (nI j) :: .ref (ad (b + 2)) :: rest)) := a_ild X hP hp.lt_demands hp.a_demands hj (by omega) hdg kk
theorem s_Pl_demands (X : WX p s m as c cc nL own dd t) (hi : inj N ad) (hP : HP dd N ad V H) (hS : va_S (dm N ad H0.size) H0 H locs) (hp : PlP N ad V t b x) {j : Nat} {v : Int32} (hj : j < 8) (hdg : decode cc pc = .ok (.iastore, 1)) (kk : ∀ (V1 : Nat → va_E) (H1 : Heap) (locs1 : List Loc), PlP N ad V1 t b (mkP (pN x) (pM x) (pO x) (pP x) (upd (pD x) j v) (pR x) (pE x)) → (∀ k, k ≠ b + 2 → V1 k = V k) → HP dd N ad V1 H1 → va_S (dm N ad H0.size) H0 H1 locs1 → W p l e R s m as below meth c H1 locs1 cells slots Q (F0 m (pc + 1) ls rest)) : W p l e R s m as below meth c H locs cells slots Q (F0 m pc ls (.int v :: .int (nI j) :: .ref (ad (b + 2)) :: rest)) :=
  a_ist X hi hP hS hp.lt_demands hp.a_demands hj (by omega) hdg (fun V1 H1 locs1 h1 h2 h3 h4 => kk V1 H1 locs1 ⟨hp.le, (h2 _ (by omega)).trans hp.ob, by rw [h2 _ (by omega)]; exact hp.a_sitePrices, h1, by rw [h2 _ (by omega)]; exact hp.g_routePrices, fun i hi => by rw [h2 _ (by omega)]; exact hp.r_routePrices i hi, by rw [h2 _ (by omega)]; exact hp.a_excluded, hp.i0, hp.i1⟩ h2 h3 h4)
theorem g_Pl_routePrices (X : WX p s m as c cc nL own dd t) (hP : HP dd N ad V H) (hp : PlP N ad V t b x) {index : Nat} (hl : Cond.fieldLink own index "SiteCuts$Places" "routePrices" "[[I" ∈ GW) (hdg : decode cc pc = .ok (.getfield index, 3)) (kk : W p l e R s m as below meth c H locs cells slots Q (F0 m (pc + 3) ls (.ref (ad (b + 3)) :: rest))) : W p l e R s m as below meth c H locs cells slots Q (F0 m pc ls (.ref (ad b) :: rest)) := r_get X hP (ci := 3) rfl inlX3 hp.lt hp.ob 5 (by decide) hl rfl hdg kk
theorem l_Pl_routePrices (X : WX p s m as c cc nL own dd t) (hP : HP dd N ad V H) (hp : PlP N ad V t b x) {j : Nat} (hj : j < 7) (hdg : decode cc pc = .ok (.aaload, 1)) (kk : W p l e R s m as below meth c H locs cells slots Q (F0 m (pc + 1) ls (.ref (ad (b + 4 + j)) :: rest))) : W p l e R s m as below meth c H locs cells slots Q (F0 m pc ls (.int (nI j) :: .ref (ad (b + 3)) :: rest)) := a_gld X hP hp.lt_routePrices hp.g_routePrices hj (by omega) hdg kk
theorem l_Pl_routePrices_row (X : WX p s m as c cc nL own dd t) (hP : HP dd N ad V H) (hp : PlP N ad V t b x) {i j : Nat} (hi2 : i < 7) (hj : j < 8) (hdg : decode cc pc = .ok (.iaload, 1)) (kk : W p l e R s m as below meth c H locs cells slots Q (F0 m (pc + 1) ls (.int (pR x i j) :: rest))) : W p l e R s m as below meth c H locs cells slots Q (F0 m pc ls (.int (nI j) :: .ref (ad (b + 4 + i)) :: rest)) := a_ild X hP (by have := hp.le; omega) (hp.r_routePrices i hi2) hj (by omega) hdg kk
theorem s_Pl_routePrices_row (X : WX p s m as c cc nL own dd t) (hi : inj N ad) (hP : HP dd N ad V H) (hS : va_S (dm N ad H0.size) H0 H locs) (hp : PlP N ad V t b x) {i j : Nat} {v : Int32} (hi2 : i < 7) (hj : j < 8) (hdg : decode cc pc = .ok (.iastore, 1)) (kk : ∀ (V1 : Nat → va_E) (H1 : Heap) (locs1 : List Loc), PlP N ad V1 t b (mkP (pN x) (pM x) (pO x) (pP x) (pD x) (va_up (pR x) i (upd (pR x i) j v)) (pE x)) → (∀ k, k ≠ b + 4 + i → V1 k = V k) → HP dd N ad V1 H1 → va_S (dm N ad H0.size) H0 H1 locs1 → W p l e R s m as below meth c H1 locs1 cells slots Q (F0 m (pc + 1) ls rest)) : W p l e R s m as below meth c H locs cells slots Q (F0 m pc ls (.int v :: .int (nI j) :: .ref (ad (b + 4 + i)) :: rest)) :=
  a_ist X hi hP hS (by have := hp.le; omega) (hp.r_routePrices i hi2) hj (by omega) hdg (fun V1 H1 locs1 h1 h2 h3 h4 => kk V1 H1 locs1 ⟨hp.le, (h2 _ (by omega)).trans hp.ob, by rw [h2 _ (by omega)]; exact hp.a_sitePrices, by rw [h2 _ (by omega)]; exact hp.a_demands, by rw [h2 _ (by omega)]; exact hp.g_routePrices, fun i2 hj2 => by
    show arr t.1 8 (va_up (pR x) i _ i2) _
    by_cases h : i2 = i
    · subst h; rw [va_up_self]; exact h1
    · rw [va_up_ne _ _ h, h2 _ (by omega)]; exact hp.r_routePrices i2 hj2, by rw [h2 _ (by omega)]; exact hp.a_excluded, hp.i0, hp.i1⟩ h2 h3 h4)
theorem g_Pl_excluded (X : WX p s m as c cc nL own dd t) (hP : HP dd N ad V H) (hp : PlP N ad V t b x) {index : Nat} (hl : Cond.fieldLink own index "SiteCuts$Places" "excluded" "[I" ∈ GW) (hdg : decode cc pc = .ok (.getfield index, 3)) (kk : W p l e R s m as below meth c H locs cells slots Q (F0 m (pc + 3) ls (.ref (ad (b + 11)) :: rest))) : W p l e R s m as below meth c H locs cells slots Q (F0 m pc ls (.ref (ad b) :: rest)) := r_get X hP (ci := 3) rfl inlX3 hp.lt hp.ob 6 (by decide) hl rfl hdg kk
theorem l_Pl_excluded (X : WX p s m as c cc nL own dd t) (hP : HP dd N ad V H) (hp : PlP N ad V t b x) {j : Nat} (hj : j < 7) (hdg : decode cc pc = .ok (.iaload, 1)) (kk : W p l e R s m as below meth c H locs cells slots Q (F0 m (pc + 1) ls (.int (pE x j) :: rest))) : W p l e R s m as below meth c H locs cells slots Q (F0 m pc ls (.int (nI j) :: .ref (ad (b + 11)) :: rest)) := a_ild X hP hp.lt_excluded hp.a_excluded hj (by omega) hdg kk
theorem s_Pl_excluded (X : WX p s m as c cc nL own dd t) (hi : inj N ad) (hP : HP dd N ad V H) (hS : va_S (dm N ad H0.size) H0 H locs) (hp : PlP N ad V t b x) {j : Nat} {v : Int32} (hj : j < 7) (hdg : decode cc pc = .ok (.iastore, 1)) (kk : ∀ (V1 : Nat → va_E) (H1 : Heap) (locs1 : List Loc), PlP N ad V1 t b (mkP (pN x) (pM x) (pO x) (pP x) (pD x) (pR x) (upd (pE x) j v)) → (∀ k, k ≠ b + 11 → V1 k = V k) → HP dd N ad V1 H1 → va_S (dm N ad H0.size) H0 H1 locs1 → W p l e R s m as below meth c H1 locs1 cells slots Q (F0 m (pc + 1) ls rest)) : W p l e R s m as below meth c H locs cells slots Q (F0 m pc ls (.int v :: .int (nI j) :: .ref (ad (b + 11)) :: rest)) :=
  a_ist X hi hP hS hp.lt_excluded hp.a_excluded hj (by omega) hdg (fun V1 H1 locs1 h1 h2 h3 h4 => kk V1 H1 locs1 ⟨hp.le, (h2 _ (by omega)).trans hp.ob, by rw [h2 _ (by omega)]; exact hp.a_sitePrices, by rw [h2 _ (by omega)]; exact hp.a_demands, by rw [h2 _ (by omega)]; exact hp.g_routePrices, fun i hi => by rw [h2 _ (by omega)]; exact hp.r_routePrices i hi, h1, hp.i0, hp.i1⟩ h2 h3 h4)
end RPl
def CuP (N : Nat) (ad : Nat → Nat) (V : Nat → va_E) (t : CL4) (b : Nat) (x : CuC) : Prop := (b + 44 ≤ N) ∧ (V b = .inr (1, [.int (nI (kA x)), .ref (ad (b + 1)), .ref (ad (b + 2)), .ref (ad (b + 3))])) ∧ (arr t.1 40 (kC x) (V (b + 1))) ∧ (arr t.1 40 (kS x) (V (b + 2))) ∧ (refs t.2.2.1 40 (fun i => ad (b + 4 + i)) (V (b + 3))) ∧ (∀ i, i < 40 → arr t.1 7 (kW x i) (V (b + 4 + i))) ∧ (kA x ≤ 40)
theorem CuP.le {N : Nat} {ad : Nat → Nat} {V : Nat → va_E} {t : CL4} {b : Nat} {x : CuC} (h : CuP N ad V t b x) : b + 44 ≤ N := h.1
theorem CuP.ob {N : Nat} {ad : Nat → Nat} {V : Nat → va_E} {t : CL4} {b : Nat} {x : CuC} (h : CuP N ad V t b x) : V b = .inr (1, [.int (nI (kA x)), .ref (ad (b + 1)), .ref (ad (b + 2)), .ref (ad (b + 3))]) := h.2.1
theorem CuP.a_customers {N : Nat} {ad : Nat → Nat} {V : Nat → va_E} {t : CL4} {b : Nat} {x : CuC} (h : CuP N ad V t b x) : arr t.1 40 (kC x) (V (b + 1)) := h.2.2.1
theorem CuP.a_starts {N : Nat} {ad : Nat → Nat} {V : Nat → va_E} {t : CL4} {b : Nat} {x : CuC} (h : CuP N ad V t b x) : arr t.1 40 (kS x) (V (b + 2)) := h.2.2.2.1
theorem CuP.g_weights {N : Nat} {ad : Nat → Nat} {V : Nat → va_E} {t : CL4} {b : Nat} {x : CuC} (h : CuP N ad V t b x) : refs t.2.2.1 40 (fun i => ad (b + 4 + i)) (V (b + 3)) := h.2.2.2.2.1
theorem CuP.r_weights {N : Nat} {ad : Nat → Nat} {V : Nat → va_E} {t : CL4} {b : Nat} {x : CuC} (h : CuP N ad V t b x) : ∀ i, i < 40 → arr t.1 7 (kW x i) (V (b + 4 + i)) := h.2.2.2.2.2.1
theorem CuP.i0 {N : Nat} {ad : Nat → Nat} {V : Nat → va_E} {t : CL4} {b : Nat} {x : CuC} (h : CuP N ad V t b x) : kA x ≤ 40 := h.2.2.2.2.2.2
theorem CuP.lt {N : Nat} {ad : Nat → Nat} {V : Nat → va_E} {t : CL4} {b : Nat} {x : CuC} (h : CuP N ad V t b x) : b < N := by have := h.le; omega
theorem CuP.lt_customers {N : Nat} {ad : Nat → Nat} {V : Nat → va_E} {t : CL4} {b : Nat} {x : CuC} (h : CuP N ad V t b x) : b + 1 < N := by have := h.le; omega
theorem CuP.lt_starts {N : Nat} {ad : Nat → Nat} {V : Nat → va_E} {t : CL4} {b : Nat} {x : CuC} (h : CuP N ad V t b x) : b + 2 < N := by have := h.le; omega
theorem CuP.lt_weights {N : Nat} {ad : Nat → Nat} {V : Nat → va_E} {t : CL4} {b : Nat} {x : CuC} (h : CuP N ad V t b x) : b + 3 < N := by have := h.le; omega
theorem CuP.keep {N : Nat} {ad : Nat → Nat} {V V1 : Nat → va_E} {t : CL4} {b : Nat} {x : CuC} (h : CuP N ad V t b x) (q : ∀ k, b ≤ k → k < b + 44 → V1 k = V k) : CuP N ad V1 t b x := ⟨h.le, (q b (by omega) (by omega)).trans h.ob, by rw [q (b + 1) (by omega) (by omega)]; exact h.a_customers, by rw [q (b + 2) (by omega) (by omega)]; exact h.a_starts, by rw [q (b + 3) (by omega) (by omega)]; exact h.g_weights, fun i hi => by rw [q (b + 4 + i) (by omega) (by omega)]; exact h.r_weights i hi, h.i0⟩
theorem CuP.ext {N : Nat} {ad : Nat → Nat} {V : Nat → va_E} {t : CL4} {b : Nat} {x : CuC} {x2 : CuC} (h : CuP N ad V t b x) (e0 : kA x = kA x2) (e1 : ∀ j, j < 40 → kC x j = kC x2 j) (e2 : ∀ j, j < 40 → kS x j = kS x2 j) (e3 : ∀ i, i < 40 → ∀ j, j < 7 → kW x i j = kW x2 i j) : CuP N ad V t b x2 := ⟨h.le, by rw [h.ob, e0], h.a_customers.ext e1, h.a_starts.ext e2, h.g_weights, fun i hi => (h.r_weights i hi).ext (e3 i hi), by rw [← e0]; exact h.i0⟩
section RCu
variable {p : Program} {l : Launch} {e : Env} {R : Room} {s : State} {m : MethodId} {as : Array Value} {below : List Frame} {meth : Method} {c : Code} {H H0 : Heap} {locs : List Loc} {cells slots : Nat} {Q : State → Prop}
variable {cc : ByteArray} {nL pc : Nat} {own : String} {ls : Array Slot} {rest : List Value} {dd : va_G} {t : CL4} {N : Nat} {ad : Nat → Nat} {V : Nat → va_E} {b k n : Nat}
variable {x : CuC}
theorem g_Cu_amount (X : WX p s m as c cc nL own dd t) (hP : HP dd N ad V H) (hp : CuP N ad V t b x) {index : Nat} (hl : Cond.fieldLink own index "SiteCuts$Cuts" "amount" "I" ∈ GW) (hdg : decode cc pc = .ok (.getfield index, 3)) (kk : W p l e R s m as below meth c H locs cells slots Q (F0 m (pc + 3) ls (.int (nI (kA x)) :: rest))) : W p l e R s m as below meth c H locs cells slots Q (F0 m pc ls (.ref (ad b) :: rest)) := r_get X hP (ci := 1) rfl inlX1 hp.lt hp.ob 0 (by decide) hl rfl hdg kk
theorem p_Cu_amount (X : WX p s m as c cc nL own dd t) (hi : inj N ad) (hP : HP dd N ad V H) (hS : va_S (dm N ad H0.size) H0 H locs) (hp : CuP N ad V t b x) {index : Nat} (hl : Cond.fieldLink own index "SiteCuts$Cuts" "amount" "I" ∈ GW) {v : Nat} (hv : v ≤ 40) (hdg : decode cc pc = .ok (.putfield index, 3)) (kk : ∀ (V1 : Nat → va_E) (H1 : Heap) (locs1 : List Loc), CuP N ad V1 t b (mkC v (kC x) (kS x) (kW x)) → (∀ k, k ≠ b → V1 k = V k) → HP dd N ad V1 H1 → va_S (dm N ad H0.size) H0 H1 locs1 → W p l e R s m as below meth c H1 locs1 cells slots Q (F0 m (pc + 3) ls rest)) : W p l e R s m as below meth c H locs cells slots Q (F0 m pc ls (.int (nI v) :: .ref (ad b) :: rest)) :=
  r_put X hi hP hS (ci := 1) (ty := .int) rfl inlX1 tyX1 tyX1_ok nmX1 hp.lt hp.ob 0 (by decide) hl rfl (by decide +kernel) rfl rfl (Nat.le_of_ble_eq_true rfl) rfl hdg (fun V1 H1 locs1 h1 h2 h3 h4 => kk V1 H1 locs1 ⟨hp.le, h1, by rw [h2 _ (by omega)]; exact hp.a_customers, by rw [h2 _ (by omega)]; exact hp.a_starts, by rw [h2 _ (by omega)]; exact hp.g_weights, fun i hi => by rw [h2 _ (by omega)]; exact hp.r_weights i hi, hv⟩ h2 h3 h4)
theorem g_Cu_customers (X : WX p s m as c cc nL own dd t) (hP : HP dd N ad V H) (hp : CuP N ad V t b x) {index : Nat} (hl : Cond.fieldLink own index "SiteCuts$Cuts" "customers" "[I" ∈ GW) (hdg : decode cc pc = .ok (.getfield index, 3)) (kk : W p l e R s m as below meth c H locs cells slots Q (F0 m (pc + 3) ls (.ref (ad (b + 1)) :: rest))) : W p l e R s m as below meth c H locs cells slots Q (F0 m pc ls (.ref (ad b) :: rest)) := r_get X hP (ci := 1) rfl inlX1 hp.lt hp.ob 1 (by decide) hl rfl hdg kk
theorem l_Cu_customers (X : WX p s m as c cc nL own dd t) (hP : HP dd N ad V H) (hp : CuP N ad V t b x) {j : Nat} (hj : j < 40) (hdg : decode cc pc = .ok (.iaload, 1)) (kk : W p l e R s m as below meth c H locs cells slots Q (F0 m (pc + 1) ls (.int (kC x j) :: rest))) : W p l e R s m as below meth c H locs cells slots Q (F0 m pc ls (.int (nI j) :: .ref (ad (b + 1)) :: rest)) := a_ild X hP hp.lt_customers hp.a_customers hj (by omega) hdg kk
theorem s_Cu_customers (X : WX p s m as c cc nL own dd t) (hi : inj N ad) (hP : HP dd N ad V H) (hS : va_S (dm N ad H0.size) H0 H locs) (hp : CuP N ad V t b x) {j : Nat} {v : Int32} (hj : j < 40) (hdg : decode cc pc = .ok (.iastore, 1)) (kk : ∀ (V1 : Nat → va_E) (H1 : Heap) (locs1 : List Loc), CuP N ad V1 t b (mkC (kA x) (upd (kC x) j v) (kS x) (kW x)) → (∀ k, k ≠ b + 1 → V1 k = V k) → HP dd N ad V1 H1 → va_S (dm N ad H0.size) H0 H1 locs1 → W p l e R s m as below meth c H1 locs1 cells slots Q (F0 m (pc + 1) ls rest)) : W p l e R s m as below meth c H locs cells slots Q (F0 m pc ls (.int v :: .int (nI j) :: .ref (ad (b + 1)) :: rest)) :=
  a_ist X hi hP hS hp.lt_customers hp.a_customers hj (by omega) hdg (fun V1 H1 locs1 h1 h2 h3 h4 => kk V1 H1 locs1 ⟨hp.le, (h2 _ (by omega)).trans hp.ob, h1, by rw [h2 _ (by omega)]; exact hp.a_starts, by rw [h2 _ (by omega)]; exact hp.g_weights, fun i hi => by rw [h2 _ (by omega)]; exact hp.r_weights i hi, hp.i0⟩ h2 h3 h4)
theorem g_Cu_starts (X : WX p s m as c cc nL own dd t) (hP : HP dd N ad V H) (hp : CuP N ad V t b x) {index : Nat} (hl : Cond.fieldLink own index "SiteCuts$Cuts" "starts" "[I" ∈ GW) (hdg : decode cc pc = .ok (.getfield index, 3)) (kk : W p l e R s m as below meth c H locs cells slots Q (F0 m (pc + 3) ls (.ref (ad (b + 2)) :: rest))) : W p l e R s m as below meth c H locs cells slots Q (F0 m pc ls (.ref (ad b) :: rest)) := r_get X hP (ci := 1) rfl inlX1 hp.lt hp.ob 2 (by decide) hl rfl hdg kk
theorem l_Cu_starts (X : WX p s m as c cc nL own dd t) (hP : HP dd N ad V H) (hp : CuP N ad V t b x) {j : Nat} (hj : j < 40) (hdg : decode cc pc = .ok (.iaload, 1)) (kk : W p l e R s m as below meth c H locs cells slots Q (F0 m (pc + 1) ls (.int (kS x j) :: rest))) : W p l e R s m as below meth c H locs cells slots Q (F0 m pc ls (.int (nI j) :: .ref (ad (b + 2)) :: rest)) := a_ild X hP hp.lt_starts hp.a_starts hj (by omega) hdg kk
theorem s_Cu_starts (X : WX p s m as c cc nL own dd t) (hi : inj N ad) (hP : HP dd N ad V H) (hS : va_S (dm N ad H0.size) H0 H locs) (hp : CuP N ad V t b x) {j : Nat} {v : Int32} (hj : j < 40) (hdg : decode cc pc = .ok (.iastore, 1)) (kk : ∀ (V1 : Nat → va_E) (H1 : Heap) (locs1 : List Loc), CuP N ad V1 t b (mkC (kA x) (kC x) (upd (kS x) j v) (kW x)) → (∀ k, k ≠ b + 2 → V1 k = V k) → HP dd N ad V1 H1 → va_S (dm N ad H0.size) H0 H1 locs1 → W p l e R s m as below meth c H1 locs1 cells slots Q (F0 m (pc + 1) ls rest)) : W p l e R s m as below meth c H locs cells slots Q (F0 m pc ls (.int v :: .int (nI j) :: .ref (ad (b + 2)) :: rest)) :=
  a_ist X hi hP hS hp.lt_starts hp.a_starts hj (by omega) hdg (fun V1 H1 locs1 h1 h2 h3 h4 => kk V1 H1 locs1 ⟨hp.le, (h2 _ (by omega)).trans hp.ob, by rw [h2 _ (by omega)]; exact hp.a_customers, h1, by rw [h2 _ (by omega)]; exact hp.g_weights, fun i hi => by rw [h2 _ (by omega)]; exact hp.r_weights i hi, hp.i0⟩ h2 h3 h4)
theorem g_Cu_weights (X : WX p s m as c cc nL own dd t) (hP : HP dd N ad V H) (hp : CuP N ad V t b x) {index : Nat} (hl : Cond.fieldLink own index "SiteCuts$Cuts" "weights" "[[I" ∈ GW) (hdg : decode cc pc = .ok (.getfield index, 3)) (kk : W p l e R s m as below meth c H locs cells slots Q (F0 m (pc + 3) ls (.ref (ad (b + 3)) :: rest))) : W p l e R s m as below meth c H locs cells slots Q (F0 m pc ls (.ref (ad b) :: rest)) := r_get X hP (ci := 1) rfl inlX1 hp.lt hp.ob 3 (by decide) hl rfl hdg kk
theorem l_Cu_weights (X : WX p s m as c cc nL own dd t) (hP : HP dd N ad V H) (hp : CuP N ad V t b x) {j : Nat} (hj : j < 40) (hdg : decode cc pc = .ok (.aaload, 1)) (kk : W p l e R s m as below meth c H locs cells slots Q (F0 m (pc + 1) ls (.ref (ad (b + 4 + j)) :: rest))) : W p l e R s m as below meth c H locs cells slots Q (F0 m pc ls (.int (nI j) :: .ref (ad (b + 3)) :: rest)) := a_gld X hP hp.lt_weights hp.g_weights hj (by omega) hdg kk
theorem l_Cu_weights_row (X : WX p s m as c cc nL own dd t) (hP : HP dd N ad V H) (hp : CuP N ad V t b x) {i j : Nat} (hi2 : i < 40) (hj : j < 7) (hdg : decode cc pc = .ok (.iaload, 1)) (kk : W p l e R s m as below meth c H locs cells slots Q (F0 m (pc + 1) ls (.int (kW x i j) :: rest))) : W p l e R s m as below meth c H locs cells slots Q (F0 m pc ls (.int (nI j) :: .ref (ad (b + 4 + i)) :: rest)) := a_ild X hP (by have := hp.le; omega) (hp.r_weights i hi2) hj (by omega) hdg kk
theorem s_Cu_weights_row (X : WX p s m as c cc nL own dd t) (hi : inj N ad) (hP : HP dd N ad V H) (hS : va_S (dm N ad H0.size) H0 H locs) (hp : CuP N ad V t b x) {i j : Nat} {v : Int32} (hi2 : i < 40) (hj : j < 7) (hdg : decode cc pc = .ok (.iastore, 1)) (kk : ∀ (V1 : Nat → va_E) (H1 : Heap) (locs1 : List Loc), CuP N ad V1 t b (mkC (kA x) (kC x) (kS x) (va_up (kW x) i (upd (kW x i) j v))) → (∀ k, k ≠ b + 4 + i → V1 k = V k) → HP dd N ad V1 H1 → va_S (dm N ad H0.size) H0 H1 locs1 → W p l e R s m as below meth c H1 locs1 cells slots Q (F0 m (pc + 1) ls rest)) : W p l e R s m as below meth c H locs cells slots Q (F0 m pc ls (.int v :: .int (nI j) :: .ref (ad (b + 4 + i)) :: rest)) :=
  a_ist X hi hP hS (by have := hp.le; omega) (hp.r_weights i hi2) hj (by omega) hdg (fun V1 H1 locs1 h1 h2 h3 h4 => kk V1 H1 locs1 ⟨hp.le, (h2 _ (by omega)).trans hp.ob, by rw [h2 _ (by omega)]; exact hp.a_customers, by rw [h2 _ (by omega)]; exact hp.a_starts, by rw [h2 _ (by omega)]; exact hp.g_weights, fun i2 hj2 => by
    show arr t.1 7 (va_up (kW x) i _ i2) _
    by_cases h : i2 = i
    · subst h; rw [va_up_self]; exact h1
    · rw [va_up_ne _ _ h, h2 _ (by omega)]; exact hp.r_weights i2 hj2, hp.i0⟩ h2 h3 h4)
end RCu
def MoP (N : Nat) (ad : Nat → Nat) (V : Nat → va_E) (t : CL4) (b : Nat) (x : MoC) : Prop := (b + 7 ≤ N) ∧ (V b = .inr (6, [.ref (ad (b + 1)), .ref (ad (b + 2)), .ref (ad (b + 3)), .ref (ad (b + 4)), .int (nI (oS x)), .int (oI x), .ref (ad (b + 5)), .int (nI (oL x)), .int (nI (oT x)), .ref (ad (b + 6))])) ∧ (arr t.1 444 (oR x) (V (b + 1))) ∧ (arr t.1 1776 (oP x) (V (b + 2))) ∧ (arr t.1 444 (oA x) (V (b + 3))) ∧ (arr t.1 444 (oB x) (V (b + 4))) ∧ (arr t.2.1 60 (oX x) (V (b + 5))) ∧ (arr t.1 8 (oN x) (V (b + 6)))
theorem MoP.le {N : Nat} {ad : Nat → Nat} {V : Nat → va_E} {t : CL4} {b : Nat} {x : MoC} (h : MoP N ad V t b x) : b + 7 ≤ N := h.1
theorem MoP.ob {N : Nat} {ad : Nat → Nat} {V : Nat → va_E} {t : CL4} {b : Nat} {x : MoC} (h : MoP N ad V t b x) : V b = .inr (6, [.ref (ad (b + 1)), .ref (ad (b + 2)), .ref (ad (b + 3)), .ref (ad (b + 4)), .int (nI (oS x)), .int (oI x), .ref (ad (b + 5)), .int (nI (oL x)), .int (nI (oT x)), .ref (ad (b + 6))]) := h.2.1
theorem MoP.a_row {N : Nat} {ad : Nat → Nat} {V : Nat → va_E} {t : CL4} {b : Nat} {x : MoC} (h : MoP N ad V t b x) : arr t.1 444 (oR x) (V (b + 1)) := h.2.2.1
theorem MoP.a_past {N : Nat} {ad : Nat → Nat} {V : Nat → va_E} {t : CL4} {b : Nat} {x : MoC} (h : MoP N ad V t b x) : arr t.1 1776 (oP x) (V (b + 2)) := h.2.2.2.1
theorem MoP.a_aside {N : Nat} {ad : Nat → Nat} {V : Nat → va_E} {t : CL4} {b : Nat} {x : MoC} (h : MoP N ad V t b x) : arr t.1 444 (oA x) (V (b + 3)) := h.2.2.2.2.1
theorem MoP.a_before {N : Nat} {ad : Nat → Nat} {V : Nat → va_E} {t : CL4} {b : Nat} {x : MoC} (h : MoP N ad V t b x) : arr t.1 444 (oB x) (V (b + 4)) := h.2.2.2.2.2.1
theorem MoP.a_text {N : Nat} {ad : Nat → Nat} {V : Nat → va_E} {t : CL4} {b : Nat} {x : MoC} (h : MoP N ad V t b x) : arr t.2.1 60 (oX x) (V (b + 5)) := h.2.2.2.2.2.2.1
theorem MoP.a_read {N : Nat} {ad : Nat → Nat} {V : Nat → va_E} {t : CL4} {b : Nat} {x : MoC} (h : MoP N ad V t b x) : arr t.1 8 (oN x) (V (b + 6)) := h.2.2.2.2.2.2.2
theorem MoP.lt {N : Nat} {ad : Nat → Nat} {V : Nat → va_E} {t : CL4} {b : Nat} {x : MoC} (h : MoP N ad V t b x) : b < N := by have := h.le; omega
theorem MoP.lt_row {N : Nat} {ad : Nat → Nat} {V : Nat → va_E} {t : CL4} {b : Nat} {x : MoC} (h : MoP N ad V t b x) : b + 1 < N := by have := h.le; omega
theorem MoP.lt_past {N : Nat} {ad : Nat → Nat} {V : Nat → va_E} {t : CL4} {b : Nat} {x : MoC} (h : MoP N ad V t b x) : b + 2 < N := by have := h.le; omega
theorem MoP.lt_aside {N : Nat} {ad : Nat → Nat} {V : Nat → va_E} {t : CL4} {b : Nat} {x : MoC} (h : MoP N ad V t b x) : b + 3 < N := by have := h.le; omega
theorem MoP.lt_before {N : Nat} {ad : Nat → Nat} {V : Nat → va_E} {t : CL4} {b : Nat} {x : MoC} (h : MoP N ad V t b x) : b + 4 < N := by have := h.le; omega
theorem MoP.lt_text {N : Nat} {ad : Nat → Nat} {V : Nat → va_E} {t : CL4} {b : Nat} {x : MoC} (h : MoP N ad V t b x) : b + 5 < N := by have := h.le; omega
theorem MoP.lt_read {N : Nat} {ad : Nat → Nat} {V : Nat → va_E} {t : CL4} {b : Nat} {x : MoC} (h : MoP N ad V t b x) : b + 6 < N := by have := h.le; omega
theorem MoP.keep {N : Nat} {ad : Nat → Nat} {V V1 : Nat → va_E} {t : CL4} {b : Nat} {x : MoC} (h : MoP N ad V t b x) (q : ∀ k, b ≤ k → k < b + 7 → V1 k = V k) : MoP N ad V1 t b x := ⟨h.le, (q b (by omega) (by omega)).trans h.ob, by rw [q (b + 1) (by omega) (by omega)]; exact h.a_row, by rw [q (b + 2) (by omega) (by omega)]; exact h.a_past, by rw [q (b + 3) (by omega) (by omega)]; exact h.a_aside, by rw [q (b + 4) (by omega) (by omega)]; exact h.a_before, by rw [q (b + 5) (by omega) (by omega)]; exact h.a_text, by rw [q (b + 6) (by omega) (by omega)]; exact h.a_read⟩
theorem MoP.ext {N : Nat} {ad : Nat → Nat} {V : Nat → va_E} {t : CL4} {b : Nat} {x : MoC} {x2 : MoC} (h : MoP N ad V t b x) (e0 : ∀ j, j < 444 → oR x j = oR x2 j) (e1 : ∀ j, j < 1776 → oP x j = oP x2 j) (e2 : ∀ j, j < 444 → oA x j = oA x2 j) (e3 : ∀ j, j < 444 → oB x j = oB x2 j) (e4 : oS x = oS x2) (e5 : oI x = oI x2) (e6 : ∀ j, j < 60 → oX x j = oX x2 j) (e7 : oL x = oL x2) (e8 : oT x = oT x2) (e9 : ∀ j, j < 8 → oN x j = oN x2 j) : MoP N ad V t b x2 := ⟨h.le, by rw [h.ob, e4, e5, e7, e8], h.a_row.ext e0, h.a_past.ext e1, h.a_aside.ext e2, h.a_before.ext e3, h.a_text.ext e6, h.a_read.ext e9⟩
section RMo
variable {p : Program} {l : Launch} {e : Env} {R : Room} {s : State} {m : MethodId} {as : Array Value} {below : List Frame} {meth : Method} {c : Code} {H H0 : Heap} {locs : List Loc} {cells slots : Nat} {Q : State → Prop}
variable {cc : ByteArray} {nL pc : Nat} {own : String} {ls : Array Slot} {rest : List Value} {dd : va_G} {t : CL4} {N : Nat} {ad : Nat → Nat} {V : Nat → va_E} {b k n : Nat}
variable {x : MoC}
theorem g_Mo_row (X : WX p s m as c cc nL own dd t) (hP : HP dd N ad V H) (hp : MoP N ad V t b x) {index : Nat} (hl : Cond.fieldLink own index "SiteCutsModel" "row" "[I" ∈ GW) (hdg : decode cc pc = .ok (.getfield index, 3)) (kk : W p l e R s m as below meth c H locs cells slots Q (F0 m (pc + 3) ls (.ref (ad (b + 1)) :: rest))) : W p l e R s m as below meth c H locs cells slots Q (F0 m pc ls (.ref (ad b) :: rest)) := r_get X hP (ci := 6) rfl inlX6 hp.lt hp.ob 0 (by decide) hl rfl hdg kk
theorem l_Mo_row (X : WX p s m as c cc nL own dd t) (hP : HP dd N ad V H) (hp : MoP N ad V t b x) {j : Nat} (hj : j < 444) (hdg : decode cc pc = .ok (.iaload, 1)) (kk : W p l e R s m as below meth c H locs cells slots Q (F0 m (pc + 1) ls (.int (oR x j) :: rest))) : W p l e R s m as below meth c H locs cells slots Q (F0 m pc ls (.int (nI j) :: .ref (ad (b + 1)) :: rest)) := a_ild X hP hp.lt_row hp.a_row hj (by omega) hdg kk
theorem s_Mo_row (X : WX p s m as c cc nL own dd t) (hi : inj N ad) (hP : HP dd N ad V H) (hS : va_S (dm N ad H0.size) H0 H locs) (hp : MoP N ad V t b x) {j : Nat} {v : Int32} (hj : j < 444) (hdg : decode cc pc = .ok (.iastore, 1)) (kk : ∀ (V1 : Nat → va_E) (H1 : Heap) (locs1 : List Loc), MoP N ad V1 t b (mkM (upd (oR x) j v) (oP x) (oA x) (oB x) (oS x) (oI x) (oX x) (oL x) (oT x) (oN x)) → (∀ k, k ≠ b + 1 → V1 k = V k) → HP dd N ad V1 H1 → va_S (dm N ad H0.size) H0 H1 locs1 → W p l e R s m as below meth c H1 locs1 cells slots Q (F0 m (pc + 1) ls rest)) : W p l e R s m as below meth c H locs cells slots Q (F0 m pc ls (.int v :: .int (nI j) :: .ref (ad (b + 1)) :: rest)) :=
  a_ist X hi hP hS hp.lt_row hp.a_row hj (by omega) hdg (fun V1 H1 locs1 h1 h2 h3 h4 => kk V1 H1 locs1 ⟨hp.le, (h2 _ (by omega)).trans hp.ob, h1, by rw [h2 _ (by omega)]; exact hp.a_past, by rw [h2 _ (by omega)]; exact hp.a_aside, by rw [h2 _ (by omega)]; exact hp.a_before, by rw [h2 _ (by omega)]; exact hp.a_text, by rw [h2 _ (by omega)]; exact hp.a_read⟩ h2 h3 h4)
theorem g_Mo_past (X : WX p s m as c cc nL own dd t) (hP : HP dd N ad V H) (hp : MoP N ad V t b x) {index : Nat} (hl : Cond.fieldLink own index "SiteCutsModel" "past" "[I" ∈ GW) (hdg : decode cc pc = .ok (.getfield index, 3)) (kk : W p l e R s m as below meth c H locs cells slots Q (F0 m (pc + 3) ls (.ref (ad (b + 2)) :: rest))) : W p l e R s m as below meth c H locs cells slots Q (F0 m pc ls (.ref (ad b) :: rest)) := r_get X hP (ci := 6) rfl inlX6 hp.lt hp.ob 1 (by decide) hl rfl hdg kk
theorem l_Mo_past (X : WX p s m as c cc nL own dd t) (hP : HP dd N ad V H) (hp : MoP N ad V t b x) {j : Nat} (hj : j < 1776) (hdg : decode cc pc = .ok (.iaload, 1)) (kk : W p l e R s m as below meth c H locs cells slots Q (F0 m (pc + 1) ls (.int (oP x j) :: rest))) : W p l e R s m as below meth c H locs cells slots Q (F0 m pc ls (.int (nI j) :: .ref (ad (b + 2)) :: rest)) := a_ild X hP hp.lt_past hp.a_past hj (by omega) hdg kk
theorem s_Mo_past (X : WX p s m as c cc nL own dd t) (hi : inj N ad) (hP : HP dd N ad V H) (hS : va_S (dm N ad H0.size) H0 H locs) (hp : MoP N ad V t b x) {j : Nat} {v : Int32} (hj : j < 1776) (hdg : decode cc pc = .ok (.iastore, 1)) (kk : ∀ (V1 : Nat → va_E) (H1 : Heap) (locs1 : List Loc), MoP N ad V1 t b (mkM (oR x) (upd (oP x) j v) (oA x) (oB x) (oS x) (oI x) (oX x) (oL x) (oT x) (oN x)) → (∀ k, k ≠ b + 2 → V1 k = V k) → HP dd N ad V1 H1 → va_S (dm N ad H0.size) H0 H1 locs1 → W p l e R s m as below meth c H1 locs1 cells slots Q (F0 m (pc + 1) ls rest)) : W p l e R s m as below meth c H locs cells slots Q (F0 m pc ls (.int v :: .int (nI j) :: .ref (ad (b + 2)) :: rest)) :=
  a_ist X hi hP hS hp.lt_past hp.a_past hj (by omega) hdg (fun V1 H1 locs1 h1 h2 h3 h4 => kk V1 H1 locs1 ⟨hp.le, (h2 _ (by omega)).trans hp.ob, by rw [h2 _ (by omega)]; exact hp.a_row, h1, by rw [h2 _ (by omega)]; exact hp.a_aside, by rw [h2 _ (by omega)]; exact hp.a_before, by rw [h2 _ (by omega)]; exact hp.a_text, by rw [h2 _ (by omega)]; exact hp.a_read⟩ h2 h3 h4)
theorem g_Mo_aside (X : WX p s m as c cc nL own dd t) (hP : HP dd N ad V H) (hp : MoP N ad V t b x) {index : Nat} (hl : Cond.fieldLink own index "SiteCutsModel" "aside" "[I" ∈ GW) (hdg : decode cc pc = .ok (.getfield index, 3)) (kk : W p l e R s m as below meth c H locs cells slots Q (F0 m (pc + 3) ls (.ref (ad (b + 3)) :: rest))) : W p l e R s m as below meth c H locs cells slots Q (F0 m pc ls (.ref (ad b) :: rest)) := r_get X hP (ci := 6) rfl inlX6 hp.lt hp.ob 2 (by decide) hl rfl hdg kk
theorem l_Mo_aside (X : WX p s m as c cc nL own dd t) (hP : HP dd N ad V H) (hp : MoP N ad V t b x) {j : Nat} (hj : j < 444) (hdg : decode cc pc = .ok (.iaload, 1)) (kk : W p l e R s m as below meth c H locs cells slots Q (F0 m (pc + 1) ls (.int (oA x j) :: rest))) : W p l e R s m as below meth c H locs cells slots Q (F0 m pc ls (.int (nI j) :: .ref (ad (b + 3)) :: rest)) := a_ild X hP hp.lt_aside hp.a_aside hj (by omega) hdg kk
theorem s_Mo_aside (X : WX p s m as c cc nL own dd t) (hi : inj N ad) (hP : HP dd N ad V H) (hS : va_S (dm N ad H0.size) H0 H locs) (hp : MoP N ad V t b x) {j : Nat} {v : Int32} (hj : j < 444) (hdg : decode cc pc = .ok (.iastore, 1)) (kk : ∀ (V1 : Nat → va_E) (H1 : Heap) (locs1 : List Loc), MoP N ad V1 t b (mkM (oR x) (oP x) (upd (oA x) j v) (oB x) (oS x) (oI x) (oX x) (oL x) (oT x) (oN x)) → (∀ k, k ≠ b + 3 → V1 k = V k) → HP dd N ad V1 H1 → va_S (dm N ad H0.size) H0 H1 locs1 → W p l e R s m as below meth c H1 locs1 cells slots Q (F0 m (pc + 1) ls rest)) : W p l e R s m as below meth c H locs cells slots Q (F0 m pc ls (.int v :: .int (nI j) :: .ref (ad (b + 3)) :: rest)) :=
  a_ist X hi hP hS hp.lt_aside hp.a_aside hj (by omega) hdg (fun V1 H1 locs1 h1 h2 h3 h4 => kk V1 H1 locs1 ⟨hp.le, (h2 _ (by omega)).trans hp.ob, by rw [h2 _ (by omega)]; exact hp.a_row, by rw [h2 _ (by omega)]; exact hp.a_past, h1, by rw [h2 _ (by omega)]; exact hp.a_before, by rw [h2 _ (by omega)]; exact hp.a_text, by rw [h2 _ (by omega)]; exact hp.a_read⟩ h2 h3 h4)
theorem g_Mo_before (X : WX p s m as c cc nL own dd t) (hP : HP dd N ad V H) (hp : MoP N ad V t b x) {index : Nat} (hl : Cond.fieldLink own index "SiteCutsModel" "before" "[I" ∈ GW) (hdg : decode cc pc = .ok (.getfield index, 3)) (kk : W p l e R s m as below meth c H locs cells slots Q (F0 m (pc + 3) ls (.ref (ad (b + 4)) :: rest))) : W p l e R s m as below meth c H locs cells slots Q (F0 m pc ls (.ref (ad b) :: rest)) := r_get X hP (ci := 6) rfl inlX6 hp.lt hp.ob 3 (by decide) hl rfl hdg kk
theorem l_Mo_before (X : WX p s m as c cc nL own dd t) (hP : HP dd N ad V H) (hp : MoP N ad V t b x) {j : Nat} (hj : j < 444) (hdg : decode cc pc = .ok (.iaload, 1)) (kk : W p l e R s m as below meth c H locs cells slots Q (F0 m (pc + 1) ls (.int (oB x j) :: rest))) : W p l e R s m as below meth c H locs cells slots Q (F0 m pc ls (.int (nI j) :: .ref (ad (b + 4)) :: rest)) := a_ild X hP hp.lt_before hp.a_before hj (by omega) hdg kk
theorem s_Mo_before (X : WX p s m as c cc nL own dd t) (hi : inj N ad) (hP : HP dd N ad V H) (hS : va_S (dm N ad H0.size) H0 H locs) (hp : MoP N ad V t b x) {j : Nat} {v : Int32} (hj : j < 444) (hdg : decode cc pc = .ok (.iastore, 1)) (kk : ∀ (V1 : Nat → va_E) (H1 : Heap) (locs1 : List Loc), MoP N ad V1 t b (mkM (oR x) (oP x) (oA x) (upd (oB x) j v) (oS x) (oI x) (oX x) (oL x) (oT x) (oN x)) → (∀ k, k ≠ b + 4 → V1 k = V k) → HP dd N ad V1 H1 → va_S (dm N ad H0.size) H0 H1 locs1 → W p l e R s m as below meth c H1 locs1 cells slots Q (F0 m (pc + 1) ls rest)) : W p l e R s m as below meth c H locs cells slots Q (F0 m pc ls (.int v :: .int (nI j) :: .ref (ad (b + 4)) :: rest)) :=
  a_ist X hi hP hS hp.lt_before hp.a_before hj (by omega) hdg (fun V1 H1 locs1 h1 h2 h3 h4 => kk V1 H1 locs1 ⟨hp.le, (h2 _ (by omega)).trans hp.ob, by rw [h2 _ (by omega)]; exact hp.a_row, by rw [h2 _ (by omega)]; exact hp.a_past, by rw [h2 _ (by omega)]; exact hp.a_aside, h1, by rw [h2 _ (by omega)]; exact hp.a_text, by rw [h2 _ (by omega)]; exact hp.a_read⟩ h2 h3 h4)
theorem g_Mo_states (X : WX p s m as c cc nL own dd t) (hP : HP dd N ad V H) (hp : MoP N ad V t b x) {index : Nat} (hl : Cond.fieldLink own index "SiteCutsModel" "states" "I" ∈ GW) (hdg : decode cc pc = .ok (.getfield index, 3)) (kk : W p l e R s m as below meth c H locs cells slots Q (F0 m (pc + 3) ls (.int (nI (oS x)) :: rest))) : W p l e R s m as below meth c H locs cells slots Q (F0 m pc ls (.ref (ad b) :: rest)) := r_get X hP (ci := 6) rfl inlX6 hp.lt hp.ob 4 (by decide) hl rfl hdg kk
theorem p_Mo_states (X : WX p s m as c cc nL own dd t) (hi : inj N ad) (hP : HP dd N ad V H) (hS : va_S (dm N ad H0.size) H0 H locs) (hp : MoP N ad V t b x) {index : Nat} (hl : Cond.fieldLink own index "SiteCutsModel" "states" "I" ∈ GW) {v : Nat} (hdg : decode cc pc = .ok (.putfield index, 3)) (kk : ∀ (V1 : Nat → va_E) (H1 : Heap) (locs1 : List Loc), MoP N ad V1 t b (mkM (oR x) (oP x) (oA x) (oB x) v (oI x) (oX x) (oL x) (oT x) (oN x)) → (∀ k, k ≠ b → V1 k = V k) → HP dd N ad V1 H1 → va_S (dm N ad H0.size) H0 H1 locs1 → W p l e R s m as below meth c H1 locs1 cells slots Q (F0 m (pc + 3) ls rest)) : W p l e R s m as below meth c H locs cells slots Q (F0 m pc ls (.int (nI v) :: .ref (ad b) :: rest)) :=
  r_put X hi hP hS (ci := 6) (ty := .int) rfl inlX6 tyX6 tyX6_ok nmX6 hp.lt hp.ob 4 (by decide) hl rfl (by decide +kernel) rfl rfl (Nat.le_of_ble_eq_true rfl) rfl hdg (fun V1 H1 locs1 h1 h2 h3 h4 => kk V1 H1 locs1 ⟨hp.le, h1, by rw [h2 _ (by omega)]; exact hp.a_row, by rw [h2 _ (by omega)]; exact hp.a_past, by rw [h2 _ (by omega)]; exact hp.a_aside, by rw [h2 _ (by omega)]; exact hp.a_before, by rw [h2 _ (by omega)]; exact hp.a_text, by rw [h2 _ (by omega)]; exact hp.a_read⟩ h2 h3 h4)
theorem g_Mo_isAside (X : WX p s m as c cc nL own dd t) (hP : HP dd N ad V H) (hp : MoP N ad V t b x) {index : Nat} (hl : Cond.fieldLink own index "SiteCutsModel" "isAside" "Z" ∈ GW) (hdg : decode cc pc = .ok (.getfield index, 3)) (kk : W p l e R s m as below meth c H locs cells slots Q (F0 m (pc + 3) ls (.int (oI x) :: rest))) : W p l e R s m as below meth c H locs cells slots Q (F0 m pc ls (.ref (ad b) :: rest)) := r_get X hP (ci := 6) rfl inlX6 hp.lt hp.ob 5 (by decide) hl rfl hdg kk
theorem p_Mo_isAside (X : WX p s m as c cc nL own dd t) (hi : inj N ad) (hP : HP dd N ad V H) (hS : va_S (dm N ad H0.size) H0 H locs) (hp : MoP N ad V t b x) {index : Nat} (hl : Cond.fieldLink own index "SiteCutsModel" "isAside" "Z" ∈ GW) {v : Int32} (hv : narrow .boolean (.int v) = .int v) (hw : fits .boolean (.int v) = true) (hdg : decode cc pc = .ok (.putfield index, 3)) (kk : ∀ (V1 : Nat → va_E) (H1 : Heap) (locs1 : List Loc), MoP N ad V1 t b (mkM (oR x) (oP x) (oA x) (oB x) (oS x) v (oX x) (oL x) (oT x) (oN x)) → (∀ k, k ≠ b → V1 k = V k) → HP dd N ad V1 H1 → va_S (dm N ad H0.size) H0 H1 locs1 → W p l e R s m as below meth c H1 locs1 cells slots Q (F0 m (pc + 3) ls rest)) : W p l e R s m as below meth c H locs cells slots Q (F0 m pc ls (.int (v) :: .ref (ad b) :: rest)) :=
  r_put X hi hP hS (ci := 6) (ty := .boolean) rfl inlX6 tyX6 tyX6_ok nmX6 hp.lt hp.ob 5 (by decide) hl rfl (by decide +kernel) hv hw (Nat.le_of_ble_eq_true rfl) rfl hdg (fun V1 H1 locs1 h1 h2 h3 h4 => kk V1 H1 locs1 ⟨hp.le, h1, by rw [h2 _ (by omega)]; exact hp.a_row, by rw [h2 _ (by omega)]; exact hp.a_past, by rw [h2 _ (by omega)]; exact hp.a_aside, by rw [h2 _ (by omega)]; exact hp.a_before, by rw [h2 _ (by omega)]; exact hp.a_text, by rw [h2 _ (by omega)]; exact hp.a_read⟩ h2 h3 h4)
theorem g_Mo_text (X : WX p s m as c cc nL own dd t) (hP : HP dd N ad V H) (hp : MoP N ad V t b x) {index : Nat} (hl : Cond.fieldLink own index "SiteCutsModel" "text" "[C" ∈ GW) (hdg : decode cc pc = .ok (.getfield index, 3)) (kk : W p l e R s m as below meth c H locs cells slots Q (F0 m (pc + 3) ls (.ref (ad (b + 5)) :: rest))) : W p l e R s m as below meth c H locs cells slots Q (F0 m pc ls (.ref (ad b) :: rest)) := r_get X hP (ci := 6) rfl inlX6 hp.lt hp.ob 6 (by decide) hl rfl hdg kk
theorem l_Mo_text (X : WX p s m as c cc nL own dd t) (hP : HP dd N ad V H) (hp : MoP N ad V t b x) {j : Nat} (hj : j < 60) (hdg : decode cc pc = .ok (.caload, 1)) (kk : W p l e R s m as below meth c H locs cells slots Q (F0 m (pc + 1) ls (.int (oX x j) :: rest))) : W p l e R s m as below meth c H locs cells slots Q (F0 m pc ls (.int (nI j) :: .ref (ad (b + 5)) :: rest)) := a_cld X hP hp.lt_text hp.a_text hj (by omega) hdg kk
theorem s_Mo_text (X : WX p s m as c cc nL own dd t) (hi : inj N ad) (hP : HP dd N ad V H) (hS : va_S (dm N ad H0.size) H0 H locs) (hp : MoP N ad V t b x) {j : Nat} {v : Int32} (hj : j < 60) (hdg : decode cc pc = .ok (.castore, 1)) (kk : ∀ (V1 : Nat → va_E) (H1 : Heap) (locs1 : List Loc), MoP N ad V1 t b (mkM (oR x) (oP x) (oA x) (oB x) (oS x) (oI x) (upd (oX x) j (vp_nar .char v)) (oL x) (oT x) (oN x)) → (∀ k, k ≠ b + 5 → V1 k = V k) → HP dd N ad V1 H1 → va_S (dm N ad H0.size) H0 H1 locs1 → W p l e R s m as below meth c H1 locs1 cells slots Q (F0 m (pc + 1) ls rest)) : W p l e R s m as below meth c H locs cells slots Q (F0 m pc ls (.int v :: .int (nI j) :: .ref (ad (b + 5)) :: rest)) :=
  a_cst X hi hP hS hp.lt_text hp.a_text hj (by omega) hdg (fun V1 H1 locs1 h1 h2 h3 h4 => kk V1 H1 locs1 ⟨hp.le, (h2 _ (by omega)).trans hp.ob, by rw [h2 _ (by omega)]; exact hp.a_row, by rw [h2 _ (by omega)]; exact hp.a_past, by rw [h2 _ (by omega)]; exact hp.a_aside, by rw [h2 _ (by omega)]; exact hp.a_before, h1, by rw [h2 _ (by omega)]; exact hp.a_read⟩ h2 h3 h4)
theorem g_Mo_length (X : WX p s m as c cc nL own dd t) (hP : HP dd N ad V H) (hp : MoP N ad V t b x) {index : Nat} (hl : Cond.fieldLink own index "SiteCutsModel" "length" "I" ∈ GW) (hdg : decode cc pc = .ok (.getfield index, 3)) (kk : W p l e R s m as below meth c H locs cells slots Q (F0 m (pc + 3) ls (.int (nI (oL x)) :: rest))) : W p l e R s m as below meth c H locs cells slots Q (F0 m pc ls (.ref (ad b) :: rest)) := r_get X hP (ci := 6) rfl inlX6 hp.lt hp.ob 7 (by decide) hl rfl hdg kk
theorem p_Mo_length (X : WX p s m as c cc nL own dd t) (hi : inj N ad) (hP : HP dd N ad V H) (hS : va_S (dm N ad H0.size) H0 H locs) (hp : MoP N ad V t b x) {index : Nat} (hl : Cond.fieldLink own index "SiteCutsModel" "length" "I" ∈ GW) {v : Nat} (hdg : decode cc pc = .ok (.putfield index, 3)) (kk : ∀ (V1 : Nat → va_E) (H1 : Heap) (locs1 : List Loc), MoP N ad V1 t b (mkM (oR x) (oP x) (oA x) (oB x) (oS x) (oI x) (oX x) v (oT x) (oN x)) → (∀ k, k ≠ b → V1 k = V k) → HP dd N ad V1 H1 → va_S (dm N ad H0.size) H0 H1 locs1 → W p l e R s m as below meth c H1 locs1 cells slots Q (F0 m (pc + 3) ls rest)) : W p l e R s m as below meth c H locs cells slots Q (F0 m pc ls (.int (nI v) :: .ref (ad b) :: rest)) :=
  r_put X hi hP hS (ci := 6) (ty := .int) rfl inlX6 tyX6 tyX6_ok nmX6 hp.lt hp.ob 7 (by decide) hl rfl (by decide +kernel) rfl rfl (Nat.le_of_ble_eq_true rfl) rfl hdg (fun V1 H1 locs1 h1 h2 h3 h4 => kk V1 H1 locs1 ⟨hp.le, h1, by rw [h2 _ (by omega)]; exact hp.a_row, by rw [h2 _ (by omega)]; exact hp.a_past, by rw [h2 _ (by omega)]; exact hp.a_aside, by rw [h2 _ (by omega)]; exact hp.a_before, by rw [h2 _ (by omega)]; exact hp.a_text, by rw [h2 _ (by omega)]; exact hp.a_read⟩ h2 h3 h4)
theorem g_Mo_at (X : WX p s m as c cc nL own dd t) (hP : HP dd N ad V H) (hp : MoP N ad V t b x) {index : Nat} (hl : Cond.fieldLink own index "SiteCutsModel" "at" "I" ∈ GW) (hdg : decode cc pc = .ok (.getfield index, 3)) (kk : W p l e R s m as below meth c H locs cells slots Q (F0 m (pc + 3) ls (.int (nI (oT x)) :: rest))) : W p l e R s m as below meth c H locs cells slots Q (F0 m pc ls (.ref (ad b) :: rest)) := r_get X hP (ci := 6) rfl inlX6 hp.lt hp.ob 8 (by decide) hl rfl hdg kk
theorem p_Mo_at (X : WX p s m as c cc nL own dd t) (hi : inj N ad) (hP : HP dd N ad V H) (hS : va_S (dm N ad H0.size) H0 H locs) (hp : MoP N ad V t b x) {index : Nat} (hl : Cond.fieldLink own index "SiteCutsModel" "at" "I" ∈ GW) {v : Nat} (hdg : decode cc pc = .ok (.putfield index, 3)) (kk : ∀ (V1 : Nat → va_E) (H1 : Heap) (locs1 : List Loc), MoP N ad V1 t b (mkM (oR x) (oP x) (oA x) (oB x) (oS x) (oI x) (oX x) (oL x) v (oN x)) → (∀ k, k ≠ b → V1 k = V k) → HP dd N ad V1 H1 → va_S (dm N ad H0.size) H0 H1 locs1 → W p l e R s m as below meth c H1 locs1 cells slots Q (F0 m (pc + 3) ls rest)) : W p l e R s m as below meth c H locs cells slots Q (F0 m pc ls (.int (nI v) :: .ref (ad b) :: rest)) :=
  r_put X hi hP hS (ci := 6) (ty := .int) rfl inlX6 tyX6 tyX6_ok nmX6 hp.lt hp.ob 8 (by decide) hl rfl (by decide +kernel) rfl rfl (Nat.le_of_ble_eq_true rfl) rfl hdg (fun V1 H1 locs1 h1 h2 h3 h4 => kk V1 H1 locs1 ⟨hp.le, h1, by rw [h2 _ (by omega)]; exact hp.a_row, by rw [h2 _ (by omega)]; exact hp.a_past, by rw [h2 _ (by omega)]; exact hp.a_aside, by rw [h2 _ (by omega)]; exact hp.a_before, by rw [h2 _ (by omega)]; exact hp.a_text, by rw [h2 _ (by omega)]; exact hp.a_read⟩ h2 h3 h4)
theorem g_Mo_read (X : WX p s m as c cc nL own dd t) (hP : HP dd N ad V H) (hp : MoP N ad V t b x) {index : Nat} (hl : Cond.fieldLink own index "SiteCutsModel" "read" "[I" ∈ GW) (hdg : decode cc pc = .ok (.getfield index, 3)) (kk : W p l e R s m as below meth c H locs cells slots Q (F0 m (pc + 3) ls (.ref (ad (b + 6)) :: rest))) : W p l e R s m as below meth c H locs cells slots Q (F0 m pc ls (.ref (ad b) :: rest)) := r_get X hP (ci := 6) rfl inlX6 hp.lt hp.ob 9 (by decide) hl rfl hdg kk
theorem l_Mo_read (X : WX p s m as c cc nL own dd t) (hP : HP dd N ad V H) (hp : MoP N ad V t b x) {j : Nat} (hj : j < 8) (hdg : decode cc pc = .ok (.iaload, 1)) (kk : W p l e R s m as below meth c H locs cells slots Q (F0 m (pc + 1) ls (.int (oN x j) :: rest))) : W p l e R s m as below meth c H locs cells slots Q (F0 m pc ls (.int (nI j) :: .ref (ad (b + 6)) :: rest)) := a_ild X hP hp.lt_read hp.a_read hj (by omega) hdg kk
theorem s_Mo_read (X : WX p s m as c cc nL own dd t) (hi : inj N ad) (hP : HP dd N ad V H) (hS : va_S (dm N ad H0.size) H0 H locs) (hp : MoP N ad V t b x) {j : Nat} {v : Int32} (hj : j < 8) (hdg : decode cc pc = .ok (.iastore, 1)) (kk : ∀ (V1 : Nat → va_E) (H1 : Heap) (locs1 : List Loc), MoP N ad V1 t b (mkM (oR x) (oP x) (oA x) (oB x) (oS x) (oI x) (oX x) (oL x) (oT x) (upd (oN x) j v)) → (∀ k, k ≠ b + 6 → V1 k = V k) → HP dd N ad V1 H1 → va_S (dm N ad H0.size) H0 H1 locs1 → W p l e R s m as below meth c H1 locs1 cells slots Q (F0 m (pc + 1) ls rest)) : W p l e R s m as below meth c H locs cells slots Q (F0 m pc ls (.int v :: .int (nI j) :: .ref (ad (b + 6)) :: rest)) :=
  a_ist X hi hP hS hp.lt_read hp.a_read hj (by omega) hdg (fun V1 H1 locs1 h1 h2 h3 h4 => kk V1 H1 locs1 ⟨hp.le, (h2 _ (by omega)).trans hp.ob, by rw [h2 _ (by omega)]; exact hp.a_row, by rw [h2 _ (by omega)]; exact hp.a_past, by rw [h2 _ (by omega)]; exact hp.a_aside, by rw [h2 _ (by omega)]; exact hp.a_before, by rw [h2 _ (by omega)]; exact hp.a_text, h1⟩ h2 h3 h4)
end RMo
def SoP (N : Nat) (ad : Nat → Nat) (V : Nat → va_E) (t : CL4) (b : Nat) (x : SoC) : Prop := (b + 1 ≤ N) ∧ (V b = .inr (4, [.ref (ad (b + 1)), .ref (ad (b + 13)), .int (uB x), .int (uT x)]))
theorem SoP.le {N : Nat} {ad : Nat → Nat} {V : Nat → va_E} {t : CL4} {b : Nat} {x : SoC} (h : SoP N ad V t b x) : b + 1 ≤ N := h.1
theorem SoP.ob {N : Nat} {ad : Nat → Nat} {V : Nat → va_E} {t : CL4} {b : Nat} {x : SoC} (h : SoP N ad V t b x) : V b = .inr (4, [.ref (ad (b + 1)), .ref (ad (b + 13)), .int (uB x), .int (uT x)]) := h.2
theorem SoP.lt {N : Nat} {ad : Nat → Nat} {V : Nat → va_E} {t : CL4} {b : Nat} {x : SoC} (h : SoP N ad V t b x) : b < N := by have := h.le; omega
theorem SoP.keep {N : Nat} {ad : Nat → Nat} {V V1 : Nat → va_E} {t : CL4} {b : Nat} {x : SoC} (h : SoP N ad V t b x) (q : ∀ k, b ≤ k → k < b + 1 → V1 k = V k) : SoP N ad V1 t b x := ⟨h.le, (q b (by omega) (by omega)).trans h.ob⟩
theorem SoP.ext {N : Nat} {ad : Nat → Nat} {V : Nat → va_E} {t : CL4} {b : Nat} {x : SoC} {x2 : SoC} (h : SoP N ad V t b x) (e2 : uB x = uB x2) (e3 : uT x = uT x2) : SoP N ad V t b x2 := ⟨h.le, by rw [h.ob, e2, e3]⟩
section RSo
variable {p : Program} {l : Launch} {e : Env} {R : Room} {s : State} {m : MethodId} {as : Array Value} {below : List Frame} {meth : Method} {c : Code} {H H0 : Heap} {locs : List Loc} {cells slots : Nat} {Q : State → Prop}
variable {cc : ByteArray} {nL pc : Nat} {own : String} {ls : Array Slot} {rest : List Value} {dd : va_G} {t : CL4} {N : Nat} {ad : Nat → Nat} {V : Nat → va_E} {b k n : Nat}
variable {x : SoC}
theorem g_So_places (X : WX p s m as c cc nL own dd t) (hP : HP dd N ad V H) (hp : SoP N ad V t b x) {index : Nat} (hl : Cond.fieldLink own index "SiteCuts$State" "places" "LSiteCuts$Places;" ∈ GW) (hdg : decode cc pc = .ok (.getfield index, 3)) (kk : W p l e R s m as below meth c H locs cells slots Q (F0 m (pc + 3) ls (.ref (ad (b + 1)) :: rest))) : W p l e R s m as below meth c H locs cells slots Q (F0 m pc ls (.ref (ad b) :: rest)) := r_get X hP (ci := 4) rfl inlX4 hp.lt hp.ob 0 (by decide) hl rfl hdg kk
theorem g_So_cuts (X : WX p s m as c cc nL own dd t) (hP : HP dd N ad V H) (hp : SoP N ad V t b x) {index : Nat} (hl : Cond.fieldLink own index "SiteCuts$State" "cuts" "LSiteCuts$Cuts;" ∈ GW) (hdg : decode cc pc = .ok (.getfield index, 3)) (kk : W p l e R s m as below meth c H locs cells slots Q (F0 m (pc + 3) ls (.ref (ad (b + 13)) :: rest))) : W p l e R s m as below meth c H locs cells slots Q (F0 m pc ls (.ref (ad b) :: rest)) := r_get X hP (ci := 4) rfl inlX4 hp.lt hp.ob 1 (by decide) hl rfl hdg kk
theorem g_So_best (X : WX p s m as c cc nL own dd t) (hP : HP dd N ad V H) (hp : SoP N ad V t b x) {index : Nat} (hl : Cond.fieldLink own index "SiteCuts$State" "best" "I" ∈ GW) (hdg : decode cc pc = .ok (.getfield index, 3)) (kk : W p l e R s m as below meth c H locs cells slots Q (F0 m (pc + 3) ls (.int (uB x) :: rest))) : W p l e R s m as below meth c H locs cells slots Q (F0 m pc ls (.ref (ad b) :: rest)) := r_get X hP (ci := 4) rfl inlX4 hp.lt hp.ob 2 (by decide) hl rfl hdg kk
theorem p_So_best (X : WX p s m as c cc nL own dd t) (hi : inj N ad) (hP : HP dd N ad V H) (hS : va_S (dm N ad H0.size) H0 H locs) (hp : SoP N ad V t b x) {index : Nat} (hl : Cond.fieldLink own index "SiteCuts$State" "best" "I" ∈ GW) {v : Int32} (hdg : decode cc pc = .ok (.putfield index, 3)) (kk : ∀ (V1 : Nat → va_E) (H1 : Heap) (locs1 : List Loc), SoP N ad V1 t b (mkO v (uT x)) → (∀ k, k ≠ b → V1 k = V k) → HP dd N ad V1 H1 → va_S (dm N ad H0.size) H0 H1 locs1 → W p l e R s m as below meth c H1 locs1 cells slots Q (F0 m (pc + 3) ls rest)) : W p l e R s m as below meth c H locs cells slots Q (F0 m pc ls (.int (v) :: .ref (ad b) :: rest)) :=
  r_put X hi hP hS (ci := 4) (ty := .int) rfl inlX4 tyX4 tyX4_ok nmX4 hp.lt hp.ob 2 (by decide) hl rfl (by decide +kernel) rfl rfl (Nat.le_of_ble_eq_true rfl) rfl hdg (fun V1 H1 locs1 h1 h2 h3 h4 => kk V1 H1 locs1 ⟨hp.le, h1⟩ h2 h3 h4)
theorem g_So_steps (X : WX p s m as c cc nL own dd t) (hP : HP dd N ad V H) (hp : SoP N ad V t b x) {index : Nat} (hl : Cond.fieldLink own index "SiteCuts$State" "steps" "I" ∈ GW) (hdg : decode cc pc = .ok (.getfield index, 3)) (kk : W p l e R s m as below meth c H locs cells slots Q (F0 m (pc + 3) ls (.int (uT x) :: rest))) : W p l e R s m as below meth c H locs cells slots Q (F0 m pc ls (.ref (ad b) :: rest)) := r_get X hP (ci := 4) rfl inlX4 hp.lt hp.ob 3 (by decide) hl rfl hdg kk
theorem p_So_steps (X : WX p s m as c cc nL own dd t) (hi : inj N ad) (hP : HP dd N ad V H) (hS : va_S (dm N ad H0.size) H0 H locs) (hp : SoP N ad V t b x) {index : Nat} (hl : Cond.fieldLink own index "SiteCuts$State" "steps" "I" ∈ GW) {v : Int32} (hdg : decode cc pc = .ok (.putfield index, 3)) (kk : ∀ (V1 : Nat → va_E) (H1 : Heap) (locs1 : List Loc), SoP N ad V1 t b (mkO (uB x) v) → (∀ k, k ≠ b → V1 k = V k) → HP dd N ad V1 H1 → va_S (dm N ad H0.size) H0 H1 locs1 → W p l e R s m as below meth c H1 locs1 cells slots Q (F0 m (pc + 3) ls rest)) : W p l e R s m as below meth c H locs cells slots Q (F0 m pc ls (.int (v) :: .ref (ad b) :: rest)) :=
  r_put X hi hP hS (ci := 4) (ty := .int) rfl inlX4 tyX4 tyX4_ok nmX4 hp.lt hp.ob 3 (by decide) hl rfl (by decide +kernel) rfl rfl (Nat.le_of_ble_eq_true rfl) rfl hdg (fun V1 H1 locs1 h1 h2 h3 h4 => kk V1 H1 locs1 ⟨hp.le, h1⟩ h2 h3 h4)
end RSo
def HoP (N : Nat) (ad : Nat → Nat) (V : Nat → va_E) (t : CL4) (b : Nat) (x : HoC) : Prop := (b + 1 ≤ N) ∧ (V b = .inr (2, [.ref (ad (b + 1)), .int (nI (hA x))])) ∧ (hA x ≤ 4)
theorem HoP.le {N : Nat} {ad : Nat → Nat} {V : Nat → va_E} {t : CL4} {b : Nat} {x : HoC} (h : HoP N ad V t b x) : b + 1 ≤ N := h.1
theorem HoP.ob {N : Nat} {ad : Nat → Nat} {V : Nat → va_E} {t : CL4} {b : Nat} {x : HoC} (h : HoP N ad V t b x) : V b = .inr (2, [.ref (ad (b + 1)), .int (nI (hA x))]) := h.2.1
theorem HoP.i0 {N : Nat} {ad : Nat → Nat} {V : Nat → va_E} {t : CL4} {b : Nat} {x : HoC} (h : HoP N ad V t b x) : hA x ≤ 4 := h.2.2
theorem HoP.lt {N : Nat} {ad : Nat → Nat} {V : Nat → va_E} {t : CL4} {b : Nat} {x : HoC} (h : HoP N ad V t b x) : b < N := by have := h.le; omega
theorem HoP.keep {N : Nat} {ad : Nat → Nat} {V V1 : Nat → va_E} {t : CL4} {b : Nat} {x : HoC} (h : HoP N ad V t b x) (q : ∀ k, b ≤ k → k < b + 1 → V1 k = V k) : HoP N ad V1 t b x := ⟨h.le, (q b (by omega) (by omega)).trans h.ob, h.i0⟩
theorem HoP.ext {N : Nat} {ad : Nat → Nat} {V : Nat → va_E} {t : CL4} {b : Nat} {x : HoC} {x2 : HoC} (h : HoP N ad V t b x) (e1 : hA x = hA x2) : HoP N ad V t b x2 := ⟨h.le, by rw [h.ob, e1], by rw [← e1]; exact h.i0⟩
section RHo
variable {p : Program} {l : Launch} {e : Env} {R : Room} {s : State} {m : MethodId} {as : Array Value} {below : List Frame} {meth : Method} {c : Code} {H H0 : Heap} {locs : List Loc} {cells slots : Nat} {Q : State → Prop}
variable {cc : ByteArray} {nL pc : Nat} {own : String} {ls : Array Slot} {rest : List Value} {dd : va_G} {t : CL4} {N : Nat} {ad : Nat → Nat} {V : Nat → va_E} {b k n : Nat}
variable {x : HoC}
theorem g_Ho_states (X : WX p s m as c cc nL own dd t) (hP : HP dd N ad V H) (hp : HoP N ad V t b x) {index : Nat} (hl : Cond.fieldLink own index "SiteCuts$History" "states" "[LSiteCuts$State;" ∈ GW) (hdg : decode cc pc = .ok (.getfield index, 3)) (kk : W p l e R s m as below meth c H locs cells slots Q (F0 m (pc + 3) ls (.ref (ad (b + 1)) :: rest))) : W p l e R s m as below meth c H locs cells slots Q (F0 m pc ls (.ref (ad b) :: rest)) := r_get X hP (ci := 2) rfl inlX2 hp.lt hp.ob 0 (by decide) hl rfl hdg kk
theorem g_Ho_amount (X : WX p s m as c cc nL own dd t) (hP : HP dd N ad V H) (hp : HoP N ad V t b x) {index : Nat} (hl : Cond.fieldLink own index "SiteCuts$History" "amount" "I" ∈ GW) (hdg : decode cc pc = .ok (.getfield index, 3)) (kk : W p l e R s m as below meth c H locs cells slots Q (F0 m (pc + 3) ls (.int (nI (hA x)) :: rest))) : W p l e R s m as below meth c H locs cells slots Q (F0 m pc ls (.ref (ad b) :: rest)) := r_get X hP (ci := 2) rfl inlX2 hp.lt hp.ob 1 (by decide) hl rfl hdg kk
theorem p_Ho_amount (X : WX p s m as c cc nL own dd t) (hi : inj N ad) (hP : HP dd N ad V H) (hS : va_S (dm N ad H0.size) H0 H locs) (hp : HoP N ad V t b x) {index : Nat} (hl : Cond.fieldLink own index "SiteCuts$History" "amount" "I" ∈ GW) {v : Nat} (hv : v ≤ 4) (hdg : decode cc pc = .ok (.putfield index, 3)) (kk : ∀ (V1 : Nat → va_E) (H1 : Heap) (locs1 : List Loc), HoP N ad V1 t b (mkH v) → (∀ k, k ≠ b → V1 k = V k) → HP dd N ad V1 H1 → va_S (dm N ad H0.size) H0 H1 locs1 → W p l e R s m as below meth c H1 locs1 cells slots Q (F0 m (pc + 3) ls rest)) : W p l e R s m as below meth c H locs cells slots Q (F0 m pc ls (.int (nI v) :: .ref (ad b) :: rest)) :=
  r_put X hi hP hS (ci := 2) (ty := .int) rfl inlX2 tyX2 tyX2_ok nmX2 hp.lt hp.ob 1 (by decide) hl rfl (by decide +kernel) rfl rfl (Nat.le_of_ble_eq_true rfl) rfl hdg (fun V1 H1 locs1 h1 h2 h3 h4 => kk V1 H1 locs1 ⟨hp.le, h1, hv⟩ h2 h3 h4)
end RHo
def ZoP (N : Nat) (ad : Nat → Nat) (V : Nat → va_E) (t : CL4) (b : Nat) (x : ZoC) : Prop := (b + 1 ≤ N) ∧ (V b = .inr (5, [.ref (ad (b + 1)), .ref (ad (b + 58)), .ref (ad (b + 115)), .int (zS x), .ref (ad (b + 172)), .ref (ad (b + 402)), .ref (ad (b + 404))]))
theorem ZoP.le {N : Nat} {ad : Nat → Nat} {V : Nat → va_E} {t : CL4} {b : Nat} {x : ZoC} (h : ZoP N ad V t b x) : b + 1 ≤ N := h.1
theorem ZoP.ob {N : Nat} {ad : Nat → Nat} {V : Nat → va_E} {t : CL4} {b : Nat} {x : ZoC} (h : ZoP N ad V t b x) : V b = .inr (5, [.ref (ad (b + 1)), .ref (ad (b + 58)), .ref (ad (b + 115)), .int (zS x), .ref (ad (b + 172)), .ref (ad (b + 402)), .ref (ad (b + 404))]) := h.2
theorem ZoP.lt {N : Nat} {ad : Nat → Nat} {V : Nat → va_E} {t : CL4} {b : Nat} {x : ZoC} (h : ZoP N ad V t b x) : b < N := by have := h.le; omega
theorem ZoP.keep {N : Nat} {ad : Nat → Nat} {V V1 : Nat → va_E} {t : CL4} {b : Nat} {x : ZoC} (h : ZoP N ad V t b x) (q : ∀ k, b ≤ k → k < b + 1 → V1 k = V k) : ZoP N ad V1 t b x := ⟨h.le, (q b (by omega) (by omega)).trans h.ob⟩
theorem ZoP.ext {N : Nat} {ad : Nat → Nat} {V : Nat → va_E} {t : CL4} {b : Nat} {x : ZoC} {x2 : ZoC} (h : ZoP N ad V t b x) (e3 : zS x = zS x2) : ZoP N ad V t b x2 := ⟨h.le, by rw [h.ob, e3]⟩
section RZo
variable {p : Program} {l : Launch} {e : Env} {R : Room} {s : State} {m : MethodId} {as : Array Value} {below : List Frame} {meth : Method} {c : Code} {H H0 : Heap} {locs : List Loc} {cells slots : Nat} {Q : State → Prop}
variable {cc : ByteArray} {nL pc : Nat} {own : String} {ls : Array Slot} {rest : List Value} {dd : va_G} {t : CL4} {N : Nat} {ad : Nat → Nat} {V : Nat → va_E} {b k n : Nat}
variable {x : ZoC}
theorem g_Zo_now (X : WX p s m as c cc nL own dd t) (hP : HP dd N ad V H) (hp : ZoP N ad V t b x) {index : Nat} (hl : Cond.fieldLink own index "SiteCuts" "now" "LSiteCuts$State;" ∈ GW) (hdg : decode cc pc = .ok (.getfield index, 3)) (kk : W p l e R s m as below meth c H locs cells slots Q (F0 m (pc + 3) ls (.ref (ad (b + 1)) :: rest))) : W p l e R s m as below meth c H locs cells slots Q (F0 m pc ls (.ref (ad b) :: rest)) := r_get X hP (ci := 5) rfl inlX5 hp.lt hp.ob 0 (by decide) hl rfl hdg kk
theorem g_Zo_before (X : WX p s m as c cc nL own dd t) (hP : HP dd N ad V H) (hp : ZoP N ad V t b x) {index : Nat} (hl : Cond.fieldLink own index "SiteCuts" "before" "LSiteCuts$State;" ∈ GW) (hdg : decode cc pc = .ok (.getfield index, 3)) (kk : W p l e R s m as below meth c H locs cells slots Q (F0 m (pc + 3) ls (.ref (ad (b + 58)) :: rest))) : W p l e R s m as below meth c H locs cells slots Q (F0 m pc ls (.ref (ad b) :: rest)) := r_get X hP (ci := 5) rfl inlX5 hp.lt hp.ob 1 (by decide) hl rfl hdg kk
theorem g_Zo_snapshot (X : WX p s m as c cc nL own dd t) (hP : HP dd N ad V H) (hp : ZoP N ad V t b x) {index : Nat} (hl : Cond.fieldLink own index "SiteCuts" "snapshot" "LSiteCuts$State;" ∈ GW) (hdg : decode cc pc = .ok (.getfield index, 3)) (kk : W p l e R s m as below meth c H locs cells slots Q (F0 m (pc + 3) ls (.ref (ad (b + 115)) :: rest))) : W p l e R s m as below meth c H locs cells slots Q (F0 m pc ls (.ref (ad b) :: rest)) := r_get X hP (ci := 5) rfl inlX5 hp.lt hp.ob 2 (by decide) hl rfl hdg kk
theorem g_Zo_hasSnapshot (X : WX p s m as c cc nL own dd t) (hP : HP dd N ad V H) (hp : ZoP N ad V t b x) {index : Nat} (hl : Cond.fieldLink own index "SiteCuts" "hasSnapshot" "Z" ∈ GW) (hdg : decode cc pc = .ok (.getfield index, 3)) (kk : W p l e R s m as below meth c H locs cells slots Q (F0 m (pc + 3) ls (.int (zS x) :: rest))) : W p l e R s m as below meth c H locs cells slots Q (F0 m pc ls (.ref (ad b) :: rest)) := r_get X hP (ci := 5) rfl inlX5 hp.lt hp.ob 3 (by decide) hl rfl hdg kk
theorem p_Zo_hasSnapshot (X : WX p s m as c cc nL own dd t) (hi : inj N ad) (hP : HP dd N ad V H) (hS : va_S (dm N ad H0.size) H0 H locs) (hp : ZoP N ad V t b x) {index : Nat} (hl : Cond.fieldLink own index "SiteCuts" "hasSnapshot" "Z" ∈ GW) {v : Int32} (hv : narrow .boolean (.int v) = .int v) (hw : fits .boolean (.int v) = true) (hdg : decode cc pc = .ok (.putfield index, 3)) (kk : ∀ (V1 : Nat → va_E) (H1 : Heap) (locs1 : List Loc), ZoP N ad V1 t b (mkZ v) → (∀ k, k ≠ b → V1 k = V k) → HP dd N ad V1 H1 → va_S (dm N ad H0.size) H0 H1 locs1 → W p l e R s m as below meth c H1 locs1 cells slots Q (F0 m (pc + 3) ls rest)) : W p l e R s m as below meth c H locs cells slots Q (F0 m pc ls (.int (v) :: .ref (ad b) :: rest)) :=
  r_put X hi hP hS (ci := 5) (ty := .boolean) rfl inlX5 tyX5 tyX5_ok nmX5 hp.lt hp.ob 3 (by decide) hl rfl (by decide +kernel) hv hw (Nat.le_of_ble_eq_true rfl) rfl hdg (fun V1 H1 locs1 h1 h2 h3 h4 => kk V1 H1 locs1 ⟨hp.le, h1⟩ h2 h3 h4)
theorem g_Zo_history (X : WX p s m as c cc nL own dd t) (hP : HP dd N ad V H) (hp : ZoP N ad V t b x) {index : Nat} (hl : Cond.fieldLink own index "SiteCuts" "history" "LSiteCuts$History;" ∈ GW) (hdg : decode cc pc = .ok (.getfield index, 3)) (kk : W p l e R s m as below meth c H locs cells slots Q (F0 m (pc + 3) ls (.ref (ad (b + 172)) :: rest))) : W p l e R s m as below meth c H locs cells slots Q (F0 m pc ls (.ref (ad b) :: rest)) := r_get X hP (ci := 5) rfl inlX5 hp.lt hp.ob 4 (by decide) hl rfl hdg kk
theorem g_Zo_text (X : WX p s m as c cc nL own dd t) (hP : HP dd N ad V H) (hp : ZoP N ad V t b x) {index : Nat} (hl : Cond.fieldLink own index "SiteCuts" "text" "LSiteCuts$CutText;" ∈ GW) (hdg : decode cc pc = .ok (.getfield index, 3)) (kk : W p l e R s m as below meth c H locs cells slots Q (F0 m (pc + 3) ls (.ref (ad (b + 402)) :: rest))) : W p l e R s m as below meth c H locs cells slots Q (F0 m pc ls (.ref (ad b) :: rest)) := r_get X hP (ci := 5) rfl inlX5 hp.lt hp.ob 5 (by decide) hl rfl hdg kk
theorem g_Zo_numbers (X : WX p s m as c cc nL own dd t) (hP : HP dd N ad V H) (hp : ZoP N ad V t b x) {index : Nat} (hl : Cond.fieldLink own index "SiteCuts" "numbers" "[I" ∈ GW) (hdg : decode cc pc = .ok (.getfield index, 3)) (kk : W p l e R s m as below meth c H locs cells slots Q (F0 m (pc + 3) ls (.ref (ad (b + 404)) :: rest))) : W p l e R s m as below meth c H locs cells slots Q (F0 m pc ls (.ref (ad b) :: rest)) := r_get X hP (ci := 5) rfl inlX5 hp.lt hp.ob 6 (by decide) hl rfl hdg kk
end RZo
def TxP (N : Nat) (ad : Nat → Nat) (V : Nat → va_E) (t : CL4) (b : Nat) (x : TxC) : Prop := (b + 2 ≤ N) ∧ (V b = .inr (0, [.ref (ad (b + 1)), .int (nI (tL x))])) ∧ (arr t.2.1 60 (tC x) (V (b + 1))) ∧ (tL x ≤ 60)
theorem TxP.le {N : Nat} {ad : Nat → Nat} {V : Nat → va_E} {t : CL4} {b : Nat} {x : TxC} (h : TxP N ad V t b x) : b + 2 ≤ N := h.1
theorem TxP.ob {N : Nat} {ad : Nat → Nat} {V : Nat → va_E} {t : CL4} {b : Nat} {x : TxC} (h : TxP N ad V t b x) : V b = .inr (0, [.ref (ad (b + 1)), .int (nI (tL x))]) := h.2.1
theorem TxP.a_characters {N : Nat} {ad : Nat → Nat} {V : Nat → va_E} {t : CL4} {b : Nat} {x : TxC} (h : TxP N ad V t b x) : arr t.2.1 60 (tC x) (V (b + 1)) := h.2.2.1
theorem TxP.i0 {N : Nat} {ad : Nat → Nat} {V : Nat → va_E} {t : CL4} {b : Nat} {x : TxC} (h : TxP N ad V t b x) : tL x ≤ 60 := h.2.2.2
theorem TxP.lt {N : Nat} {ad : Nat → Nat} {V : Nat → va_E} {t : CL4} {b : Nat} {x : TxC} (h : TxP N ad V t b x) : b < N := by have := h.le; omega
theorem TxP.lt_characters {N : Nat} {ad : Nat → Nat} {V : Nat → va_E} {t : CL4} {b : Nat} {x : TxC} (h : TxP N ad V t b x) : b + 1 < N := by have := h.le; omega
theorem TxP.keep {N : Nat} {ad : Nat → Nat} {V V1 : Nat → va_E} {t : CL4} {b : Nat} {x : TxC} (h : TxP N ad V t b x) (q : ∀ k, b ≤ k → k < b + 2 → V1 k = V k) : TxP N ad V1 t b x := ⟨h.le, (q b (by omega) (by omega)).trans h.ob, by rw [q (b + 1) (by omega) (by omega)]; exact h.a_characters, h.i0⟩
theorem TxP.ext {N : Nat} {ad : Nat → Nat} {V : Nat → va_E} {t : CL4} {b : Nat} {x : TxC} {x2 : TxC} (h : TxP N ad V t b x) (e0 : ∀ j, j < 60 → tC x j = tC x2 j) (e1 : tL x = tL x2) : TxP N ad V t b x2 := ⟨h.le, by rw [h.ob, e1], h.a_characters.ext e0, by rw [← e1]; exact h.i0⟩
section RTx
variable {p : Program} {l : Launch} {e : Env} {R : Room} {s : State} {m : MethodId} {as : Array Value} {below : List Frame} {meth : Method} {c : Code} {H H0 : Heap} {locs : List Loc} {cells slots : Nat} {Q : State → Prop}
variable {cc : ByteArray} {nL pc : Nat} {own : String} {ls : Array Slot} {rest : List Value} {dd : va_G} {t : CL4} {N : Nat} {ad : Nat → Nat} {V : Nat → va_E} {b k n : Nat}
variable {x : TxC}
theorem g_Tx_characters (X : WX p s m as c cc nL own dd t) (hP : HP dd N ad V H) (hp : TxP N ad V t b x) {index : Nat} (hl : Cond.fieldLink own index "SiteCuts$CutText" "characters" "[C" ∈ GW) (hdg : decode cc pc = .ok (.getfield index, 3)) (kk : W p l e R s m as below meth c H locs cells slots Q (F0 m (pc + 3) ls (.ref (ad (b + 1)) :: rest))) : W p l e R s m as below meth c H locs cells slots Q (F0 m pc ls (.ref (ad b) :: rest)) := r_get X hP (ci := 0) rfl inlX0 hp.lt hp.ob 0 (by decide) hl rfl hdg kk
theorem l_Tx_characters (X : WX p s m as c cc nL own dd t) (hP : HP dd N ad V H) (hp : TxP N ad V t b x) {j : Nat} (hj : j < 60) (hdg : decode cc pc = .ok (.caload, 1)) (kk : W p l e R s m as below meth c H locs cells slots Q (F0 m (pc + 1) ls (.int (tC x j) :: rest))) : W p l e R s m as below meth c H locs cells slots Q (F0 m pc ls (.int (nI j) :: .ref (ad (b + 1)) :: rest)) := a_cld X hP hp.lt_characters hp.a_characters hj (by omega) hdg kk
theorem s_Tx_characters (X : WX p s m as c cc nL own dd t) (hi : inj N ad) (hP : HP dd N ad V H) (hS : va_S (dm N ad H0.size) H0 H locs) (hp : TxP N ad V t b x) {j : Nat} {v : Int32} (hj : j < 60) (hdg : decode cc pc = .ok (.castore, 1)) (kk : ∀ (V1 : Nat → va_E) (H1 : Heap) (locs1 : List Loc), TxP N ad V1 t b (mkX (upd (tC x) j (vp_nar .char v)) (tL x)) → (∀ k, k ≠ b + 1 → V1 k = V k) → HP dd N ad V1 H1 → va_S (dm N ad H0.size) H0 H1 locs1 → W p l e R s m as below meth c H1 locs1 cells slots Q (F0 m (pc + 1) ls rest)) : W p l e R s m as below meth c H locs cells slots Q (F0 m pc ls (.int v :: .int (nI j) :: .ref (ad (b + 1)) :: rest)) :=
  a_cst X hi hP hS hp.lt_characters hp.a_characters hj (by omega) hdg (fun V1 H1 locs1 h1 h2 h3 h4 => kk V1 H1 locs1 ⟨hp.le, (h2 _ (by omega)).trans hp.ob, h1, hp.i0⟩ h2 h3 h4)
theorem g_Tx_length (X : WX p s m as c cc nL own dd t) (hP : HP dd N ad V H) (hp : TxP N ad V t b x) {index : Nat} (hl : Cond.fieldLink own index "SiteCuts$CutText" "length" "I" ∈ GW) (hdg : decode cc pc = .ok (.getfield index, 3)) (kk : W p l e R s m as below meth c H locs cells slots Q (F0 m (pc + 3) ls (.int (nI (tL x)) :: rest))) : W p l e R s m as below meth c H locs cells slots Q (F0 m pc ls (.ref (ad b) :: rest)) := r_get X hP (ci := 0) rfl inlX0 hp.lt hp.ob 1 (by decide) hl rfl hdg kk
theorem p_Tx_length (X : WX p s m as c cc nL own dd t) (hi : inj N ad) (hP : HP dd N ad V H) (hS : va_S (dm N ad H0.size) H0 H locs) (hp : TxP N ad V t b x) {index : Nat} (hl : Cond.fieldLink own index "SiteCuts$CutText" "length" "I" ∈ GW) {v : Nat} (hv : v ≤ 60) (hdg : decode cc pc = .ok (.putfield index, 3)) (kk : ∀ (V1 : Nat → va_E) (H1 : Heap) (locs1 : List Loc), TxP N ad V1 t b (mkX (tC x) v) → (∀ k, k ≠ b → V1 k = V k) → HP dd N ad V1 H1 → va_S (dm N ad H0.size) H0 H1 locs1 → W p l e R s m as below meth c H1 locs1 cells slots Q (F0 m (pc + 3) ls rest)) : W p l e R s m as below meth c H locs cells slots Q (F0 m pc ls (.int (nI v) :: .ref (ad b) :: rest)) :=
  r_put X hi hP hS (ci := 0) (ty := .int) rfl inlX0 tyX0 tyX0_ok nmX0 hp.lt hp.ob 1 (by decide) hl rfl (by decide +kernel) rfl rfl (Nat.le_of_ble_eq_true rfl) rfl hdg (fun V1 H1 locs1 h1 h2 h3 h4 => kk V1 H1 locs1 ⟨hp.le, h1, by rw [h2 _ (by omega)]; exact hp.a_characters, hv⟩ h2 h3 h4)
end RTx
section QR
variable {p : Program} {l : Launch} {e : Env} {R : Room} {s : State} {m : MethodId} {as : Array Value} {below : List Frame} {meth : Method} {c : Code} {H H0 : Heap} {locs : List Loc} {cells slots : Nat} {Q : State → Prop}
variable {cc : ByteArray} {nL pc : Nat} {own : String} {ls : Array Slot} {rest : List Value} {dd : va_G} {t : CL4} {N : Nat} {ad : Nat → Nat} {V : Nat → va_E} {b k n : Nat}
theorem nI_inc (a : Nat) : nI a + Int32.ofInt 1 = nI (a + 1) := (nI_succ a).symm
theorem nI_dec {a : Nat} (h : 0 < a) : nI a + Int32.ofInt (-1) = nI (a - 1) := by
  obtain ⟨k, rfl⟩ : ∃ k, a = k + 1 := ⟨a - 1, by omega⟩
  show nI (k + 1) + (-1) = nI k
  exact pk_m1 k
theorem q_iadd (hexec : p.tables.exec = Jvm.exec) (hb : c.code = cc) {x y : Nat} (hdg : decode cc pc = .ok (.iadd, 1)) (k : W p l e R s m as below meth c H locs cells slots Q (F0 m (pc + 1) ls (.int (nI (x + y)) :: rest))) : W p l e R s m as below meth c H locs cells slots Q (F0 m pc ls (.int (nI y) :: .int (nI x) :: rest)) := lv_iadd hexec hb hdg (by rw [nI_add]; exact k)
theorem q_imul (hexec : p.tables.exec = Jvm.exec) (hb : c.code = cc) {x y : Nat} (hdg : decode cc pc = .ok (.imul, 1)) (k : W p l e R s m as below meth c H locs cells slots Q (F0 m (pc + 1) ls (.int (nI (x * y)) :: rest))) : W p l e R s m as below meth c H locs cells slots Q (F0 m pc ls (.int (nI y) :: .int (nI x) :: rest)) := lv_imul hexec hb hdg (by rw [pk_mul]; exact k)
theorem q_isub (hexec : p.tables.exec = Jvm.exec) (hb : c.code = cc) {x y : Nat} (hxy : y ≤ x) (hdg : decode cc pc = .ok (.isub, 1)) (k : W p l e R s m as below meth c H locs cells slots Q (F0 m (pc + 1) ls (.int (nI (x - y)) :: rest))) : W p l e R s m as below meth c H locs cells slots Q (F0 m pc ls (.int (nI y) :: .int (nI x) :: rest)) := lv_isub hexec hb hdg (by rw [pk_sub hxy]; exact k)
theorem b01_f {q : Bool} (h : b01 q = 0) : q = false := by cases q <;> first | rfl | exact absurd h (by decide)
theorem b01_t {q : Bool} (h : ¬ b01 q = 0) : q = true := by cases q <;> first | rfl | exact absurd rfl h
theorem q_eqB (hexec : p.tables.exec = Jvm.exec) (hb : c.code = cc) {x : Bool} {off : Int} {tgt : Nat} (hdg : decode cc pc = .ok (.ifCond .eq off, 3)) (ht : (pc : Int) + off = (tgt : Int)) (kt : x = false → W p l e R s m as below meth c H locs cells slots Q (F0 m tgt ls rest)) (kf : x = true → W p l e R s m as below meth c H locs cells slots Q (F0 m (pc + 3) ls rest)) : W p l e R s m as below meth c H locs cells slots Q (F0 m pc ls (.int (b01 x) :: rest)) := lv_if_eq hexec hb hdg ht (fun h => kt (b01_f h)) (fun h => kf (b01_t h))
theorem q_neB (hexec : p.tables.exec = Jvm.exec) (hb : c.code = cc) {x : Bool} {off : Int} {tgt : Nat} (hdg : decode cc pc = .ok (.ifCond .ne off, 3)) (ht : (pc : Int) + off = (tgt : Int)) (kt : x = true → W p l e R s m as below meth c H locs cells slots Q (F0 m tgt ls rest)) (kf : x = false → W p l e R s m as below meth c H locs cells slots Q (F0 m (pc + 3) ls rest)) : W p l e R s m as below meth c H locs cells slots Q (F0 m pc ls (.int (b01 x) :: rest)) := lv_if_ne hexec hb hdg ht (fun h => kt (b01_t h)) (fun h => kf (b01_f h))
theorem q_eq (hexec : p.tables.exec = Jvm.exec) (hb : c.code = cc) {x y : Nat} (hx : x < 2 ^ 31) (hy : y < 2 ^ 31) {off : Int} {tgt : Nat} (hdg : decode cc pc = .ok (.if_icmp .eq off, 3)) (ht : (pc : Int) + off = (tgt : Int)) (kt : x = y → W p l e R s m as below meth c H locs cells slots Q (F0 m tgt ls rest)) (kf : x ≠ y → W p l e R s m as below meth c H locs cells slots Q (F0 m (pc + 3) ls rest)) : W p l e R s m as below meth c H locs cells slots Q (F0 m pc ls (.int (nI y) :: .int (nI x) :: rest)) := lv_icmp_eq hexec hb hdg ht (fun h => kt ((nI_eq hx hy).mp h)) (fun h => kf (fun e => h ((nI_eq hx hy).mpr e)))
theorem q_ne (hexec : p.tables.exec = Jvm.exec) (hb : c.code = cc) {x y : Nat} (hx : x < 2 ^ 31) (hy : y < 2 ^ 31) {off : Int} {tgt : Nat} (hdg : decode cc pc = .ok (.if_icmp .ne off, 3)) (ht : (pc : Int) + off = (tgt : Int)) (kt : x ≠ y → W p l e R s m as below meth c H locs cells slots Q (F0 m tgt ls rest)) (kf : x = y → W p l e R s m as below meth c H locs cells slots Q (F0 m (pc + 3) ls rest)) : W p l e R s m as below meth c H locs cells slots Q (F0 m pc ls (.int (nI y) :: .int (nI x) :: rest)) := lv_icmp_ne hexec hb hdg ht (fun h => kt (fun e => h ((nI_eq hx hy).mpr e))) (fun h => kf ((nI_eq hx hy).mp h))
theorem q_lt (hexec : p.tables.exec = Jvm.exec) (hb : c.code = cc) {x y : Nat} (hx : x < 2 ^ 31) (hy : y < 2 ^ 31) {off : Int} {tgt : Nat} (hdg : decode cc pc = .ok (.if_icmp .lt off, 3)) (ht : (pc : Int) + off = (tgt : Int)) (kt : x < y → W p l e R s m as below meth c H locs cells slots Q (F0 m tgt ls rest)) (kf : y ≤ x → W p l e R s m as below meth c H locs cells slots Q (F0 m (pc + 3) ls rest)) : W p l e R s m as below meth c H locs cells slots Q (F0 m pc ls (.int (nI y) :: .int (nI x) :: rest)) := lv_icmp_lt hexec hb hdg ht (fun h => kt ((nI_ltI hx hy).mp h)) (fun h => kf (Nat.not_lt.mp (fun e => h ((nI_ltI hx hy).mpr e))))
theorem q_ge (hexec : p.tables.exec = Jvm.exec) (hb : c.code = cc) {x y : Nat} (hx : x < 2 ^ 31) (hy : y < 2 ^ 31) {off : Int} {tgt : Nat} (hdg : decode cc pc = .ok (.if_icmp .ge off, 3)) (ht : (pc : Int) + off = (tgt : Int)) (kt : y ≤ x → W p l e R s m as below meth c H locs cells slots Q (F0 m tgt ls rest)) (kf : x < y → W p l e R s m as below meth c H locs cells slots Q (F0 m (pc + 3) ls rest)) : W p l e R s m as below meth c H locs cells slots Q (F0 m pc ls (.int (nI y) :: .int (nI x) :: rest)) := lv_icmp_ge hexec hb hdg ht (fun h => kt ((nI_leI hy hx).mp h)) (fun h => kf (Nat.not_le.mp (fun e => h ((nI_leI hy hx).mpr e))))
theorem q_gt (hexec : p.tables.exec = Jvm.exec) (hb : c.code = cc) {x y : Nat} (hx : x < 2 ^ 31) (hy : y < 2 ^ 31) {off : Int} {tgt : Nat} (hdg : decode cc pc = .ok (.if_icmp .gt off, 3)) (ht : (pc : Int) + off = (tgt : Int)) (kt : y < x → W p l e R s m as below meth c H locs cells slots Q (F0 m tgt ls rest)) (kf : x ≤ y → W p l e R s m as below meth c H locs cells slots Q (F0 m (pc + 3) ls rest)) : W p l e R s m as below meth c H locs cells slots Q (F0 m pc ls (.int (nI y) :: .int (nI x) :: rest)) := lv_icmp_gt hexec hb hdg ht (fun h => kt ((nI_ltI hy hx).mp h)) (fun h => kf (Nat.not_lt.mp (fun e => h ((nI_ltI hy hx).mpr e))))
theorem q_le (hexec : p.tables.exec = Jvm.exec) (hb : c.code = cc) {x y : Nat} (hx : x < 2 ^ 31) (hy : y < 2 ^ 31) {off : Int} {tgt : Nat} (hdg : decode cc pc = .ok (.if_icmp .le off, 3)) (ht : (pc : Int) + off = (tgt : Int)) (kt : x ≤ y → W p l e R s m as below meth c H locs cells slots Q (F0 m tgt ls rest)) (kf : y < x → W p l e R s m as below meth c H locs cells slots Q (F0 m (pc + 3) ls rest)) : W p l e R s m as below meth c H locs cells slots Q (F0 m pc ls (.int (nI y) :: .int (nI x) :: rest)) := lv_icmp_le hexec hb hdg ht (fun h => kt ((nI_leI hx hy).mp h)) (fun h => kf (Nat.not_le.mp (fun e => h ((nI_leI hx hy).mpr e))))
theorem nt {q : Bool} (h : q = false) : ¬ q = true := by rw [h]; decide
theorem q_val {x y : Int32} (h : x = y) (k : W p l e R s m as below meth c H locs cells slots Q (F0 m pc ls (.int y :: rest))) : W p l e R s m as below meth c H locs cells slots Q (F0 m pc ls (.int x :: rest)) := h ▸ k
theorem shl1 {a : Nat} (h : a < 31) : nI 1 <<< (nI a &&& 31) = nI (2 ^ a) := by
  have : ∀ a, a < 31 → nI 1 <<< (nI a &&& 31) = nI (2 ^ a) := by decide +kernel
  exact this a h
theorem q_ishl (hexec : p.tables.exec = Jvm.exec) (hb : c.code = cc) {a : Nat} (ha : a < 31) (hdg : decode cc pc = .ok (.ishl, 1)) (k : W p l e R s m as below meth c H locs cells slots Q (F0 m (pc + 1) ls (.int (nI (2 ^ a)) :: rest))) : W p l e R s m as below meth c H locs cells slots Q (F0 m pc ls (.int (nI a) :: .int (nI 1) :: rest)) := lv_ishl hexec hb hdg (by rw [shl1 ha]; exact k)
theorem a_nld (X : WX p s m as c cc nL own dd t) (hP : HP dd N ad V H) {f : Nat → Int32} (hp : NuP N V t b f) {j : Nat} (hj : j < 8) (hdg : decode cc pc = .ok (.iaload, 1)) (kk : W p l e R s m as below meth c H locs cells slots Q (F0 m (pc + 1) ls (.int (f j) :: rest))) : W p l e R s m as below meth c H locs cells slots Q (F0 m pc ls (.int (nI j) :: .ref (ad b) :: rest)) := a_ild X hP hp.1 hp.2 hj (by omega) hdg kk
theorem a_nst (X : WX p s m as c cc nL own dd t) (hi : inj N ad) (hP : HP dd N ad V H) (hS : va_S (dm N ad H0.size) H0 H locs) {f : Nat → Int32} (hp : NuP N V t b f) {j : Nat} {v : Int32} (hj : j < 8) (hdg : decode cc pc = .ok (.iastore, 1)) (kk : ∀ (V1 : Nat → va_E) (H1 : Heap) (locs1 : List Loc), NuP N V1 t b (upd f j v) → (∀ k, k ≠ b → V1 k = V k) → HP dd N ad V1 H1 → va_S (dm N ad H0.size) H0 H1 locs1 → W p l e R s m as below meth c H1 locs1 cells slots Q (F0 m (pc + 1) ls rest)) : W p l e R s m as below meth c H locs cells slots Q (F0 m pc ls (.int v :: .int (nI j) :: .ref (ad b) :: rest)) :=
  a_ist X hi hP hS hp.1 hp.2 hj (by omega) hdg (fun V1 H1 locs1 h1 h2 h3 h4 => kk V1 H1 locs1 ⟨hp.1, h1⟩ h2 h3 h4)
end QR
end
section
/-! branches, by what is decided: x < y or not; naturals beside 0; the end of a switch -/
theorem i_nlt {x y : Int32} : ¬ x < y ↔ y ≤ x := by rw [Int32.lt_iff_toInt_lt, Int32.le_iff_toInt_le]; omega
theorem i_nle {x y : Int32} : ¬ y ≤ x ↔ x < y := by rw [Int32.lt_iff_toInt_lt, Int32.le_iff_toInt_le]; omega
theorem nar_b01 (q : Bool) : narrow .boolean (.int (b01 q)) = .int (b01 q) := by cases q <;> rfl
theorem fit_b01 (q : Bool) : fits .boolean (.int (b01 q)) = true := by cases q <;> rfl
section JR
variable {p : Program} {l : Launch} {e : Env} {R : Room} {s : State} {m : MethodId} {as : Array Value} {below : List Frame} {meth : Method} {c : Code} {H H0 : Heap} {locs : List Loc} {cells slots : Nat} {Q : State → Prop}
variable {cc : ByteArray} {pc : Nat} {ls : Array Slot} {rest : List Value}
theorem j_lt (hexec : p.tables.exec = Jvm.exec) (hb : c.code = cc) {x y : Int32} {off : Int} {tgt : Nat} (hdg : decode cc pc = .ok (.if_icmp .lt off, 3)) (ht : (pc : Int) + off = (tgt : Int)) (kt : x < y → W p l e R s m as below meth c H locs cells slots Q (F0 m tgt ls rest)) (kf : ¬ x < y → W p l e R s m as below meth c H locs cells slots Q (F0 m (pc + 3) ls rest)) : W p l e R s m as below meth c H locs cells slots Q (F0 m pc ls (.int y :: .int x :: rest)) := lv_icmp_lt hexec hb hdg ht (fun h => kt (h)) (fun h => kf (h))
theorem j_ge (hexec : p.tables.exec = Jvm.exec) (hb : c.code = cc) {x y : Int32} {off : Int} {tgt : Nat} (hdg : decode cc pc = .ok (.if_icmp .ge off, 3)) (ht : (pc : Int) + off = (tgt : Int)) (kt : ¬ x < y → W p l e R s m as below meth c H locs cells slots Q (F0 m tgt ls rest)) (kf : x < y → W p l e R s m as below meth c H locs cells slots Q (F0 m (pc + 3) ls rest)) : W p l e R s m as below meth c H locs cells slots Q (F0 m pc ls (.int y :: .int x :: rest)) := lv_icmp_ge hexec hb hdg ht (fun h => kt (i_nlt.mpr h)) (fun h => kf (i_nle.mp h))
theorem j_gt (hexec : p.tables.exec = Jvm.exec) (hb : c.code = cc) {x y : Int32} {off : Int} {tgt : Nat} (hdg : decode cc pc = .ok (.if_icmp .gt off, 3)) (ht : (pc : Int) + off = (tgt : Int)) (kt : y < x → W p l e R s m as below meth c H locs cells slots Q (F0 m tgt ls rest)) (kf : ¬ y < x → W p l e R s m as below meth c H locs cells slots Q (F0 m (pc + 3) ls rest)) : W p l e R s m as below meth c H locs cells slots Q (F0 m pc ls (.int y :: .int x :: rest)) := lv_icmp_gt hexec hb hdg ht (fun h => kt (h)) (fun h => kf (h))
theorem j_le (hexec : p.tables.exec = Jvm.exec) (hb : c.code = cc) {x y : Int32} {off : Int} {tgt : Nat} (hdg : decode cc pc = .ok (.if_icmp .le off, 3)) (ht : (pc : Int) + off = (tgt : Int)) (kt : ¬ y < x → W p l e R s m as below meth c H locs cells slots Q (F0 m tgt ls rest)) (kf : y < x → W p l e R s m as below meth c H locs cells slots Q (F0 m (pc + 3) ls rest)) : W p l e R s m as below meth c H locs cells slots Q (F0 m pc ls (.int y :: .int x :: rest)) := lv_icmp_le hexec hb hdg ht (fun h => kt (i_nlt.mpr h)) (fun h => kf (i_nle.mp h))
theorem u_lt (hexec : p.tables.exec = Jvm.exec) (hb : c.code = cc) {x : Int32} {off : Int} {tgt : Nat} (hdg : decode cc pc = .ok (.ifCond .lt off, 3)) (ht : (pc : Int) + off = (tgt : Int)) (kt : x < 0 → W p l e R s m as below meth c H locs cells slots Q (F0 m tgt ls rest)) (kf : ¬ x < 0 → W p l e R s m as below meth c H locs cells slots Q (F0 m (pc + 3) ls rest)) : W p l e R s m as below meth c H locs cells slots Q (F0 m pc ls (.int x :: rest)) := lv_if_lt hexec hb hdg ht (fun h => kt (h)) (fun h => kf (h))
theorem u_ge (hexec : p.tables.exec = Jvm.exec) (hb : c.code = cc) {x : Int32} {off : Int} {tgt : Nat} (hdg : decode cc pc = .ok (.ifCond .ge off, 3)) (ht : (pc : Int) + off = (tgt : Int)) (kt : ¬ x < 0 → W p l e R s m as below meth c H locs cells slots Q (F0 m tgt ls rest)) (kf : x < 0 → W p l e R s m as below meth c H locs cells slots Q (F0 m (pc + 3) ls rest)) : W p l e R s m as below meth c H locs cells slots Q (F0 m pc ls (.int x :: rest)) := lv_if_ge hexec hb hdg ht (fun h => kt (i_nlt.mpr h)) (fun h => kf (i_nle.mp h))
theorem u_gt (hexec : p.tables.exec = Jvm.exec) (hb : c.code = cc) {x : Int32} {off : Int} {tgt : Nat} (hdg : decode cc pc = .ok (.ifCond .gt off, 3)) (ht : (pc : Int) + off = (tgt : Int)) (kt : 0 < x → W p l e R s m as below meth c H locs cells slots Q (F0 m tgt ls rest)) (kf : ¬ 0 < x → W p l e R s m as below meth c H locs cells slots Q (F0 m (pc + 3) ls rest)) : W p l e R s m as below meth c H locs cells slots Q (F0 m pc ls (.int x :: rest)) := lv_if_gt hexec hb hdg ht (fun h => kt (h)) (fun h => kf (h))
theorem u_le (hexec : p.tables.exec = Jvm.exec) (hb : c.code = cc) {x : Int32} {off : Int} {tgt : Nat} (hdg : decode cc pc = .ok (.ifCond .le off, 3)) (ht : (pc : Int) + off = (tgt : Int)) (kt : ¬ 0 < x → W p l e R s m as below meth c H locs cells slots Q (F0 m tgt ls rest)) (kf : 0 < x → W p l e R s m as below meth c H locs cells slots Q (F0 m (pc + 3) ls rest)) : W p l e R s m as below meth c H locs cells slots Q (F0 m pc ls (.int x :: rest)) := lv_if_le hexec hb hdg ht (fun h => kt (i_nlt.mpr h)) (fun h => kf (i_nle.mp h))
theorem z_eq (hexec : p.tables.exec = Jvm.exec) (hb : c.code = cc) {x : Nat} (hx : x < 2 ^ 31) {off : Int} {tgt : Nat} (hdg : decode cc pc = .ok (.ifCond .eq off, 3)) (ht : (pc : Int) + off = (tgt : Int)) (kt : x = 0 → W p l e R s m as below meth c H locs cells slots Q (F0 m tgt ls rest)) (kf : x ≠ 0 → W p l e R s m as below meth c H locs cells slots Q (F0 m (pc + 3) ls rest)) : W p l e R s m as below meth c H locs cells slots Q (F0 m pc ls (.int (nI x) :: rest)) := lv_if_eq hexec hb hdg ht (fun h => kt ((nI_eq (b := 0) hx (by omega)).mp h)) (fun h => kf (fun e => h ((nI_eq (b := 0) hx (by omega)).mpr e)))
theorem z_ne (hexec : p.tables.exec = Jvm.exec) (hb : c.code = cc) {x : Nat} (hx : x < 2 ^ 31) {off : Int} {tgt : Nat} (hdg : decode cc pc = .ok (.ifCond .ne off, 3)) (ht : (pc : Int) + off = (tgt : Int)) (kt : x ≠ 0 → W p l e R s m as below meth c H locs cells slots Q (F0 m tgt ls rest)) (kf : x = 0 → W p l e R s m as below meth c H locs cells slots Q (F0 m (pc + 3) ls rest)) : W p l e R s m as below meth c H locs cells slots Q (F0 m pc ls (.int (nI x) :: rest)) := lv_if_ne hexec hb hdg ht (fun h => kt (fun e => h ((nI_eq (b := 0) hx (by omega)).mpr e))) (fun h => kf ((nI_eq (b := 0) hx (by omega)).mp h))
theorem z_lt (hexec : p.tables.exec = Jvm.exec) (hb : c.code = cc) {x : Nat} (hx : x < 2 ^ 31) {off : Int} {tgt : Nat} (hdg : decode cc pc = .ok (.ifCond .lt off, 3)) (ht : (pc : Int) + off = (tgt : Int)) (kt : x < 0 → W p l e R s m as below meth c H locs cells slots Q (F0 m tgt ls rest)) (kf : 0 ≤ x → W p l e R s m as below meth c H locs cells slots Q (F0 m (pc + 3) ls rest)) : W p l e R s m as below meth c H locs cells slots Q (F0 m pc ls (.int (nI x) :: rest)) := lv_if_lt hexec hb hdg ht (fun h => kt (absurd h (nI_pos hx))) (fun h => kf (Nat.zero_le _))
theorem z_ge (hexec : p.tables.exec = Jvm.exec) (hb : c.code = cc) {x : Nat} (hx : x < 2 ^ 31) {off : Int} {tgt : Nat} (hdg : decode cc pc = .ok (.ifCond .ge off, 3)) (ht : (pc : Int) + off = (tgt : Int)) (kt : 0 ≤ x → W p l e R s m as below meth c H locs cells slots Q (F0 m tgt ls rest)) (kf : x < 0 → W p l e R s m as below meth c H locs cells slots Q (F0 m (pc + 3) ls rest)) : W p l e R s m as below meth c H locs cells slots Q (F0 m pc ls (.int (nI x) :: rest)) := lv_if_ge hexec hb hdg ht (fun h => kt (Nat.zero_le _)) (fun h => kf (absurd (nI_pos' hx) h))
theorem z_gt (hexec : p.tables.exec = Jvm.exec) (hb : c.code = cc) {x : Nat} (hx : x < 2 ^ 31) {off : Int} {tgt : Nat} (hdg : decode cc pc = .ok (.ifCond .gt off, 3)) (ht : (pc : Int) + off = (tgt : Int)) (kt : 0 < x → W p l e R s m as below meth c H locs cells slots Q (F0 m tgt ls rest)) (kf : x ≤ 0 → W p l e R s m as below meth c H locs cells slots Q (F0 m (pc + 3) ls rest)) : W p l e R s m as below meth c H locs cells slots Q (F0 m pc ls (.int (nI x) :: rest)) := lv_if_gt hexec hb hdg ht (fun h => kt ((nI_ltI (a := 0) (by omega) hx).mp h)) (fun h => kf (Nat.not_lt.mp (fun e => h ((nI_ltI (a := 0) (by omega) hx).mpr e))))
theorem z_le (hexec : p.tables.exec = Jvm.exec) (hb : c.code = cc) {x : Nat} (hx : x < 2 ^ 31) {off : Int} {tgt : Nat} (hdg : decode cc pc = .ok (.ifCond .le off, 3)) (ht : (pc : Int) + off = (tgt : Int)) (kt : x ≤ 0 → W p l e R s m as below meth c H locs cells slots Q (F0 m tgt ls rest)) (kf : 0 < x → W p l e R s m as below meth c H locs cells slots Q (F0 m (pc + 3) ls rest)) : W p l e R s m as below meth c H locs cells slots Q (F0 m pc ls (.int (nI x) :: rest)) := lv_if_le hexec hb hdg ht (fun h => kt ((nI_leI (b := 0) hx (by omega)).mp h)) (fun h => kf (Nat.not_le.mp (fun e => h ((nI_leI (b := 0) hx (by omega)).mpr e))))
end JR
theorem sw_out2 {x : Int32} (h0 : ¬ x = nI 0) (h1 : ¬ x = nI 1) (h2 : ¬ x = nI 2) : x.toInt < 0 ∨ 2 < x.toInt := by
  by_cases h : x.toInt < 0 ∨ 2 < x.toInt
  · exact h
  · exfalso
    have key : ∀ k : Nat, k < 100 → x.toInt = (k : Int) → x = nI k := fun k hk e => Int32.toInt_inj.mp (e.trans (nI_toInt (by omega)).symm)
    have h9 : ∃ k : Nat, k ≤ 2 ∧ x.toInt = (k : Int) := ⟨x.toInt.toNat, by omega, by omega⟩
    obtain ⟨k, hk, e⟩ := h9
    have e2 := key k (by omega) e
    have hc : k = 0 ∨ k = 1 ∨ k = 2 := by omega
    rcases hc with rfl | rfl | rfl
    · exact h0 e2
    · exact h1 e2
    · exact h2 e2
theorem sw_out4 {x : Int32} (h0 : ¬ x = nI 0) (h1 : ¬ x = nI 1) (h2 : ¬ x = nI 2) (h3 : ¬ x = nI 3) (h4 : ¬ x = nI 4) : x.toInt < 0 ∨ 4 < x.toInt := by
  by_cases h : x.toInt < 0 ∨ 4 < x.toInt
  · exact h
  · exfalso
    have key : ∀ k : Nat, k < 100 → x.toInt = (k : Int) → x = nI k := fun k hk e => Int32.toInt_inj.mp (e.trans (nI_toInt (by omega)).symm)
    have h9 : ∃ k : Nat, k ≤ 4 ∧ x.toInt = (k : Int) := ⟨x.toInt.toNat, by omega, by omega⟩
    obtain ⟨k, hk, e⟩ := h9
    have e2 := key k (by omega) e
    have hc : k = 0 ∨ k = 1 ∨ k = 2 ∨ k = 3 ∨ k = 4 := by omega
    rcases hc with rfl | rfl | rfl | rfl | rfl
    · exact h0 e2
    · exact h1 e2
    · exact h2 e2
    · exact h3 e2
    · exact h4 e2
theorem sw_out9 {x : Int32} (h0 : ¬ x = nI 0) (h1 : ¬ x = nI 1) (h2 : ¬ x = nI 2) (h3 : ¬ x = nI 3) (h4 : ¬ x = nI 4) (h5 : ¬ x = nI 5) (h6 : ¬ x = nI 6) (h7 : ¬ x = nI 7) (h8 : ¬ x = nI 8) (h9 : ¬ x = nI 9) : x.toInt < 0 ∨ 9 < x.toInt := by
  by_cases h : x.toInt < 0 ∨ 9 < x.toInt
  · exact h
  · exfalso
    have key : ∀ k : Nat, k < 100 → x.toInt = (k : Int) → x = nI k := fun k hk e => Int32.toInt_inj.mp (e.trans (nI_toInt (by omega)).symm)
    have h9 : ∃ k : Nat, k ≤ 9 ∧ x.toInt = (k : Int) := ⟨x.toInt.toNat, by omega, by omega⟩
    obtain ⟨k, hk, e⟩ := h9
    have e2 := key k (by omega) e
    have hc : k = 0 ∨ k = 1 ∨ k = 2 ∨ k = 3 ∨ k = 4 ∨ k = 5 ∨ k = 6 ∨ k = 7 ∨ k = 8 ∨ k = 9 := by omega
    rcases hc with rfl | rfl | rfl | rfl | rfl | rfl | rfl | rfl | rfl | rfl
    · exact h0 e2
    · exact h1 e2
    · exact h2 e2
    · exact h3 e2
    · exact h4 e2
    · exact h5 e2
    · exact h6 e2
    · exact h7 e2
    · exact h8 e2
    · exact h9 e2
theorem sw_out25 {x : Int32} (h0 : ¬ x = nI 0) (h1 : ¬ x = nI 1) (h2 : ¬ x = nI 2) (h3 : ¬ x = nI 3) (h4 : ¬ x = nI 4) (h5 : ¬ x = nI 5) (h6 : ¬ x = nI 6) (h7 : ¬ x = nI 7) (h8 : ¬ x = nI 8) (h9 : ¬ x = nI 9) (h10 : ¬ x = nI 10) (h11 : ¬ x = nI 11) (h12 : ¬ x = nI 12) (h13 : ¬ x = nI 13) (h14 : ¬ x = nI 14) (h15 : ¬ x = nI 15) (h16 : ¬ x = nI 16) (h17 : ¬ x = nI 17) (h18 : ¬ x = nI 18) (h19 : ¬ x = nI 19) (h20 : ¬ x = nI 20) (h21 : ¬ x = nI 21) (h22 : ¬ x = nI 22) (h23 : ¬ x = nI 23) (h24 : ¬ x = nI 24) (h25 : ¬ x = nI 25) : x.toInt < 0 ∨ 25 < x.toInt := by
  by_cases h : x.toInt < 0 ∨ 25 < x.toInt
  · exact h
  · exfalso
    have key : ∀ k : Nat, k < 100 → x.toInt = (k : Int) → x = nI k := fun k hk e => Int32.toInt_inj.mp (e.trans (nI_toInt (by omega)).symm)
    have h9 : ∃ k : Nat, k ≤ 25 ∧ x.toInt = (k : Int) := ⟨x.toInt.toNat, by omega, by omega⟩
    obtain ⟨k, hk, e⟩ := h9
    have e2 := key k (by omega) e
    have hc : k = 0 ∨ k = 1 ∨ k = 2 ∨ k = 3 ∨ k = 4 ∨ k = 5 ∨ k = 6 ∨ k = 7 ∨ k = 8 ∨ k = 9 ∨ k = 10 ∨ k = 11 ∨ k = 12 ∨ k = 13 ∨ k = 14 ∨ k = 15 ∨ k = 16 ∨ k = 17 ∨ k = 18 ∨ k = 19 ∨ k = 20 ∨ k = 21 ∨ k = 22 ∨ k = 23 ∨ k = 24 ∨ k = 25 := by omega
    rcases hc with rfl | rfl | rfl | rfl | rfl | rfl | rfl | rfl | rfl | rfl | rfl | rfl | rfl | rfl | rfl | rfl | rfl | rfl | rfl | rfl | rfl | rfl | rfl | rfl | rfl | rfl
    · exact h0 e2
    · exact h1 e2
    · exact h2 e2
    · exact h3 e2
    · exact h4 e2
    · exact h5 e2
    · exact h6 e2
    · exact h7 e2
    · exact h8 e2
    · exact h9 e2
    · exact h10 e2
    · exact h11 e2
    · exact h12 e2
    · exact h13 e2
    · exact h14 e2
    · exact h15 e2
    · exact h16 e2
    · exact h17 e2
    · exact h18 e2
    · exact h19 e2
    · exact h20 e2
    · exact h21 e2
    · exact h22 e2
    · exact h23 e2
    · exact h24 e2
    · exact h25 e2
theorem b_f {q : Bool} (h : q = false) : nI 0 = b01 q := by rw [h]; rfl
theorem b_t {q : Bool} (h : q = true) : nI 1 = b01 q := by rw [h]; rfl
theorem b_e {q r : Bool} (h : q = r) : b01 r = b01 q := by rw [h]
end
section
/-! readers of Places, and the statics of the outer class -/
def rmX5_isIn : Room := { frames := 0, cells := 0, slots := 0, locals := 0 }
def f_X5_isIn (plan : Int32) (site : Int32) : Bool :=
  (if ((plan >>> (site &&& 31)) &&& (nI 1)) = 0 then false else true)
set_option maxHeartbeats 4000000 in
set_option maxRecDepth 100000 in
theorem c_X5_isIn {l : Launch} {dd : va_G} {t : CL4} {N : Nat} {ad : Nat → Nat} {V : Nat → va_E}     (plan : Int32) (site : Int32)  : RM l dd t N ad V yX5_isIn cX5_isIn 2 (some .boolean) rmX5_isIn [.int (plan), .int (site)] (b01 (f_X5_isIn plan site)) := by
  refine RM.of (by decide +kernel) ⟨rfl, rfl⟩ (Nat.le_of_ble_eq_true rfl) (narB _) ?_
  intro p e s m as below meth c Q X H hP ls hl kr
  have X : WX p s m as c cX5_isIn 2 RX5 dd t := X
  have hx := X.1.1
  have hb := X.1.2.1
  have hl : lv_has ls 2 [(0, .int (plan)), (1, .int (site))] := hl
  refine lv_iload_n hx hb dX5_isIn_0 rfl (lv_at hl 0 rfl) ?_
  refine lv_iload_n hx hb dX5_isIn_1 rfl (lv_at hl 1 rfl) ?_
  refine lv_ishr hx hb dX5_isIn_2 ?_
  refine lv_iconst (v := nI 1) hx hb dX5_isIn_3 (by decide) ?_
  refine lv_iand hx hb dX5_isIn_4 ?_
  refine lv_if_eq (tgt := 12) hx hb dX5_isIn_5 (by decide) (fun c1 => ?_) (fun c1 => ?_)
  · refine lv_iconst (v := nI 0) hx hb dX5_isIn_12 (by decide) ?_
    exact kr 13 ls _ (b_f (by rw [f_X5_isIn, if_pos c1] <;> rfl)) dX5_isIn_13
  · refine lv_iconst (v := nI 1) hx hb dX5_isIn_8 (by decide) ?_
    refine lv_goto (tgt := 13) hx hb dX5_isIn_9 (by decide) ?_
    exact kr 13 ls _ (b_t (by rw [f_X5_isIn, if_neg c1] <;> rfl)) dX5_isIn_13
theorem o_X5_isIn : okS yX5_isIn cX5_isIn 2 (some .boolean) 2 := ⟨m244, m2, m245, by decide +kernel, by decide +kernel, by decide +kernel⟩
def rmX5_isSitePrice : Room := { frames := 0, cells := 0, slots := 0, locals := 0 }
def f_X5_isSitePrice (price : Int32) : Bool :=
  (if price < 0 then false else (if (nI 999) < price then false else true))
set_option maxHeartbeats 4000000 in
set_option maxRecDepth 100000 in
theorem c_X5_isSitePrice {l : Launch} {dd : va_G} {t : CL4} {N : Nat} {ad : Nat → Nat} {V : Nat → va_E}     (price : Int32)  : RM l dd t N ad V yX5_isSitePrice cX5_isSitePrice 1 (some .boolean) rmX5_isSitePrice [.int (price)] (b01 (f_X5_isSitePrice price)) := by
  refine RM.of (by decide +kernel) ⟨rfl, rfl⟩ (Nat.le_of_ble_eq_true rfl) (narB _) ?_
  intro p e s m as below meth c Q X H hP ls hl kr
  have X : WX p s m as c cX5_isSitePrice 1 RX5 dd t := X
  have hx := X.1.1
  have hb := X.1.2.1
  have hl : lv_has ls 1 [(0, .int (price))] := hl
  refine lv_iload_n hx hb dX5_isSitePrice_0 rfl (lv_at hl 0 rfl) ?_
  refine u_lt (tgt := 15) hx hb dX5_isSitePrice_1 (by decide) (fun c1 => ?_) (fun c1 => ?_)
  · refine lv_iconst (v := nI 0) hx hb dX5_isSitePrice_15 (by decide) ?_
    exact kr 16 ls _ (b_f (by rw [f_X5_isSitePrice, if_pos c1] <;> rfl)) dX5_isSitePrice_16
  · refine lv_iload_n hx hb dX5_isSitePrice_4 rfl (lv_at hl 0 rfl) ?_
    refine lv_sipush (v := nI 999) hx hb dX5_isSitePrice_5 (by decide) ?_
    refine j_gt (tgt := 15) hx hb dX5_isSitePrice_8 (by decide) (fun c2 => ?_) (fun c2 => ?_)
    · refine lv_iconst (v := nI 0) hx hb dX5_isSitePrice_15 (by decide) ?_
      exact kr 16 ls _ (b_f (by rw [f_X5_isSitePrice, if_neg c1, if_pos c2] <;> rfl)) dX5_isSitePrice_16
    · refine lv_iconst (v := nI 1) hx hb dX5_isSitePrice_11 (by decide) ?_
      refine lv_goto (tgt := 16) hx hb dX5_isSitePrice_12 (by decide) ?_
      exact kr 16 ls _ (b_t (by rw [f_X5_isSitePrice, if_neg c1, if_neg c2] <;> rfl)) dX5_isSitePrice_16
theorem o_X5_isSitePrice : okS yX5_isSitePrice cX5_isSitePrice 1 (some .boolean) 1 := ⟨m96, m2, m97, by decide +kernel, by decide +kernel, by decide +kernel⟩
def rmX5_isDemand : Room := { frames := 0, cells := 0, slots := 0, locals := 0 }
def f_X5_isDemand (demand : Int32) : Bool :=
  (if demand < (nI 1) then false else (if (nI 20) < demand then false else true))
set_option maxHeartbeats 4000000 in
set_option maxRecDepth 100000 in
theorem c_X5_isDemand {l : Launch} {dd : va_G} {t : CL4} {N : Nat} {ad : Nat → Nat} {V : Nat → va_E}     (demand : Int32)  : RM l dd t N ad V yX5_isDemand cX5_isDemand 1 (some .boolean) rmX5_isDemand [.int (demand)] (b01 (f_X5_isDemand demand)) := by
  refine RM.of (by decide +kernel) ⟨rfl, rfl⟩ (Nat.le_of_ble_eq_true rfl) (narB _) ?_
  intro p e s m as below meth c Q X H hP ls hl kr
  have X : WX p s m as c cX5_isDemand 1 RX5 dd t := X
  have hx := X.1.1
  have hb := X.1.2.1
  have hl : lv_has ls 1 [(0, .int (demand))] := hl
  refine lv_iload_n hx hb dX5_isDemand_0 rfl (lv_at hl 0 rfl) ?_
  refine lv_iconst (v := nI 1) hx hb dX5_isDemand_1 (by decide) ?_
  refine j_lt (tgt := 15) hx hb dX5_isDemand_2 (by decide) (fun c1 => ?_) (fun c1 => ?_)
  · refine lv_iconst (v := nI 0) hx hb dX5_isDemand_15 (by decide) ?_
    exact kr 16 ls _ (b_f (by rw [f_X5_isDemand, if_pos c1] <;> rfl)) dX5_isDemand_16
  · refine lv_iload_n hx hb dX5_isDemand_5 rfl (lv_at hl 0 rfl) ?_
    refine lv_bipush (v := nI 20) hx hb dX5_isDemand_6 (by decide) ?_
    refine j_gt (tgt := 15) hx hb dX5_isDemand_8 (by decide) (fun c2 => ?_) (fun c2 => ?_)
    · refine lv_iconst (v := nI 0) hx hb dX5_isDemand_15 (by decide) ?_
      exact kr 16 ls _ (b_f (by rw [f_X5_isDemand, if_neg c1, if_pos c2] <;> rfl)) dX5_isDemand_16
    · refine lv_iconst (v := nI 1) hx hb dX5_isDemand_11 (by decide) ?_
      refine lv_goto (tgt := 16) hx hb dX5_isDemand_12 (by decide) ?_
      exact kr 16 ls _ (b_t (by rw [f_X5_isDemand, if_neg c1, if_neg c2] <;> rfl)) dX5_isDemand_16
theorem o_X5_isDemand : okS yX5_isDemand cX5_isDemand 1 (some .boolean) 1 := ⟨m165, m2, m166, by decide +kernel, by decide +kernel, by decide +kernel⟩
def rmX5_planOrNone : Room := { frames := 0, cells := 0, slots := 0, locals := 0 }
def f_X5_planOrNone (plan : Int32) : Int32 :=
  (if plan = (-1) then (-5) else plan)
set_option maxHeartbeats 4000000 in
set_option maxRecDepth 100000 in
theorem c_X5_planOrNone {l : Launch} {dd : va_G} {t : CL4} {N : Nat} {ad : Nat → Nat} {V : Nat → va_E}     (plan : Int32)  : RM l dd t N ad V yX5_planOrNone cX5_planOrNone 1 (some .int) rmX5_planOrNone [.int (plan)] (f_X5_planOrNone plan) := by
  refine RM.of (by decide +kernel) ⟨rfl, rfl⟩ (Nat.le_of_ble_eq_true rfl) (narI _) ?_
  intro p e s m as below meth c Q X H hP ls hl kr
  have X : WX p s m as c cX5_planOrNone 1 RX5 dd t := X
  have hx := X.1.1
  have hb := X.1.2.1
  have hl : lv_has ls 1 [(0, .int (plan))] := hl
  refine lv_iload_n hx hb dX5_planOrNone_0 rfl (lv_at hl 0 rfl) ?_
  refine lv_iconst (v := (-1)) hx hb dX5_planOrNone_1 (by decide) ?_
  refine lv_icmp_ne (tgt := 10) hx hb dX5_planOrNone_2 (by decide) (fun c1 => ?_) (fun c1 => ?_)
  · refine lv_iload_n hx hb dX5_planOrNone_10 rfl (lv_at hl 0 rfl) ?_
    exact kr 11 ls _ (Eq.symm (by rw [f_X5_planOrNone, if_neg c1] <;> rfl)) dX5_planOrNone_11
  · refine lv_bipush (v := (-5)) hx hb dX5_planOrNone_5 (by decide) ?_
    refine lv_goto (tgt := 11) hx hb dX5_planOrNone_7 (by decide) ?_
    exact kr 11 ls _ (Eq.symm (by rw [f_X5_planOrNone, if_pos c1] <;> rfl)) dX5_planOrNone_11
theorem o_X5_planOrNone : okS yX5_planOrNone cX5_planOrNone 1 (some .int) 1 := ⟨m724, m2, m725, by decide +kernel, by decide +kernel, by decide +kernel⟩
def rmX5_isCutAdded : Room := { frames := 0, cells := 0, slots := 0, locals := 0 }
def f_X5_isCutAdded (answer : Int32) : Bool :=
  (if answer = 0 then true else (if answer = (nI 1) then true else false))
set_option maxHeartbeats 4000000 in
set_option maxRecDepth 100000 in
theorem c_X5_isCutAdded {l : Launch} {dd : va_G} {t : CL4} {N : Nat} {ad : Nat → Nat} {V : Nat → va_E}     (answer : Int32)  : RM l dd t N ad V yX5_isCutAdded cX5_isCutAdded 1 (some .boolean) rmX5_isCutAdded [.int (answer)] (b01 (f_X5_isCutAdded answer)) := by
  refine RM.of (by decide +kernel) ⟨rfl, rfl⟩ (Nat.le_of_ble_eq_true rfl) (narB _) ?_
  intro p e s m as below meth c Q X H hP ls hl kr
  have X : WX p s m as c cX5_isCutAdded 1 RX5 dd t := X
  have hx := X.1.1
  have hb := X.1.2.1
  have hl : lv_has ls 1 [(0, .int (answer))] := hl
  refine lv_iload_n hx hb dX5_isCutAdded_0 rfl (lv_at hl 0 rfl) ?_
  refine lv_if_eq (tgt := 9) hx hb dX5_isCutAdded_1 (by decide) (fun c1 => ?_) (fun c1 => ?_)
  · refine lv_iconst (v := nI 1) hx hb dX5_isCutAdded_9 (by decide) ?_
    refine lv_goto (tgt := 14) hx hb dX5_isCutAdded_10 (by decide) ?_
    exact kr 14 ls _ (b_t (by rw [f_X5_isCutAdded, if_pos c1] <;> rfl)) dX5_isCutAdded_14
  · refine lv_iload_n hx hb dX5_isCutAdded_4 rfl (lv_at hl 0 rfl) ?_
    refine lv_iconst (v := nI 1) hx hb dX5_isCutAdded_5 (by decide) ?_
    refine lv_icmp_ne (tgt := 13) hx hb dX5_isCutAdded_6 (by decide) (fun c2 => ?_) (fun c2 => ?_)
    · refine lv_iconst (v := nI 0) hx hb dX5_isCutAdded_13 (by decide) ?_
      exact kr 14 ls _ (b_f (by rw [f_X5_isCutAdded, if_neg c1, if_neg c2] <;> rfl)) dX5_isCutAdded_14
    · refine lv_iconst (v := nI 1) hx hb dX5_isCutAdded_9 (by decide) ?_
      refine lv_goto (tgt := 14) hx hb dX5_isCutAdded_10 (by decide) ?_
      exact kr 14 ls _ (b_t (by rw [f_X5_isCutAdded, if_neg c1, if_pos c2] <;> rfl)) dX5_isCutAdded_14
theorem o_X5_isCutAdded : okS yX5_isCutAdded cX5_isCutAdded 1 (some .boolean) 1 := ⟨m449, m2, m450, by decide +kernel, by decide +kernel, by decide +kernel⟩
def rmX3_isSite : Room := { frames := 0, cells := 0, slots := 0, locals := 0 }
def f_X3_isSite (x : PlC) (site : Int32) : Bool :=
  (if site < 0 then false else (if site < (nI (pN x)) then true else false))
set_option maxHeartbeats 4000000 in
set_option maxRecDepth 100000 in
theorem c_X3_isSite {l : Launch} {dd : va_G} {t : CL4} {N : Nat} {ad : Nat → Nat} {V : Nat → va_E} {b : Nat} {x : PlC}  (hp0 : PlP N ad V t b x) (site : Int32)  : RM l dd t N ad V yX3_isSite cX3_isSite 2 (some .boolean) rmX3_isSite [.ref (ad b), .int (site)] (b01 (f_X3_isSite x site)) := by
  refine RM.of (by decide +kernel) ⟨rfl, rfl⟩ (Nat.le_of_ble_eq_true rfl) (narB _) ?_
  intro p e s m as below meth c Q X H hP ls hl kr
  have X : WX p s m as c cX3_isSite 2 RX3 dd t := X
  have hx := X.1.1
  have hb := X.1.2.1
  have hl : lv_has ls 2 [(0, .ref (ad b)), (1, .int (site))] := hl
  have hi0_0 := hp0.i0
  have hi0_1 := hp0.i1
  have hle0 := hp0.le
  refine lv_iload_n hx hb dX3_isSite_0 rfl (lv_at hl 1 rfl) ?_
  refine u_lt (tgt := 16) hx hb dX3_isSite_1 (by decide) (fun c1 => ?_) (fun c1 => ?_)
  · refine lv_iconst (v := nI 0) hx hb dX3_isSite_16 (by decide) ?_
    exact kr 17 ls _ (b_f (by rw [f_X3_isSite, if_pos c1] <;> rfl)) dX3_isSite_17
  · refine lv_iload_n hx hb dX3_isSite_4 rfl (lv_at hl 1 rfl) ?_
    refine lv_aload_n hx hb dX3_isSite_5 rfl (lv_at hl 0 rfl) ?_
    refine g_Pl_siteCount X hP hp0 m47 dX3_isSite_6 ?_
    refine j_ge (tgt := 16) hx hb dX3_isSite_9 (by decide) (fun c2 => ?_) (fun c2 => ?_)
    · refine lv_iconst (v := nI 0) hx hb dX3_isSite_16 (by decide) ?_
      exact kr 17 ls _ (b_f (by rw [f_X3_isSite, if_neg c1, if_neg c2] <;> rfl)) dX3_isSite_17
    · refine lv_iconst (v := nI 1) hx hb dX3_isSite_12 (by decide) ?_
      refine lv_goto (tgt := 17) hx hb dX3_isSite_13 (by decide) ?_
      exact kr 17 ls _ (b_t (by rw [f_X3_isSite, if_neg c1, if_pos c2] <;> rfl)) dX3_isSite_17
theorem o_X3_isSite : okV yX3_isSite cX3_isSite 2 (some .boolean) 1 := ⟨m181, m182, m35, m183, by decide +kernel, by decide +kernel, by decide +kernel⟩
def rmX3_isCustomer : Room := { frames := 0, cells := 0, slots := 0, locals := 0 }
def f_X3_isCustomer (x : PlC) (customer : Int32) : Bool :=
  (if customer < 0 then false else (if customer < (nI (pM x)) then true else false))
set_option maxHeartbeats 4000000 in
set_option maxRecDepth 100000 in
theorem c_X3_isCustomer {l : Launch} {dd : va_G} {t : CL4} {N : Nat} {ad : Nat → Nat} {V : Nat → va_E} {b : Nat} {x : PlC}  (hp0 : PlP N ad V t b x) (customer : Int32)  : RM l dd t N ad V yX3_isCustomer cX3_isCustomer 2 (some .boolean) rmX3_isCustomer [.ref (ad b), .int (customer)] (b01 (f_X3_isCustomer x customer)) := by
  refine RM.of (by decide +kernel) ⟨rfl, rfl⟩ (Nat.le_of_ble_eq_true rfl) (narB _) ?_
  intro p e s m as below meth c Q X H hP ls hl kr
  have X : WX p s m as c cX3_isCustomer 2 RX3 dd t := X
  have hx := X.1.1
  have hb := X.1.2.1
  have hl : lv_has ls 2 [(0, .ref (ad b)), (1, .int (customer))] := hl
  have hi0_0 := hp0.i0
  have hi0_1 := hp0.i1
  have hle0 := hp0.le
  refine lv_iload_n hx hb dX3_isCustomer_0 rfl (lv_at hl 1 rfl) ?_
  refine u_lt (tgt := 16) hx hb dX3_isCustomer_1 (by decide) (fun c1 => ?_) (fun c1 => ?_)
  · refine lv_iconst (v := nI 0) hx hb dX3_isCustomer_16 (by decide) ?_
    exact kr 17 ls _ (b_f (by rw [f_X3_isCustomer, if_pos c1] <;> rfl)) dX3_isCustomer_17
  · refine lv_iload_n hx hb dX3_isCustomer_4 rfl (lv_at hl 1 rfl) ?_
    refine lv_aload_n hx hb dX3_isCustomer_5 rfl (lv_at hl 0 rfl) ?_
    refine g_Pl_customerCount X hP hp0 m48 dX3_isCustomer_6 ?_
    refine j_ge (tgt := 16) hx hb dX3_isCustomer_9 (by decide) (fun c2 => ?_) (fun c2 => ?_)
    · refine lv_iconst (v := nI 0) hx hb dX3_isCustomer_16 (by decide) ?_
      exact kr 17 ls _ (b_f (by rw [f_X3_isCustomer, if_neg c1, if_neg c2] <;> rfl)) dX3_isCustomer_17
    · refine lv_iconst (v := nI 1) hx hb dX3_isCustomer_12 (by decide) ?_
      refine lv_goto (tgt := 17) hx hb dX3_isCustomer_13 (by decide) ?_
      exact kr 17 ls _ (b_t (by rw [f_X3_isCustomer, if_neg c1, if_pos c2] <;> rfl)) dX3_isCustomer_17
theorem o_X3_isCustomer : okV yX3_isCustomer cX3_isCustomer 2 (some .boolean) 1 := ⟨m202, m203, m35, m204, by decide +kernel, by decide +kernel, by decide +kernel⟩
def rmX3_planCount : Room := { frames := 0, cells := 0, slots := 0, locals := 0 }
def f_X3_planCount (x : PlC) : Nat :=
  2 ^ (pN x)
set_option maxHeartbeats 4000000 in
set_option maxRecDepth 100000 in
theorem c_X3_planCount {l : Launch} {dd : va_G} {t : CL4} {N : Nat} {ad : Nat → Nat} {V : Nat → va_E} {b : Nat} {x : PlC}  (hp0 : PlP N ad V t b x)   : RM l dd t N ad V yX3_planCount cX3_planCount 1 (some .int) rmX3_planCount [.ref (ad b)] (nI (f_X3_planCount x)) := by
  refine RM.of (by decide +kernel) ⟨rfl, rfl⟩ (Nat.le_of_ble_eq_true rfl) (narI _) ?_
  intro p e s m as below meth c Q X H hP ls hl kr
  have X : WX p s m as c cX3_planCount 1 RX3 dd t := X
  have hx := X.1.1
  have hb := X.1.2.1
  have hl : lv_has ls 1 [(0, .ref (ad b))] := hl
  have hi0_0 := hp0.i0
  have hi0_1 := hp0.i1
  have hle0 := hp0.le
  refine lv_iconst (v := nI 1) hx hb dX3_planCount_0 (by decide) ?_
  refine lv_aload_n hx hb dX3_planCount_1 rfl (lv_at hl 0 rfl) ?_
  refine g_Pl_siteCount X hP hp0 m47 dX3_planCount_2 ?_
  refine q_ishl hx hb (by omega) dX3_planCount_5 ?_
  exact kr 6 ls _ (congrArg nI (Eq.symm (by rw [f_X3_planCount] <;> rfl))) dX3_planCount_6
theorem o_X3_planCount : okV yX3_planCount cX3_planCount 1 (some .int) 0 := ⟨m282, m283, m35, m284, by decide +kernel, by decide +kernel, by decide +kernel⟩
def rmX3_isPlan : Room := { frames := 1, cells := 0, slots := 0, locals := 20 }
def f_X3_isPlan (x : PlC) (plan : Int32) : Bool :=
  (if plan < 0 then false else (if plan < (nI (2 ^ pN x)) then true else false))
set_option maxHeartbeats 4000000 in
set_option maxRecDepth 100000 in
theorem c_X3_isPlan {l : Launch} {dd : va_G} {t : CL4} {N : Nat} {ad : Nat → Nat} {V : Nat → va_E} {b : Nat} {x : PlC}  (hp0 : PlP N ad V t b x) (plan : Int32)  : RM l dd t N ad V yX3_isPlan cX3_isPlan 2 (some .boolean) rmX3_isPlan [.ref (ad b), .int (plan)] (b01 (f_X3_isPlan x plan)) := by
  refine RM.of (by decide +kernel) ⟨rfl, rfl⟩ (Nat.le_of_ble_eq_true rfl) (narB _) ?_
  intro p e s m as below meth c Q X H hP ls hl kr
  have X : WX p s m as c cX3_isPlan 2 RX3 dd t := X
  have hx := X.1.1
  have hb := X.1.2.1
  have hl : lv_has ls 2 [(0, .ref (ad b)), (1, .int (plan))] := hl
  have hi0_0 := hp0.i0
  have hi0_1 := hp0.i1
  have hle0 := hp0.le
  refine lv_iload_n hx hb dX3_isPlan_0 rfl (lv_at hl 1 rfl) ?_
  refine u_lt (tgt := 16) hx hb dX3_isPlan_1 (by decide) (fun c1 => ?_) (fun c1 => ?_)
  · refine lv_iconst (v := nI 0) hx hb dX3_isPlan_16 (by decide) ?_
    exact kr 17 ls _ (b_f (by rw [f_X3_isPlan, if_pos c1] <;> rfl)) dX3_isPlan_17
  · refine lv_iload_n hx hb dX3_isPlan_4 rfl (lv_at hl 1 rfl) ?_
    refine lv_aload_n hx hb dX3_isPlan_5 rfl (lv_at hl 0 rfl) ?_
    refine r_call (As := []) (rest := [.int (plan)]) (ci := 3) X hP (c_X3_planCount hp0) o_X3_planCount rfl hp0.lt hp0.ob m608 ⟨rfl, rfl⟩ ⟨Nat.le_of_ble_eq_true rfl, Nat.le_of_ble_eq_true rfl⟩ rfl hl.1 rfl (Nat.le_of_ble_eq_true rfl) ⟨Nat.zero_le _, Nat.zero_le _⟩ dX3_isPlan_6 ?_
    refine q_val (show nI (f_X3_planCount x) = nI (2 ^ pN x) from rfl) ?_
    refine j_ge (tgt := 16) hx hb dX3_isPlan_9 (by decide) (fun c2 => ?_) (fun c2 => ?_)
    · refine lv_iconst (v := nI 0) hx hb dX3_isPlan_16 (by decide) ?_
      exact kr 17 ls _ (b_f (by rw [f_X3_isPlan, if_neg c1, if_neg c2] <;> rfl)) dX3_isPlan_17
    · refine lv_iconst (v := nI 1) hx hb dX3_isPlan_12 (by decide) ?_
      refine lv_goto (tgt := 17) hx hb dX3_isPlan_13 (by decide) ?_
      exact kr 17 ls _ (b_t (by rw [f_X3_isPlan, if_neg c1, if_pos c2] <;> rfl)) dX3_isPlan_17
theorem o_X3_isPlan : okV yX3_isPlan cX3_isPlan 2 (some .boolean) 1 := ⟨m605, m606, m35, m607, by decide +kernel, by decide +kernel, by decide +kernel⟩
def rmX3_areExcluding : Room := { frames := 1, cells := 0, slots := 0, locals := 21 }
def f_X3_areExcluding (x : PlC) (site : Nat) (other : Nat) : Bool :=
  f_X5_isIn (pE x site) (nI other)
set_option maxHeartbeats 4000000 in
set_option maxRecDepth 100000 in
theorem c_X3_areExcluding {l : Launch} {dd : va_G} {t : CL4} {N : Nat} {ad : Nat → Nat} {V : Nat → va_E} {b : Nat} {x : PlC}  (hp0 : PlP N ad V t b x) (site : Nat) (other : Nat) (h_site : site < pN x) : RM l dd t N ad V yX3_areExcluding cX3_areExcluding 3 (some .boolean) rmX3_areExcluding [.ref (ad b), .int (nI site), .int (nI other)] (b01 (f_X3_areExcluding x site other)) := by
  refine RM.of (by decide +kernel) ⟨rfl, rfl⟩ (Nat.le_of_ble_eq_true rfl) (narB _) ?_
  intro p e s m as below meth c Q X H hP ls hl kr
  have X : WX p s m as c cX3_areExcluding 3 RX3 dd t := X
  have hx := X.1.1
  have hb := X.1.2.1
  have hl : lv_has ls 3 [(0, .ref (ad b)), (1, .int (nI site)), (2, .int (nI other))] := hl
  have hi0_0 := hp0.i0
  have hi0_1 := hp0.i1
  have hle0 := hp0.le
  refine lv_aload_n hx hb dX3_areExcluding_0 rfl (lv_at hl 0 rfl) ?_
  refine g_Pl_excluded X hP hp0 m54 dX3_areExcluding_1 ?_
  refine lv_iload_n hx hb dX3_areExcluding_4 rfl (lv_at hl 1 rfl) ?_
  refine l_Pl_excluded X hP hp0 (by omega) dX3_areExcluding_5 ?_
  refine lv_iload_n hx hb dX3_areExcluding_6 rfl (lv_at hl 2 rfl) ?_
  refine r_callN (As := [.int (pE x site), .int (nI other)]) (rest := []) X hP (c_X5_isIn (pE x site) (nI other)) o_X5_isIn X.2.2.1 ⟨rfl, rfl⟩ ⟨Nat.le_of_ble_eq_true rfl, Nat.le_of_ble_eq_true rfl⟩ rfl hl.1 rfl (Nat.le_of_ble_eq_true rfl) ⟨Nat.zero_le _, Nat.zero_le _⟩ dX3_areExcluding_7 ?_
  exact kr 10 ls _ (b_e (by rw [f_X3_areExcluding] <;> rfl)) dX3_areExcluding_10
theorem o_X3_areExcluding : okV yX3_areExcluding cX3_areExcluding 3 (some .boolean) 2 := ⟨m241, m242, m35, m243, by decide +kernel, by decide +kernel, by decide +kernel⟩
def rmX3_hasRoute : Room := { frames := 0, cells := 0, slots := 0, locals := 0 }
def f_X3_hasRoute (x : PlC) (site : Nat) (customer : Nat) : Bool :=
  (if (pR x site customer) = (nI 100) then false else true)
set_option maxHeartbeats 4000000 in
set_option maxRecDepth 100000 in
theorem c_X3_hasRoute {l : Launch} {dd : va_G} {t : CL4} {N : Nat} {ad : Nat → Nat} {V : Nat → va_E} {b : Nat} {x : PlC}  (hp0 : PlP N ad V t b x) (site : Nat) (customer : Nat) (h_site : site < pN x) (h_cust : customer < pM x) : RM l dd t N ad V yX3_hasRoute cX3_hasRoute 3 (some .boolean) rmX3_hasRoute [.ref (ad b), .int (nI site), .int (nI customer)] (b01 (f_X3_hasRoute x site customer)) := by
  refine RM.of (by decide +kernel) ⟨rfl, rfl⟩ (Nat.le_of_ble_eq_true rfl) (narB _) ?_
  intro p e s m as below meth c Q X H hP ls hl kr
  have X : WX p s m as c cX3_hasRoute 3 RX3 dd t := X
  have hx := X.1.1
  have hb := X.1.2.1
  have hl : lv_has ls 3 [(0, .ref (ad b)), (1, .int (nI site)), (2, .int (nI customer))] := hl
  have hi0_0 := hp0.i0
  have hi0_1 := hp0.i1
  have hle0 := hp0.le
  refine lv_aload_n hx hb dX3_hasRoute_0 rfl (lv_at hl 0 rfl) ?_
  refine g_Pl_routePrices X hP hp0 m53 dX3_hasRoute_1 ?_
  refine lv_iload_n hx hb dX3_hasRoute_4 rfl (lv_at hl 1 rfl) ?_
  refine l_Pl_routePrices X hP hp0 (by omega) dX3_hasRoute_5 ?_
  refine lv_iload_n hx hb dX3_hasRoute_6 rfl (lv_at hl 2 rfl) ?_
  refine l_Pl_routePrices_row X hP hp0 (by omega) (by omega) dX3_hasRoute_7 ?_
  refine lv_bipush (v := nI 100) hx hb dX3_hasRoute_8 (by decide) ?_
  refine lv_icmp_eq (tgt := 17) hx hb dX3_hasRoute_10 (by decide) (fun c1 => ?_) (fun c1 => ?_)
  · refine lv_iconst (v := nI 0) hx hb dX3_hasRoute_17 (by decide) ?_
    exact kr 18 ls _ (b_f (by rw [f_X3_hasRoute, if_pos c1] <;> rfl)) dX3_hasRoute_18
  · refine lv_iconst (v := nI 1) hx hb dX3_hasRoute_13 (by decide) ?_
    refine lv_goto (tgt := 18) hx hb dX3_hasRoute_14 (by decide) ?_
    exact kr 18 ls _ (b_t (by rw [f_X3_hasRoute, if_neg c1] <;> rfl)) dX3_hasRoute_18
theorem o_X3_hasRoute : okV yX3_hasRoute cX3_hasRoute 3 (some .boolean) 2 := ⟨m360, m361, m35, m362, by decide +kernel, by decide +kernel, by decide +kernel⟩
def rmX3_leastRoutePrice : Room := { frames := 1, cells := 0, slots := 0, locals := 21 }
def l_X3_leastRoutePrice_6 (x : PlC) (plan : Int32) (customer : Nat) : Nat → Nat → Int32 → Int32
  | 0, ix_1, a3_1 => a3_1
  | dx_1 + 1, ix_1, a3_1 => (if (f_X5_isIn plan (nI ix_1)) = true then l_X3_leastRoutePrice_6 x plan customer dx_1 (ix_1 + 1) (if (pR x ix_1 customer) < a3_1 then (pR x ix_1 customer) else a3_1) else l_X3_leastRoutePrice_6 x plan customer dx_1 (ix_1 + 1) a3_1)
def f_X3_leastRoutePrice (x : PlC) (plan : Int32) (customer : Nat) : Int32 :=
  (l_X3_leastRoutePrice_6 x plan customer (pN x) 0 (nI 100))
set_option maxHeartbeats 4000000 in
set_option maxRecDepth 100000 in
theorem c_X3_leastRoutePrice {l : Launch} {dd : va_G} {t : CL4} {N : Nat} {ad : Nat → Nat} {V : Nat → va_E} {b : Nat} {x : PlC}  (hp0 : PlP N ad V t b x) (plan : Int32) (customer : Nat) (h_cust : customer < pM x) : RM l dd t N ad V yX3_leastRoutePrice cX3_leastRoutePrice 5 (some .int) rmX3_leastRoutePrice [.ref (ad b), .int (plan), .int (nI customer)] (f_X3_leastRoutePrice x plan customer) := by
  refine RM.of (by decide +kernel) ⟨rfl, rfl⟩ (Nat.le_of_ble_eq_true rfl) (narI _) ?_
  intro p e s m as below meth c Q X H hP ls hl kr
  have X : WX p s m as c cX3_leastRoutePrice 5 RX3 dd t := X
  have hx := X.1.1
  have hb := X.1.2.1
  have hl : lv_has ls 5 [(0, .ref (ad b)), (1, .int (plan)), (2, .int (nI customer))] := hl
  have hi0_0 := hp0.i0
  have hi0_1 := hp0.i1
  have hle0 := hp0.le
  refine lv_bipush (v := nI 100) hx hb dX3_leastRoutePrice_0 (by decide) ?_
  refine lv_istore_n (lv' := [(3, .int (nI 100)), (0, .ref (ad b)), (1, .int (plan)), (2, .int (nI customer))]) hx hb dX3_leastRoutePrice_2 rfl hl (by decide) rfl (fun ls hl => ?_)
  refine lv_iconst (v := nI 0) hx hb dX3_leastRoutePrice_3 (by decide) ?_
  refine lv_istore (lv' := [(4, .int (nI 0)), (3, .int (nI 100)), (0, .ref (ad b)), (1, .int (plan)), (2, .int (nI customer))]) hx hb dX3_leastRoutePrice_4 hl (by decide) rfl (fun ls hl => ?_)
  have L1 : ∀ (dx_1 ix_1 : Nat) (a3_1 : Int32) (ls : Array Slot), (ix_1 + dx_1 = pN x) → (l_X3_leastRoutePrice_6 x plan customer dx_1 ix_1 a3_1 = l_X3_leastRoutePrice_6 x plan customer (pN x) 0 (nI 100)) → (lv_has ls 5 [(0, .ref (ad b)), (1, .int (plan)), (2, .int (nI customer)), (3, .int (a3_1)), (4, .int (nI ix_1))]) → W p l e rmX3_leastRoutePrice s m as below meth c H [] 0 0 Q (F0 m 6 ls []) := by
    intro dx_1
    induction dx_1 with
    | zero =>
      intro ix_1 a3_1 ls hid hvx_1 hl
      have hiN : pN x = ix_1 := by omega
      subst hiN
      have hvx_1 : a3_1 = l_X3_leastRoutePrice_6 x plan customer (pN x) 0 (nI 100) := hvx_1
      have hh0 : a3_1 = l_X3_leastRoutePrice_6 x plan customer (pN x) 0 (nI 100) := hvx_1
      subst hh0
      refine lv_iload hx hb dX3_leastRoutePrice_6 (lv_at hl 4 rfl) ?_
      refine lv_aload_n hx hb dX3_leastRoutePrice_8 rfl (lv_at hl 0 rfl) ?_
      refine g_Pl_siteCount X hP hp0 m47 dX3_leastRoutePrice_9 ?_
      refine q_ge (tgt := 44) hx hb (by omega) (by omega) dX3_leastRoutePrice_12 (by decide) (fun c2 => ?_) (fun h => absurd h (by omega))
      refine lv_iload_n hx hb dX3_leastRoutePrice_44 rfl (lv_at hl 3 rfl) ?_
      exact kr 45 ls _ (Eq.symm (by rw [f_X3_leastRoutePrice] <;> rfl)) dX3_leastRoutePrice_45
    | succ dx_1 ihx_1 =>
      intro ix_1 a3_1 ls hid hvx_1 hl
      refine lv_iload hx hb dX3_leastRoutePrice_6 (lv_at hl 4 rfl) ?_
      refine lv_aload_n hx hb dX3_leastRoutePrice_8 rfl (lv_at hl 0 rfl) ?_
      refine g_Pl_siteCount X hP hp0 m47 dX3_leastRoutePrice_9 ?_
      refine q_ge (tgt := 44) hx hb (by omega) (by omega) dX3_leastRoutePrice_12 (by decide) (fun h => absurd h (by omega)) (fun c3 => ?_)
      refine lv_iload_n hx hb dX3_leastRoutePrice_15 rfl (lv_at hl 1 rfl) ?_
      refine lv_iload hx hb dX3_leastRoutePrice_16 (lv_at hl 4 rfl) ?_
      refine r_callN (As := [.int (plan), .int (nI ix_1)]) (rest := []) X hP (c_X5_isIn plan (nI ix_1)) o_X5_isIn X.2.2.1 ⟨rfl, rfl⟩ ⟨Nat.le_of_ble_eq_true rfl, Nat.le_of_ble_eq_true rfl⟩ rfl hl.1 rfl (Nat.le_of_ble_eq_true rfl) ⟨Nat.zero_le _, Nat.zero_le _⟩ dX3_leastRoutePrice_18 ?_
      refine q_eqB (tgt := 38) hx hb dX3_leastRoutePrice_21 (by decide) (fun c4 => ?_) (fun c4 => ?_)
      · refine lv_iinc (v := nI (ix_1 + 1)) (lv' := [(4, .int (nI (ix_1 + 1))), (0, .ref (ad b)), (1, .int (plan)), (2, .int (nI customer)), (3, .int (a3_1))]) hx hb dX3_leastRoutePrice_38 hl (k := 4) rfl (nI_inc _) (by decide) rfl (fun ls hl => ?_)
        refine lv_goto (tgt := 6) hx hb dX3_leastRoutePrice_41 (by decide) ?_
        exact ihx_1 (ix_1 + 1) a3_1 ls (by omega) (Eq.trans (Eq.symm (by rw [l_X3_leastRoutePrice_6, if_neg (nt c4)] <;> rfl)) hvx_1) (lv_sub hl [1, 2, 3, 4, 0] rfl)
      · refine lv_iload_n hx hb dX3_leastRoutePrice_24 rfl (lv_at hl 3 rfl) ?_
        refine lv_aload_n hx hb dX3_leastRoutePrice_25 rfl (lv_at hl 0 rfl) ?_
        refine g_Pl_routePrices X hP hp0 m53 dX3_leastRoutePrice_26 ?_
        refine lv_iload hx hb dX3_leastRoutePrice_29 (lv_at hl 4 rfl) ?_
        refine l_Pl_routePrices X hP hp0 (by omega) dX3_leastRoutePrice_31 ?_
        refine lv_iload_n hx hb dX3_leastRoutePrice_32 rfl (lv_at hl 2 rfl) ?_
        refine l_Pl_routePrices_row X hP hp0 (by omega) (by omega) dX3_leastRoutePrice_33 ?_
        refine va_mmin hx hb (X.1.2.2.1.trans hl.1.symm) X.1.2.2.2.1 (X.1.2.2.2.2 _ m338) (X.1.2.2.2.2 _ m339) (X.1.2.2.2.2 _ m324) (X.1.2.2.2.2 _ m340) (Nat.le_of_ble_eq_true rfl) (Nat.le_of_ble_eq_true rfl) (Nat.le_of_ble_eq_true rfl) (Nat.le_of_ble_eq_true rfl) dX3_leastRoutePrice_34 ?_
        refine lv_istore_n (lv' := [(3, .int ((if (pR x ix_1 customer) < a3_1 then (pR x ix_1 customer) else a3_1))), (0, .ref (ad b)), (1, .int (plan)), (2, .int (nI customer)), (4, .int (nI ix_1))]) hx hb dX3_leastRoutePrice_37 rfl hl (by decide) rfl (fun ls hl => ?_)
        refine lv_iinc (v := nI (ix_1 + 1)) (lv' := [(4, .int (nI (ix_1 + 1))), (3, .int ((if (pR x ix_1 customer) < a3_1 then (pR x ix_1 customer) else a3_1))), (0, .ref (ad b)), (1, .int (plan)), (2, .int (nI customer))]) hx hb dX3_leastRoutePrice_38 hl (k := 4) rfl (nI_inc _) (by decide) rfl (fun ls hl => ?_)
        refine lv_goto (tgt := 6) hx hb dX3_leastRoutePrice_41 (by decide) ?_
        exact ihx_1 (ix_1 + 1) (if (pR x ix_1 customer) < a3_1 then (pR x ix_1 customer) else a3_1) ls (by omega) (Eq.trans (Eq.symm (by rw [l_X3_leastRoutePrice_6, if_pos c4] <;> rfl)) hvx_1) (lv_sub hl [2, 3, 4, 1, 0] rfl)
  exact L1 (pN x) 0 (nI 100) ls (by omega) rfl (lv_sub hl [2, 3, 4, 1, 0] rfl)
theorem o_X3_leastRoutePrice : okV yX3_leastRoutePrice cX3_leastRoutePrice 5 (some .int) 2 := ⟨m335, m336, m35, m337, by decide +kernel, by decide +kernel, by decide +kernel⟩
def rmX3_hasExcludingSites : Room := { frames := 1, cells := 0, slots := 0, locals := 21 }
def l_X3_hasExcludingSites_2 (x : PlC) (plan : Int32) : Nat → Nat → Bool
  | 0, ix_1 => false
  | dx_1 + 1, ix_1 => (if (f_X5_isIn plan (nI ix_1)) = true then (if (plan &&& (pE x ix_1)) = 0 then l_X3_hasExcludingSites_2 x plan dx_1 (ix_1 + 1) else true) else l_X3_hasExcludingSites_2 x plan dx_1 (ix_1 + 1))
def f_X3_hasExcludingSites (x : PlC) (plan : Int32) : Bool :=
  l_X3_hasExcludingSites_2 x plan (pN x) 0
set_option maxHeartbeats 4000000 in
set_option maxRecDepth 100000 in
theorem c_X3_hasExcludingSites {l : Launch} {dd : va_G} {t : CL4} {N : Nat} {ad : Nat → Nat} {V : Nat → va_E} {b : Nat} {x : PlC}  (hp0 : PlP N ad V t b x) (plan : Int32)  : RM l dd t N ad V yX3_hasExcludingSites cX3_hasExcludingSites 3 (some .boolean) rmX3_hasExcludingSites [.ref (ad b), .int (plan)] (b01 (f_X3_hasExcludingSites x plan)) := by
  refine RM.of (by decide +kernel) ⟨rfl, rfl⟩ (Nat.le_of_ble_eq_true rfl) (narB _) ?_
  intro p e s m as below meth c Q X H hP ls hl kr
  have X : WX p s m as c cX3_hasExcludingSites 3 RX3 dd t := X
  have hx := X.1.1
  have hb := X.1.2.1
  have hl : lv_has ls 3 [(0, .ref (ad b)), (1, .int (plan))] := hl
  have hi0_0 := hp0.i0
  have hi0_1 := hp0.i1
  have hle0 := hp0.le
  refine lv_iconst (v := nI 0) hx hb dX3_hasExcludingSites_0 (by decide) ?_
  refine lv_istore_n (lv' := [(2, .int (nI 0)), (0, .ref (ad b)), (1, .int (plan))]) hx hb dX3_hasExcludingSites_1 rfl hl (by decide) rfl (fun ls hl => ?_)
  have hF1 : f_X3_hasExcludingSites x plan = l_X3_hasExcludingSites_2 x plan (pN x) 0 := (by rw [f_X3_hasExcludingSites] <;> rfl)
  have L1 : ∀ (dx_1 ix_1 : Nat) (ls : Array Slot), (ix_1 + dx_1 = pN x) → (l_X3_hasExcludingSites_2 x plan dx_1 ix_1 = l_X3_hasExcludingSites_2 x plan (pN x) 0) → (lv_has ls 3 [(0, .ref (ad b)), (1, .int (plan)), (2, .int (nI ix_1))]) → W p l e rmX3_hasExcludingSites s m as below meth c H [] 0 0 Q (F0 m 2 ls []) := by
    intro dx_1
    induction dx_1 with
    | zero =>
      intro ix_1  ls hid hvx_1 hl
      have hiN : pN x = ix_1 := by omega
      subst hiN
      refine lv_iload_n hx hb dX3_hasExcludingSites_2 rfl (lv_at hl 2 rfl) ?_
      refine lv_aload_n hx hb dX3_hasExcludingSites_3 rfl (lv_at hl 0 rfl) ?_
      refine g_Pl_siteCount X hP hp0 m47 dX3_hasExcludingSites_4 ?_
      refine q_ge (tgt := 37) hx hb (by omega) (by omega) dX3_hasExcludingSites_7 (by decide) (fun c2 => ?_) (fun h => absurd h (by omega))
      refine lv_iconst (v := nI 0) hx hb dX3_hasExcludingSites_37 (by decide) ?_
      exact kr 38 ls _ (b_f ((hF1.trans hvx_1.symm).trans (by rw [l_X3_hasExcludingSites_2] <;> rfl))) dX3_hasExcludingSites_38
    | succ dx_1 ihx_1 =>
      intro ix_1  ls hid hvx_1 hl
      refine lv_iload_n hx hb dX3_hasExcludingSites_2 rfl (lv_at hl 2 rfl) ?_
      refine lv_aload_n hx hb dX3_hasExcludingSites_3 rfl (lv_at hl 0 rfl) ?_
      refine g_Pl_siteCount X hP hp0 m47 dX3_hasExcludingSites_4 ?_
      refine q_ge (tgt := 37) hx hb (by omega) (by omega) dX3_hasExcludingSites_7 (by decide) (fun h => absurd h (by omega)) (fun c3 => ?_)
      refine lv_iload_n hx hb dX3_hasExcludingSites_10 rfl (lv_at hl 1 rfl) ?_
      refine lv_iload_n hx hb dX3_hasExcludingSites_11 rfl (lv_at hl 2 rfl) ?_
      refine r_callN (As := [.int (plan), .int (nI ix_1)]) (rest := []) X hP (c_X5_isIn plan (nI ix_1)) o_X5_isIn X.2.2.1 ⟨rfl, rfl⟩ ⟨Nat.le_of_ble_eq_true rfl, Nat.le_of_ble_eq_true rfl⟩ rfl hl.1 rfl (Nat.le_of_ble_eq_true rfl) ⟨Nat.zero_le _, Nat.zero_le _⟩ dX3_hasExcludingSites_12 ?_
      refine q_eqB (tgt := 31) hx hb dX3_hasExcludingSites_15 (by decide) (fun c4 => ?_) (fun c4 => ?_)
      · refine lv_iinc (v := nI (ix_1 + 1)) (lv' := [(2, .int (nI (ix_1 + 1))), (0, .ref (ad b)), (1, .int (plan))]) hx hb dX3_hasExcludingSites_31 hl (k := 2) rfl (nI_inc _) (by decide) rfl (fun ls hl => ?_)
        refine lv_goto (tgt := 2) hx hb dX3_hasExcludingSites_34 (by decide) ?_
        exact ihx_1 (ix_1 + 1) ls (by omega) (Eq.trans (Eq.symm (by rw [l_X3_hasExcludingSites_2, if_neg (nt c4)] <;> rfl)) hvx_1) (lv_sub hl [1, 2, 0] rfl)
      · refine lv_iload_n hx hb dX3_hasExcludingSites_18 rfl (lv_at hl 1 rfl) ?_
        refine lv_aload_n hx hb dX3_hasExcludingSites_19 rfl (lv_at hl 0 rfl) ?_
        refine g_Pl_excluded X hP hp0 m54 dX3_hasExcludingSites_20 ?_
        refine lv_iload_n hx hb dX3_hasExcludingSites_23 rfl (lv_at hl 2 rfl) ?_
        refine l_Pl_excluded X hP hp0 (by omega) dX3_hasExcludingSites_24 ?_
        refine lv_iand hx hb dX3_hasExcludingSites_25 ?_
        refine lv_if_eq (tgt := 31) hx hb dX3_hasExcludingSites_26 (by decide) (fun c5 => ?_) (fun c5 => ?_)
        · refine lv_iinc (v := nI (ix_1 + 1)) (lv' := [(2, .int (nI (ix_1 + 1))), (0, .ref (ad b)), (1, .int (plan))]) hx hb dX3_hasExcludingSites_31 hl (k := 2) rfl (nI_inc _) (by decide) rfl (fun ls hl => ?_)
          refine lv_goto (tgt := 2) hx hb dX3_hasExcludingSites_34 (by decide) ?_
          exact ihx_1 (ix_1 + 1) ls (by omega) (Eq.trans (Eq.symm (by rw [l_X3_hasExcludingSites_2, if_pos c4, if_pos c5] <;> rfl)) hvx_1) (lv_sub hl [1, 2, 0] rfl)
        · refine lv_iconst (v := nI 1) hx hb dX3_hasExcludingSites_29 (by decide) ?_
          exact kr 30 ls _ (b_t ((hF1.trans hvx_1.symm).trans (by rw [l_X3_hasExcludingSites_2, if_pos c4, if_neg c5] <;> rfl))) dX3_hasExcludingSites_30
  exact L1 (pN x) 0 ls (by omega) rfl (lv_sub hl [1, 2, 0] rfl)
theorem o_X3_hasExcludingSites : okV yX3_hasExcludingSites cX3_hasExcludingSites 3 (some .boolean) 1 := ⟨m295, m296, m35, m297, by decide +kernel, by decide +kernel, by decide +kernel⟩
def rmX3_cheapestSite : Room := { frames := 2, cells := 0, slots := 0, locals := 45 }
def l_X3_cheapestSite_10 (x : PlC) (plan : Int32) (customer : Nat) : Nat → Nat → Int32
  | 0, ix_1 => (-1)
  | dx_1 + 1, ix_1 => (if (f_X5_isIn plan (nI ix_1)) = true then (if (f_X3_hasRoute x ix_1 customer) = true then (if (pR x ix_1 customer) = (f_X3_leastRoutePrice x plan customer) then nI ix_1 else l_X3_cheapestSite_10 x plan customer dx_1 (ix_1 + 1)) else l_X3_cheapestSite_10 x plan customer dx_1 (ix_1 + 1)) else l_X3_cheapestSite_10 x plan customer dx_1 (ix_1 + 1))
def f_X3_cheapestSite (x : PlC) (plan : Int32) (customer : Nat) : Int32 :=
  l_X3_cheapestSite_10 x plan customer (pN x) 0
set_option maxHeartbeats 4000000 in
set_option maxRecDepth 100000 in
theorem c_X3_cheapestSite {l : Launch} {dd : va_G} {t : CL4} {N : Nat} {ad : Nat → Nat} {V : Nat → va_E} {b : Nat} {x : PlC}  (hp0 : PlP N ad V t b x) (plan : Int32) (customer : Nat) (h_cust : customer < pM x) : RM l dd t N ad V yX3_cheapestSite cX3_cheapestSite 5 (some .int) rmX3_cheapestSite [.ref (ad b), .int (plan), .int (nI customer)] (f_X3_cheapestSite x plan customer) := by
  refine RM.of (by decide +kernel) ⟨rfl, rfl⟩ (Nat.le_of_ble_eq_true rfl) (narI _) ?_
  intro p e s m as below meth c Q X H hP ls hl kr
  have X : WX p s m as c cX3_cheapestSite 5 RX3 dd t := X
  have hx := X.1.1
  have hb := X.1.2.1
  have hl : lv_has ls 5 [(0, .ref (ad b)), (1, .int (plan)), (2, .int (nI customer))] := hl
  have hi0_0 := hp0.i0
  have hi0_1 := hp0.i1
  have hle0 := hp0.le
  refine lv_aload_n hx hb dX3_cheapestSite_0 rfl (lv_at hl 0 rfl) ?_
  refine lv_iload_n hx hb dX3_cheapestSite_1 rfl (lv_at hl 1 rfl) ?_
  refine lv_iload_n hx hb dX3_cheapestSite_2 rfl (lv_at hl 2 rfl) ?_
  refine r_call (As := [.int (plan), .int (nI customer)]) (rest := []) (ci := 3) X hP (c_X3_leastRoutePrice hp0 plan customer (by omega)) o_X3_leastRoutePrice rfl hp0.lt hp0.ob m334 ⟨rfl, rfl⟩ ⟨Nat.le_of_ble_eq_true rfl, Nat.le_of_ble_eq_true rfl⟩ rfl hl.1 rfl (Nat.le_of_ble_eq_true rfl) ⟨Nat.zero_le _, Nat.zero_le _⟩ dX3_cheapestSite_3 ?_
  refine lv_istore_n (lv' := [(3, .int (f_X3_leastRoutePrice x plan customer)), (0, .ref (ad b)), (1, .int (plan)), (2, .int (nI customer))]) hx hb dX3_cheapestSite_6 rfl hl (by decide) rfl (fun ls hl => ?_)
  refine lv_iconst (v := nI 0) hx hb dX3_cheapestSite_7 (by decide) ?_
  refine lv_istore (lv' := [(4, .int (nI 0)), (3, .int (f_X3_leastRoutePrice x plan customer)), (0, .ref (ad b)), (1, .int (plan)), (2, .int (nI customer))]) hx hb dX3_cheapestSite_8 hl (by decide) rfl (fun ls hl => ?_)
  have hF1 : f_X3_cheapestSite x plan customer = l_X3_cheapestSite_10 x plan customer (pN x) 0 := (by rw [f_X3_cheapestSite] <;> rfl)
  have L1 : ∀ (dx_1 ix_1 : Nat) (ls : Array Slot), (ix_1 + dx_1 = pN x) → (l_X3_cheapestSite_10 x plan customer dx_1 ix_1 = l_X3_cheapestSite_10 x plan customer (pN x) 0) → (lv_has ls 5 [(0, .ref (ad b)), (1, .int (plan)), (2, .int (nI customer)), (3, .int (f_X3_leastRoutePrice x plan customer)), (4, .int (nI ix_1))]) → W p l e rmX3_cheapestSite s m as below meth c H [] 0 0 Q (F0 m 10 ls []) := by
    intro dx_1
    induction dx_1 with
    | zero =>
      intro ix_1  ls hid hvx_1 hl
      have hiN : pN x = ix_1 := by omega
      subst hiN
      refine lv_iload hx hb dX3_cheapestSite_10 (lv_at hl 4 rfl) ?_
      refine lv_aload_n hx hb dX3_cheapestSite_12 rfl (lv_at hl 0 rfl) ?_
      refine g_Pl_siteCount X hP hp0 m47 dX3_cheapestSite_13 ?_
      refine q_ge (tgt := 60) hx hb (by omega) (by omega) dX3_cheapestSite_16 (by decide) (fun c2 => ?_) (fun h => absurd h (by omega))
      refine lv_iconst (v := (-1)) hx hb dX3_cheapestSite_60 (by decide) ?_
      exact kr 61 ls _ (Eq.symm ((hF1.trans hvx_1.symm).trans (by rw [l_X3_cheapestSite_10] <;> rfl))) dX3_cheapestSite_61
    | succ dx_1 ihx_1 =>
      intro ix_1  ls hid hvx_1 hl
      refine lv_iload hx hb dX3_cheapestSite_10 (lv_at hl 4 rfl) ?_
      refine lv_aload_n hx hb dX3_cheapestSite_12 rfl (lv_at hl 0 rfl) ?_
      refine g_Pl_siteCount X hP hp0 m47 dX3_cheapestSite_13 ?_
      refine q_ge (tgt := 60) hx hb (by omega) (by omega) dX3_cheapestSite_16 (by decide) (fun h => absurd h (by omega)) (fun c3 => ?_)
      refine lv_iload_n hx hb dX3_cheapestSite_19 rfl (lv_at hl 1 rfl) ?_
      refine lv_iload hx hb dX3_cheapestSite_20 (lv_at hl 4 rfl) ?_
      refine r_callN (As := [.int (plan), .int (nI ix_1)]) (rest := []) X hP (c_X5_isIn plan (nI ix_1)) o_X5_isIn X.2.2.1 ⟨rfl, rfl⟩ ⟨Nat.le_of_ble_eq_true rfl, Nat.le_of_ble_eq_true rfl⟩ rfl hl.1 rfl (Nat.le_of_ble_eq_true rfl) ⟨Nat.zero_le _, Nat.zero_le _⟩ dX3_cheapestSite_22 ?_
      refine q_eqB (tgt := 54) hx hb dX3_cheapestSite_25 (by decide) (fun c4 => ?_) (fun c4 => ?_)
      · refine lv_iinc (v := nI (ix_1 + 1)) (lv' := [(4, .int (nI (ix_1 + 1))), (0, .ref (ad b)), (1, .int (plan)), (2, .int (nI customer)), (3, .int (f_X3_leastRoutePrice x plan customer))]) hx hb dX3_cheapestSite_54 hl (k := 4) rfl (nI_inc _) (by decide) rfl (fun ls hl => ?_)
        refine lv_goto (tgt := 10) hx hb dX3_cheapestSite_57 (by decide) ?_
        exact ihx_1 (ix_1 + 1) ls (by omega) (Eq.trans (Eq.symm (by rw [l_X3_cheapestSite_10, if_neg (nt c4)] <;> rfl)) hvx_1) (lv_sub hl [1, 2, 3, 4, 0] rfl)
      · refine lv_aload_n hx hb dX3_cheapestSite_28 rfl (lv_at hl 0 rfl) ?_
        refine lv_iload hx hb dX3_cheapestSite_29 (lv_at hl 4 rfl) ?_
        refine lv_iload_n hx hb dX3_cheapestSite_31 rfl (lv_at hl 2 rfl) ?_
        refine r_call (As := [.int (nI ix_1), .int (nI customer)]) (rest := []) (ci := 3) X hP (c_X3_hasRoute hp0 ix_1 customer (by omega) (by omega)) o_X3_hasRoute rfl hp0.lt hp0.ob m648 ⟨rfl, rfl⟩ ⟨Nat.le_of_ble_eq_true rfl, Nat.le_of_ble_eq_true rfl⟩ rfl hl.1 rfl (Nat.le_of_ble_eq_true rfl) ⟨Nat.zero_le _, Nat.zero_le _⟩ dX3_cheapestSite_32 ?_
        refine q_eqB (tgt := 54) hx hb dX3_cheapestSite_35 (by decide) (fun c5 => ?_) (fun c5 => ?_)
        · refine lv_iinc (v := nI (ix_1 + 1)) (lv' := [(4, .int (nI (ix_1 + 1))), (0, .ref (ad b)), (1, .int (plan)), (2, .int (nI customer)), (3, .int (f_X3_leastRoutePrice x plan customer))]) hx hb dX3_cheapestSite_54 hl (k := 4) rfl (nI_inc _) (by decide) rfl (fun ls hl => ?_)
          refine lv_goto (tgt := 10) hx hb dX3_cheapestSite_57 (by decide) ?_
          exact ihx_1 (ix_1 + 1) ls (by omega) (Eq.trans (Eq.symm (by rw [l_X3_cheapestSite_10, if_pos c4, if_neg (nt c5)] <;> rfl)) hvx_1) (lv_sub hl [1, 2, 3, 4, 0] rfl)
        · refine lv_aload_n hx hb dX3_cheapestSite_38 rfl (lv_at hl 0 rfl) ?_
          refine g_Pl_routePrices X hP hp0 m53 dX3_cheapestSite_39 ?_
          refine lv_iload hx hb dX3_cheapestSite_42 (lv_at hl 4 rfl) ?_
          refine l_Pl_routePrices X hP hp0 (by omega) dX3_cheapestSite_44 ?_
          refine lv_iload_n hx hb dX3_cheapestSite_45 rfl (lv_at hl 2 rfl) ?_
          refine l_Pl_routePrices_row X hP hp0 (by omega) (by omega) dX3_cheapestSite_46 ?_
          refine lv_iload_n hx hb dX3_cheapestSite_47 rfl (lv_at hl 3 rfl) ?_
          refine lv_icmp_ne (tgt := 54) hx hb dX3_cheapestSite_48 (by decide) (fun c6 => ?_) (fun c6 => ?_)
          · refine lv_iinc (v := nI (ix_1 + 1)) (lv' := [(4, .int (nI (ix_1 + 1))), (0, .ref (ad b)), (1, .int (plan)), (2, .int (nI customer)), (3, .int (f_X3_leastRoutePrice x plan customer))]) hx hb dX3_cheapestSite_54 hl (k := 4) rfl (nI_inc _) (by decide) rfl (fun ls hl => ?_)
            refine lv_goto (tgt := 10) hx hb dX3_cheapestSite_57 (by decide) ?_
            exact ihx_1 (ix_1 + 1) ls (by omega) (Eq.trans (Eq.symm (by rw [l_X3_cheapestSite_10, if_pos c4, if_pos c5, if_neg c6] <;> rfl)) hvx_1) (lv_sub hl [1, 2, 3, 4, 0] rfl)
          · refine lv_iload hx hb dX3_cheapestSite_51 (lv_at hl 4 rfl) ?_
            exact kr 53 ls _ (Eq.symm ((hF1.trans hvx_1.symm).trans (by rw [l_X3_cheapestSite_10, if_pos c4, if_pos c5, if_pos c6] <;> rfl))) dX3_cheapestSite_53
  exact L1 (pN x) 0 ls (by omega) rfl (lv_sub hl [2, 3, 4, 1, 0] rfl)
theorem o_X3_cheapestSite : okV yX3_cheapestSite cX3_cheapestSite 5 (some .int) 2 := ⟨m645, m646, m35, m647, by decide +kernel, by decide +kernel, by decide +kernel⟩
def rmX3_lowestMissedCustomer : Room := { frames := 2, cells := 0, slots := 0, locals := 45 }
def l_X3_lowestMissedCustomer_2 (x : PlC) (plan : Int32) : Nat → Nat → Int32
  | 0, ix_1 => (-1)
  | dx_1 + 1, ix_1 => (if (f_X3_leastRoutePrice x plan ix_1) = (nI 100) then nI ix_1 else l_X3_lowestMissedCustomer_2 x plan dx_1 (ix_1 + 1))
def f_X3_lowestMissedCustomer (x : PlC) (plan : Int32) : Int32 :=
  l_X3_lowestMissedCustomer_2 x plan (pM x) 0
set_option maxHeartbeats 4000000 in
set_option maxRecDepth 100000 in
theorem c_X3_lowestMissedCustomer {l : Launch} {dd : va_G} {t : CL4} {N : Nat} {ad : Nat → Nat} {V : Nat → va_E} {b : Nat} {x : PlC}  (hp0 : PlP N ad V t b x) (plan : Int32)  : RM l dd t N ad V yX3_lowestMissedCustomer cX3_lowestMissedCustomer 3 (some .int) rmX3_lowestMissedCustomer [.ref (ad b), .int (plan)] (f_X3_lowestMissedCustomer x plan) := by
  refine RM.of (by decide +kernel) ⟨rfl, rfl⟩ (Nat.le_of_ble_eq_true rfl) (narI _) ?_
  intro p e s m as below meth c Q X H hP ls hl kr
  have X : WX p s m as c cX3_lowestMissedCustomer 3 RX3 dd t := X
  have hx := X.1.1
  have hb := X.1.2.1
  have hl : lv_has ls 3 [(0, .ref (ad b)), (1, .int (plan))] := hl
  have hi0_0 := hp0.i0
  have hi0_1 := hp0.i1
  have hle0 := hp0.le
  refine lv_iconst (v := nI 0) hx hb dX3_lowestMissedCustomer_0 (by decide) ?_
  refine lv_istore_n (lv' := [(2, .int (nI 0)), (0, .ref (ad b)), (1, .int (plan))]) hx hb dX3_lowestMissedCustomer_1 rfl hl (by decide) rfl (fun ls hl => ?_)
  have hF1 : f_X3_lowestMissedCustomer x plan = l_X3_lowestMissedCustomer_2 x plan (pM x) 0 := (by rw [f_X3_lowestMissedCustomer] <;> rfl)
  have L1 : ∀ (dx_1 ix_1 : Nat) (ls : Array Slot), (ix_1 + dx_1 = pM x) → (l_X3_lowestMissedCustomer_2 x plan dx_1 ix_1 = l_X3_lowestMissedCustomer_2 x plan (pM x) 0) → (lv_has ls 3 [(0, .ref (ad b)), (1, .int (plan)), (2, .int (nI ix_1))]) → W p l e rmX3_lowestMissedCustomer s m as below meth c H [] 0 0 Q (F0 m 2 ls []) := by
    intro dx_1
    induction dx_1 with
    | zero =>
      intro ix_1  ls hid hvx_1 hl
      have hiN : pM x = ix_1 := by omega
      subst hiN
      refine lv_iload_n hx hb dX3_lowestMissedCustomer_2 rfl (lv_at hl 2 rfl) ?_
      refine lv_aload_n hx hb dX3_lowestMissedCustomer_3 rfl (lv_at hl 0 rfl) ?_
      refine g_Pl_customerCount X hP hp0 m48 dX3_lowestMissedCustomer_4 ?_
      refine q_ge (tgt := 29) hx hb (by omega) (by omega) dX3_lowestMissedCustomer_7 (by decide) (fun c2 => ?_) (fun h => absurd h (by omega))
      refine lv_iconst (v := (-1)) hx hb dX3_lowestMissedCustomer_29 (by decide) ?_
      exact kr 30 ls _ (Eq.symm ((hF1.trans hvx_1.symm).trans (by rw [l_X3_lowestMissedCustomer_2] <;> rfl))) dX3_lowestMissedCustomer_30
    | succ dx_1 ihx_1 =>
      intro ix_1  ls hid hvx_1 hl
      refine lv_iload_n hx hb dX3_lowestMissedCustomer_2 rfl (lv_at hl 2 rfl) ?_
      refine lv_aload_n hx hb dX3_lowestMissedCustomer_3 rfl (lv_at hl 0 rfl) ?_
      refine g_Pl_customerCount X hP hp0 m48 dX3_lowestMissedCustomer_4 ?_
      refine q_ge (tgt := 29) hx hb (by omega) (by omega) dX3_lowestMissedCustomer_7 (by decide) (fun h => absurd h (by omega)) (fun c3 => ?_)
      refine lv_aload_n hx hb dX3_lowestMissedCustomer_10 rfl (lv_at hl 0 rfl) ?_
      refine lv_iload_n hx hb dX3_lowestMissedCustomer_11 rfl (lv_at hl 1 rfl) ?_
      refine lv_iload_n hx hb dX3_lowestMissedCustomer_12 rfl (lv_at hl 2 rfl) ?_
      refine r_call (As := [.int (plan), .int (nI ix_1)]) (rest := []) (ci := 3) X hP (c_X3_leastRoutePrice hp0 plan ix_1 (by omega)) o_X3_leastRoutePrice rfl hp0.lt hp0.ob m334 ⟨rfl, rfl⟩ ⟨Nat.le_of_ble_eq_true rfl, Nat.le_of_ble_eq_true rfl⟩ rfl hl.1 rfl (Nat.le_of_ble_eq_true rfl) ⟨Nat.zero_le _, Nat.zero_le _⟩ dX3_lowestMissedCustomer_13 ?_
      refine lv_bipush (v := nI 100) hx hb dX3_lowestMissedCustomer_16 (by decide) ?_
      refine lv_icmp_ne (tgt := 23) hx hb dX3_lowestMissedCustomer_18 (by decide) (fun c4 => ?_) (fun c4 => ?_)
      · refine lv_iinc (v := nI (ix_1 + 1)) (lv' := [(2, .int (nI (ix_1 + 1))), (0, .ref (ad b)), (1, .int (plan))]) hx hb dX3_lowestMissedCustomer_23 hl (k := 2) rfl (nI_inc _) (by decide) rfl (fun ls hl => ?_)
        refine lv_goto (tgt := 2) hx hb dX3_lowestMissedCustomer_26 (by decide) ?_
        exact ihx_1 (ix_1 + 1) ls (by omega) (Eq.trans (Eq.symm (by rw [l_X3_lowestMissedCustomer_2, if_neg c4] <;> rfl)) hvx_1) (lv_sub hl [1, 2, 0] rfl)
      · refine lv_iload_n hx hb dX3_lowestMissedCustomer_21 rfl (lv_at hl 2 rfl) ?_
        exact kr 22 ls _ (Eq.symm ((hF1.trans hvx_1.symm).trans (by rw [l_X3_lowestMissedCustomer_2, if_pos c4] <;> rfl))) dX3_lowestMissedCustomer_22
  exact L1 (pM x) 0 ls (by omega) rfl (lv_sub hl [1, 2, 0] rfl)
theorem o_X3_lowestMissedCustomer : okV yX3_lowestMissedCustomer cX3_lowestMissedCustomer 3 (some .int) 1 := ⟨m331, m332, m35, m333, by decide +kernel, by decide +kernel, by decide +kernel⟩
def rmX3_reachesAll : Room := { frames := 3, cells := 0, slots := 0, locals := 67 }
def f_X3_reachesAll (x : PlC) (plan : Int32) : Bool :=
  (if (f_X3_lowestMissedCustomer x plan) = (-1) then true else false)
set_option maxHeartbeats 4000000 in
set_option maxRecDepth 100000 in
theorem c_X3_reachesAll {l : Launch} {dd : va_G} {t : CL4} {N : Nat} {ad : Nat → Nat} {V : Nat → va_E} {b : Nat} {x : PlC}  (hp0 : PlP N ad V t b x) (plan : Int32)  : RM l dd t N ad V yX3_reachesAll cX3_reachesAll 2 (some .boolean) rmX3_reachesAll [.ref (ad b), .int (plan)] (b01 (f_X3_reachesAll x plan)) := by
  refine RM.of (by decide +kernel) ⟨rfl, rfl⟩ (Nat.le_of_ble_eq_true rfl) (narB _) ?_
  intro p e s m as below meth c Q X H hP ls hl kr
  have X : WX p s m as c cX3_reachesAll 2 RX3 dd t := X
  have hx := X.1.1
  have hb := X.1.2.1
  have hl : lv_has ls 2 [(0, .ref (ad b)), (1, .int (plan))] := hl
  have hi0_0 := hp0.i0
  have hi0_1 := hp0.i1
  have hle0 := hp0.le
  refine lv_aload_n hx hb dX3_reachesAll_0 rfl (lv_at hl 0 rfl) ?_
  refine lv_iload_n hx hb dX3_reachesAll_1 rfl (lv_at hl 1 rfl) ?_
  refine r_call (As := [.int (plan)]) (rest := []) (ci := 3) X hP (c_X3_lowestMissedCustomer hp0 plan) o_X3_lowestMissedCustomer rfl hp0.lt hp0.ob m617 ⟨rfl, rfl⟩ ⟨Nat.le_of_ble_eq_true rfl, Nat.le_of_ble_eq_true rfl⟩ rfl hl.1 rfl (Nat.le_of_ble_eq_true rfl) ⟨Nat.zero_le _, Nat.zero_le _⟩ dX3_reachesAll_2 ?_
  refine lv_iconst (v := (-1)) hx hb dX3_reachesAll_5 (by decide) ?_
  refine lv_icmp_ne (tgt := 13) hx hb dX3_reachesAll_6 (by decide) (fun c1 => ?_) (fun c1 => ?_)
  · refine lv_iconst (v := nI 0) hx hb dX3_reachesAll_13 (by decide) ?_
    exact kr 14 ls _ (b_f (by rw [f_X3_reachesAll, if_neg c1] <;> rfl)) dX3_reachesAll_14
  · refine lv_iconst (v := nI 1) hx hb dX3_reachesAll_9 (by decide) ?_
    refine lv_goto (tgt := 14) hx hb dX3_reachesAll_10 (by decide) ?_
    exact kr 14 ls _ (b_t (by rw [f_X3_reachesAll, if_pos c1] <;> rfl)) dX3_reachesAll_14
theorem o_X3_reachesAll : okV yX3_reachesAll cX3_reachesAll 2 (some .boolean) 1 := ⟨m614, m615, m35, m616, by decide +kernel, by decide +kernel, by decide +kernel⟩
def rmX3_sitePricesOf : Room := { frames := 1, cells := 0, slots := 0, locals := 21 }
def l_X3_sitePricesOf_4 (x : PlC) (plan : Int32) : Nat → Nat → Int32 → Int32
  | 0, ix_1, a2_1 => a2_1
  | dx_1 + 1, ix_1, a2_1 => (if (f_X5_isIn plan (nI ix_1)) = true then l_X3_sitePricesOf_4 x plan dx_1 (ix_1 + 1) (a2_1 + (pP x ix_1)) else l_X3_sitePricesOf_4 x plan dx_1 (ix_1 + 1) a2_1)
def f_X3_sitePricesOf (x : PlC) (plan : Int32) : Int32 :=
  (l_X3_sitePricesOf_4 x plan (pN x) 0 (nI 0))
set_option maxHeartbeats 4000000 in
set_option maxRecDepth 100000 in
theorem c_X3_sitePricesOf {l : Launch} {dd : va_G} {t : CL4} {N : Nat} {ad : Nat → Nat} {V : Nat → va_E} {b : Nat} {x : PlC}  (hp0 : PlP N ad V t b x) (plan : Int32)  : RM l dd t N ad V yX3_sitePricesOf cX3_sitePricesOf 4 (some .int) rmX3_sitePricesOf [.ref (ad b), .int (plan)] (f_X3_sitePricesOf x plan) := by
  refine RM.of (by decide +kernel) ⟨rfl, rfl⟩ (Nat.le_of_ble_eq_true rfl) (narI _) ?_
  intro p e s m as below meth c Q X H hP ls hl kr
  have X : WX p s m as c cX3_sitePricesOf 4 RX3 dd t := X
  have hx := X.1.1
  have hb := X.1.2.1
  have hl : lv_has ls 4 [(0, .ref (ad b)), (1, .int (plan))] := hl
  have hi0_0 := hp0.i0
  have hi0_1 := hp0.i1
  have hle0 := hp0.le
  refine lv_iconst (v := nI 0) hx hb dX3_sitePricesOf_0 (by decide) ?_
  refine lv_istore_n (lv' := [(2, .int (nI 0)), (0, .ref (ad b)), (1, .int (plan))]) hx hb dX3_sitePricesOf_1 rfl hl (by decide) rfl (fun ls hl => ?_)
  refine lv_iconst (v := nI 0) hx hb dX3_sitePricesOf_2 (by decide) ?_
  refine lv_istore_n (lv' := [(3, .int (nI 0)), (2, .int (nI 0)), (0, .ref (ad b)), (1, .int (plan))]) hx hb dX3_sitePricesOf_3 rfl hl (by decide) rfl (fun ls hl => ?_)
  have L1 : ∀ (dx_1 ix_1 : Nat) (a2_1 : Int32) (ls : Array Slot), (ix_1 + dx_1 = pN x) → (l_X3_sitePricesOf_4 x plan dx_1 ix_1 a2_1 = l_X3_sitePricesOf_4 x plan (pN x) 0 (nI 0)) → (lv_has ls 4 [(0, .ref (ad b)), (1, .int (plan)), (2, .int (a2_1)), (3, .int (nI ix_1))]) → W p l e rmX3_sitePricesOf s m as below meth c H [] 0 0 Q (F0 m 4 ls []) := by
    intro dx_1
    induction dx_1 with
    | zero =>
      intro ix_1 a2_1 ls hid hvx_1 hl
      have hiN : pN x = ix_1 := by omega
      subst hiN
      have hvx_1 : a2_1 = l_X3_sitePricesOf_4 x plan (pN x) 0 (nI 0) := hvx_1
      have hh0 : a2_1 = l_X3_sitePricesOf_4 x plan (pN x) 0 (nI 0) := hvx_1
      subst hh0
      refine lv_iload_n hx hb dX3_sitePricesOf_4 rfl (lv_at hl 3 rfl) ?_
      refine lv_aload_n hx hb dX3_sitePricesOf_5 rfl (lv_at hl 0 rfl) ?_
      refine g_Pl_siteCount X hP hp0 m47 dX3_sitePricesOf_6 ?_
      refine q_ge (tgt := 35) hx hb (by omega) (by omega) dX3_sitePricesOf_9 (by decide) (fun c2 => ?_) (fun h => absurd h (by omega))
      refine lv_iload_n hx hb dX3_sitePricesOf_35 rfl (lv_at hl 2 rfl) ?_
      exact kr 36 ls _ (Eq.symm (by rw [f_X3_sitePricesOf] <;> rfl)) dX3_sitePricesOf_36
    | succ dx_1 ihx_1 =>
      intro ix_1 a2_1 ls hid hvx_1 hl
      refine lv_iload_n hx hb dX3_sitePricesOf_4 rfl (lv_at hl 3 rfl) ?_
      refine lv_aload_n hx hb dX3_sitePricesOf_5 rfl (lv_at hl 0 rfl) ?_
      refine g_Pl_siteCount X hP hp0 m47 dX3_sitePricesOf_6 ?_
      refine q_ge (tgt := 35) hx hb (by omega) (by omega) dX3_sitePricesOf_9 (by decide) (fun h => absurd h (by omega)) (fun c3 => ?_)
      refine lv_iload_n hx hb dX3_sitePricesOf_12 rfl (lv_at hl 1 rfl) ?_
      refine lv_iload_n hx hb dX3_sitePricesOf_13 rfl (lv_at hl 3 rfl) ?_
      refine r_callN (As := [.int (plan), .int (nI ix_1)]) (rest := []) X hP (c_X5_isIn plan (nI ix_1)) o_X5_isIn X.2.2.1 ⟨rfl, rfl⟩ ⟨Nat.le_of_ble_eq_true rfl, Nat.le_of_ble_eq_true rfl⟩ rfl hl.1 rfl (Nat.le_of_ble_eq_true rfl) ⟨Nat.zero_le _, Nat.zero_le _⟩ dX3_sitePricesOf_14 ?_
      refine q_eqB (tgt := 29) hx hb dX3_sitePricesOf_17 (by decide) (fun c4 => ?_) (fun c4 => ?_)
      · refine lv_iinc (v := nI (ix_1 + 1)) (lv' := [(3, .int (nI (ix_1 + 1))), (0, .ref (ad b)), (1, .int (plan)), (2, .int (a2_1))]) hx hb dX3_sitePricesOf_29 hl (k := 3) rfl (nI_inc _) (by decide) rfl (fun ls hl => ?_)
        refine lv_goto (tgt := 4) hx hb dX3_sitePricesOf_32 (by decide) ?_
        exact ihx_1 (ix_1 + 1) a2_1 ls (by omega) (Eq.trans (Eq.symm (by rw [l_X3_sitePricesOf_4, if_neg (nt c4)] <;> rfl)) hvx_1) (lv_sub hl [1, 2, 3, 0] rfl)
      · refine lv_iload_n hx hb dX3_sitePricesOf_20 rfl (lv_at hl 2 rfl) ?_
        refine lv_aload_n hx hb dX3_sitePricesOf_21 rfl (lv_at hl 0 rfl) ?_
        refine g_Pl_sitePrices X hP hp0 m50 dX3_sitePricesOf_22 ?_
        refine lv_iload_n hx hb dX3_sitePricesOf_25 rfl (lv_at hl 3 rfl) ?_
        refine l_Pl_sitePrices X hP hp0 (by omega) dX3_sitePricesOf_26 ?_
        refine lv_iadd hx hb dX3_sitePricesOf_27 ?_
        refine lv_istore_n (lv' := [(2, .int (a2_1 + (pP x ix_1))), (0, .ref (ad b)), (1, .int (plan)), (3, .int (nI ix_1))]) hx hb dX3_sitePricesOf_28 rfl hl (by decide) rfl (fun ls hl => ?_)
        refine lv_iinc (v := nI (ix_1 + 1)) (lv' := [(3, .int (nI (ix_1 + 1))), (2, .int (a2_1 + (pP x ix_1))), (0, .ref (ad b)), (1, .int (plan))]) hx hb dX3_sitePricesOf_29 hl (k := 3) rfl (nI_inc _) (by decide) rfl (fun ls hl => ?_)
        refine lv_goto (tgt := 4) hx hb dX3_sitePricesOf_32 (by decide) ?_
        exact ihx_1 (ix_1 + 1) (a2_1 + (pP x ix_1)) ls (by omega) (Eq.trans (Eq.symm (by rw [l_X3_sitePricesOf_4, if_pos c4] <;> rfl)) hvx_1) (lv_sub hl [2, 3, 1, 0] rfl)
  exact L1 (pN x) 0 (nI 0) ls (by omega) rfl (lv_sub hl [2, 3, 1, 0] rfl)
theorem o_X3_sitePricesOf : okV yX3_sitePricesOf cX3_sitePricesOf 4 (some .int) 1 := ⟨m315, m316, m35, m317, by decide +kernel, by decide +kernel, by decide +kernel⟩
def rmX3_routeCostOf : Room := { frames := 2, cells := 0, slots := 0, locals := 45 }
def l_X3_routeCostOf_4 (x : PlC) (plan : Int32) : Nat → Nat → Int32 → Int32
  | 0, ix_1, a2_1 => a2_1
  | dx_1 + 1, ix_1, a2_1 => l_X3_routeCostOf_4 x plan dx_1 (ix_1 + 1) (a2_1 + ((pD x ix_1) * (f_X3_leastRoutePrice x plan ix_1)))
def f_X3_routeCostOf (x : PlC) (plan : Int32) : Int32 :=
  (l_X3_routeCostOf_4 x plan (pM x) 0 (nI 0))
set_option maxHeartbeats 4000000 in
set_option maxRecDepth 100000 in
theorem c_X3_routeCostOf {l : Launch} {dd : va_G} {t : CL4} {N : Nat} {ad : Nat → Nat} {V : Nat → va_E} {b : Nat} {x : PlC}  (hp0 : PlP N ad V t b x) (plan : Int32)  : RM l dd t N ad V yX3_routeCostOf cX3_routeCostOf 4 (some .int) rmX3_routeCostOf [.ref (ad b), .int (plan)] (f_X3_routeCostOf x plan) := by
  refine RM.of (by decide +kernel) ⟨rfl, rfl⟩ (Nat.le_of_ble_eq_true rfl) (narI _) ?_
  intro p e s m as below meth c Q X H hP ls hl kr
  have X : WX p s m as c cX3_routeCostOf 4 RX3 dd t := X
  have hx := X.1.1
  have hb := X.1.2.1
  have hl : lv_has ls 4 [(0, .ref (ad b)), (1, .int (plan))] := hl
  have hi0_0 := hp0.i0
  have hi0_1 := hp0.i1
  have hle0 := hp0.le
  refine lv_iconst (v := nI 0) hx hb dX3_routeCostOf_0 (by decide) ?_
  refine lv_istore_n (lv' := [(2, .int (nI 0)), (0, .ref (ad b)), (1, .int (plan))]) hx hb dX3_routeCostOf_1 rfl hl (by decide) rfl (fun ls hl => ?_)
  refine lv_iconst (v := nI 0) hx hb dX3_routeCostOf_2 (by decide) ?_
  refine lv_istore_n (lv' := [(3, .int (nI 0)), (2, .int (nI 0)), (0, .ref (ad b)), (1, .int (plan))]) hx hb dX3_routeCostOf_3 rfl hl (by decide) rfl (fun ls hl => ?_)
  have L1 : ∀ (dx_1 ix_1 : Nat) (a2_1 : Int32) (ls : Array Slot), (ix_1 + dx_1 = pM x) → (l_X3_routeCostOf_4 x plan dx_1 ix_1 a2_1 = l_X3_routeCostOf_4 x plan (pM x) 0 (nI 0)) → (lv_has ls 4 [(0, .ref (ad b)), (1, .int (plan)), (2, .int (a2_1)), (3, .int (nI ix_1))]) → W p l e rmX3_routeCostOf s m as below meth c H [] 0 0 Q (F0 m 4 ls []) := by
    intro dx_1
    induction dx_1 with
    | zero =>
      intro ix_1 a2_1 ls hid hvx_1 hl
      have hiN : pM x = ix_1 := by omega
      subst hiN
      have hvx_1 : a2_1 = l_X3_routeCostOf_4 x plan (pM x) 0 (nI 0) := hvx_1
      have hh0 : a2_1 = l_X3_routeCostOf_4 x plan (pM x) 0 (nI 0) := hvx_1
      subst hh0
      refine lv_iload_n hx hb dX3_routeCostOf_4 rfl (lv_at hl 3 rfl) ?_
      refine lv_aload_n hx hb dX3_routeCostOf_5 rfl (lv_at hl 0 rfl) ?_
      refine g_Pl_customerCount X hP hp0 m48 dX3_routeCostOf_6 ?_
      refine q_ge (tgt := 34) hx hb (by omega) (by omega) dX3_routeCostOf_9 (by decide) (fun c2 => ?_) (fun h => absurd h (by omega))
      refine lv_iload_n hx hb dX3_routeCostOf_34 rfl (lv_at hl 2 rfl) ?_
      exact kr 35 ls _ (Eq.symm (by rw [f_X3_routeCostOf] <;> rfl)) dX3_routeCostOf_35
    | succ dx_1 ihx_1 =>
      intro ix_1 a2_1 ls hid hvx_1 hl
      refine lv_iload_n hx hb dX3_routeCostOf_4 rfl (lv_at hl 3 rfl) ?_
      refine lv_aload_n hx hb dX3_routeCostOf_5 rfl (lv_at hl 0 rfl) ?_
      refine g_Pl_customerCount X hP hp0 m48 dX3_routeCostOf_6 ?_
      refine q_ge (tgt := 34) hx hb (by omega) (by omega) dX3_routeCostOf_9 (by decide) (fun h => absurd h (by omega)) (fun c3 => ?_)
      refine lv_iload_n hx hb dX3_routeCostOf_12 rfl (lv_at hl 2 rfl) ?_
      refine lv_aload_n hx hb dX3_routeCostOf_13 rfl (lv_at hl 0 rfl) ?_
      refine g_Pl_demands X hP hp0 m51 dX3_routeCostOf_14 ?_
      refine lv_iload_n hx hb dX3_routeCostOf_17 rfl (lv_at hl 3 rfl) ?_
      refine l_Pl_demands X hP hp0 (by omega) dX3_routeCostOf_18 ?_
      refine lv_aload_n hx hb dX3_routeCostOf_19 rfl (lv_at hl 0 rfl) ?_
      refine lv_iload_n hx hb dX3_routeCostOf_20 rfl (lv_at hl 1 rfl) ?_
      refine lv_iload_n hx hb dX3_routeCostOf_21 rfl (lv_at hl 3 rfl) ?_
      refine r_call (As := [.int (plan), .int (nI ix_1)]) (rest := [.int (pD x ix_1), .int (a2_1)]) (ci := 3) X hP (c_X3_leastRoutePrice hp0 plan ix_1 (by omega)) o_X3_leastRoutePrice rfl hp0.lt hp0.ob m334 ⟨rfl, rfl⟩ ⟨Nat.le_of_ble_eq_true rfl, Nat.le_of_ble_eq_true rfl⟩ rfl hl.1 rfl (Nat.le_of_ble_eq_true rfl) ⟨Nat.zero_le _, Nat.zero_le _⟩ dX3_routeCostOf_22 ?_
      refine lv_imul hx hb dX3_routeCostOf_25 ?_
      refine lv_iadd hx hb dX3_routeCostOf_26 ?_
      refine lv_istore_n (lv' := [(2, .int (a2_1 + ((pD x ix_1) * (f_X3_leastRoutePrice x plan ix_1)))), (0, .ref (ad b)), (1, .int (plan)), (3, .int (nI ix_1))]) hx hb dX3_routeCostOf_27 rfl hl (by decide) rfl (fun ls hl => ?_)
      refine lv_iinc (v := nI (ix_1 + 1)) (lv' := [(3, .int (nI (ix_1 + 1))), (2, .int (a2_1 + ((pD x ix_1) * (f_X3_leastRoutePrice x plan ix_1)))), (0, .ref (ad b)), (1, .int (plan))]) hx hb dX3_routeCostOf_28 hl (k := 3) rfl (nI_inc _) (by decide) rfl (fun ls hl => ?_)
      refine lv_goto (tgt := 4) hx hb dX3_routeCostOf_31 (by decide) ?_
      exact ihx_1 (ix_1 + 1) (a2_1 + ((pD x ix_1) * (f_X3_leastRoutePrice x plan ix_1))) ls (by omega) (Eq.trans (Eq.symm (by rw [l_X3_routeCostOf_4] <;> rfl)) hvx_1) (lv_sub hl [2, 3, 1, 0] rfl)
  exact L1 (pM x) 0 (nI 0) ls (by omega) rfl (lv_sub hl [2, 3, 1, 0] rfl)
theorem o_X3_routeCostOf : okV yX3_routeCostOf cX3_routeCostOf 4 (some .int) 1 := ⟨m347, m348, m35, m349, by decide +kernel, by decide +kernel, by decide +kernel⟩
def rmX3_costOf : Room := { frames := 3, cells := 0, slots := 0, locals := 68 }
def f_X3_costOf (x : PlC) (plan : Int32) : Int32 :=
  (f_X3_sitePricesOf x plan) + (f_X3_routeCostOf x plan)
set_option maxHeartbeats 4000000 in
set_option maxRecDepth 100000 in
theorem c_X3_costOf {l : Launch} {dd : va_G} {t : CL4} {N : Nat} {ad : Nat → Nat} {V : Nat → va_E} {b : Nat} {x : PlC}  (hp0 : PlP N ad V t b x) (plan : Int32)  : RM l dd t N ad V yX3_costOf cX3_costOf 2 (some .int) rmX3_costOf [.ref (ad b), .int (plan)] (f_X3_costOf x plan) := by
  refine RM.of (by decide +kernel) ⟨rfl, rfl⟩ (Nat.le_of_ble_eq_true rfl) (narI _) ?_
  intro p e s m as below meth c Q X H hP ls hl kr
  have X : WX p s m as c cX3_costOf 2 RX3 dd t := X
  have hx := X.1.1
  have hb := X.1.2.1
  have hl : lv_has ls 2 [(0, .ref (ad b)), (1, .int (plan))] := hl
  have hi0_0 := hp0.i0
  have hi0_1 := hp0.i1
  have hle0 := hp0.le
  refine lv_aload_n hx hb dX3_costOf_0 rfl (lv_at hl 0 rfl) ?_
  refine lv_iload_n hx hb dX3_costOf_1 rfl (lv_at hl 1 rfl) ?_
  refine r_call (As := [.int (plan)]) (rest := []) (ci := 3) X hP (c_X3_sitePricesOf hp0 plan) o_X3_sitePricesOf rfl hp0.lt hp0.ob m345 ⟨rfl, rfl⟩ ⟨Nat.le_of_ble_eq_true rfl, Nat.le_of_ble_eq_true rfl⟩ rfl hl.1 rfl (Nat.le_of_ble_eq_true rfl) ⟨Nat.zero_le _, Nat.zero_le _⟩ dX3_costOf_2 ?_
  refine lv_aload_n hx hb dX3_costOf_5 rfl (lv_at hl 0 rfl) ?_
  refine lv_iload_n hx hb dX3_costOf_6 rfl (lv_at hl 1 rfl) ?_
  refine r_call (As := [.int (plan)]) (rest := [.int (f_X3_sitePricesOf x plan)]) (ci := 3) X hP (c_X3_routeCostOf hp0 plan) o_X3_routeCostOf rfl hp0.lt hp0.ob m346 ⟨rfl, rfl⟩ ⟨Nat.le_of_ble_eq_true rfl, Nat.le_of_ble_eq_true rfl⟩ rfl hl.1 rfl (Nat.le_of_ble_eq_true rfl) ⟨Nat.zero_le _, Nat.zero_le _⟩ dX3_costOf_7 ?_
  refine lv_iadd hx hb dX3_costOf_10 ?_
  exact kr 11 ls _ (Eq.symm (by rw [f_X3_costOf] <;> rfl)) dX3_costOf_11
theorem o_X3_costOf : okV yX3_costOf cX3_costOf 2 (some .int) 1 := ⟨m342, m343, m35, m344, by decide +kernel, by decide +kernel, by decide +kernel⟩
end
section
/-! readers of Places, Cuts and State -/
theorem pow7 {n : Nat} (h : n ≤ 7) : 2 ^ n ≤ 128 := Nat.pow_le_pow_right (n := 2) (by omega) h

def rmJ6_bitCount_0f7a4 : Room := { frames := 0, cells := 0, slots := 0, locals := 0 }
def f_J6_bitCount_0f7a4 (plan : Int32) : Int32 :=
  (((((((plan - (((plan.toUInt32 >>> ((nI 1).toUInt32 &&& Int32.toUInt32 31)).toInt32) &&& 1431655765)) &&& 858993459) + ((((plan - (((plan.toUInt32 >>> ((nI 1).toUInt32 &&& Int32.toUInt32 31)).toInt32) &&& 1431655765)).toUInt32 >>> ((nI 2).toUInt32 &&& Int32.toUInt32 31)).toInt32) &&& 858993459)) + (((((plan - (((plan.toUInt32 >>> ((nI 1).toUInt32 &&& Int32.toUInt32 31)).toInt32) &&& 1431655765)) &&& 858993459) + ((((plan - (((plan.toUInt32 >>> ((nI 1).toUInt32 &&& Int32.toUInt32 31)).toInt32) &&& 1431655765)).toUInt32 >>> ((nI 2).toUInt32 &&& Int32.toUInt32 31)).toInt32) &&& 858993459)).toUInt32 >>> ((nI 4).toUInt32 &&& Int32.toUInt32 31)).toInt32)) &&& 252645135) + (((((((plan - (((plan.toUInt32 >>> ((nI 1).toUInt32 &&& Int32.toUInt32 31)).toInt32) &&& 1431655765)) &&& 858993459) + ((((plan - (((plan.toUInt32 >>> ((nI 1).toUInt32 &&& Int32.toUInt32 31)).toInt32) &&& 1431655765)).toUInt32 >>> ((nI 2).toUInt32 &&& Int32.toUInt32 31)).toInt32) &&& 858993459)) + (((((plan - (((plan.toUInt32 >>> ((nI 1).toUInt32 &&& Int32.toUInt32 31)).toInt32) &&& 1431655765)) &&& 858993459) + ((((plan - (((plan.toUInt32 >>> ((nI 1).toUInt32 &&& Int32.toUInt32 31)).toInt32) &&& 1431655765)).toUInt32 >>> ((nI 2).toUInt32 &&& Int32.toUInt32 31)).toInt32) &&& 858993459)).toUInt32 >>> ((nI 4).toUInt32 &&& Int32.toUInt32 31)).toInt32)) &&& 252645135).toUInt32 >>> ((nI 8).toUInt32 &&& Int32.toUInt32 31)).toInt32)) + ((((((((plan - (((plan.toUInt32 >>> ((nI 1).toUInt32 &&& Int32.toUInt32 31)).toInt32) &&& 1431655765)) &&& 858993459) + ((((plan - (((plan.toUInt32 >>> ((nI 1).toUInt32 &&& Int32.toUInt32 31)).toInt32) &&& 1431655765)).toUInt32 >>> ((nI 2).toUInt32 &&& Int32.toUInt32 31)).toInt32) &&& 858993459)) + (((((plan - (((plan.toUInt32 >>> ((nI 1).toUInt32 &&& Int32.toUInt32 31)).toInt32) &&& 1431655765)) &&& 858993459) + ((((plan - (((plan.toUInt32 >>> ((nI 1).toUInt32 &&& Int32.toUInt32 31)).toInt32) &&& 1431655765)).toUInt32 >>> ((nI 2).toUInt32 &&& Int32.toUInt32 31)).toInt32) &&& 858993459)).toUInt32 >>> ((nI 4).toUInt32 &&& Int32.toUInt32 31)).toInt32)) &&& 252645135) + (((((((plan - (((plan.toUInt32 >>> ((nI 1).toUInt32 &&& Int32.toUInt32 31)).toInt32) &&& 1431655765)) &&& 858993459) + ((((plan - (((plan.toUInt32 >>> ((nI 1).toUInt32 &&& Int32.toUInt32 31)).toInt32) &&& 1431655765)).toUInt32 >>> ((nI 2).toUInt32 &&& Int32.toUInt32 31)).toInt32) &&& 858993459)) + (((((plan - (((plan.toUInt32 >>> ((nI 1).toUInt32 &&& Int32.toUInt32 31)).toInt32) &&& 1431655765)) &&& 858993459) + ((((plan - (((plan.toUInt32 >>> ((nI 1).toUInt32 &&& Int32.toUInt32 31)).toInt32) &&& 1431655765)).toUInt32 >>> ((nI 2).toUInt32 &&& Int32.toUInt32 31)).toInt32) &&& 858993459)).toUInt32 >>> ((nI 4).toUInt32 &&& Int32.toUInt32 31)).toInt32)) &&& 252645135).toUInt32 >>> ((nI 8).toUInt32 &&& Int32.toUInt32 31)).toInt32)).toUInt32 >>> ((nI 16).toUInt32 &&& Int32.toUInt32 31)).toInt32)) &&& (nI 63)
set_option maxHeartbeats 4000000 in
set_option maxRecDepth 100000 in
theorem c_J6_bitCount_0f7a4 {l : Launch} {dd : va_G} {t : CL4} {N : Nat} {ad : Nat → Nat} {V : Nat → va_E}     (plan : Int32)  : RM l dd t N ad V yJ6_bitCount_0f7a4 cJ6_bitCount_0f7a4 1 (some .int) rmJ6_bitCount_0f7a4 [.int (plan)] (f_J6_bitCount_0f7a4 plan) := by
  refine RM.of (by decide +kernel) ⟨rfl, rfl⟩ (Nat.le_of_ble_eq_true rfl) (narI _) ?_
  intro p e s m as below meth c Q X H hP ls hl kr
  have X : WX p s m as c cJ6_bitCount_0f7a4 1 RJ6 dd t := X
  have hx := X.1.1
  have hb := X.1.2.1
  have hl : lv_has ls 1 [(0, .int (plan))] := hl
  refine lv_iload_n hx hb dJ6_bitCount_0f7a4_0 rfl (lv_at hl 0 rfl) ?_
  refine lv_iload_n hx hb dJ6_bitCount_0f7a4_1 rfl (lv_at hl 0 rfl) ?_
  refine lv_iconst (v := nI 1) hx hb dJ6_bitCount_0f7a4_2 (by decide) ?_
  refine lv_iushr hx hb dJ6_bitCount_0f7a4_3 rfl ?_
  refine lv_ldcw (v := 1431655765) hx hb X.1.2.2.2.1 (X.1.2.2.2.2 _ m254) dJ6_bitCount_0f7a4_4 ?_
  refine lv_iand hx hb dJ6_bitCount_0f7a4_7 ?_
  refine lv_isub hx hb dJ6_bitCount_0f7a4_8 ?_
  refine lv_istore_n (lv' := [(0, .int (plan - (((plan.toUInt32 >>> ((nI 1).toUInt32 &&& Int32.toUInt32 31)).toInt32) &&& 1431655765)))]) hx hb dJ6_bitCount_0f7a4_9 rfl hl (by decide) rfl (fun ls hl => ?_)
  refine lv_iload_n hx hb dJ6_bitCount_0f7a4_10 rfl (lv_at hl 0 rfl) ?_
  refine lv_ldcw (v := 858993459) hx hb X.1.2.2.2.1 (X.1.2.2.2.2 _ m255) dJ6_bitCount_0f7a4_11 ?_
  refine lv_iand hx hb dJ6_bitCount_0f7a4_14 ?_
  refine lv_iload_n hx hb dJ6_bitCount_0f7a4_15 rfl (lv_at hl 0 rfl) ?_
  refine lv_iconst (v := nI 2) hx hb dJ6_bitCount_0f7a4_16 (by decide) ?_
  refine lv_iushr hx hb dJ6_bitCount_0f7a4_17 rfl ?_
  refine lv_ldcw (v := 858993459) hx hb X.1.2.2.2.1 (X.1.2.2.2.2 _ m255) dJ6_bitCount_0f7a4_18 ?_
  refine lv_iand hx hb dJ6_bitCount_0f7a4_21 ?_
  refine lv_iadd hx hb dJ6_bitCount_0f7a4_22 ?_
  refine lv_istore_n (lv' := [(0, .int (((plan - (((plan.toUInt32 >>> ((nI 1).toUInt32 &&& Int32.toUInt32 31)).toInt32) &&& 1431655765)) &&& 858993459) + ((((plan - (((plan.toUInt32 >>> ((nI 1).toUInt32 &&& Int32.toUInt32 31)).toInt32) &&& 1431655765)).toUInt32 >>> ((nI 2).toUInt32 &&& Int32.toUInt32 31)).toInt32) &&& 858993459)))]) hx hb dJ6_bitCount_0f7a4_23 rfl hl (by decide) rfl (fun ls hl => ?_)
  refine lv_iload_n hx hb dJ6_bitCount_0f7a4_24 rfl (lv_at hl 0 rfl) ?_
  refine lv_iload_n hx hb dJ6_bitCount_0f7a4_25 rfl (lv_at hl 0 rfl) ?_
  refine lv_iconst (v := nI 4) hx hb dJ6_bitCount_0f7a4_26 (by decide) ?_
  refine lv_iushr hx hb dJ6_bitCount_0f7a4_27 rfl ?_
  refine lv_iadd hx hb dJ6_bitCount_0f7a4_28 ?_
  refine lv_ldcw (v := 252645135) hx hb X.1.2.2.2.1 (X.1.2.2.2.2 _ m256) dJ6_bitCount_0f7a4_29 ?_
  refine lv_iand hx hb dJ6_bitCount_0f7a4_32 ?_
  refine lv_istore_n (lv' := [(0, .int (((((plan - (((plan.toUInt32 >>> ((nI 1).toUInt32 &&& Int32.toUInt32 31)).toInt32) &&& 1431655765)) &&& 858993459) + ((((plan - (((plan.toUInt32 >>> ((nI 1).toUInt32 &&& Int32.toUInt32 31)).toInt32) &&& 1431655765)).toUInt32 >>> ((nI 2).toUInt32 &&& Int32.toUInt32 31)).toInt32) &&& 858993459)) + (((((plan - (((plan.toUInt32 >>> ((nI 1).toUInt32 &&& Int32.toUInt32 31)).toInt32) &&& 1431655765)) &&& 858993459) + ((((plan - (((plan.toUInt32 >>> ((nI 1).toUInt32 &&& Int32.toUInt32 31)).toInt32) &&& 1431655765)).toUInt32 >>> ((nI 2).toUInt32 &&& Int32.toUInt32 31)).toInt32) &&& 858993459)).toUInt32 >>> ((nI 4).toUInt32 &&& Int32.toUInt32 31)).toInt32)) &&& 252645135))]) hx hb dJ6_bitCount_0f7a4_33 rfl hl (by decide) rfl (fun ls hl => ?_)
  refine lv_iload_n hx hb dJ6_bitCount_0f7a4_34 rfl (lv_at hl 0 rfl) ?_
  refine lv_iload_n hx hb dJ6_bitCount_0f7a4_35 rfl (lv_at hl 0 rfl) ?_
  refine lv_bipush (v := nI 8) hx hb dJ6_bitCount_0f7a4_36 (by decide) ?_
  refine lv_iushr hx hb dJ6_bitCount_0f7a4_38 rfl ?_
  refine lv_iadd hx hb dJ6_bitCount_0f7a4_39 ?_
  refine lv_istore_n (lv' := [(0, .int ((((((plan - (((plan.toUInt32 >>> ((nI 1).toUInt32 &&& Int32.toUInt32 31)).toInt32) &&& 1431655765)) &&& 858993459) + ((((plan - (((plan.toUInt32 >>> ((nI 1).toUInt32 &&& Int32.toUInt32 31)).toInt32) &&& 1431655765)).toUInt32 >>> ((nI 2).toUInt32 &&& Int32.toUInt32 31)).toInt32) &&& 858993459)) + (((((plan - (((plan.toUInt32 >>> ((nI 1).toUInt32 &&& Int32.toUInt32 31)).toInt32) &&& 1431655765)) &&& 858993459) + ((((plan - (((plan.toUInt32 >>> ((nI 1).toUInt32 &&& Int32.toUInt32 31)).toInt32) &&& 1431655765)).toUInt32 >>> ((nI 2).toUInt32 &&& Int32.toUInt32 31)).toInt32) &&& 858993459)).toUInt32 >>> ((nI 4).toUInt32 &&& Int32.toUInt32 31)).toInt32)) &&& 252645135) + (((((((plan - (((plan.toUInt32 >>> ((nI 1).toUInt32 &&& Int32.toUInt32 31)).toInt32) &&& 1431655765)) &&& 858993459) + ((((plan - (((plan.toUInt32 >>> ((nI 1).toUInt32 &&& Int32.toUInt32 31)).toInt32) &&& 1431655765)).toUInt32 >>> ((nI 2).toUInt32 &&& Int32.toUInt32 31)).toInt32) &&& 858993459)) + (((((plan - (((plan.toUInt32 >>> ((nI 1).toUInt32 &&& Int32.toUInt32 31)).toInt32) &&& 1431655765)) &&& 858993459) + ((((plan - (((plan.toUInt32 >>> ((nI 1).toUInt32 &&& Int32.toUInt32 31)).toInt32) &&& 1431655765)).toUInt32 >>> ((nI 2).toUInt32 &&& Int32.toUInt32 31)).toInt32) &&& 858993459)).toUInt32 >>> ((nI 4).toUInt32 &&& Int32.toUInt32 31)).toInt32)) &&& 252645135).toUInt32 >>> ((nI 8).toUInt32 &&& Int32.toUInt32 31)).toInt32)))]) hx hb dJ6_bitCount_0f7a4_40 rfl hl (by decide) rfl (fun ls hl => ?_)
  refine lv_iload_n hx hb dJ6_bitCount_0f7a4_41 rfl (lv_at hl 0 rfl) ?_
  refine lv_iload_n hx hb dJ6_bitCount_0f7a4_42 rfl (lv_at hl 0 rfl) ?_
  refine lv_bipush (v := nI 16) hx hb dJ6_bitCount_0f7a4_43 (by decide) ?_
  refine lv_iushr hx hb dJ6_bitCount_0f7a4_45 rfl ?_
  refine lv_iadd hx hb dJ6_bitCount_0f7a4_46 ?_
  refine lv_istore_n (lv' := [(0, .int (((((((plan - (((plan.toUInt32 >>> ((nI 1).toUInt32 &&& Int32.toUInt32 31)).toInt32) &&& 1431655765)) &&& 858993459) + ((((plan - (((plan.toUInt32 >>> ((nI 1).toUInt32 &&& Int32.toUInt32 31)).toInt32) &&& 1431655765)).toUInt32 >>> ((nI 2).toUInt32 &&& Int32.toUInt32 31)).toInt32) &&& 858993459)) + (((((plan - (((plan.toUInt32 >>> ((nI 1).toUInt32 &&& Int32.toUInt32 31)).toInt32) &&& 1431655765)) &&& 858993459) + ((((plan - (((plan.toUInt32 >>> ((nI 1).toUInt32 &&& Int32.toUInt32 31)).toInt32) &&& 1431655765)).toUInt32 >>> ((nI 2).toUInt32 &&& Int32.toUInt32 31)).toInt32) &&& 858993459)).toUInt32 >>> ((nI 4).toUInt32 &&& Int32.toUInt32 31)).toInt32)) &&& 252645135) + (((((((plan - (((plan.toUInt32 >>> ((nI 1).toUInt32 &&& Int32.toUInt32 31)).toInt32) &&& 1431655765)) &&& 858993459) + ((((plan - (((plan.toUInt32 >>> ((nI 1).toUInt32 &&& Int32.toUInt32 31)).toInt32) &&& 1431655765)).toUInt32 >>> ((nI 2).toUInt32 &&& Int32.toUInt32 31)).toInt32) &&& 858993459)) + (((((plan - (((plan.toUInt32 >>> ((nI 1).toUInt32 &&& Int32.toUInt32 31)).toInt32) &&& 1431655765)) &&& 858993459) + ((((plan - (((plan.toUInt32 >>> ((nI 1).toUInt32 &&& Int32.toUInt32 31)).toInt32) &&& 1431655765)).toUInt32 >>> ((nI 2).toUInt32 &&& Int32.toUInt32 31)).toInt32) &&& 858993459)).toUInt32 >>> ((nI 4).toUInt32 &&& Int32.toUInt32 31)).toInt32)) &&& 252645135).toUInt32 >>> ((nI 8).toUInt32 &&& Int32.toUInt32 31)).toInt32)) + ((((((((plan - (((plan.toUInt32 >>> ((nI 1).toUInt32 &&& Int32.toUInt32 31)).toInt32) &&& 1431655765)) &&& 858993459) + ((((plan - (((plan.toUInt32 >>> ((nI 1).toUInt32 &&& Int32.toUInt32 31)).toInt32) &&& 1431655765)).toUInt32 >>> ((nI 2).toUInt32 &&& Int32.toUInt32 31)).toInt32) &&& 858993459)) + (((((plan - (((plan.toUInt32 >>> ((nI 1).toUInt32 &&& Int32.toUInt32 31)).toInt32) &&& 1431655765)) &&& 858993459) + ((((plan - (((plan.toUInt32 >>> ((nI 1).toUInt32 &&& Int32.toUInt32 31)).toInt32) &&& 1431655765)).toUInt32 >>> ((nI 2).toUInt32 &&& Int32.toUInt32 31)).toInt32) &&& 858993459)).toUInt32 >>> ((nI 4).toUInt32 &&& Int32.toUInt32 31)).toInt32)) &&& 252645135) + (((((((plan - (((plan.toUInt32 >>> ((nI 1).toUInt32 &&& Int32.toUInt32 31)).toInt32) &&& 1431655765)) &&& 858993459) + ((((plan - (((plan.toUInt32 >>> ((nI 1).toUInt32 &&& Int32.toUInt32 31)).toInt32) &&& 1431655765)).toUInt32 >>> ((nI 2).toUInt32 &&& Int32.toUInt32 31)).toInt32) &&& 858993459)) + (((((plan - (((plan.toUInt32 >>> ((nI 1).toUInt32 &&& Int32.toUInt32 31)).toInt32) &&& 1431655765)) &&& 858993459) + ((((plan - (((plan.toUInt32 >>> ((nI 1).toUInt32 &&& Int32.toUInt32 31)).toInt32) &&& 1431655765)).toUInt32 >>> ((nI 2).toUInt32 &&& Int32.toUInt32 31)).toInt32) &&& 858993459)).toUInt32 >>> ((nI 4).toUInt32 &&& Int32.toUInt32 31)).toInt32)) &&& 252645135).toUInt32 >>> ((nI 8).toUInt32 &&& Int32.toUInt32 31)).toInt32)).toUInt32 >>> ((nI 16).toUInt32 &&& Int32.toUInt32 31)).toInt32)))]) hx hb dJ6_bitCount_0f7a4_47 rfl hl (by decide) rfl (fun ls hl => ?_)
  refine lv_iload_n hx hb dJ6_bitCount_0f7a4_48 rfl (lv_at hl 0 rfl) ?_
  refine lv_bipush (v := nI 63) hx hb dJ6_bitCount_0f7a4_49 (by decide) ?_
  refine lv_iand hx hb dJ6_bitCount_0f7a4_51 ?_
  exact kr 52 ls _ (Eq.symm (by rw [f_J6_bitCount_0f7a4] <;> rfl)) dJ6_bitCount_0f7a4_52
theorem o_J6_bitCount_0f7a4 : okS yJ6_bitCount_0f7a4 cJ6_bitCount_0f7a4 1 (some .int) 1 := ⟨m251, m252, m253, by decide +kernel, by decide +kernel, by decide +kernel⟩
def rmX3_isAllowed : Room := { frames := 2, cells := 0, slots := 0, locals := 43 }
def f_X3_isAllowed (x : PlC) (plan : Int32) : Bool :=
  (if (pO x) < (f_J6_bitCount_0f7a4 plan) then false else (if (f_X3_hasExcludingSites x plan) = true then false else true))
set_option maxHeartbeats 4000000 in
set_option maxRecDepth 100000 in
theorem c_X3_isAllowed {l : Launch} {dd : va_G} {t : CL4} {N : Nat} {ad : Nat → Nat} {V : Nat → va_E} {b : Nat} {x : PlC}  (hp0 : PlP N ad V t b x) (plan : Int32)  : RM l dd t N ad V yX3_isAllowed cX3_isAllowed 2 (some .boolean) rmX3_isAllowed [.ref (ad b), .int (plan)] (b01 (f_X3_isAllowed x plan)) := by
  refine RM.of (by decide +kernel) ⟨rfl, rfl⟩ (Nat.le_of_ble_eq_true rfl) (narB _) ?_
  intro p e s m as below meth c Q X H hP ls hl kr
  have X : WX p s m as c cX3_isAllowed 2 RX3 dd t := X
  have hx := X.1.1
  have hb := X.1.2.1
  have hl : lv_has ls 2 [(0, .ref (ad b)), (1, .int (plan))] := hl
  have hi0_0 := hp0.i0
  have hi0_1 := hp0.i1
  have hle0 := hp0.le
  refine lv_iload_n hx hb dX3_isAllowed_0 rfl (lv_at hl 1 rfl) ?_
  refine r_callS (As := [.int (plan)]) (rest := []) X hP (c_J6_bitCount_0f7a4 plan) o_J6_bitCount_0f7a4 m293 ⟨rfl, rfl⟩ ⟨Nat.le_of_ble_eq_true rfl, Nat.le_of_ble_eq_true rfl⟩ rfl hl.1 rfl (Nat.le_of_ble_eq_true rfl) ⟨Nat.zero_le _, Nat.zero_le _⟩ dX3_isAllowed_1 ?_
  refine lv_aload_n hx hb dX3_isAllowed_4 rfl (lv_at hl 0 rfl) ?_
  refine g_Pl_most X hP hp0 m49 dX3_isAllowed_5 ?_
  refine j_gt (tgt := 23) hx hb dX3_isAllowed_8 (by decide) (fun c1 => ?_) (fun c1 => ?_)
  · refine lv_iconst (v := nI 0) hx hb dX3_isAllowed_23 (by decide) ?_
    exact kr 24 ls _ (b_f (by rw [f_X3_isAllowed, if_pos c1] <;> rfl)) dX3_isAllowed_24
  · refine lv_aload_n hx hb dX3_isAllowed_11 rfl (lv_at hl 0 rfl) ?_
    refine lv_iload_n hx hb dX3_isAllowed_12 rfl (lv_at hl 1 rfl) ?_
    refine r_call (As := [.int (plan)]) (rest := []) (ci := 3) X hP (c_X3_hasExcludingSites hp0 plan) o_X3_hasExcludingSites rfl hp0.lt hp0.ob m294 ⟨rfl, rfl⟩ ⟨Nat.le_of_ble_eq_true rfl, Nat.le_of_ble_eq_true rfl⟩ rfl hl.1 rfl (Nat.le_of_ble_eq_true rfl) ⟨Nat.zero_le _, Nat.zero_le _⟩ dX3_isAllowed_13 ?_
    refine q_neB (tgt := 23) hx hb dX3_isAllowed_16 (by decide) (fun c2 => ?_) (fun c2 => ?_)
    · refine lv_iconst (v := nI 0) hx hb dX3_isAllowed_23 (by decide) ?_
      exact kr 24 ls _ (b_f (by rw [f_X3_isAllowed, if_neg c1, if_pos c2] <;> rfl)) dX3_isAllowed_24
    · refine lv_iconst (v := nI 1) hx hb dX3_isAllowed_19 (by decide) ?_
      refine lv_goto (tgt := 24) hx hb dX3_isAllowed_20 (by decide) ?_
      exact kr 24 ls _ (b_t (by rw [f_X3_isAllowed, if_neg c1, if_neg (nt c2)] <;> rfl)) dX3_isAllowed_24
theorem o_X3_isAllowed : okV yX3_isAllowed cX3_isAllowed 2 (some .boolean) 1 := ⟨m290, m291, m35, m292, by decide +kernel, by decide +kernel, by decide +kernel⟩
def rmX3_verdictOf : Room := { frames := 4, cells := 0, slots := 0, locals := 88 }
def f_X3_verdictOf (x : PlC) (plan : Int32) : Int32 :=
  (if (pO x) < (f_J6_bitCount_0f7a4 plan) then nI 1 else (if (f_X3_hasExcludingSites x plan) = true then nI 2 else (if (f_X3_reachesAll x plan) = true then nI 0 else nI 3)))
set_option maxHeartbeats 4000000 in
set_option maxRecDepth 100000 in
theorem c_X3_verdictOf {l : Launch} {dd : va_G} {t : CL4} {N : Nat} {ad : Nat → Nat} {V : Nat → va_E} {b : Nat} {x : PlC}  (hp0 : PlP N ad V t b x) (plan : Int32)  : RM l dd t N ad V yX3_verdictOf cX3_verdictOf 2 (some .int) rmX3_verdictOf [.ref (ad b), .int (plan)] (f_X3_verdictOf x plan) := by
  refine RM.of (by decide +kernel) ⟨rfl, rfl⟩ (Nat.le_of_ble_eq_true rfl) (narI _) ?_
  intro p e s m as below meth c Q X H hP ls hl kr
  have X : WX p s m as c cX3_verdictOf 2 RX3 dd t := X
  have hx := X.1.1
  have hb := X.1.2.1
  have hl : lv_has ls 2 [(0, .ref (ad b)), (1, .int (plan))] := hl
  have hi0_0 := hp0.i0
  have hi0_1 := hp0.i1
  have hle0 := hp0.le
  refine lv_iload_n hx hb dX3_verdictOf_0 rfl (lv_at hl 1 rfl) ?_
  refine r_callS (As := [.int (plan)]) (rest := []) X hP (c_J6_bitCount_0f7a4 plan) o_J6_bitCount_0f7a4 m293 ⟨rfl, rfl⟩ ⟨Nat.le_of_ble_eq_true rfl, Nat.le_of_ble_eq_true rfl⟩ rfl hl.1 rfl (Nat.le_of_ble_eq_true rfl) ⟨Nat.zero_le _, Nat.zero_le _⟩ dX3_verdictOf_1 ?_
  refine lv_aload_n hx hb dX3_verdictOf_4 rfl (lv_at hl 0 rfl) ?_
  refine g_Pl_most X hP hp0 m49 dX3_verdictOf_5 ?_
  refine j_le (tgt := 13) hx hb dX3_verdictOf_8 (by decide) (fun c1 => ?_) (fun c1 => ?_)
  · refine lv_aload_n hx hb dX3_verdictOf_13 rfl (lv_at hl 0 rfl) ?_
    refine lv_iload_n hx hb dX3_verdictOf_14 rfl (lv_at hl 1 rfl) ?_
    refine r_call (As := [.int (plan)]) (rest := []) (ci := 3) X hP (c_X3_hasExcludingSites hp0 plan) o_X3_hasExcludingSites rfl hp0.lt hp0.ob m294 ⟨rfl, rfl⟩ ⟨Nat.le_of_ble_eq_true rfl, Nat.le_of_ble_eq_true rfl⟩ rfl hl.1 rfl (Nat.le_of_ble_eq_true rfl) ⟨Nat.zero_le _, Nat.zero_le _⟩ dX3_verdictOf_15 ?_
    refine q_eqB (tgt := 23) hx hb dX3_verdictOf_18 (by decide) (fun c2 => ?_) (fun c2 => ?_)
    · refine lv_aload_n hx hb dX3_verdictOf_23 rfl (lv_at hl 0 rfl) ?_
      refine lv_iload_n hx hb dX3_verdictOf_24 rfl (lv_at hl 1 rfl) ?_
      refine r_call (As := [.int (plan)]) (rest := []) (ci := 3) X hP (c_X3_reachesAll hp0 plan) o_X3_reachesAll rfl hp0.lt hp0.ob m613 ⟨rfl, rfl⟩ ⟨Nat.le_of_ble_eq_true rfl, Nat.le_of_ble_eq_true rfl⟩ rfl hl.1 rfl (Nat.le_of_ble_eq_true rfl) ⟨Nat.zero_le _, Nat.zero_le _⟩ dX3_verdictOf_25 ?_
      refine q_eqB (tgt := 35) hx hb dX3_verdictOf_28 (by decide) (fun c3 => ?_) (fun c3 => ?_)
      · refine lv_iconst (v := nI 3) hx hb dX3_verdictOf_35 (by decide) ?_
        exact kr 36 ls _ (Eq.symm (by rw [f_X3_verdictOf, if_neg c1, if_neg (nt c2), if_neg (nt c3)] <;> rfl)) dX3_verdictOf_36
      · refine lv_iconst (v := nI 0) hx hb dX3_verdictOf_31 (by decide) ?_
        refine lv_goto (tgt := 36) hx hb dX3_verdictOf_32 (by decide) ?_
        exact kr 36 ls _ (Eq.symm (by rw [f_X3_verdictOf, if_neg c1, if_neg (nt c2), if_pos c3] <;> rfl)) dX3_verdictOf_36
    · refine lv_iconst (v := nI 2) hx hb dX3_verdictOf_21 (by decide) ?_
      exact kr 22 ls _ (Eq.symm (by rw [f_X3_verdictOf, if_neg c1, if_pos c2] <;> rfl)) dX3_verdictOf_22
  · refine lv_iconst (v := nI 1) hx hb dX3_verdictOf_11 (by decide) ?_
    exact kr 12 ls _ (Eq.symm (by rw [f_X3_verdictOf, if_pos c1] <;> rfl)) dX3_verdictOf_12
theorem o_X3_verdictOf : okV yX3_verdictOf cX3_verdictOf 2 (some .int) 1 := ⟨m610, m611, m35, m612, by decide +kernel, by decide +kernel, by decide +kernel⟩
def rmX3_isFeasible : Room := { frames := 4, cells := 0, slots := 0, locals := 88 }
def f_X3_isFeasible (x : PlC) (plan : Int32) : Bool :=
  (if (f_X3_isAllowed x plan) = true then (if (f_X3_reachesAll x plan) = true then true else false) else false)
set_option maxHeartbeats 4000000 in
set_option maxRecDepth 100000 in
theorem c_X3_isFeasible {l : Launch} {dd : va_G} {t : CL4} {N : Nat} {ad : Nat → Nat} {V : Nat → va_E} {b : Nat} {x : PlC}  (hp0 : PlP N ad V t b x) (plan : Int32)  : RM l dd t N ad V yX3_isFeasible cX3_isFeasible 2 (some .boolean) rmX3_isFeasible [.ref (ad b), .int (plan)] (b01 (f_X3_isFeasible x plan)) := by
  refine RM.of (by decide +kernel) ⟨rfl, rfl⟩ (Nat.le_of_ble_eq_true rfl) (narB _) ?_
  intro p e s m as below meth c Q X H hP ls hl kr
  have X : WX p s m as c cX3_isFeasible 2 RX3 dd t := X
  have hx := X.1.1
  have hb := X.1.2.1
  have hl : lv_has ls 2 [(0, .ref (ad b)), (1, .int (plan))] := hl
  have hi0_0 := hp0.i0
  have hi0_1 := hp0.i1
  have hle0 := hp0.le
  refine lv_aload_n hx hb dX3_isFeasible_0 rfl (lv_at hl 0 rfl) ?_
  refine lv_iload_n hx hb dX3_isFeasible_1 rfl (lv_at hl 1 rfl) ?_
  refine r_call (As := [.int (plan)]) (rest := []) (ci := 3) X hP (c_X3_isAllowed hp0 plan) o_X3_isAllowed rfl hp0.lt hp0.ob m668 ⟨rfl, rfl⟩ ⟨Nat.le_of_ble_eq_true rfl, Nat.le_of_ble_eq_true rfl⟩ rfl hl.1 rfl (Nat.le_of_ble_eq_true rfl) ⟨Nat.zero_le _, Nat.zero_le _⟩ dX3_isFeasible_2 ?_
  refine q_eqB (tgt := 20) hx hb dX3_isFeasible_5 (by decide) (fun c1 => ?_) (fun c1 => ?_)
  · refine lv_iconst (v := nI 0) hx hb dX3_isFeasible_20 (by decide) ?_
    exact kr 21 ls _ (b_f (by rw [f_X3_isFeasible, if_neg (nt c1)] <;> rfl)) dX3_isFeasible_21
  · refine lv_aload_n hx hb dX3_isFeasible_8 rfl (lv_at hl 0 rfl) ?_
    refine lv_iload_n hx hb dX3_isFeasible_9 rfl (lv_at hl 1 rfl) ?_
    refine r_call (As := [.int (plan)]) (rest := []) (ci := 3) X hP (c_X3_reachesAll hp0 plan) o_X3_reachesAll rfl hp0.lt hp0.ob m613 ⟨rfl, rfl⟩ ⟨Nat.le_of_ble_eq_true rfl, Nat.le_of_ble_eq_true rfl⟩ rfl hl.1 rfl (Nat.le_of_ble_eq_true rfl) ⟨Nat.zero_le _, Nat.zero_le _⟩ dX3_isFeasible_10 ?_
    refine q_eqB (tgt := 20) hx hb dX3_isFeasible_13 (by decide) (fun c2 => ?_) (fun c2 => ?_)
    · refine lv_iconst (v := nI 0) hx hb dX3_isFeasible_20 (by decide) ?_
      exact kr 21 ls _ (b_f (by rw [f_X3_isFeasible, if_pos c1, if_neg (nt c2)] <;> rfl)) dX3_isFeasible_21
    · refine lv_iconst (v := nI 1) hx hb dX3_isFeasible_16 (by decide) ?_
      refine lv_goto (tgt := 21) hx hb dX3_isFeasible_17 (by decide) ?_
      exact kr 21 ls _ (b_t (by rw [f_X3_isFeasible, if_pos c1, if_pos c2] <;> rfl)) dX3_isFeasible_21
theorem o_X3_isFeasible : okV yX3_isFeasible cX3_isFeasible 2 (some .boolean) 1 := ⟨m665, m666, m35, m667, by decide +kernel, by decide +kernel, by decide +kernel⟩
def rmX3_findBestPlan : Room := { frames := 5, cells := 0, slots := 0, locals := 109 }
def l_X3_findBestPlan_6 (x : PlC) : Nat → Nat → Int32 → Int32 → Int32 × Int32
  | 0, ix_1, a1_1, a2_1 => (a1_1, a2_1)
  | dx_1 + 1, ix_1, a1_1, a2_1 => (if (f_X3_isFeasible x (nI ix_1)) = true then (if a1_1 = (-1) then l_X3_findBestPlan_6 x dx_1 (ix_1 + 1) (nI ix_1) (f_X3_costOf x (nI ix_1)) else (if (f_X3_costOf x (nI ix_1)) < a2_1 then l_X3_findBestPlan_6 x dx_1 (ix_1 + 1) (nI ix_1) (f_X3_costOf x (nI ix_1)) else l_X3_findBestPlan_6 x dx_1 (ix_1 + 1) a1_1 a2_1)) else l_X3_findBestPlan_6 x dx_1 (ix_1 + 1) a1_1 a2_1)
def f_X3_findBestPlan (x : PlC) : Int32 :=
  ((l_X3_findBestPlan_6 x (2 ^ pN x) 0 (-1) (nI 0)).1)
set_option maxHeartbeats 4000000 in
set_option maxRecDepth 100000 in
theorem c_X3_findBestPlan {l : Launch} {dd : va_G} {t : CL4} {N : Nat} {ad : Nat → Nat} {V : Nat → va_E} {b : Nat} {x : PlC}  (hp0 : PlP N ad V t b x)   : RM l dd t N ad V yX3_findBestPlan cX3_findBestPlan 4 (some .int) rmX3_findBestPlan [.ref (ad b)] (f_X3_findBestPlan x) := by
  refine RM.of (by decide +kernel) ⟨rfl, rfl⟩ (Nat.le_of_ble_eq_true rfl) (narI _) ?_
  intro p e s m as below meth c Q X H hP ls hl kr
  have X : WX p s m as c cX3_findBestPlan 4 RX3 dd t := X
  have hx := X.1.1
  have hb := X.1.2.1
  have hl : lv_has ls 4 [(0, .ref (ad b))] := hl
  have hi0_0 := hp0.i0
  have hi0_1 := hp0.i1
  have hle0 := hp0.le
  have hpw : 2 ^ pN x ≤ 128 := pow7 hi0_0
  refine lv_iconst (v := (-1)) hx hb dX3_findBestPlan_0 (by decide) ?_
  refine lv_istore_n (lv' := [(1, .int ((-1))), (0, .ref (ad b))]) hx hb dX3_findBestPlan_1 rfl hl (by decide) rfl (fun ls hl => ?_)
  refine lv_iconst (v := nI 0) hx hb dX3_findBestPlan_2 (by decide) ?_
  refine lv_istore_n (lv' := [(2, .int (nI 0)), (1, .int ((-1))), (0, .ref (ad b))]) hx hb dX3_findBestPlan_3 rfl hl (by decide) rfl (fun ls hl => ?_)
  refine lv_iconst (v := nI 0) hx hb dX3_findBestPlan_4 (by decide) ?_
  refine lv_istore_n (lv' := [(3, .int (nI 0)), (2, .int (nI 0)), (1, .int ((-1))), (0, .ref (ad b))]) hx hb dX3_findBestPlan_5 rfl hl (by decide) rfl (fun ls hl => ?_)
  have L1 : ∀ (dx_1 ix_1 : Nat) (a1_1 : Int32) (a2_1 : Int32) (ls : Array Slot), (ix_1 + dx_1 = 2 ^ pN x) → (l_X3_findBestPlan_6 x dx_1 ix_1 a1_1 a2_1 = l_X3_findBestPlan_6 x (2 ^ pN x) 0 (-1) (nI 0)) → (lv_has ls 4 [(0, .ref (ad b)), (1, .int (a1_1)), (2, .int (a2_1)), (3, .int (nI ix_1))]) → W p l e rmX3_findBestPlan s m as below meth c H [] 0 0 Q (F0 m 6 ls []) := by
    intro dx_1
    induction dx_1 with
    | zero =>
      intro ix_1 a1_1 a2_1 ls hid hvx_1 hl
      have hiN : 2 ^ pN x = ix_1 := by omega
      subst hiN
      have hvx_1 : (a1_1, a2_1) = l_X3_findBestPlan_6 x (2 ^ pN x) 0 (-1) (nI 0) := hvx_1
      have hh0 : a1_1 = (l_X3_findBestPlan_6 x (2 ^ pN x) 0 (-1) (nI 0)).1 := congrArg (fun q => (q).1) hvx_1
      have hh1 : a2_1 = (l_X3_findBestPlan_6 x (2 ^ pN x) 0 (-1) (nI 0)).2 := congrArg (fun q => (q).2) hvx_1
      subst hh0
      subst hh1
      refine lv_iload_n hx hb dX3_findBestPlan_6 rfl (lv_at hl 3 rfl) ?_
      refine lv_aload_n hx hb dX3_findBestPlan_7 rfl (lv_at hl 0 rfl) ?_
      refine r_call (As := []) (rest := [.int (nI (2 ^ pN x))]) (ci := 3) X hP (c_X3_planCount hp0) o_X3_planCount rfl hp0.lt hp0.ob m608 ⟨rfl, rfl⟩ ⟨Nat.le_of_ble_eq_true rfl, Nat.le_of_ble_eq_true rfl⟩ rfl hl.1 rfl (Nat.le_of_ble_eq_true rfl) ⟨Nat.zero_le _, Nat.zero_le _⟩ dX3_findBestPlan_8 ?_
      refine q_val (show nI (f_X3_planCount x) = nI (2 ^ pN x) from rfl) ?_
      refine q_ge (tgt := 50) hx hb (by omega) (by omega) dX3_findBestPlan_11 (by decide) (fun c2 => ?_) (fun h => absurd h (by omega))
      refine lv_iload_n hx hb dX3_findBestPlan_50 rfl (lv_at hl 1 rfl) ?_
      exact kr 51 ls _ (Eq.symm (by rw [f_X3_findBestPlan] <;> rfl)) dX3_findBestPlan_51
    | succ dx_1 ihx_1 =>
      intro ix_1 a1_1 a2_1 ls hid hvx_1 hl
      refine lv_iload_n hx hb dX3_findBestPlan_6 rfl (lv_at hl 3 rfl) ?_
      refine lv_aload_n hx hb dX3_findBestPlan_7 rfl (lv_at hl 0 rfl) ?_
      refine r_call (As := []) (rest := [.int (nI ix_1)]) (ci := 3) X hP (c_X3_planCount hp0) o_X3_planCount rfl hp0.lt hp0.ob m608 ⟨rfl, rfl⟩ ⟨Nat.le_of_ble_eq_true rfl, Nat.le_of_ble_eq_true rfl⟩ rfl hl.1 rfl (Nat.le_of_ble_eq_true rfl) ⟨Nat.zero_le _, Nat.zero_le _⟩ dX3_findBestPlan_8 ?_
      refine q_val (show nI (f_X3_planCount x) = nI (2 ^ pN x) from rfl) ?_
      refine q_ge (tgt := 50) hx hb (by omega) (by omega) dX3_findBestPlan_11 (by decide) (fun h => absurd h (by omega)) (fun c3 => ?_)
      refine lv_aload_n hx hb dX3_findBestPlan_14 rfl (lv_at hl 0 rfl) ?_
      refine lv_iload_n hx hb dX3_findBestPlan_15 rfl (lv_at hl 3 rfl) ?_
      refine r_call (As := [.int (nI ix_1)]) (rest := []) (ci := 3) X hP (c_X3_isFeasible hp0 (nI ix_1)) o_X3_isFeasible rfl hp0.lt hp0.ob m750 ⟨rfl, rfl⟩ ⟨Nat.le_of_ble_eq_true rfl, Nat.le_of_ble_eq_true rfl⟩ rfl hl.1 rfl (Nat.le_of_ble_eq_true rfl) ⟨Nat.zero_le _, Nat.zero_le _⟩ dX3_findBestPlan_16 ?_
      refine q_eqB (tgt := 44) hx hb dX3_findBestPlan_19 (by decide) (fun c4 => ?_) (fun c4 => ?_)
      · refine lv_iinc (v := nI (ix_1 + 1)) (lv' := [(3, .int (nI (ix_1 + 1))), (0, .ref (ad b)), (1, .int (a1_1)), (2, .int (a2_1))]) hx hb dX3_findBestPlan_44 hl (k := 3) rfl (nI_inc _) (by decide) rfl (fun ls hl => ?_)
        refine lv_goto (tgt := 6) hx hb dX3_findBestPlan_47 (by decide) ?_
        exact ihx_1 (ix_1 + 1) a1_1 a2_1 ls (by omega) (Eq.trans (Eq.symm (by rw [l_X3_findBestPlan_6, if_neg (nt c4)] <;> rfl)) hvx_1) (lv_sub hl [1, 2, 3, 0] rfl)
      · refine lv_iload_n hx hb dX3_findBestPlan_22 rfl (lv_at hl 1 rfl) ?_
        refine lv_iconst (v := (-1)) hx hb dX3_findBestPlan_23 (by decide) ?_
        refine lv_icmp_eq (tgt := 36) hx hb dX3_findBestPlan_24 (by decide) (fun c5 => ?_) (fun c5 => ?_)
        · refine lv_iload_n hx hb dX3_findBestPlan_36 rfl (lv_at hl 3 rfl) ?_
          refine lv_istore_n (lv' := [(1, .int (nI ix_1)), (0, .ref (ad b)), (2, .int (a2_1)), (3, .int (nI ix_1))]) hx hb dX3_findBestPlan_37 rfl hl (by decide) rfl (fun ls hl => ?_)
          refine lv_aload_n hx hb dX3_findBestPlan_38 rfl (lv_at hl 1 rfl) ?_
          refine lv_iload_n hx hb dX3_findBestPlan_39 rfl (lv_at hl 3 rfl) ?_
          refine r_call (As := [.int (nI ix_1)]) (rest := []) (ci := 3) X hP (c_X3_costOf hp0 (nI ix_1)) o_X3_costOf rfl hp0.lt hp0.ob m751 ⟨rfl, rfl⟩ ⟨Nat.le_of_ble_eq_true rfl, Nat.le_of_ble_eq_true rfl⟩ rfl hl.1 rfl (Nat.le_of_ble_eq_true rfl) ⟨Nat.zero_le _, Nat.zero_le _⟩ dX3_findBestPlan_40 ?_
          refine lv_istore_n (lv' := [(2, .int (f_X3_costOf x (nI ix_1))), (1, .int (nI ix_1)), (0, .ref (ad b)), (3, .int (nI ix_1))]) hx hb dX3_findBestPlan_43 rfl hl (by decide) rfl (fun ls hl => ?_)
          refine lv_iinc (v := nI (ix_1 + 1)) (lv' := [(3, .int (nI (ix_1 + 1))), (2, .int (f_X3_costOf x (nI ix_1))), (1, .int (nI ix_1)), (0, .ref (ad b))]) hx hb dX3_findBestPlan_44 hl (k := 3) rfl (nI_inc _) (by decide) rfl (fun ls hl => ?_)
          refine lv_goto (tgt := 6) hx hb dX3_findBestPlan_47 (by decide) ?_
          exact ihx_1 (ix_1 + 1) (nI ix_1) (f_X3_costOf x (nI ix_1)) ls (by omega) (Eq.trans (Eq.symm (by rw [l_X3_findBestPlan_6, if_pos c4, if_pos c5] <;> rfl)) hvx_1) (lv_sub hl [3, 2, 1, 0] rfl)
        · refine lv_aload_n hx hb dX3_findBestPlan_27 rfl (lv_at hl 0 rfl) ?_
          refine lv_iload_n hx hb dX3_findBestPlan_28 rfl (lv_at hl 3 rfl) ?_
          refine r_call (As := [.int (nI ix_1)]) (rest := []) (ci := 3) X hP (c_X3_costOf hp0 (nI ix_1)) o_X3_costOf rfl hp0.lt hp0.ob m751 ⟨rfl, rfl⟩ ⟨Nat.le_of_ble_eq_true rfl, Nat.le_of_ble_eq_true rfl⟩ rfl hl.1 rfl (Nat.le_of_ble_eq_true rfl) ⟨Nat.zero_le _, Nat.zero_le _⟩ dX3_findBestPlan_29 ?_
          refine lv_iload_n hx hb dX3_findBestPlan_32 rfl (lv_at hl 2 rfl) ?_
          refine j_ge (tgt := 44) hx hb dX3_findBestPlan_33 (by decide) (fun c6 => ?_) (fun c6 => ?_)
          · refine lv_iinc (v := nI (ix_1 + 1)) (lv' := [(3, .int (nI (ix_1 + 1))), (0, .ref (ad b)), (1, .int (a1_1)), (2, .int (a2_1))]) hx hb dX3_findBestPlan_44 hl (k := 3) rfl (nI_inc _) (by decide) rfl (fun ls hl => ?_)
            refine lv_goto (tgt := 6) hx hb dX3_findBestPlan_47 (by decide) ?_
            exact ihx_1 (ix_1 + 1) a1_1 a2_1 ls (by omega) (Eq.trans (Eq.symm (by rw [l_X3_findBestPlan_6, if_pos c4, if_neg c5, if_neg c6] <;> rfl)) hvx_1) (lv_sub hl [1, 2, 3, 0] rfl)
          · refine lv_iload_n hx hb dX3_findBestPlan_36 rfl (lv_at hl 3 rfl) ?_
            refine lv_istore_n (lv' := [(1, .int (nI ix_1)), (0, .ref (ad b)), (2, .int (a2_1)), (3, .int (nI ix_1))]) hx hb dX3_findBestPlan_37 rfl hl (by decide) rfl (fun ls hl => ?_)
            refine lv_aload_n hx hb dX3_findBestPlan_38 rfl (lv_at hl 1 rfl) ?_
            refine lv_iload_n hx hb dX3_findBestPlan_39 rfl (lv_at hl 3 rfl) ?_
            refine r_call (As := [.int (nI ix_1)]) (rest := []) (ci := 3) X hP (c_X3_costOf hp0 (nI ix_1)) o_X3_costOf rfl hp0.lt hp0.ob m751 ⟨rfl, rfl⟩ ⟨Nat.le_of_ble_eq_true rfl, Nat.le_of_ble_eq_true rfl⟩ rfl hl.1 rfl (Nat.le_of_ble_eq_true rfl) ⟨Nat.zero_le _, Nat.zero_le _⟩ dX3_findBestPlan_40 ?_
            refine lv_istore_n (lv' := [(2, .int (f_X3_costOf x (nI ix_1))), (1, .int (nI ix_1)), (0, .ref (ad b)), (3, .int (nI ix_1))]) hx hb dX3_findBestPlan_43 rfl hl (by decide) rfl (fun ls hl => ?_)
            refine lv_iinc (v := nI (ix_1 + 1)) (lv' := [(3, .int (nI (ix_1 + 1))), (2, .int (f_X3_costOf x (nI ix_1))), (1, .int (nI ix_1)), (0, .ref (ad b))]) hx hb dX3_findBestPlan_44 hl (k := 3) rfl (nI_inc _) (by decide) rfl (fun ls hl => ?_)
            refine lv_goto (tgt := 6) hx hb dX3_findBestPlan_47 (by decide) ?_
            exact ihx_1 (ix_1 + 1) (nI ix_1) (f_X3_costOf x (nI ix_1)) ls (by omega) (Eq.trans (Eq.symm (by rw [l_X3_findBestPlan_6, if_pos c4, if_neg c5, if_pos c6] <;> rfl)) hvx_1) (lv_sub hl [3, 2, 1, 0] rfl)
  exact L1 (2 ^ pN x) 0 (-1) (nI 0) ls (by omega) rfl (lv_sub hl [3, 2, 1, 0] rfl)
theorem o_X3_findBestPlan : okV yX3_findBestPlan cX3_findBestPlan 4 (some .int) 0 := ⟨m747, m748, m35, m749, by decide +kernel, by decide +kernel, by decide +kernel⟩
def rmX3_countFeasiblePlans : Room := { frames := 5, cells := 0, slots := 0, locals := 109 }
def l_X3_countFeasiblePlans_4 (x : PlC) : Nat → Nat → Nat → Nat
  | 0, ix_1, a1_1 => a1_1
  | dx_1 + 1, ix_1, a1_1 => (if (f_X3_isFeasible x (nI ix_1)) = true then l_X3_countFeasiblePlans_4 x dx_1 (ix_1 + 1) (a1_1 + 1) else l_X3_countFeasiblePlans_4 x dx_1 (ix_1 + 1) a1_1)
def f_X3_countFeasiblePlans (x : PlC) : Int32 :=
  nI (l_X3_countFeasiblePlans_4 x (2 ^ pN x) 0 0)
set_option maxHeartbeats 4000000 in
set_option maxRecDepth 100000 in
theorem c_X3_countFeasiblePlans {l : Launch} {dd : va_G} {t : CL4} {N : Nat} {ad : Nat → Nat} {V : Nat → va_E} {b : Nat} {x : PlC}  (hp0 : PlP N ad V t b x)   : RM l dd t N ad V yX3_countFeasiblePlans cX3_countFeasiblePlans 3 (some .int) rmX3_countFeasiblePlans [.ref (ad b)] (f_X3_countFeasiblePlans x) := by
  refine RM.of (by decide +kernel) ⟨rfl, rfl⟩ (Nat.le_of_ble_eq_true rfl) (narI _) ?_
  intro p e s m as below meth c Q X H hP ls hl kr
  have X : WX p s m as c cX3_countFeasiblePlans 3 RX3 dd t := X
  have hx := X.1.1
  have hb := X.1.2.1
  have hl : lv_has ls 3 [(0, .ref (ad b))] := hl
  have hi0_0 := hp0.i0
  have hi0_1 := hp0.i1
  have hle0 := hp0.le
  have hpw : 2 ^ pN x ≤ 128 := pow7 hi0_0
  refine lv_iconst (v := nI 0) hx hb dX3_countFeasiblePlans_0 (by decide) ?_
  refine lv_istore_n (lv' := [(1, .int (nI 0)), (0, .ref (ad b))]) hx hb dX3_countFeasiblePlans_1 rfl hl (by decide) rfl (fun ls hl => ?_)
  refine lv_iconst (v := nI 0) hx hb dX3_countFeasiblePlans_2 (by decide) ?_
  refine lv_istore_n (lv' := [(2, .int (nI 0)), (1, .int (nI 0)), (0, .ref (ad b))]) hx hb dX3_countFeasiblePlans_3 rfl hl (by decide) rfl (fun ls hl => ?_)
  have L1 : ∀ (dx_1 ix_1 : Nat) (a1_1 : Nat) (ls : Array Slot), (ix_1 + dx_1 = 2 ^ pN x) → (l_X3_countFeasiblePlans_4 x dx_1 ix_1 a1_1 = l_X3_countFeasiblePlans_4 x (2 ^ pN x) 0 0) → (lv_has ls 3 [(0, .ref (ad b)), (1, .int (nI a1_1)), (2, .int (nI ix_1))]) → W p l e rmX3_countFeasiblePlans s m as below meth c H [] 0 0 Q (F0 m 4 ls []) := by
    intro dx_1
    induction dx_1 with
    | zero =>
      intro ix_1 a1_1 ls hid hvx_1 hl
      have hiN : 2 ^ pN x = ix_1 := by omega
      subst hiN
      have hvx_1 : a1_1 = l_X3_countFeasiblePlans_4 x (2 ^ pN x) 0 0 := hvx_1
      have hh0 : a1_1 = l_X3_countFeasiblePlans_4 x (2 ^ pN x) 0 0 := hvx_1
      subst hh0
      refine lv_iload_n hx hb dX3_countFeasiblePlans_4 rfl (lv_at hl 2 rfl) ?_
      refine lv_aload_n hx hb dX3_countFeasiblePlans_5 rfl (lv_at hl 0 rfl) ?_
      refine r_call (As := []) (rest := [.int (nI (2 ^ pN x))]) (ci := 3) X hP (c_X3_planCount hp0) o_X3_planCount rfl hp0.lt hp0.ob m608 ⟨rfl, rfl⟩ ⟨Nat.le_of_ble_eq_true rfl, Nat.le_of_ble_eq_true rfl⟩ rfl hl.1 rfl (Nat.le_of_ble_eq_true rfl) ⟨Nat.zero_le _, Nat.zero_le _⟩ dX3_countFeasiblePlans_6 ?_
      refine q_val (show nI (f_X3_planCount x) = nI (2 ^ pN x) from rfl) ?_
      refine q_ge (tgt := 29) hx hb (by omega) (by omega) dX3_countFeasiblePlans_9 (by decide) (fun c2 => ?_) (fun h => absurd h (by omega))
      refine lv_iload_n hx hb dX3_countFeasiblePlans_29 rfl (lv_at hl 1 rfl) ?_
      exact kr 30 ls _ (Eq.symm (by rw [f_X3_countFeasiblePlans] <;> rfl)) dX3_countFeasiblePlans_30
    | succ dx_1 ihx_1 =>
      intro ix_1 a1_1 ls hid hvx_1 hl
      refine lv_iload_n hx hb dX3_countFeasiblePlans_4 rfl (lv_at hl 2 rfl) ?_
      refine lv_aload_n hx hb dX3_countFeasiblePlans_5 rfl (lv_at hl 0 rfl) ?_
      refine r_call (As := []) (rest := [.int (nI ix_1)]) (ci := 3) X hP (c_X3_planCount hp0) o_X3_planCount rfl hp0.lt hp0.ob m608 ⟨rfl, rfl⟩ ⟨Nat.le_of_ble_eq_true rfl, Nat.le_of_ble_eq_true rfl⟩ rfl hl.1 rfl (Nat.le_of_ble_eq_true rfl) ⟨Nat.zero_le _, Nat.zero_le _⟩ dX3_countFeasiblePlans_6 ?_
      refine q_val (show nI (f_X3_planCount x) = nI (2 ^ pN x) from rfl) ?_
      refine q_ge (tgt := 29) hx hb (by omega) (by omega) dX3_countFeasiblePlans_9 (by decide) (fun h => absurd h (by omega)) (fun c3 => ?_)
      refine lv_aload_n hx hb dX3_countFeasiblePlans_12 rfl (lv_at hl 0 rfl) ?_
      refine lv_iload_n hx hb dX3_countFeasiblePlans_13 rfl (lv_at hl 2 rfl) ?_
      refine r_call (As := [.int (nI ix_1)]) (rest := []) (ci := 3) X hP (c_X3_isFeasible hp0 (nI ix_1)) o_X3_isFeasible rfl hp0.lt hp0.ob m750 ⟨rfl, rfl⟩ ⟨Nat.le_of_ble_eq_true rfl, Nat.le_of_ble_eq_true rfl⟩ rfl hl.1 rfl (Nat.le_of_ble_eq_true rfl) ⟨Nat.zero_le _, Nat.zero_le _⟩ dX3_countFeasiblePlans_14 ?_
      refine q_eqB (tgt := 23) hx hb dX3_countFeasiblePlans_17 (by decide) (fun c4 => ?_) (fun c4 => ?_)
      · refine lv_iinc (v := nI (ix_1 + 1)) (lv' := [(2, .int (nI (ix_1 + 1))), (0, .ref (ad b)), (1, .int (nI a1_1))]) hx hb dX3_countFeasiblePlans_23 hl (k := 2) rfl (nI_inc _) (by decide) rfl (fun ls hl => ?_)
        refine lv_goto (tgt := 4) hx hb dX3_countFeasiblePlans_26 (by decide) ?_
        exact ihx_1 (ix_1 + 1) a1_1 ls (by omega) (Eq.trans (Eq.symm (by rw [l_X3_countFeasiblePlans_4, if_neg (nt c4)] <;> rfl)) hvx_1) (lv_sub hl [1, 2, 0] rfl)
      · refine lv_iinc (v := nI (a1_1 + 1)) (lv' := [(1, .int (nI (a1_1 + 1))), (0, .ref (ad b)), (2, .int (nI ix_1))]) hx hb dX3_countFeasiblePlans_20 hl (k := 1) rfl (nI_inc _) (by decide) rfl (fun ls hl => ?_)
        refine lv_iinc (v := nI (ix_1 + 1)) (lv' := [(2, .int (nI (ix_1 + 1))), (1, .int (nI (a1_1 + 1))), (0, .ref (ad b))]) hx hb dX3_countFeasiblePlans_23 hl (k := 2) rfl (nI_inc _) (by decide) rfl (fun ls hl => ?_)
        refine lv_goto (tgt := 4) hx hb dX3_countFeasiblePlans_26 (by decide) ?_
        exact ihx_1 (ix_1 + 1) (a1_1 + 1) ls (by omega) (Eq.trans (Eq.symm (by rw [l_X3_countFeasiblePlans_4, if_pos c4] <;> rfl)) hvx_1) (lv_sub hl [2, 1, 0] rfl)
  exact L1 (2 ^ pN x) 0 0 ls (by omega) rfl (lv_sub hl [2, 1, 0] rfl)
theorem o_X3_countFeasiblePlans : okV yX3_countFeasiblePlans cX3_countFeasiblePlans 3 (some .int) 0 := ⟨m753, m754, m35, m755, by decide +kernel, by decide +kernel, by decide +kernel⟩
def rmX3_countRoutes : Room := { frames := 1, cells := 0, slots := 0, locals := 22 }
def l_X3_countRoutes_14 (x : PlC) (ix_1 : Nat) (a1_1 : Nat) : Nat → Nat → Nat → Nat
  | 0, ix_4, a1_4 => a1_4
  | dx_4 + 1, ix_4, a1_4 => (if (f_X3_hasRoute x ix_1 ix_4) = true then l_X3_countRoutes_14 x ix_1 a1_1 dx_4 (ix_4 + 1) (a1_4 + 1) else l_X3_countRoutes_14 x ix_1 a1_1 dx_4 (ix_4 + 1) a1_4)
def l_X3_countRoutes_4 (x : PlC) : Nat → Nat → Nat → Nat
  | 0, ix_1, a1_1 => a1_1
  | dx_1 + 1, ix_1, a1_1 => l_X3_countRoutes_4 x dx_1 (ix_1 + 1) (l_X3_countRoutes_14 x ix_1 a1_1 (pM x) 0 a1_1)
def f_X3_countRoutes (x : PlC) : Int32 :=
  nI (l_X3_countRoutes_4 x (pN x) 0 0)
set_option maxHeartbeats 4000000 in
set_option maxRecDepth 100000 in
theorem c_X3_countRoutes {l : Launch} {dd : va_G} {t : CL4} {N : Nat} {ad : Nat → Nat} {V : Nat → va_E} {b : Nat} {x : PlC}  (hp0 : PlP N ad V t b x)   : RM l dd t N ad V yX3_countRoutes cX3_countRoutes 4 (some .int) rmX3_countRoutes [.ref (ad b)] (f_X3_countRoutes x) := by
  refine RM.of (by decide +kernel) ⟨rfl, rfl⟩ (Nat.le_of_ble_eq_true rfl) (narI _) ?_
  intro p e s m as below meth c Q X H hP ls hl kr
  have X : WX p s m as c cX3_countRoutes 4 RX3 dd t := X
  have hx := X.1.1
  have hb := X.1.2.1
  have hl : lv_has ls 4 [(0, .ref (ad b))] := hl
  have hi0_0 := hp0.i0
  have hi0_1 := hp0.i1
  have hle0 := hp0.le
  refine lv_iconst (v := nI 0) hx hb dX3_countRoutes_0 (by decide) ?_
  refine lv_istore_n (lv' := [(1, .int (nI 0)), (0, .ref (ad b))]) hx hb dX3_countRoutes_1 rfl hl (by decide) rfl (fun ls hl => ?_)
  refine lv_iconst (v := nI 0) hx hb dX3_countRoutes_2 (by decide) ?_
  refine lv_istore_n (lv' := [(2, .int (nI 0)), (1, .int (nI 0)), (0, .ref (ad b))]) hx hb dX3_countRoutes_3 rfl hl (by decide) rfl (fun ls hl => ?_)
  have L1 : ∀ (dx_1 ix_1 : Nat) (a1_1 : Nat) (ls : Array Slot), (ix_1 + dx_1 = pN x) → (l_X3_countRoutes_4 x dx_1 ix_1 a1_1 = l_X3_countRoutes_4 x (pN x) 0 0) → (lv_has ls 4 [(0, .ref (ad b)), (1, .int (nI a1_1)), (2, .int (nI ix_1))]) → W p l e rmX3_countRoutes s m as below meth c H [] 0 0 Q (F0 m 4 ls []) := by
    intro dx_1
    induction dx_1 with
    | zero =>
      intro ix_1 a1_1 ls hid hvx_1 hl
      have hiN : pN x = ix_1 := by omega
      subst hiN
      have hvx_1 : a1_1 = l_X3_countRoutes_4 x (pN x) 0 0 := hvx_1
      have hh0 : a1_1 = l_X3_countRoutes_4 x (pN x) 0 0 := hvx_1
      subst hh0
      refine lv_iload_n hx hb dX3_countRoutes_4 rfl (lv_at hl 2 rfl) ?_
      refine lv_aload_n hx hb dX3_countRoutes_5 rfl (lv_at hl 0 rfl) ?_
      refine g_Pl_siteCount X hP hp0 m47 dX3_countRoutes_6 ?_
      refine q_ge (tgt := 46) hx hb (by omega) (by omega) dX3_countRoutes_9 (by decide) (fun c2 => ?_) (fun h => absurd h (by omega))
      refine lv_iload_n hx hb dX3_countRoutes_46 rfl (lv_at hl 1 rfl) ?_
      exact kr 47 ls _ (Eq.symm (by rw [f_X3_countRoutes] <;> rfl)) dX3_countRoutes_47
    | succ dx_1 ihx_1 =>
      intro ix_1 a1_1 ls hid hvx_1 hl
      refine lv_iload_n hx hb dX3_countRoutes_4 rfl (lv_at hl 2 rfl) ?_
      refine lv_aload_n hx hb dX3_countRoutes_5 rfl (lv_at hl 0 rfl) ?_
      refine g_Pl_siteCount X hP hp0 m47 dX3_countRoutes_6 ?_
      refine q_ge (tgt := 46) hx hb (by omega) (by omega) dX3_countRoutes_9 (by decide) (fun h => absurd h (by omega)) (fun c3 => ?_)
      refine lv_iconst (v := nI 0) hx hb dX3_countRoutes_12 (by decide) ?_
      refine lv_istore_n (lv' := [(3, .int (nI 0)), (0, .ref (ad b)), (1, .int (nI a1_1)), (2, .int (nI ix_1))]) hx hb dX3_countRoutes_13 rfl hl (by decide) rfl (fun ls hl => ?_)
      have L4 : ∀ (dx_4 ix_4 : Nat) (a1_4 : Nat) (ls : Array Slot), (ix_4 + dx_4 = pM x) → (l_X3_countRoutes_14 x ix_1 a1_1 dx_4 ix_4 a1_4 = l_X3_countRoutes_14 x ix_1 a1_1 (pM x) 0 a1_1) → (lv_has ls 4 [(0, .ref (ad b)), (1, .int (nI a1_4)), (2, .int (nI ix_1)), (3, .int (nI ix_4))]) → W p l e rmX3_countRoutes s m as below meth c H [] 0 0 Q (F0 m 14 ls []) := by
        intro dx_4
        induction dx_4 with
        | zero =>
          intro ix_4 a1_4 ls hid hvx_4 hl
          have hiN : pM x = ix_4 := by omega
          subst hiN
          have hvx_4 : a1_4 = l_X3_countRoutes_14 x ix_1 a1_1 (pM x) 0 a1_1 := hvx_4
          have hh0 : a1_4 = l_X3_countRoutes_14 x ix_1 a1_1 (pM x) 0 a1_1 := hvx_4
          subst hh0
          refine lv_iload_n hx hb dX3_countRoutes_14 rfl (lv_at hl 3 rfl) ?_
          refine lv_aload_n hx hb dX3_countRoutes_15 rfl (lv_at hl 0 rfl) ?_
          refine g_Pl_customerCount X hP hp0 m48 dX3_countRoutes_16 ?_
          refine q_ge (tgt := 40) hx hb (by omega) (by omega) dX3_countRoutes_19 (by decide) (fun c5 => ?_) (fun h => absurd h (by omega))
          refine lv_iinc (v := nI (ix_1 + 1)) (lv' := [(2, .int (nI (ix_1 + 1))), (0, .ref (ad b)), (1, .int (nI (l_X3_countRoutes_14 x ix_1 a1_1 (pM x) 0 a1_1))), (3, .int (nI (pM x)))]) hx hb dX3_countRoutes_40 hl (k := 2) rfl (nI_inc _) (by decide) rfl (fun ls hl => ?_)
          refine lv_goto (tgt := 4) hx hb dX3_countRoutes_43 (by decide) ?_
          exact ihx_1 (ix_1 + 1) (l_X3_countRoutes_14 x ix_1 a1_1 (pM x) 0 a1_1) ls (by omega) (Eq.trans (Eq.symm (by rw [l_X3_countRoutes_4] <;> rfl)) hvx_1) (lv_sub hl [1, 2, 0] rfl)
        | succ dx_4 ihx_4 =>
          intro ix_4 a1_4 ls hid hvx_4 hl
          refine lv_iload_n hx hb dX3_countRoutes_14 rfl (lv_at hl 3 rfl) ?_
          refine lv_aload_n hx hb dX3_countRoutes_15 rfl (lv_at hl 0 rfl) ?_
          refine g_Pl_customerCount X hP hp0 m48 dX3_countRoutes_16 ?_
          refine q_ge (tgt := 40) hx hb (by omega) (by omega) dX3_countRoutes_19 (by decide) (fun h => absurd h (by omega)) (fun c6 => ?_)
          refine lv_aload_n hx hb dX3_countRoutes_22 rfl (lv_at hl 0 rfl) ?_
          refine lv_iload_n hx hb dX3_countRoutes_23 rfl (lv_at hl 2 rfl) ?_
          refine lv_iload_n hx hb dX3_countRoutes_24 rfl (lv_at hl 3 rfl) ?_
          refine r_call (As := [.int (nI ix_1), .int (nI ix_4)]) (rest := []) (ci := 3) X hP (c_X3_hasRoute hp0 ix_1 ix_4 (by omega) (by omega)) o_X3_hasRoute rfl hp0.lt hp0.ob m648 ⟨rfl, rfl⟩ ⟨Nat.le_of_ble_eq_true rfl, Nat.le_of_ble_eq_true rfl⟩ rfl hl.1 rfl (Nat.le_of_ble_eq_true rfl) ⟨Nat.zero_le _, Nat.zero_le _⟩ dX3_countRoutes_25 ?_
          refine q_eqB (tgt := 34) hx hb dX3_countRoutes_28 (by decide) (fun c7 => ?_) (fun c7 => ?_)
          · refine lv_iinc (v := nI (ix_4 + 1)) (lv' := [(3, .int (nI (ix_4 + 1))), (0, .ref (ad b)), (1, .int (nI a1_4)), (2, .int (nI ix_1))]) hx hb dX3_countRoutes_34 hl (k := 3) rfl (nI_inc _) (by decide) rfl (fun ls hl => ?_)
            refine lv_goto (tgt := 14) hx hb dX3_countRoutes_37 (by decide) ?_
            exact ihx_4 (ix_4 + 1) a1_4 ls (by omega) (Eq.trans (Eq.symm (by rw [l_X3_countRoutes_14, if_neg (nt c7)] <;> rfl)) hvx_4) (lv_sub hl [1, 2, 3, 0] rfl)
          · refine lv_iinc (v := nI (a1_4 + 1)) (lv' := [(1, .int (nI (a1_4 + 1))), (0, .ref (ad b)), (2, .int (nI ix_1)), (3, .int (nI ix_4))]) hx hb dX3_countRoutes_31 hl (k := 1) rfl (nI_inc _) (by decide) rfl (fun ls hl => ?_)
            refine lv_iinc (v := nI (ix_4 + 1)) (lv' := [(3, .int (nI (ix_4 + 1))), (1, .int (nI (a1_4 + 1))), (0, .ref (ad b)), (2, .int (nI ix_1))]) hx hb dX3_countRoutes_34 hl (k := 3) rfl (nI_inc _) (by decide) rfl (fun ls hl => ?_)
            refine lv_goto (tgt := 14) hx hb dX3_countRoutes_37 (by decide) ?_
            exact ihx_4 (ix_4 + 1) (a1_4 + 1) ls (by omega) (Eq.trans (Eq.symm (by rw [l_X3_countRoutes_14, if_pos c7] <;> rfl)) hvx_4) (lv_sub hl [2, 1, 3, 0] rfl)
      exact L4 (pM x) 0 a1_1 ls (by omega) rfl (lv_sub hl [1, 2, 3, 0] rfl)
  exact L1 (pN x) 0 0 ls (by omega) rfl (lv_sub hl [2, 1, 0] rfl)
theorem o_X3_countRoutes : okV yX3_countRoutes cX3_countRoutes 4 (some .int) 0 := ⟨m766, m767, m35, m768, by decide +kernel, by decide +kernel, by decide +kernel⟩
def rmX3_countExcludingPairs : Room := { frames := 2, cells := 0, slots := 0, locals := 43 }
def l_X3_countExcludingPairs_14 (x : PlC) (ix_1 : Nat) (a1_1 : Nat) : Nat → Nat → Nat → Nat
  | 0, ix_4, a1_4 => a1_4
  | dx_4 + 1, ix_4, a1_4 => (if (f_X3_areExcluding x ix_1 ix_4) = true then l_X3_countExcludingPairs_14 x ix_1 a1_1 dx_4 (ix_4 + 1) (a1_4 + 1) else l_X3_countExcludingPairs_14 x ix_1 a1_1 dx_4 (ix_4 + 1) a1_4)
def l_X3_countExcludingPairs_4 (x : PlC) : Nat → Nat → Nat → Nat
  | 0, ix_1, a1_1 => a1_1
  | dx_1 + 1, ix_1, a1_1 => l_X3_countExcludingPairs_4 x dx_1 (ix_1 + 1) (l_X3_countExcludingPairs_14 x ix_1 a1_1 ix_1 0 a1_1)
def f_X3_countExcludingPairs (x : PlC) : Int32 :=
  nI (l_X3_countExcludingPairs_4 x (pN x) 0 0)
set_option maxHeartbeats 4000000 in
set_option maxRecDepth 100000 in
theorem c_X3_countExcludingPairs {l : Launch} {dd : va_G} {t : CL4} {N : Nat} {ad : Nat → Nat} {V : Nat → va_E} {b : Nat} {x : PlC}  (hp0 : PlP N ad V t b x)   : RM l dd t N ad V yX3_countExcludingPairs cX3_countExcludingPairs 4 (some .int) rmX3_countExcludingPairs [.ref (ad b)] (f_X3_countExcludingPairs x) := by
  refine RM.of (by decide +kernel) ⟨rfl, rfl⟩ (Nat.le_of_ble_eq_true rfl) (narI _) ?_
  intro p e s m as below meth c Q X H hP ls hl kr
  have X : WX p s m as c cX3_countExcludingPairs 4 RX3 dd t := X
  have hx := X.1.1
  have hb := X.1.2.1
  have hl : lv_has ls 4 [(0, .ref (ad b))] := hl
  have hi0_0 := hp0.i0
  have hi0_1 := hp0.i1
  have hle0 := hp0.le
  refine lv_iconst (v := nI 0) hx hb dX3_countExcludingPairs_0 (by decide) ?_
  refine lv_istore_n (lv' := [(1, .int (nI 0)), (0, .ref (ad b))]) hx hb dX3_countExcludingPairs_1 rfl hl (by decide) rfl (fun ls hl => ?_)
  refine lv_iconst (v := nI 0) hx hb dX3_countExcludingPairs_2 (by decide) ?_
  refine lv_istore_n (lv' := [(2, .int (nI 0)), (1, .int (nI 0)), (0, .ref (ad b))]) hx hb dX3_countExcludingPairs_3 rfl hl (by decide) rfl (fun ls hl => ?_)
  have L1 : ∀ (dx_1 ix_1 : Nat) (a1_1 : Nat) (ls : Array Slot), (ix_1 + dx_1 = pN x) → (l_X3_countExcludingPairs_4 x dx_1 ix_1 a1_1 = l_X3_countExcludingPairs_4 x (pN x) 0 0) → (lv_has ls 4 [(0, .ref (ad b)), (1, .int (nI a1_1)), (2, .int (nI ix_1))]) → W p l e rmX3_countExcludingPairs s m as below meth c H [] 0 0 Q (F0 m 4 ls []) := by
    intro dx_1
    induction dx_1 with
    | zero =>
      intro ix_1 a1_1 ls hid hvx_1 hl
      have hiN : pN x = ix_1 := by omega
      subst hiN
      have hvx_1 : a1_1 = l_X3_countExcludingPairs_4 x (pN x) 0 0 := hvx_1
      have hh0 : a1_1 = l_X3_countExcludingPairs_4 x (pN x) 0 0 := hvx_1
      subst hh0
      refine lv_iload_n hx hb dX3_countExcludingPairs_4 rfl (lv_at hl 2 rfl) ?_
      refine lv_aload_n hx hb dX3_countExcludingPairs_5 rfl (lv_at hl 0 rfl) ?_
      refine g_Pl_siteCount X hP hp0 m47 dX3_countExcludingPairs_6 ?_
      refine q_ge (tgt := 43) hx hb (by omega) (by omega) dX3_countExcludingPairs_9 (by decide) (fun c2 => ?_) (fun h => absurd h (by omega))
      refine lv_iload_n hx hb dX3_countExcludingPairs_43 rfl (lv_at hl 1 rfl) ?_
      exact kr 44 ls _ (Eq.symm (by rw [f_X3_countExcludingPairs] <;> rfl)) dX3_countExcludingPairs_44
    | succ dx_1 ihx_1 =>
      intro ix_1 a1_1 ls hid hvx_1 hl
      refine lv_iload_n hx hb dX3_countExcludingPairs_4 rfl (lv_at hl 2 rfl) ?_
      refine lv_aload_n hx hb dX3_countExcludingPairs_5 rfl (lv_at hl 0 rfl) ?_
      refine g_Pl_siteCount X hP hp0 m47 dX3_countExcludingPairs_6 ?_
      refine q_ge (tgt := 43) hx hb (by omega) (by omega) dX3_countExcludingPairs_9 (by decide) (fun h => absurd h (by omega)) (fun c3 => ?_)
      refine lv_iconst (v := nI 0) hx hb dX3_countExcludingPairs_12 (by decide) ?_
      refine lv_istore_n (lv' := [(3, .int (nI 0)), (0, .ref (ad b)), (1, .int (nI a1_1)), (2, .int (nI ix_1))]) hx hb dX3_countExcludingPairs_13 rfl hl (by decide) rfl (fun ls hl => ?_)
      have L4 : ∀ (dx_4 ix_4 : Nat) (a1_4 : Nat) (ls : Array Slot), (ix_4 + dx_4 = ix_1) → (l_X3_countExcludingPairs_14 x ix_1 a1_1 dx_4 ix_4 a1_4 = l_X3_countExcludingPairs_14 x ix_1 a1_1 ix_1 0 a1_1) → (lv_has ls 4 [(0, .ref (ad b)), (1, .int (nI a1_4)), (2, .int (nI ix_1)), (3, .int (nI ix_4))]) → W p l e rmX3_countExcludingPairs s m as below meth c H [] 0 0 Q (F0 m 14 ls []) := by
        intro dx_4
        induction dx_4 with
        | zero =>
          intro ix_4 a1_4 ls hid hvx_4 hl
          have hiN : ix_1 = ix_4 := by omega
          subst hiN
          have hvx_4 : a1_4 = l_X3_countExcludingPairs_14 x ix_1 a1_1 ix_1 0 a1_1 := hvx_4
          have hh0 : a1_4 = l_X3_countExcludingPairs_14 x ix_1 a1_1 ix_1 0 a1_1 := hvx_4
          subst hh0
          refine lv_iload_n hx hb dX3_countExcludingPairs_14 rfl (lv_at hl 3 rfl) ?_
          refine lv_iload_n hx hb dX3_countExcludingPairs_15 rfl (lv_at hl 2 rfl) ?_
          refine q_ge (tgt := 37) hx hb (by omega) (by omega) dX3_countExcludingPairs_16 (by decide) (fun c5 => ?_) (fun h => absurd h (by omega))
          refine lv_iinc (v := nI (ix_1 + 1)) (lv' := [(2, .int (nI (ix_1 + 1))), (0, .ref (ad b)), (1, .int (nI (l_X3_countExcludingPairs_14 x ix_1 a1_1 ix_1 0 a1_1))), (3, .int (nI ix_1))]) hx hb dX3_countExcludingPairs_37 hl (k := 2) rfl (nI_inc _) (by decide) rfl (fun ls hl => ?_)
          refine lv_goto (tgt := 4) hx hb dX3_countExcludingPairs_40 (by decide) ?_
          exact ihx_1 (ix_1 + 1) (l_X3_countExcludingPairs_14 x ix_1 a1_1 ix_1 0 a1_1) ls (by omega) (Eq.trans (Eq.symm (by rw [l_X3_countExcludingPairs_4] <;> rfl)) hvx_1) (lv_sub hl [1, 2, 0] rfl)
        | succ dx_4 ihx_4 =>
          intro ix_4 a1_4 ls hid hvx_4 hl
          refine lv_iload_n hx hb dX3_countExcludingPairs_14 rfl (lv_at hl 3 rfl) ?_
          refine lv_iload_n hx hb dX3_countExcludingPairs_15 rfl (lv_at hl 2 rfl) ?_
          refine q_ge (tgt := 37) hx hb (by omega) (by omega) dX3_countExcludingPairs_16 (by decide) (fun h => absurd h (by omega)) (fun c6 => ?_)
          refine lv_aload_n hx hb dX3_countExcludingPairs_19 rfl (lv_at hl 0 rfl) ?_
          refine lv_iload_n hx hb dX3_countExcludingPairs_20 rfl (lv_at hl 2 rfl) ?_
          refine lv_iload_n hx hb dX3_countExcludingPairs_21 rfl (lv_at hl 3 rfl) ?_
          refine r_call (As := [.int (nI ix_1), .int (nI ix_4)]) (rest := []) (ci := 3) X hP (c_X3_areExcluding hp0 ix_1 ix_4 (by omega)) o_X3_areExcluding rfl hp0.lt hp0.ob m773 ⟨rfl, rfl⟩ ⟨Nat.le_of_ble_eq_true rfl, Nat.le_of_ble_eq_true rfl⟩ rfl hl.1 rfl (Nat.le_of_ble_eq_true rfl) ⟨Nat.zero_le _, Nat.zero_le _⟩ dX3_countExcludingPairs_22 ?_
          refine q_eqB (tgt := 31) hx hb dX3_countExcludingPairs_25 (by decide) (fun c7 => ?_) (fun c7 => ?_)
          · refine lv_iinc (v := nI (ix_4 + 1)) (lv' := [(3, .int (nI (ix_4 + 1))), (0, .ref (ad b)), (1, .int (nI a1_4)), (2, .int (nI ix_1))]) hx hb dX3_countExcludingPairs_31 hl (k := 3) rfl (nI_inc _) (by decide) rfl (fun ls hl => ?_)
            refine lv_goto (tgt := 14) hx hb dX3_countExcludingPairs_34 (by decide) ?_
            exact ihx_4 (ix_4 + 1) a1_4 ls (by omega) (Eq.trans (Eq.symm (by rw [l_X3_countExcludingPairs_14, if_neg (nt c7)] <;> rfl)) hvx_4) (lv_sub hl [1, 2, 3, 0] rfl)
          · refine lv_iinc (v := nI (a1_4 + 1)) (lv' := [(1, .int (nI (a1_4 + 1))), (0, .ref (ad b)), (2, .int (nI ix_1)), (3, .int (nI ix_4))]) hx hb dX3_countExcludingPairs_28 hl (k := 1) rfl (nI_inc _) (by decide) rfl (fun ls hl => ?_)
            refine lv_iinc (v := nI (ix_4 + 1)) (lv' := [(3, .int (nI (ix_4 + 1))), (1, .int (nI (a1_4 + 1))), (0, .ref (ad b)), (2, .int (nI ix_1))]) hx hb dX3_countExcludingPairs_31 hl (k := 3) rfl (nI_inc _) (by decide) rfl (fun ls hl => ?_)
            refine lv_goto (tgt := 14) hx hb dX3_countExcludingPairs_34 (by decide) ?_
            exact ihx_4 (ix_4 + 1) (a1_4 + 1) ls (by omega) (Eq.trans (Eq.symm (by rw [l_X3_countExcludingPairs_14, if_pos c7] <;> rfl)) hvx_4) (lv_sub hl [2, 1, 3, 0] rfl)
      exact L4 ix_1 0 a1_1 ls (by omega) rfl (lv_sub hl [1, 2, 3, 0] rfl)
  exact L1 (pN x) 0 0 ls (by omega) rfl (lv_sub hl [2, 1, 0] rfl)
theorem o_X3_countExcludingPairs : okV yX3_countExcludingPairs cX3_countExcludingPairs 4 (some .int) 0 := ⟨m770, m771, m35, m772, by decide +kernel, by decide +kernel, by decide +kernel⟩
def rmX1_isCut : Room := { frames := 0, cells := 0, slots := 0, locals := 0 }
def f_X1_isCut (y : CuC) (cut : Int32) : Bool :=
  (if cut < 0 then false else (if cut < (nI (kA y)) then true else false))
set_option maxHeartbeats 4000000 in
set_option maxRecDepth 100000 in
theorem c_X1_isCut {l : Launch} {dd : va_G} {t : CL4} {N : Nat} {ad : Nat → Nat} {V : Nat → va_E} {b : Nat} {y : CuC}  (hp0 : CuP N ad V t b y) (cut : Int32)  : RM l dd t N ad V yX1_isCut cX1_isCut 2 (some .boolean) rmX1_isCut [.ref (ad b), .int (cut)] (b01 (f_X1_isCut y cut)) := by
  refine RM.of (by decide +kernel) ⟨rfl, rfl⟩ (Nat.le_of_ble_eq_true rfl) (narB _) ?_
  intro p e s m as below meth c Q X H hP ls hl kr
  have X : WX p s m as c cX1_isCut 2 RX1 dd t := X
  have hx := X.1.1
  have hb := X.1.2.1
  have hl : lv_has ls 2 [(0, .ref (ad b)), (1, .int (cut))] := hl
  have hi0_0 := hp0.i0
  have hle0 := hp0.le
  refine lv_iload_n hx hb dX1_isCut_0 rfl (lv_at hl 1 rfl) ?_
  refine u_lt (tgt := 16) hx hb dX1_isCut_1 (by decide) (fun c1 => ?_) (fun c1 => ?_)
  · refine lv_iconst (v := nI 0) hx hb dX1_isCut_16 (by decide) ?_
    exact kr 17 ls _ (b_f (by rw [f_X1_isCut, if_pos c1] <;> rfl)) dX1_isCut_17
  · refine lv_iload_n hx hb dX1_isCut_4 rfl (lv_at hl 1 rfl) ?_
    refine lv_aload_n hx hb dX1_isCut_5 rfl (lv_at hl 0 rfl) ?_
    refine g_Cu_amount X hP hp0 m59 dX1_isCut_6 ?_
    refine j_ge (tgt := 16) hx hb dX1_isCut_9 (by decide) (fun c2 => ?_) (fun c2 => ?_)
    · refine lv_iconst (v := nI 0) hx hb dX1_isCut_16 (by decide) ?_
      exact kr 17 ls _ (b_f (by rw [f_X1_isCut, if_neg c1, if_neg c2] <;> rfl)) dX1_isCut_17
    · refine lv_iconst (v := nI 1) hx hb dX1_isCut_12 (by decide) ?_
      refine lv_goto (tgt := 17) hx hb dX1_isCut_13 (by decide) ?_
      exact kr 17 ls _ (b_t (by rw [f_X1_isCut, if_neg c1, if_pos c2] <;> rfl)) dX1_isCut_17
theorem o_X1_isCut : okV yX1_isCut cX1_isCut 2 (some .boolean) 1 := ⟨m500, m501, m39, m502, by decide +kernel, by decide +kernel, by decide +kernel⟩
def rmX1_isFull : Room := { frames := 0, cells := 0, slots := 0, locals := 0 }
def f_X1_isFull (y : CuC) : Bool :=
  (if (kA y) < 40 then false else true)
set_option maxHeartbeats 4000000 in
set_option maxRecDepth 100000 in
theorem c_X1_isFull {l : Launch} {dd : va_G} {t : CL4} {N : Nat} {ad : Nat → Nat} {V : Nat → va_E} {b : Nat} {y : CuC}  (hp0 : CuP N ad V t b y)   : RM l dd t N ad V yX1_isFull cX1_isFull 1 (some .boolean) rmX1_isFull [.ref (ad b)] (b01 (f_X1_isFull y)) := by
  refine RM.of (by decide +kernel) ⟨rfl, rfl⟩ (Nat.le_of_ble_eq_true rfl) (narB _) ?_
  intro p e s m as below meth c Q X H hP ls hl kr
  have X : WX p s m as c cX1_isFull 1 RX1 dd t := X
  have hx := X.1.1
  have hb := X.1.2.1
  have hl : lv_has ls 1 [(0, .ref (ad b))] := hl
  have hi0_0 := hp0.i0
  have hle0 := hp0.le
  refine lv_aload_n hx hb dX1_isFull_0 rfl (lv_at hl 0 rfl) ?_
  refine g_Cu_amount X hP hp0 m59 dX1_isFull_1 ?_
  refine lv_bipush (v := nI 40) hx hb dX1_isFull_4 (by decide) ?_
  refine q_lt (tgt := 13) hx hb (by omega) (by omega) dX1_isFull_6 (by decide) (fun c1 => ?_) (fun c1 => ?_)
  · refine lv_iconst (v := nI 0) hx hb dX1_isFull_13 (by decide) ?_
    exact kr 14 ls _ (b_f (by rw [f_X1_isFull, if_pos c1] <;> rfl)) dX1_isFull_14
  · refine lv_iconst (v := nI 1) hx hb dX1_isFull_9 (by decide) ?_
    refine lv_goto (tgt := 14) hx hb dX1_isFull_10 (by decide) ?_
    exact kr 14 ls _ (b_t (by rw [f_X1_isFull, if_neg (Nat.not_lt.mpr c1)] <;> rfl)) dX1_isFull_14
theorem o_X1_isFull : okV yX1_isFull cX1_isFull 1 (some .boolean) 0 := ⟨m351, m352, m39, m353, by decide +kernel, by decide +kernel, by decide +kernel⟩
def rmX1_isRay : Room := { frames := 0, cells := 0, slots := 0, locals := 0 }
def f_X1_isRay (y : CuC) (cut : Nat) : Bool :=
  (if (kC y cut) = (-1) then false else true)
set_option maxHeartbeats 4000000 in
set_option maxRecDepth 100000 in
theorem c_X1_isRay {l : Launch} {dd : va_G} {t : CL4} {N : Nat} {ad : Nat → Nat} {V : Nat → va_E} {b : Nat} {y : CuC}  (hp0 : CuP N ad V t b y) (cut : Nat) (h_cut : cut < kA y) : RM l dd t N ad V yX1_isRay cX1_isRay 2 (some .boolean) rmX1_isRay [.ref (ad b), .int (nI cut)] (b01 (f_X1_isRay y cut)) := by
  refine RM.of (by decide +kernel) ⟨rfl, rfl⟩ (Nat.le_of_ble_eq_true rfl) (narB _) ?_
  intro p e s m as below meth c Q X H hP ls hl kr
  have X : WX p s m as c cX1_isRay 2 RX1 dd t := X
  have hx := X.1.1
  have hb := X.1.2.1
  have hl : lv_has ls 2 [(0, .ref (ad b)), (1, .int (nI cut))] := hl
  have hi0_0 := hp0.i0
  have hle0 := hp0.le
  refine lv_aload_n hx hb dX1_isRay_0 rfl (lv_at hl 0 rfl) ?_
  refine g_Cu_customers X hP hp0 m60 dX1_isRay_1 ?_
  refine lv_iload_n hx hb dX1_isRay_4 rfl (lv_at hl 1 rfl) ?_
  refine l_Cu_customers X hP hp0 (by omega) dX1_isRay_5 ?_
  refine lv_iconst (v := (-1)) hx hb dX1_isRay_6 (by decide) ?_
  refine lv_icmp_eq (tgt := 14) hx hb dX1_isRay_7 (by decide) (fun c1 => ?_) (fun c1 => ?_)
  · refine lv_iconst (v := nI 0) hx hb dX1_isRay_14 (by decide) ?_
    exact kr 15 ls _ (b_f (by rw [f_X1_isRay, if_pos c1] <;> rfl)) dX1_isRay_15
  · refine lv_iconst (v := nI 1) hx hb dX1_isRay_10 (by decide) ?_
    refine lv_goto (tgt := 15) hx hb dX1_isRay_11 (by decide) ?_
    exact kr 15 ls _ (b_t (by rw [f_X1_isRay, if_neg c1] <;> rfl)) dX1_isRay_15
theorem o_X1_isRay : okV yX1_isRay cX1_isRay 2 (some .boolean) 1 := ⟨m303, m304, m39, m305, by decide +kernel, by decide +kernel, by decide +kernel⟩
def rmX1_weightOf : Room := { frames := 1, cells := 0, slots := 0, locals := 21 }
def l_X1_weightOf_5 (y : CuC) (cut : Nat) (plan : Int32) : Nat → Nat → Int32 → Int32
  | 0, ix_1, a3_1 => a3_1
  | dx_1 + 1, ix_1, a3_1 => (if (f_X5_isIn plan (nI ix_1)) = true then l_X1_weightOf_5 y cut plan dx_1 (ix_1 + 1) (a3_1 + (kW y cut ix_1)) else l_X1_weightOf_5 y cut plan dx_1 (ix_1 + 1) a3_1)
def f_X1_weightOf (y : CuC) (cut : Nat) (plan : Int32) : Int32 :=
  (l_X1_weightOf_5 y cut plan 7 0 (nI 0))
set_option maxHeartbeats 4000000 in
set_option maxRecDepth 100000 in
theorem c_X1_weightOf {l : Launch} {dd : va_G} {t : CL4} {N : Nat} {ad : Nat → Nat} {V : Nat → va_E} {b : Nat} {y : CuC}  (hp0 : CuP N ad V t b y) (cut : Nat) (plan : Int32) (h_cut : cut < kA y) : RM l dd t N ad V yX1_weightOf cX1_weightOf 5 (some .int) rmX1_weightOf [.ref (ad b), .int (nI cut), .int (plan)] (f_X1_weightOf y cut plan) := by
  refine RM.of (by decide +kernel) ⟨rfl, rfl⟩ (Nat.le_of_ble_eq_true rfl) (narI _) ?_
  intro p e s m as below meth c Q X H hP ls hl kr
  have X : WX p s m as c cX1_weightOf 5 RX1 dd t := X
  have hx := X.1.1
  have hb := X.1.2.1
  have hl : lv_has ls 5 [(0, .ref (ad b)), (1, .int (nI cut)), (2, .int (plan))] := hl
  have hi0_0 := hp0.i0
  have hle0 := hp0.le
  refine lv_iconst (v := nI 0) hx hb dX1_weightOf_0 (by decide) ?_
  refine lv_istore_n (lv' := [(3, .int (nI 0)), (0, .ref (ad b)), (1, .int (nI cut)), (2, .int (plan))]) hx hb dX1_weightOf_1 rfl hl (by decide) rfl (fun ls hl => ?_)
  refine lv_iconst (v := nI 0) hx hb dX1_weightOf_2 (by decide) ?_
  refine lv_istore (lv' := [(4, .int (nI 0)), (3, .int (nI 0)), (0, .ref (ad b)), (1, .int (nI cut)), (2, .int (plan))]) hx hb dX1_weightOf_3 hl (by decide) rfl (fun ls hl => ?_)
  have L1 : ∀ (dx_1 ix_1 : Nat) (a3_1 : Int32) (ls : Array Slot), (ix_1 + dx_1 = 7) → (l_X1_weightOf_5 y cut plan dx_1 ix_1 a3_1 = l_X1_weightOf_5 y cut plan 7 0 (nI 0)) → (lv_has ls 5 [(0, .ref (ad b)), (1, .int (nI cut)), (2, .int (plan)), (3, .int (a3_1)), (4, .int (nI ix_1))]) → W p l e rmX1_weightOf s m as below meth c H [] 0 0 Q (F0 m 5 ls []) := by
    intro dx_1
    induction dx_1 with
    | zero =>
      intro ix_1 a3_1 ls hid hvx_1 hl
      have hiN : 7 = ix_1 := by omega
      subst hiN
      have hvx_1 : a3_1 = l_X1_weightOf_5 y cut plan 7 0 (nI 0) := hvx_1
      have hh0 : a3_1 = l_X1_weightOf_5 y cut plan 7 0 (nI 0) := hvx_1
      subst hh0
      refine lv_iload hx hb dX1_weightOf_5 (lv_at hl 4 rfl) ?_
      refine lv_bipush (v := nI 7) hx hb dX1_weightOf_7 (by decide) ?_
      refine q_ge (tgt := 39) hx hb (by omega) (by omega) dX1_weightOf_9 (by decide) (fun c2 => ?_) (fun h => absurd h (by omega))
      refine lv_iload_n hx hb dX1_weightOf_39 rfl (lv_at hl 3 rfl) ?_
      exact kr 40 ls _ (Eq.symm (by rw [f_X1_weightOf] <;> rfl)) dX1_weightOf_40
    | succ dx_1 ihx_1 =>
      intro ix_1 a3_1 ls hid hvx_1 hl
      refine lv_iload hx hb dX1_weightOf_5 (lv_at hl 4 rfl) ?_
      refine lv_bipush (v := nI 7) hx hb dX1_weightOf_7 (by decide) ?_
      refine q_ge (tgt := 39) hx hb (by omega) (by omega) dX1_weightOf_9 (by decide) (fun h => absurd h (by omega)) (fun c3 => ?_)
      refine lv_iload_n hx hb dX1_weightOf_12 rfl (lv_at hl 2 rfl) ?_
      refine lv_iload hx hb dX1_weightOf_13 (lv_at hl 4 rfl) ?_
      refine r_callN (As := [.int (plan), .int (nI ix_1)]) (rest := []) X hP (c_X5_isIn plan (nI ix_1)) o_X5_isIn X.2.2.2 ⟨rfl, rfl⟩ ⟨Nat.le_of_ble_eq_true rfl, Nat.le_of_ble_eq_true rfl⟩ rfl hl.1 rfl (Nat.le_of_ble_eq_true rfl) ⟨Nat.zero_le _, Nat.zero_le _⟩ dX1_weightOf_15 ?_
      refine q_eqB (tgt := 33) hx hb dX1_weightOf_18 (by decide) (fun c4 => ?_) (fun c4 => ?_)
      · refine lv_iinc (v := nI (ix_1 + 1)) (lv' := [(4, .int (nI (ix_1 + 1))), (0, .ref (ad b)), (1, .int (nI cut)), (2, .int (plan)), (3, .int (a3_1))]) hx hb dX1_weightOf_33 hl (k := 4) rfl (nI_inc _) (by decide) rfl (fun ls hl => ?_)
        refine lv_goto (tgt := 5) hx hb dX1_weightOf_36 (by decide) ?_
        exact ihx_1 (ix_1 + 1) a3_1 ls (by omega) (Eq.trans (Eq.symm (by rw [l_X1_weightOf_5, if_neg (nt c4)] <;> rfl)) hvx_1) (lv_sub hl [1, 2, 3, 4, 0] rfl)
      · refine lv_iload_n hx hb dX1_weightOf_21 rfl (lv_at hl 3 rfl) ?_
        refine lv_aload_n hx hb dX1_weightOf_22 rfl (lv_at hl 0 rfl) ?_
        refine g_Cu_weights X hP hp0 m63 dX1_weightOf_23 ?_
        refine lv_iload_n hx hb dX1_weightOf_26 rfl (lv_at hl 1 rfl) ?_
        refine l_Cu_weights X hP hp0 (by omega) dX1_weightOf_27 ?_
        refine lv_iload hx hb dX1_weightOf_28 (lv_at hl 4 rfl) ?_
        refine l_Cu_weights_row X hP hp0 (by omega) (by omega) dX1_weightOf_30 ?_
        refine lv_iadd hx hb dX1_weightOf_31 ?_
        refine lv_istore_n (lv' := [(3, .int (a3_1 + (kW y cut ix_1))), (0, .ref (ad b)), (1, .int (nI cut)), (2, .int (plan)), (4, .int (nI ix_1))]) hx hb dX1_weightOf_32 rfl hl (by decide) rfl (fun ls hl => ?_)
        refine lv_iinc (v := nI (ix_1 + 1)) (lv' := [(4, .int (nI (ix_1 + 1))), (3, .int (a3_1 + (kW y cut ix_1))), (0, .ref (ad b)), (1, .int (nI cut)), (2, .int (plan))]) hx hb dX1_weightOf_33 hl (k := 4) rfl (nI_inc _) (by decide) rfl (fun ls hl => ?_)
        refine lv_goto (tgt := 5) hx hb dX1_weightOf_36 (by decide) ?_
        exact ihx_1 (ix_1 + 1) (a3_1 + (kW y cut ix_1)) ls (by omega) (Eq.trans (Eq.symm (by rw [l_X1_weightOf_5, if_pos c4] <;> rfl)) hvx_1) (lv_sub hl [2, 3, 4, 1, 0] rfl)
  exact L1 7 0 (nI 0) ls (by omega) rfl (lv_sub hl [2, 3, 4, 1, 0] rfl)
theorem o_X1_weightOf : okV yX1_weightOf cX1_weightOf 5 (some .int) 2 := ⟨m307, m308, m39, m309, by decide +kernel, by decide +kernel, by decide +kernel⟩
def rmX1_valueOf : Room := { frames := 2, cells := 0, slots := 0, locals := 45 }
def f_X1_valueOf (y : CuC) (cut : Nat) (plan : Int32) : Int32 :=
  (kS y cut) - (f_X1_weightOf y cut plan)
set_option maxHeartbeats 4000000 in
set_option maxRecDepth 100000 in
theorem c_X1_valueOf {l : Launch} {dd : va_G} {t : CL4} {N : Nat} {ad : Nat → Nat} {V : Nat → va_E} {b : Nat} {y : CuC}  (hp0 : CuP N ad V t b y) (cut : Nat) (plan : Int32) (h_cut : cut < kA y) : RM l dd t N ad V yX1_valueOf cX1_valueOf 3 (some .int) rmX1_valueOf [.ref (ad b), .int (nI cut), .int (plan)] (f_X1_valueOf y cut plan) := by
  refine RM.of (by decide +kernel) ⟨rfl, rfl⟩ (Nat.le_of_ble_eq_true rfl) (narI _) ?_
  intro p e s m as below meth c Q X H hP ls hl kr
  have X : WX p s m as c cX1_valueOf 3 RX1 dd t := X
  have hx := X.1.1
  have hb := X.1.2.1
  have hl : lv_has ls 3 [(0, .ref (ad b)), (1, .int (nI cut)), (2, .int (plan))] := hl
  have hi0_0 := hp0.i0
  have hle0 := hp0.le
  refine lv_aload_n hx hb dX1_valueOf_0 rfl (lv_at hl 0 rfl) ?_
  refine g_Cu_starts X hP hp0 m61 dX1_valueOf_1 ?_
  refine lv_iload_n hx hb dX1_valueOf_4 rfl (lv_at hl 1 rfl) ?_
  refine l_Cu_starts X hP hp0 (by omega) dX1_valueOf_5 ?_
  refine lv_aload_n hx hb dX1_valueOf_6 rfl (lv_at hl 0 rfl) ?_
  refine lv_iload_n hx hb dX1_valueOf_7 rfl (lv_at hl 1 rfl) ?_
  refine lv_iload_n hx hb dX1_valueOf_8 rfl (lv_at hl 2 rfl) ?_
  refine r_call (As := [.int (nI cut), .int (plan)]) (rest := [.int (kS y cut)]) (ci := 1) X hP (c_X1_weightOf hp0 cut plan (by omega)) o_X1_weightOf rfl hp0.lt hp0.ob m306 ⟨rfl, rfl⟩ ⟨Nat.le_of_ble_eq_true rfl, Nat.le_of_ble_eq_true rfl⟩ rfl hl.1 rfl (Nat.le_of_ble_eq_true rfl) ⟨Nat.zero_le _, Nat.zero_le _⟩ dX1_valueOf_9 ?_
  refine lv_isub hx hb dX1_valueOf_12 ?_
  exact kr 13 ls _ (Eq.symm (by rw [f_X1_valueOf] <;> rfl)) dX1_valueOf_13
theorem o_X1_valueOf : okV yX1_valueOf cX1_valueOf 3 (some .int) 2 := ⟨m327, m328, m39, m329, by decide +kernel, by decide +kernel, by decide +kernel⟩
def rmX1_greatestValue : Room := { frames := 3, cells := 0, slots := 0, locals := 67 }
def l_X1_greatestValue_4 (y : CuC) (plan : Int32) : Nat → Nat → Int32 → Int32
  | 0, ix_1, a2_1 => a2_1
  | dx_1 + 1, ix_1, a2_1 => (if (f_X1_isRay y ix_1) = true then l_X1_greatestValue_4 y plan dx_1 (ix_1 + 1) a2_1 else l_X1_greatestValue_4 y plan dx_1 (ix_1 + 1) (if a2_1 < (f_X1_valueOf y ix_1 plan) then (f_X1_valueOf y ix_1 plan) else a2_1))
def f_X1_greatestValue (y : CuC) (plan : Int32) : Int32 :=
  (l_X1_greatestValue_4 y plan (kA y) 0 (nI 0))
set_option maxHeartbeats 4000000 in
set_option maxRecDepth 100000 in
theorem c_X1_greatestValue {l : Launch} {dd : va_G} {t : CL4} {N : Nat} {ad : Nat → Nat} {V : Nat → va_E} {b : Nat} {y : CuC}  (hp0 : CuP N ad V t b y) (plan : Int32)  : RM l dd t N ad V yX1_greatestValue cX1_greatestValue 4 (some .int) rmX1_greatestValue [.ref (ad b), .int (plan)] (f_X1_greatestValue y plan) := by
  refine RM.of (by decide +kernel) ⟨rfl, rfl⟩ (Nat.le_of_ble_eq_true rfl) (narI _) ?_
  intro p e s m as below meth c Q X H hP ls hl kr
  have X : WX p s m as c cX1_greatestValue 4 RX1 dd t := X
  have hx := X.1.1
  have hb := X.1.2.1
  have hl : lv_has ls 4 [(0, .ref (ad b)), (1, .int (plan))] := hl
  have hi0_0 := hp0.i0
  have hle0 := hp0.le
  refine lv_iconst (v := nI 0) hx hb dX1_greatestValue_0 (by decide) ?_
  refine lv_istore_n (lv' := [(2, .int (nI 0)), (0, .ref (ad b)), (1, .int (plan))]) hx hb dX1_greatestValue_1 rfl hl (by decide) rfl (fun ls hl => ?_)
  refine lv_iconst (v := nI 0) hx hb dX1_greatestValue_2 (by decide) ?_
  refine lv_istore_n (lv' := [(3, .int (nI 0)), (2, .int (nI 0)), (0, .ref (ad b)), (1, .int (plan))]) hx hb dX1_greatestValue_3 rfl hl (by decide) rfl (fun ls hl => ?_)
  have L1 : ∀ (dx_1 ix_1 : Nat) (a2_1 : Int32) (ls : Array Slot), (ix_1 + dx_1 = kA y) → (l_X1_greatestValue_4 y plan dx_1 ix_1 a2_1 = l_X1_greatestValue_4 y plan (kA y) 0 (nI 0)) → (lv_has ls 4 [(0, .ref (ad b)), (1, .int (plan)), (2, .int (a2_1)), (3, .int (nI ix_1))]) → W p l e rmX1_greatestValue s m as below meth c H [] 0 0 Q (F0 m 4 ls []) := by
    intro dx_1
    induction dx_1 with
    | zero =>
      intro ix_1 a2_1 ls hid hvx_1 hl
      have hiN : kA y = ix_1 := by omega
      subst hiN
      have hvx_1 : a2_1 = l_X1_greatestValue_4 y plan (kA y) 0 (nI 0) := hvx_1
      have hh0 : a2_1 = l_X1_greatestValue_4 y plan (kA y) 0 (nI 0) := hvx_1
      subst hh0
      refine lv_iload_n hx hb dX1_greatestValue_4 rfl (lv_at hl 3 rfl) ?_
      refine lv_aload_n hx hb dX1_greatestValue_5 rfl (lv_at hl 0 rfl) ?_
      refine g_Cu_amount X hP hp0 m59 dX1_greatestValue_6 ?_
      refine q_ge (tgt := 37) hx hb (by omega) (by omega) dX1_greatestValue_9 (by decide) (fun c2 => ?_) (fun h => absurd h (by omega))
      refine lv_iload_n hx hb dX1_greatestValue_37 rfl (lv_at hl 2 rfl) ?_
      exact kr 38 ls _ (Eq.symm (by rw [f_X1_greatestValue] <;> rfl)) dX1_greatestValue_38
    | succ dx_1 ihx_1 =>
      intro ix_1 a2_1 ls hid hvx_1 hl
      refine lv_iload_n hx hb dX1_greatestValue_4 rfl (lv_at hl 3 rfl) ?_
      refine lv_aload_n hx hb dX1_greatestValue_5 rfl (lv_at hl 0 rfl) ?_
      refine g_Cu_amount X hP hp0 m59 dX1_greatestValue_6 ?_
      refine q_ge (tgt := 37) hx hb (by omega) (by omega) dX1_greatestValue_9 (by decide) (fun h => absurd h (by omega)) (fun c3 => ?_)
      refine lv_aload_n hx hb dX1_greatestValue_12 rfl (lv_at hl 0 rfl) ?_
      refine lv_iload_n hx hb dX1_greatestValue_13 rfl (lv_at hl 3 rfl) ?_
      refine r_call (As := [.int (nI ix_1)]) (rest := []) (ci := 1) X hP (c_X1_isRay hp0 ix_1 (by omega)) o_X1_isRay rfl hp0.lt hp0.ob m302 ⟨rfl, rfl⟩ ⟨Nat.le_of_ble_eq_true rfl, Nat.le_of_ble_eq_true rfl⟩ rfl hl.1 rfl (Nat.le_of_ble_eq_true rfl) ⟨Nat.zero_le _, Nat.zero_le _⟩ dX1_greatestValue_14 ?_
      refine q_neB (tgt := 31) hx hb dX1_greatestValue_17 (by decide) (fun c4 => ?_) (fun c4 => ?_)
      · refine lv_iinc (v := nI (ix_1 + 1)) (lv' := [(3, .int (nI (ix_1 + 1))), (0, .ref (ad b)), (1, .int (plan)), (2, .int (a2_1))]) hx hb dX1_greatestValue_31 hl (k := 3) rfl (nI_inc _) (by decide) rfl (fun ls hl => ?_)
        refine lv_goto (tgt := 4) hx hb dX1_greatestValue_34 (by decide) ?_
        exact ihx_1 (ix_1 + 1) a2_1 ls (by omega) (Eq.trans (Eq.symm (by rw [l_X1_greatestValue_4, if_pos c4] <;> rfl)) hvx_1) (lv_sub hl [1, 2, 3, 0] rfl)
      · refine lv_iload_n hx hb dX1_greatestValue_20 rfl (lv_at hl 2 rfl) ?_
        refine lv_aload_n hx hb dX1_greatestValue_21 rfl (lv_at hl 0 rfl) ?_
        refine lv_iload_n hx hb dX1_greatestValue_22 rfl (lv_at hl 3 rfl) ?_
        refine lv_iload_n hx hb dX1_greatestValue_23 rfl (lv_at hl 1 rfl) ?_
        refine r_call (As := [.int (nI ix_1), .int (plan)]) (rest := [.int (a2_1)]) (ci := 1) X hP (c_X1_valueOf hp0 ix_1 plan (by omega)) o_X1_valueOf rfl hp0.lt hp0.ob m326 ⟨rfl, rfl⟩ ⟨Nat.le_of_ble_eq_true rfl, Nat.le_of_ble_eq_true rfl⟩ rfl hl.1 rfl (Nat.le_of_ble_eq_true rfl) ⟨Nat.zero_le _, Nat.zero_le _⟩ dX1_greatestValue_24 ?_
        refine va_mmax hx hb (X.1.2.2.1.trans hl.1.symm) X.1.2.2.2.1 (X.1.2.2.2.2 _ m322) (X.1.2.2.2.2 _ m323) (X.1.2.2.2.2 _ m324) (X.1.2.2.2.2 _ m325) (Nat.le_of_ble_eq_true rfl) (Nat.le_of_ble_eq_true rfl) (Nat.le_of_ble_eq_true rfl) (Nat.le_of_ble_eq_true rfl) dX1_greatestValue_27 ?_
        refine lv_istore_n (lv' := [(2, .int ((if a2_1 < (f_X1_valueOf y ix_1 plan) then (f_X1_valueOf y ix_1 plan) else a2_1))), (0, .ref (ad b)), (1, .int (plan)), (3, .int (nI ix_1))]) hx hb dX1_greatestValue_30 rfl hl (by decide) rfl (fun ls hl => ?_)
        refine lv_iinc (v := nI (ix_1 + 1)) (lv' := [(3, .int (nI (ix_1 + 1))), (2, .int ((if a2_1 < (f_X1_valueOf y ix_1 plan) then (f_X1_valueOf y ix_1 plan) else a2_1))), (0, .ref (ad b)), (1, .int (plan))]) hx hb dX1_greatestValue_31 hl (k := 3) rfl (nI_inc _) (by decide) rfl (fun ls hl => ?_)
        refine lv_goto (tgt := 4) hx hb dX1_greatestValue_34 (by decide) ?_
        exact ihx_1 (ix_1 + 1) (if a2_1 < (f_X1_valueOf y ix_1 plan) then (f_X1_valueOf y ix_1 plan) else a2_1) ls (by omega) (Eq.trans (Eq.symm (by rw [l_X1_greatestValue_4, if_neg (nt c4)] <;> rfl)) hvx_1) (lv_sub hl [2, 3, 1, 0] rfl)
  exact L1 (kA y) 0 (nI 0) ls (by omega) rfl (lv_sub hl [2, 3, 1, 0] rfl)
theorem o_X1_greatestValue : okV yX1_greatestValue cX1_greatestValue 4 (some .int) 1 := ⟨m319, m320, m39, m321, by decide +kernel, by decide +kernel, by decide +kernel⟩
def rmX1_countRays : Room := { frames := 1, cells := 0, slots := 0, locals := 21 }
def l_X1_countRays_4 (y : CuC) : Nat → Nat → Nat → Nat
  | 0, ix_1, a1_1 => a1_1
  | dx_1 + 1, ix_1, a1_1 => (if (f_X1_isRay y ix_1) = true then l_X1_countRays_4 y dx_1 (ix_1 + 1) (a1_1 + 1) else l_X1_countRays_4 y dx_1 (ix_1 + 1) a1_1)
def f_X1_countRays (y : CuC) : Int32 :=
  nI (l_X1_countRays_4 y (kA y) 0 0)
set_option maxHeartbeats 4000000 in
set_option maxRecDepth 100000 in
theorem c_X1_countRays {l : Launch} {dd : va_G} {t : CL4} {N : Nat} {ad : Nat → Nat} {V : Nat → va_E} {b : Nat} {y : CuC}  (hp0 : CuP N ad V t b y)   : RM l dd t N ad V yX1_countRays cX1_countRays 3 (some .int) rmX1_countRays [.ref (ad b)] (f_X1_countRays y) := by
  refine RM.of (by decide +kernel) ⟨rfl, rfl⟩ (Nat.le_of_ble_eq_true rfl) (narI _) ?_
  intro p e s m as below meth c Q X H hP ls hl kr
  have X : WX p s m as c cX1_countRays 3 RX1 dd t := X
  have hx := X.1.1
  have hb := X.1.2.1
  have hl : lv_has ls 3 [(0, .ref (ad b))] := hl
  have hi0_0 := hp0.i0
  have hle0 := hp0.le
  refine lv_iconst (v := nI 0) hx hb dX1_countRays_0 (by decide) ?_
  refine lv_istore_n (lv' := [(1, .int (nI 0)), (0, .ref (ad b))]) hx hb dX1_countRays_1 rfl hl (by decide) rfl (fun ls hl => ?_)
  refine lv_iconst (v := nI 0) hx hb dX1_countRays_2 (by decide) ?_
  refine lv_istore_n (lv' := [(2, .int (nI 0)), (1, .int (nI 0)), (0, .ref (ad b))]) hx hb dX1_countRays_3 rfl hl (by decide) rfl (fun ls hl => ?_)
  have L1 : ∀ (dx_1 ix_1 : Nat) (a1_1 : Nat) (ls : Array Slot), (ix_1 + dx_1 = kA y) → (l_X1_countRays_4 y dx_1 ix_1 a1_1 = l_X1_countRays_4 y (kA y) 0 0) → (lv_has ls 3 [(0, .ref (ad b)), (1, .int (nI a1_1)), (2, .int (nI ix_1))]) → W p l e rmX1_countRays s m as below meth c H [] 0 0 Q (F0 m 4 ls []) := by
    intro dx_1
    induction dx_1 with
    | zero =>
      intro ix_1 a1_1 ls hid hvx_1 hl
      have hiN : kA y = ix_1 := by omega
      subst hiN
      have hvx_1 : a1_1 = l_X1_countRays_4 y (kA y) 0 0 := hvx_1
      have hh0 : a1_1 = l_X1_countRays_4 y (kA y) 0 0 := hvx_1
      subst hh0
      refine lv_iload_n hx hb dX1_countRays_4 rfl (lv_at hl 2 rfl) ?_
      refine lv_aload_n hx hb dX1_countRays_5 rfl (lv_at hl 0 rfl) ?_
      refine g_Cu_amount X hP hp0 m59 dX1_countRays_6 ?_
      refine q_ge (tgt := 29) hx hb (by omega) (by omega) dX1_countRays_9 (by decide) (fun c2 => ?_) (fun h => absurd h (by omega))
      refine lv_iload_n hx hb dX1_countRays_29 rfl (lv_at hl 1 rfl) ?_
      exact kr 30 ls _ (Eq.symm (by rw [f_X1_countRays] <;> rfl)) dX1_countRays_30
    | succ dx_1 ihx_1 =>
      intro ix_1 a1_1 ls hid hvx_1 hl
      refine lv_iload_n hx hb dX1_countRays_4 rfl (lv_at hl 2 rfl) ?_
      refine lv_aload_n hx hb dX1_countRays_5 rfl (lv_at hl 0 rfl) ?_
      refine g_Cu_amount X hP hp0 m59 dX1_countRays_6 ?_
      refine q_ge (tgt := 29) hx hb (by omega) (by omega) dX1_countRays_9 (by decide) (fun h => absurd h (by omega)) (fun c3 => ?_)
      refine lv_aload_n hx hb dX1_countRays_12 rfl (lv_at hl 0 rfl) ?_
      refine lv_iload_n hx hb dX1_countRays_13 rfl (lv_at hl 2 rfl) ?_
      refine r_call (As := [.int (nI ix_1)]) (rest := []) (ci := 1) X hP (c_X1_isRay hp0 ix_1 (by omega)) o_X1_isRay rfl hp0.lt hp0.ob m302 ⟨rfl, rfl⟩ ⟨Nat.le_of_ble_eq_true rfl, Nat.le_of_ble_eq_true rfl⟩ rfl hl.1 rfl (Nat.le_of_ble_eq_true rfl) ⟨Nat.zero_le _, Nat.zero_le _⟩ dX1_countRays_14 ?_
      refine q_eqB (tgt := 23) hx hb dX1_countRays_17 (by decide) (fun c4 => ?_) (fun c4 => ?_)
      · refine lv_iinc (v := nI (ix_1 + 1)) (lv' := [(2, .int (nI (ix_1 + 1))), (0, .ref (ad b)), (1, .int (nI a1_1))]) hx hb dX1_countRays_23 hl (k := 2) rfl (nI_inc _) (by decide) rfl (fun ls hl => ?_)
        refine lv_goto (tgt := 4) hx hb dX1_countRays_26 (by decide) ?_
        exact ihx_1 (ix_1 + 1) a1_1 ls (by omega) (Eq.trans (Eq.symm (by rw [l_X1_countRays_4, if_neg (nt c4)] <;> rfl)) hvx_1) (lv_sub hl [1, 2, 0] rfl)
      · refine lv_iinc (v := nI (a1_1 + 1)) (lv' := [(1, .int (nI (a1_1 + 1))), (0, .ref (ad b)), (2, .int (nI ix_1))]) hx hb dX1_countRays_20 hl (k := 1) rfl (nI_inc _) (by decide) rfl (fun ls hl => ?_)
        refine lv_iinc (v := nI (ix_1 + 1)) (lv' := [(2, .int (nI (ix_1 + 1))), (1, .int (nI (a1_1 + 1))), (0, .ref (ad b))]) hx hb dX1_countRays_23 hl (k := 2) rfl (nI_inc _) (by decide) rfl (fun ls hl => ?_)
        refine lv_goto (tgt := 4) hx hb dX1_countRays_26 (by decide) ?_
        exact ihx_1 (ix_1 + 1) (a1_1 + 1) ls (by omega) (Eq.trans (Eq.symm (by rw [l_X1_countRays_4, if_pos c4] <;> rfl)) hvx_1) (lv_sub hl [2, 1, 0] rfl)
  exact L1 (kA y) 0 0 ls (by omega) rfl (lv_sub hl [2, 1, 0] rfl)
theorem o_X1_countRays : okV yX1_countRays cX1_countRays 3 (some .int) 0 := ⟨m775, m776, m39, m777, by decide +kernel, by decide +kernel, by decide +kernel⟩
def rmX1_countMissedRays : Room := { frames := 2, cells := 0, slots := 0, locals := 45 }
def l_X1_countMissedRays_4 (y : CuC) (plan : Int32) : Nat → Nat → Nat → Nat
  | 0, ix_1, a2_1 => a2_1
  | dx_1 + 1, ix_1, a2_1 => (if (f_X1_isRay y ix_1) = true then (if (f_X1_weightOf y ix_1 plan) = 0 then l_X1_countMissedRays_4 y plan dx_1 (ix_1 + 1) (a2_1 + 1) else l_X1_countMissedRays_4 y plan dx_1 (ix_1 + 1) a2_1) else l_X1_countMissedRays_4 y plan dx_1 (ix_1 + 1) a2_1)
def f_X1_countMissedRays (y : CuC) (plan : Int32) : Int32 :=
  nI (l_X1_countMissedRays_4 y plan (kA y) 0 0)
set_option maxHeartbeats 4000000 in
set_option maxRecDepth 100000 in
theorem c_X1_countMissedRays {l : Launch} {dd : va_G} {t : CL4} {N : Nat} {ad : Nat → Nat} {V : Nat → va_E} {b : Nat} {y : CuC}  (hp0 : CuP N ad V t b y) (plan : Int32)  : RM l dd t N ad V yX1_countMissedRays cX1_countMissedRays 4 (some .int) rmX1_countMissedRays [.ref (ad b), .int (plan)] (f_X1_countMissedRays y plan) := by
  refine RM.of (by decide +kernel) ⟨rfl, rfl⟩ (Nat.le_of_ble_eq_true rfl) (narI _) ?_
  intro p e s m as below meth c Q X H hP ls hl kr
  have X : WX p s m as c cX1_countMissedRays 4 RX1 dd t := X
  have hx := X.1.1
  have hb := X.1.2.1
  have hl : lv_has ls 4 [(0, .ref (ad b)), (1, .int (plan))] := hl
  have hi0_0 := hp0.i0
  have hle0 := hp0.le
  refine lv_iconst (v := nI 0) hx hb dX1_countMissedRays_0 (by decide) ?_
  refine lv_istore_n (lv' := [(2, .int (nI 0)), (0, .ref (ad b)), (1, .int (plan))]) hx hb dX1_countMissedRays_1 rfl hl (by decide) rfl (fun ls hl => ?_)
  refine lv_iconst (v := nI 0) hx hb dX1_countMissedRays_2 (by decide) ?_
  refine lv_istore_n (lv' := [(3, .int (nI 0)), (2, .int (nI 0)), (0, .ref (ad b)), (1, .int (plan))]) hx hb dX1_countMissedRays_3 rfl hl (by decide) rfl (fun ls hl => ?_)
  have L1 : ∀ (dx_1 ix_1 : Nat) (a2_1 : Nat) (ls : Array Slot), (ix_1 + dx_1 = kA y) → (l_X1_countMissedRays_4 y plan dx_1 ix_1 a2_1 = l_X1_countMissedRays_4 y plan (kA y) 0 0) → (lv_has ls 4 [(0, .ref (ad b)), (1, .int (plan)), (2, .int (nI a2_1)), (3, .int (nI ix_1))]) → W p l e rmX1_countMissedRays s m as below meth c H [] 0 0 Q (F0 m 4 ls []) := by
    intro dx_1
    induction dx_1 with
    | zero =>
      intro ix_1 a2_1 ls hid hvx_1 hl
      have hiN : kA y = ix_1 := by omega
      subst hiN
      have hvx_1 : a2_1 = l_X1_countMissedRays_4 y plan (kA y) 0 0 := hvx_1
      have hh0 : a2_1 = l_X1_countMissedRays_4 y plan (kA y) 0 0 := hvx_1
      subst hh0
      refine lv_iload_n hx hb dX1_countMissedRays_4 rfl (lv_at hl 3 rfl) ?_
      refine lv_aload_n hx hb dX1_countMissedRays_5 rfl (lv_at hl 0 rfl) ?_
      refine g_Cu_amount X hP hp0 m59 dX1_countMissedRays_6 ?_
      refine q_ge (tgt := 38) hx hb (by omega) (by omega) dX1_countMissedRays_9 (by decide) (fun c2 => ?_) (fun h => absurd h (by omega))
      refine lv_iload_n hx hb dX1_countMissedRays_38 rfl (lv_at hl 2 rfl) ?_
      exact kr 39 ls _ (Eq.symm (by rw [f_X1_countMissedRays] <;> rfl)) dX1_countMissedRays_39
    | succ dx_1 ihx_1 =>
      intro ix_1 a2_1 ls hid hvx_1 hl
      refine lv_iload_n hx hb dX1_countMissedRays_4 rfl (lv_at hl 3 rfl) ?_
      refine lv_aload_n hx hb dX1_countMissedRays_5 rfl (lv_at hl 0 rfl) ?_
      refine g_Cu_amount X hP hp0 m59 dX1_countMissedRays_6 ?_
      refine q_ge (tgt := 38) hx hb (by omega) (by omega) dX1_countMissedRays_9 (by decide) (fun h => absurd h (by omega)) (fun c3 => ?_)
      refine lv_aload_n hx hb dX1_countMissedRays_12 rfl (lv_at hl 0 rfl) ?_
      refine lv_iload_n hx hb dX1_countMissedRays_13 rfl (lv_at hl 3 rfl) ?_
      refine r_call (As := [.int (nI ix_1)]) (rest := []) (ci := 1) X hP (c_X1_isRay hp0 ix_1 (by omega)) o_X1_isRay rfl hp0.lt hp0.ob m302 ⟨rfl, rfl⟩ ⟨Nat.le_of_ble_eq_true rfl, Nat.le_of_ble_eq_true rfl⟩ rfl hl.1 rfl (Nat.le_of_ble_eq_true rfl) ⟨Nat.zero_le _, Nat.zero_le _⟩ dX1_countMissedRays_14 ?_
      refine q_eqB (tgt := 32) hx hb dX1_countMissedRays_17 (by decide) (fun c4 => ?_) (fun c4 => ?_)
      · refine lv_iinc (v := nI (ix_1 + 1)) (lv' := [(3, .int (nI (ix_1 + 1))), (0, .ref (ad b)), (1, .int (plan)), (2, .int (nI a2_1))]) hx hb dX1_countMissedRays_32 hl (k := 3) rfl (nI_inc _) (by decide) rfl (fun ls hl => ?_)
        refine lv_goto (tgt := 4) hx hb dX1_countMissedRays_35 (by decide) ?_
        exact ihx_1 (ix_1 + 1) a2_1 ls (by omega) (Eq.trans (Eq.symm (by rw [l_X1_countMissedRays_4, if_neg (nt c4)] <;> rfl)) hvx_1) (lv_sub hl [1, 2, 3, 0] rfl)
      · refine lv_aload_n hx hb dX1_countMissedRays_20 rfl (lv_at hl 0 rfl) ?_
        refine lv_iload_n hx hb dX1_countMissedRays_21 rfl (lv_at hl 3 rfl) ?_
        refine lv_iload_n hx hb dX1_countMissedRays_22 rfl (lv_at hl 1 rfl) ?_
        refine r_call (As := [.int (nI ix_1), .int (plan)]) (rest := []) (ci := 1) X hP (c_X1_weightOf hp0 ix_1 plan (by omega)) o_X1_weightOf rfl hp0.lt hp0.ob m306 ⟨rfl, rfl⟩ ⟨Nat.le_of_ble_eq_true rfl, Nat.le_of_ble_eq_true rfl⟩ rfl hl.1 rfl (Nat.le_of_ble_eq_true rfl) ⟨Nat.zero_le _, Nat.zero_le _⟩ dX1_countMissedRays_23 ?_
        refine lv_if_ne (tgt := 32) hx hb dX1_countMissedRays_26 (by decide) (fun c5 => ?_) (fun c5 => ?_)
        · refine lv_iinc (v := nI (ix_1 + 1)) (lv' := [(3, .int (nI (ix_1 + 1))), (0, .ref (ad b)), (1, .int (plan)), (2, .int (nI a2_1))]) hx hb dX1_countMissedRays_32 hl (k := 3) rfl (nI_inc _) (by decide) rfl (fun ls hl => ?_)
          refine lv_goto (tgt := 4) hx hb dX1_countMissedRays_35 (by decide) ?_
          exact ihx_1 (ix_1 + 1) a2_1 ls (by omega) (Eq.trans (Eq.symm (by rw [l_X1_countMissedRays_4, if_pos c4, if_neg c5] <;> rfl)) hvx_1) (lv_sub hl [1, 2, 3, 0] rfl)
        · refine lv_iinc (v := nI (a2_1 + 1)) (lv' := [(2, .int (nI (a2_1 + 1))), (0, .ref (ad b)), (1, .int (plan)), (3, .int (nI ix_1))]) hx hb dX1_countMissedRays_29 hl (k := 2) rfl (nI_inc _) (by decide) rfl (fun ls hl => ?_)
          refine lv_iinc (v := nI (ix_1 + 1)) (lv' := [(3, .int (nI (ix_1 + 1))), (2, .int (nI (a2_1 + 1))), (0, .ref (ad b)), (1, .int (plan))]) hx hb dX1_countMissedRays_32 hl (k := 3) rfl (nI_inc _) (by decide) rfl (fun ls hl => ?_)
          refine lv_goto (tgt := 4) hx hb dX1_countMissedRays_35 (by decide) ?_
          exact ihx_1 (ix_1 + 1) (a2_1 + 1) ls (by omega) (Eq.trans (Eq.symm (by rw [l_X1_countMissedRays_4, if_pos c4, if_pos c5] <;> rfl)) hvx_1) (lv_sub hl [2, 3, 1, 0] rfl)
  exact L1 (kA y) 0 0 ls (by omega) rfl (lv_sub hl [2, 3, 1, 0] rfl)
theorem o_X1_countMissedRays : okV yX1_countMissedRays cX1_countMissedRays 4 (some .int) 1 := ⟨m299, m300, m39, m301, by decide +kernel, by decide +kernel, by decide +kernel⟩
def rmX1_isLoose : Room := { frames := 3, cells := 0, slots := 0, locals := 67 }
def f_X1_isLoose (y : CuC) (cut : Nat) (masterPlan : Int32) (greatest : Int32) : Bool :=
  (if (f_X1_isRay y cut) = true then (if (nI 1) < (f_X1_weightOf y cut masterPlan) then true else false) else (if (f_X1_valueOf y cut masterPlan) < greatest then true else false))
set_option maxHeartbeats 4000000 in
set_option maxRecDepth 100000 in
theorem c_X1_isLoose {l : Launch} {dd : va_G} {t : CL4} {N : Nat} {ad : Nat → Nat} {V : Nat → va_E} {b : Nat} {y : CuC}  (hp0 : CuP N ad V t b y) (cut : Nat) (masterPlan : Int32) (greatest : Int32) (h_cut : cut < kA y) : RM l dd t N ad V yX1_isLoose cX1_isLoose 4 (some .boolean) rmX1_isLoose [.ref (ad b), .int (nI cut), .int (masterPlan), .int (greatest)] (b01 (f_X1_isLoose y cut masterPlan greatest)) := by
  refine RM.of (by decide +kernel) ⟨rfl, rfl⟩ (Nat.le_of_ble_eq_true rfl) (narB _) ?_
  intro p e s m as below meth c Q X H hP ls hl kr
  have X : WX p s m as c cX1_isLoose 4 RX1 dd t := X
  have hx := X.1.1
  have hb := X.1.2.1
  have hl : lv_has ls 4 [(0, .ref (ad b)), (1, .int (nI cut)), (2, .int (masterPlan)), (3, .int (greatest))] := hl
  have hi0_0 := hp0.i0
  have hle0 := hp0.le
  refine lv_aload_n hx hb dX1_isLoose_0 rfl (lv_at hl 0 rfl) ?_
  refine lv_iload_n hx hb dX1_isLoose_1 rfl (lv_at hl 1 rfl) ?_
  refine r_call (As := [.int (nI cut)]) (rest := []) (ci := 1) X hP (c_X1_isRay hp0 cut (by omega)) o_X1_isRay rfl hp0.lt hp0.ob m302 ⟨rfl, rfl⟩ ⟨Nat.le_of_ble_eq_true rfl, Nat.le_of_ble_eq_true rfl⟩ rfl hl.1 rfl (Nat.le_of_ble_eq_true rfl) ⟨Nat.zero_le _, Nat.zero_le _⟩ dX1_isLoose_2 ?_
  refine q_eqB (tgt := 24) hx hb dX1_isLoose_5 (by decide) (fun c1 => ?_) (fun c1 => ?_)
  · refine lv_aload_n hx hb dX1_isLoose_24 rfl (lv_at hl 0 rfl) ?_
    refine lv_iload_n hx hb dX1_isLoose_25 rfl (lv_at hl 1 rfl) ?_
    refine lv_iload_n hx hb dX1_isLoose_26 rfl (lv_at hl 2 rfl) ?_
    refine r_call (As := [.int (nI cut), .int (masterPlan)]) (rest := []) (ci := 1) X hP (c_X1_valueOf hp0 cut masterPlan (by omega)) o_X1_valueOf rfl hp0.lt hp0.ob m326 ⟨rfl, rfl⟩ ⟨Nat.le_of_ble_eq_true rfl, Nat.le_of_ble_eq_true rfl⟩ rfl hl.1 rfl (Nat.le_of_ble_eq_true rfl) ⟨Nat.zero_le _, Nat.zero_le _⟩ dX1_isLoose_27 ?_
    refine lv_iload_n hx hb dX1_isLoose_30 rfl (lv_at hl 3 rfl) ?_
    refine j_ge (tgt := 38) hx hb dX1_isLoose_31 (by decide) (fun c2 => ?_) (fun c2 => ?_)
    · refine lv_iconst (v := nI 0) hx hb dX1_isLoose_38 (by decide) ?_
      exact kr 39 ls _ (b_f (by rw [f_X1_isLoose, if_neg (nt c1), if_neg c2] <;> rfl)) dX1_isLoose_39
    · refine lv_iconst (v := nI 1) hx hb dX1_isLoose_34 (by decide) ?_
      refine lv_goto (tgt := 39) hx hb dX1_isLoose_35 (by decide) ?_
      exact kr 39 ls _ (b_t (by rw [f_X1_isLoose, if_neg (nt c1), if_pos c2] <;> rfl)) dX1_isLoose_39
  · refine lv_aload_n hx hb dX1_isLoose_8 rfl (lv_at hl 0 rfl) ?_
    refine lv_iload_n hx hb dX1_isLoose_9 rfl (lv_at hl 1 rfl) ?_
    refine lv_iload_n hx hb dX1_isLoose_10 rfl (lv_at hl 2 rfl) ?_
    refine r_call (As := [.int (nI cut), .int (masterPlan)]) (rest := []) (ci := 1) X hP (c_X1_weightOf hp0 cut masterPlan (by omega)) o_X1_weightOf rfl hp0.lt hp0.ob m306 ⟨rfl, rfl⟩ ⟨Nat.le_of_ble_eq_true rfl, Nat.le_of_ble_eq_true rfl⟩ rfl hl.1 rfl (Nat.le_of_ble_eq_true rfl) ⟨Nat.zero_le _, Nat.zero_le _⟩ dX1_isLoose_11 ?_
    refine lv_iconst (v := nI 1) hx hb dX1_isLoose_14 (by decide) ?_
    refine j_le (tgt := 22) hx hb dX1_isLoose_15 (by decide) (fun c3 => ?_) (fun c3 => ?_)
    · refine lv_iconst (v := nI 0) hx hb dX1_isLoose_22 (by decide) ?_
      exact kr 23 ls _ (b_f (by rw [f_X1_isLoose, if_pos c1, if_neg c3] <;> rfl)) dX1_isLoose_23
    · refine lv_iconst (v := nI 1) hx hb dX1_isLoose_18 (by decide) ?_
      refine lv_goto (tgt := 23) hx hb dX1_isLoose_19 (by decide) ?_
      exact kr 23 ls _ (b_t (by rw [f_X1_isLoose, if_pos c1, if_pos c3] <;> rfl)) dX1_isLoose_23
theorem o_X1_isLoose : okV yX1_isLoose cX1_isLoose 4 (some .boolean) 3 := ⟨m530, m531, m39, m532, by decide +kernel, by decide +kernel, by decide +kernel⟩
def rmX1_countLoose : Room := { frames := 4, cells := 0, slots := 0, locals := 90 }
def l_X1_countLoose_11 (y : CuC) (masterPlan : Int32) : Nat → Nat → Nat → Nat
  | 0, ix_1, a3_1 => a3_1
  | dx_1 + 1, ix_1, a3_1 => (if (f_X1_isLoose y ix_1 masterPlan (f_X1_greatestValue y masterPlan)) = true then l_X1_countLoose_11 y masterPlan dx_1 (ix_1 + 1) (a3_1 + 1) else l_X1_countLoose_11 y masterPlan dx_1 (ix_1 + 1) a3_1)
def f_X1_countLoose (y : CuC) (masterPlan : Int32) : Int32 :=
  nI (l_X1_countLoose_11 y masterPlan (kA y) 0 0)
set_option maxHeartbeats 4000000 in
set_option maxRecDepth 100000 in
theorem c_X1_countLoose {l : Launch} {dd : va_G} {t : CL4} {N : Nat} {ad : Nat → Nat} {V : Nat → va_E} {b : Nat} {y : CuC}  (hp0 : CuP N ad V t b y) (masterPlan : Int32)  : RM l dd t N ad V yX1_countLoose cX1_countLoose 5 (some .int) rmX1_countLoose [.ref (ad b), .int (masterPlan)] (f_X1_countLoose y masterPlan) := by
  refine RM.of (by decide +kernel) ⟨rfl, rfl⟩ (Nat.le_of_ble_eq_true rfl) (narI _) ?_
  intro p e s m as below meth c Q X H hP ls hl kr
  have X : WX p s m as c cX1_countLoose 5 RX1 dd t := X
  have hx := X.1.1
  have hb := X.1.2.1
  have hl : lv_has ls 5 [(0, .ref (ad b)), (1, .int (masterPlan))] := hl
  have hi0_0 := hp0.i0
  have hle0 := hp0.le
  refine lv_aload_n hx hb dX1_countLoose_0 rfl (lv_at hl 0 rfl) ?_
  refine lv_iload_n hx hb dX1_countLoose_1 rfl (lv_at hl 1 rfl) ?_
  refine r_call (As := [.int (masterPlan)]) (rest := []) (ci := 1) X hP (c_X1_greatestValue hp0 masterPlan) o_X1_greatestValue rfl hp0.lt hp0.ob m528 ⟨rfl, rfl⟩ ⟨Nat.le_of_ble_eq_true rfl, Nat.le_of_ble_eq_true rfl⟩ rfl hl.1 rfl (Nat.le_of_ble_eq_true rfl) ⟨Nat.zero_le _, Nat.zero_le _⟩ dX1_countLoose_2 ?_
  refine lv_istore_n (lv' := [(2, .int (f_X1_greatestValue y masterPlan)), (0, .ref (ad b)), (1, .int (masterPlan))]) hx hb dX1_countLoose_5 rfl hl (by decide) rfl (fun ls hl => ?_)
  refine lv_iconst (v := nI 0) hx hb dX1_countLoose_6 (by decide) ?_
  refine lv_istore_n (lv' := [(3, .int (nI 0)), (2, .int (f_X1_greatestValue y masterPlan)), (0, .ref (ad b)), (1, .int (masterPlan))]) hx hb dX1_countLoose_7 rfl hl (by decide) rfl (fun ls hl => ?_)
  refine lv_iconst (v := nI 0) hx hb dX1_countLoose_8 (by decide) ?_
  refine lv_istore (lv' := [(4, .int (nI 0)), (3, .int (nI 0)), (2, .int (f_X1_greatestValue y masterPlan)), (0, .ref (ad b)), (1, .int (masterPlan))]) hx hb dX1_countLoose_9 hl (by decide) rfl (fun ls hl => ?_)
  have L1 : ∀ (dx_1 ix_1 : Nat) (a3_1 : Nat) (ls : Array Slot), (ix_1 + dx_1 = kA y) → (l_X1_countLoose_11 y masterPlan dx_1 ix_1 a3_1 = l_X1_countLoose_11 y masterPlan (kA y) 0 0) → (lv_has ls 5 [(0, .ref (ad b)), (1, .int (masterPlan)), (2, .int (f_X1_greatestValue y masterPlan)), (3, .int (nI a3_1)), (4, .int (nI ix_1))]) → W p l e rmX1_countLoose s m as below meth c H [] 0 0 Q (F0 m 11 ls []) := by
    intro dx_1
    induction dx_1 with
    | zero =>
      intro ix_1 a3_1 ls hid hvx_1 hl
      have hiN : kA y = ix_1 := by omega
      subst hiN
      have hvx_1 : a3_1 = l_X1_countLoose_11 y masterPlan (kA y) 0 0 := hvx_1
      have hh0 : a3_1 = l_X1_countLoose_11 y masterPlan (kA y) 0 0 := hvx_1
      subst hh0
      refine lv_iload hx hb dX1_countLoose_11 (lv_at hl 4 rfl) ?_
      refine lv_aload_n hx hb dX1_countLoose_13 rfl (lv_at hl 0 rfl) ?_
      refine g_Cu_amount X hP hp0 m59 dX1_countLoose_14 ?_
      refine q_ge (tgt := 40) hx hb (by omega) (by omega) dX1_countLoose_17 (by decide) (fun c2 => ?_) (fun h => absurd h (by omega))
      refine lv_iload_n hx hb dX1_countLoose_40 rfl (lv_at hl 3 rfl) ?_
      exact kr 41 ls _ (Eq.symm (by rw [f_X1_countLoose] <;> rfl)) dX1_countLoose_41
    | succ dx_1 ihx_1 =>
      intro ix_1 a3_1 ls hid hvx_1 hl
      refine lv_iload hx hb dX1_countLoose_11 (lv_at hl 4 rfl) ?_
      refine lv_aload_n hx hb dX1_countLoose_13 rfl (lv_at hl 0 rfl) ?_
      refine g_Cu_amount X hP hp0 m59 dX1_countLoose_14 ?_
      refine q_ge (tgt := 40) hx hb (by omega) (by omega) dX1_countLoose_17 (by decide) (fun h => absurd h (by omega)) (fun c3 => ?_)
      refine lv_aload_n hx hb dX1_countLoose_20 rfl (lv_at hl 0 rfl) ?_
      refine lv_iload hx hb dX1_countLoose_21 (lv_at hl 4 rfl) ?_
      refine lv_iload_n hx hb dX1_countLoose_23 rfl (lv_at hl 1 rfl) ?_
      refine lv_iload_n hx hb dX1_countLoose_24 rfl (lv_at hl 2 rfl) ?_
      refine r_call (As := [.int (nI ix_1), .int (masterPlan), .int (f_X1_greatestValue y masterPlan)]) (rest := []) (ci := 1) X hP (c_X1_isLoose hp0 ix_1 masterPlan (f_X1_greatestValue y masterPlan) (by omega)) o_X1_isLoose rfl hp0.lt hp0.ob m529 ⟨rfl, rfl⟩ ⟨Nat.le_of_ble_eq_true rfl, Nat.le_of_ble_eq_true rfl⟩ rfl hl.1 rfl (Nat.le_of_ble_eq_true rfl) ⟨Nat.zero_le _, Nat.zero_le _⟩ dX1_countLoose_25 ?_
      refine q_eqB (tgt := 34) hx hb dX1_countLoose_28 (by decide) (fun c4 => ?_) (fun c4 => ?_)
      · refine lv_iinc (v := nI (ix_1 + 1)) (lv' := [(4, .int (nI (ix_1 + 1))), (0, .ref (ad b)), (1, .int (masterPlan)), (2, .int (f_X1_greatestValue y masterPlan)), (3, .int (nI a3_1))]) hx hb dX1_countLoose_34 hl (k := 4) rfl (nI_inc _) (by decide) rfl (fun ls hl => ?_)
        refine lv_goto (tgt := 11) hx hb dX1_countLoose_37 (by decide) ?_
        exact ihx_1 (ix_1 + 1) a3_1 ls (by omega) (Eq.trans (Eq.symm (by rw [l_X1_countLoose_11, if_neg (nt c4)] <;> rfl)) hvx_1) (lv_sub hl [1, 2, 3, 4, 0] rfl)
      · refine lv_iinc (v := nI (a3_1 + 1)) (lv' := [(3, .int (nI (a3_1 + 1))), (0, .ref (ad b)), (1, .int (masterPlan)), (2, .int (f_X1_greatestValue y masterPlan)), (4, .int (nI ix_1))]) hx hb dX1_countLoose_31 hl (k := 3) rfl (nI_inc _) (by decide) rfl (fun ls hl => ?_)
        refine lv_iinc (v := nI (ix_1 + 1)) (lv' := [(4, .int (nI (ix_1 + 1))), (3, .int (nI (a3_1 + 1))), (0, .ref (ad b)), (1, .int (masterPlan)), (2, .int (f_X1_greatestValue y masterPlan))]) hx hb dX1_countLoose_34 hl (k := 4) rfl (nI_inc _) (by decide) rfl (fun ls hl => ?_)
        refine lv_goto (tgt := 11) hx hb dX1_countLoose_37 (by decide) ?_
        exact ihx_1 (ix_1 + 1) (a3_1 + 1) ls (by omega) (Eq.trans (Eq.symm (by rw [l_X1_countLoose_11, if_pos c4] <;> rfl)) hvx_1) (lv_sub hl [2, 3, 4, 1, 0] rfl)
  exact L1 (kA y) 0 0 ls (by omega) rfl (lv_sub hl [3, 4, 2, 1, 0] rfl)
theorem o_X1_countLoose : okV yX1_countLoose cX1_countLoose 5 (some .int) 1 := ⟨m525, m526, m39, m527, by decide +kernel, by decide +kernel, by decide +kernel⟩
def rmX1_savedBy : Room := { frames := 1, cells := 0, slots := 0, locals := 15 }
def l_X1_savedBy_5 (x : PlC) (f : Nat → Int32) (site : Nat) : Nat → Nat → Int32 → Int32
  | 0, ix_1, a3_1 => a3_1
  | dx_1 + 1, ix_1, a3_1 => l_X1_savedBy_5 x f site dx_1 (ix_1 + 1) (a3_1 + ((pD x ix_1) * (if (nI 0) < ((f ix_1) - (pR x site ix_1)) then ((f ix_1) - (pR x site ix_1)) else (nI 0))))
def f_X1_savedBy (x : PlC) (f : Nat → Int32) (site : Nat) : Int32 :=
  (l_X1_savedBy_5 x f site (pM x) 0 (nI 0))
set_option maxHeartbeats 4000000 in
set_option maxRecDepth 100000 in
theorem c_X1_savedBy {l : Launch} {dd : va_G} {t : CL4} {N : Nat} {ad : Nat → Nat} {V : Nat → va_E} {b : Nat} {q : Nat} {x : PlC} {f : Nat → Int32}  (hp0 : PlP N ad V t b x) (hp1 : NuP N V t q f) (site : Nat) (h_site : site < pN x) : RM l dd t N ad V yX1_savedBy cX1_savedBy 6 (some .int) rmX1_savedBy [.ref (ad b), .int (nI site), .ref (ad q)] (f_X1_savedBy x f site) := by
  refine RM.of (by decide +kernel) ⟨rfl, rfl⟩ (Nat.le_of_ble_eq_true rfl) (narI _) ?_
  intro p e s m as below meth c Q X H hP ls hl kr
  have X : WX p s m as c cX1_savedBy 6 RX1 dd t := X
  have hx := X.1.1
  have hb := X.1.2.1
  have hl : lv_has ls 6 [(0, .ref (ad b)), (1, .int (nI site)), (2, .ref (ad q))] := hl
  have hi0_0 := hp0.i0
  have hi0_1 := hp0.i1
  have hle0 := hp0.le
  have hle1 := hp1.1
  refine lv_iconst (v := nI 0) hx hb dX1_savedBy_0 (by decide) ?_
  refine lv_istore_n (lv' := [(3, .int (nI 0)), (0, .ref (ad b)), (1, .int (nI site)), (2, .ref (ad q))]) hx hb dX1_savedBy_1 rfl hl (by decide) rfl (fun ls hl => ?_)
  refine lv_iconst (v := nI 0) hx hb dX1_savedBy_2 (by decide) ?_
  refine lv_istore (lv' := [(4, .int (nI 0)), (3, .int (nI 0)), (0, .ref (ad b)), (1, .int (nI site)), (2, .ref (ad q))]) hx hb dX1_savedBy_3 hl (by decide) rfl (fun ls hl => ?_)
  have L1 : ∀ (dx_1 ix_1 : Nat) (a3_1 : Int32) (ls : Array Slot), (ix_1 + dx_1 = pM x) → (l_X1_savedBy_5 x f site dx_1 ix_1 a3_1 = l_X1_savedBy_5 x f site (pM x) 0 (nI 0)) → (lv_has ls 6 [(0, .ref (ad b)), (1, .int (nI site)), (2, .ref (ad q)), (3, .int (a3_1)), (4, .int (nI ix_1))]) → W p l e rmX1_savedBy s m as below meth c H [] 0 0 Q (F0 m 5 ls []) := by
    intro dx_1
    induction dx_1 with
    | zero =>
      intro ix_1 a3_1 ls hid hvx_1 hl
      have hiN : pM x = ix_1 := by omega
      subst hiN
      have hvx_1 : a3_1 = l_X1_savedBy_5 x f site (pM x) 0 (nI 0) := hvx_1
      have hh0 : a3_1 = l_X1_savedBy_5 x f site (pM x) 0 (nI 0) := hvx_1
      subst hh0
      refine lv_iload hx hb dX1_savedBy_5 (lv_at hl 4 rfl) ?_
      refine lv_aload_n hx hb dX1_savedBy_7 rfl (lv_at hl 0 rfl) ?_
      refine g_Pl_customerCount X hP hp0 m372 dX1_savedBy_8 ?_
      refine q_ge (tgt := 53) hx hb (by omega) (by omega) dX1_savedBy_11 (by decide) (fun c2 => ?_) (fun h => absurd h (by omega))
      refine lv_iload_n hx hb dX1_savedBy_53 rfl (lv_at hl 3 rfl) ?_
      exact kr 54 ls _ (Eq.symm (by rw [f_X1_savedBy] <;> rfl)) dX1_savedBy_54
    | succ dx_1 ihx_1 =>
      intro ix_1 a3_1 ls hid hvx_1 hl
      refine lv_iload hx hb dX1_savedBy_5 (lv_at hl 4 rfl) ?_
      refine lv_aload_n hx hb dX1_savedBy_7 rfl (lv_at hl 0 rfl) ?_
      refine g_Pl_customerCount X hP hp0 m372 dX1_savedBy_8 ?_
      refine q_ge (tgt := 53) hx hb (by omega) (by omega) dX1_savedBy_11 (by decide) (fun h => absurd h (by omega)) (fun c3 => ?_)
      refine lv_aload_n hx hb dX1_savedBy_14 rfl (lv_at hl 2 rfl) ?_
      refine lv_iload hx hb dX1_savedBy_15 (lv_at hl 4 rfl) ?_
      refine a_nld X hP hp1 (by omega) dX1_savedBy_17 ?_
      refine lv_aload_n hx hb dX1_savedBy_18 rfl (lv_at hl 0 rfl) ?_
      refine g_Pl_routePrices X hP hp0 m377 dX1_savedBy_19 ?_
      refine lv_iload_n hx hb dX1_savedBy_22 rfl (lv_at hl 1 rfl) ?_
      refine l_Pl_routePrices X hP hp0 (by omega) dX1_savedBy_23 ?_
      refine lv_iload hx hb dX1_savedBy_24 (lv_at hl 4 rfl) ?_
      refine l_Pl_routePrices_row X hP hp0 (by omega) (by omega) dX1_savedBy_26 ?_
      refine lv_isub hx hb dX1_savedBy_27 ?_
      refine lv_istore (lv' := [(5, .int ((f ix_1) - (pR x site ix_1))), (0, .ref (ad b)), (1, .int (nI site)), (2, .ref (ad q)), (3, .int (a3_1)), (4, .int (nI ix_1))]) hx hb dX1_savedBy_28 hl (by decide) rfl (fun ls hl => ?_)
      refine lv_iload_n hx hb dX1_savedBy_30 rfl (lv_at hl 4 rfl) ?_
      refine lv_aload_n hx hb dX1_savedBy_31 rfl (lv_at hl 1 rfl) ?_
      refine g_Pl_demands X hP hp0 m373 dX1_savedBy_32 ?_
      refine lv_iload hx hb dX1_savedBy_35 (lv_at hl 5 rfl) ?_
      refine l_Pl_demands X hP hp0 (by omega) dX1_savedBy_37 ?_
      refine lv_iconst (v := nI 0) hx hb dX1_savedBy_38 (by decide) ?_
      refine lv_iload hx hb dX1_savedBy_39 (lv_at hl 0 rfl) ?_
      refine va_mmax hx hb (X.1.2.2.1.trans hl.1.symm) X.1.2.2.2.1 (X.1.2.2.2.2 _ m322) (X.1.2.2.2.2 _ m323) (X.1.2.2.2.2 _ m324) (X.1.2.2.2.2 _ m325) (Nat.le_of_ble_eq_true rfl) (Nat.le_of_ble_eq_true rfl) (Nat.le_of_ble_eq_true rfl) (Nat.le_of_ble_eq_true rfl) dX1_savedBy_41 ?_
      refine lv_imul hx hb dX1_savedBy_44 ?_
      refine lv_iadd hx hb dX1_savedBy_45 ?_
      refine lv_istore_n (lv' := [(3, .int (a3_1 + ((pD x ix_1) * (if (nI 0) < ((f ix_1) - (pR x site ix_1)) then ((f ix_1) - (pR x site ix_1)) else (nI 0))))), (5, .int ((f ix_1) - (pR x site ix_1))), (0, .ref (ad b)), (1, .int (nI site)), (2, .ref (ad q)), (4, .int (nI ix_1))]) hx hb dX1_savedBy_46 rfl hl (by decide) rfl (fun ls hl => ?_)
      refine lv_iinc (v := nI (ix_1 + 1)) (lv' := [(4, .int (nI (ix_1 + 1))), (3, .int (a3_1 + ((pD x ix_1) * (if (nI 0) < ((f ix_1) - (pR x site ix_1)) then ((f ix_1) - (pR x site ix_1)) else (nI 0))))), (5, .int ((f ix_1) - (pR x site ix_1))), (0, .ref (ad b)), (1, .int (nI site)), (2, .ref (ad q))]) hx hb dX1_savedBy_47 hl (k := 5) rfl (nI_inc _) (by decide) rfl (fun ls hl => ?_)
      refine lv_goto (tgt := 5) hx hb dX1_savedBy_50 (by decide) ?_
      exact ihx_1 (ix_1 + 1) (a3_1 + ((pD x ix_1) * (if (nI 0) < ((f ix_1) - (pR x site ix_1)) then ((f ix_1) - (pR x site ix_1)) else (nI 0)))) ls (by omega) (Eq.trans (Eq.symm (by rw [l_X1_savedBy_5] <;> rfl)) hvx_1) (lv_sub hl [3, 4, 5, 1, 0] rfl)
  exact L1 (pM x) 0 (nI 0) ls (by omega) rfl (lv_sub hl [2, 3, 4, 1, 0] rfl)
theorem o_X1_savedBy : okS yX1_savedBy cX1_savedBy 6 (some .int) 3 := ⟨m375, m39, m376, by decide +kernel, by decide +kernel, by decide +kernel⟩
def rmX4_guessOf : Room := { frames := 4, cells := 0, slots := 0, locals := 90 }
def f_X4_guessOf (z : SoC) (x : PlC) (y : CuC) (plan : Int32) : Int32 :=
  (f_X3_sitePricesOf x plan) + (f_X1_greatestValue y plan)
set_option maxHeartbeats 4000000 in
set_option maxRecDepth 100000 in
theorem c_X4_guessOf {l : Launch} {dd : va_G} {t : CL4} {N : Nat} {ad : Nat → Nat} {V : Nat → va_E} {b : Nat} {z : SoC} {x : PlC} {y : CuC}  (hp0 : SoP N ad V t b z) (hp1 : PlP N ad V t (b + 1) x) (hp2 : CuP N ad V t (b + 13) y) (plan : Int32)  : RM l dd t N ad V yX4_guessOf cX4_guessOf 2 (some .int) rmX4_guessOf [.ref (ad b), .int (plan)] (f_X4_guessOf z x y plan) := by
  refine RM.of (by decide +kernel) ⟨rfl, rfl⟩ (Nat.le_of_ble_eq_true rfl) (narI _) ?_
  intro p e s m as below meth c Q X H hP ls hl kr
  have X : WX p s m as c cX4_guessOf 2 RX4 dd t := X
  have hx := X.1.1
  have hb := X.1.2.1
  have hl : lv_has ls 2 [(0, .ref (ad b)), (1, .int (plan))] := hl
  have hi1_0 := hp1.i0
  have hi1_1 := hp1.i1
  have hi2_0 := hp2.i0
  have hle0 := hp0.le
  have hle1 := hp1.le
  have hle2 := hp2.le
  refine lv_aload_n hx hb dX4_guessOf_0 rfl (lv_at hl 0 rfl) ?_
  refine g_So_places X hP hp0 m36 dX4_guessOf_1 ?_
  refine lv_iload_n hx hb dX4_guessOf_4 rfl (lv_at hl 1 rfl) ?_
  refine r_call (As := [.int (plan)]) (rest := []) (ci := 3) X hP (c_X3_sitePricesOf hp1 plan) o_X3_sitePricesOf rfl hp1.lt hp1.ob m314 ⟨rfl, rfl⟩ ⟨Nat.le_of_ble_eq_true rfl, Nat.le_of_ble_eq_true rfl⟩ rfl hl.1 rfl (Nat.le_of_ble_eq_true rfl) ⟨Nat.zero_le _, Nat.zero_le _⟩ dX4_guessOf_5 ?_
  refine lv_aload_n hx hb dX4_guessOf_8 rfl (lv_at hl 0 rfl) ?_
  refine g_So_cuts X hP hp0 m40 dX4_guessOf_9 ?_
  refine lv_iload_n hx hb dX4_guessOf_12 rfl (lv_at hl 1 rfl) ?_
  refine r_call (As := [.int (plan)]) (rest := [.int (f_X3_sitePricesOf x plan)]) (ci := 1) X hP (c_X1_greatestValue hp2 plan) o_X1_greatestValue rfl hp2.lt hp2.ob m318 ⟨rfl, rfl⟩ ⟨Nat.le_of_ble_eq_true rfl, Nat.le_of_ble_eq_true rfl⟩ rfl hl.1 rfl (Nat.le_of_ble_eq_true rfl) ⟨Nat.zero_le _, Nat.zero_le _⟩ dX4_guessOf_13 ?_
  refine lv_iadd hx hb dX4_guessOf_16 ?_
  exact kr 17 ls _ (Eq.symm (by rw [f_X4_guessOf] <;> rfl)) dX4_guessOf_17
theorem o_X4_guessOf : okV yX4_guessOf cX4_guessOf 2 (some .int) 1 := ⟨m311, m312, m14, m313, by decide +kernel, by decide +kernel, by decide +kernel⟩
def rmX4_isForMaster : Room := { frames := 3, cells := 0, slots := 0, locals := 68 }
def f_X4_isForMaster (z : SoC) (x : PlC) (y : CuC) (plan : Int32) : Bool :=
  (if (f_X3_isAllowed x plan) = true then (if (f_X1_countMissedRays y plan) = 0 then true else false) else false)
set_option maxHeartbeats 4000000 in
set_option maxRecDepth 100000 in
theorem c_X4_isForMaster {l : Launch} {dd : va_G} {t : CL4} {N : Nat} {ad : Nat → Nat} {V : Nat → va_E} {b : Nat} {z : SoC} {x : PlC} {y : CuC}  (hp0 : SoP N ad V t b z) (hp1 : PlP N ad V t (b + 1) x) (hp2 : CuP N ad V t (b + 13) y) (plan : Int32)  : RM l dd t N ad V yX4_isForMaster cX4_isForMaster 2 (some .boolean) rmX4_isForMaster [.ref (ad b), .int (plan)] (b01 (f_X4_isForMaster z x y plan)) := by
  refine RM.of (by decide +kernel) ⟨rfl, rfl⟩ (Nat.le_of_ble_eq_true rfl) (narB _) ?_
  intro p e s m as below meth c Q X H hP ls hl kr
  have X : WX p s m as c cX4_isForMaster 2 RX4 dd t := X
  have hx := X.1.1
  have hb := X.1.2.1
  have hl : lv_has ls 2 [(0, .ref (ad b)), (1, .int (plan))] := hl
  have hi1_0 := hp1.i0
  have hi1_1 := hp1.i1
  have hi2_0 := hp2.i0
  have hle0 := hp0.le
  have hle1 := hp1.le
  have hle2 := hp2.le
  refine lv_aload_n hx hb dX4_isForMaster_0 rfl (lv_at hl 0 rfl) ?_
  refine g_So_places X hP hp0 m36 dX4_isForMaster_1 ?_
  refine lv_iload_n hx hb dX4_isForMaster_4 rfl (lv_at hl 1 rfl) ?_
  refine r_call (As := [.int (plan)]) (rest := []) (ci := 3) X hP (c_X3_isAllowed hp1 plan) o_X3_isAllowed rfl hp1.lt hp1.ob m289 ⟨rfl, rfl⟩ ⟨Nat.le_of_ble_eq_true rfl, Nat.le_of_ble_eq_true rfl⟩ rfl hl.1 rfl (Nat.le_of_ble_eq_true rfl) ⟨Nat.zero_le _, Nat.zero_le _⟩ dX4_isForMaster_5 ?_
  refine q_eqB (tgt := 26) hx hb dX4_isForMaster_8 (by decide) (fun c1 => ?_) (fun c1 => ?_)
  · refine lv_iconst (v := nI 0) hx hb dX4_isForMaster_26 (by decide) ?_
    exact kr 27 ls _ (b_f (by rw [f_X4_isForMaster, if_neg (nt c1)] <;> rfl)) dX4_isForMaster_27
  · refine lv_aload_n hx hb dX4_isForMaster_11 rfl (lv_at hl 0 rfl) ?_
    refine g_So_cuts X hP hp0 m40 dX4_isForMaster_12 ?_
    refine lv_iload_n hx hb dX4_isForMaster_15 rfl (lv_at hl 1 rfl) ?_
    refine r_call (As := [.int (plan)]) (rest := []) (ci := 1) X hP (c_X1_countMissedRays hp2 plan) o_X1_countMissedRays rfl hp2.lt hp2.ob m298 ⟨rfl, rfl⟩ ⟨Nat.le_of_ble_eq_true rfl, Nat.le_of_ble_eq_true rfl⟩ rfl hl.1 rfl (Nat.le_of_ble_eq_true rfl) ⟨Nat.zero_le _, Nat.zero_le _⟩ dX4_isForMaster_16 ?_
    refine lv_if_ne (tgt := 26) hx hb dX4_isForMaster_19 (by decide) (fun c2 => ?_) (fun c2 => ?_)
    · refine lv_iconst (v := nI 0) hx hb dX4_isForMaster_26 (by decide) ?_
      exact kr 27 ls _ (b_f (by rw [f_X4_isForMaster, if_pos c1, if_neg c2] <;> rfl)) dX4_isForMaster_27
    · refine lv_iconst (v := nI 1) hx hb dX4_isForMaster_22 (by decide) ?_
      refine lv_goto (tgt := 27) hx hb dX4_isForMaster_23 (by decide) ?_
      exact kr 27 ls _ (b_t (by rw [f_X4_isForMaster, if_pos c1, if_pos c2] <;> rfl)) dX4_isForMaster_27
theorem o_X4_isForMaster : okV yX4_isForMaster cX4_isForMaster 2 (some .boolean) 1 := ⟨m286, m287, m14, m288, by decide +kernel, by decide +kernel, by decide +kernel⟩
def rmX4_findMasterPlan : Room := { frames := 5, cells := 0, slots := 0, locals := 111 }
def l_X4_findMasterPlan_6 (z : SoC) (x : PlC) (y : CuC) : Nat → Nat → Int32 → Int32 → Int32 × Int32
  | 0, ix_1, a1_1, a2_1 => (a1_1, a2_1)
  | dx_1 + 1, ix_1, a1_1, a2_1 => (if (f_X4_isForMaster z x y (nI ix_1)) = true then (if a1_1 = (-1) then l_X4_findMasterPlan_6 z x y dx_1 (ix_1 + 1) (nI ix_1) (f_X4_guessOf z x y (nI ix_1)) else (if (f_X4_guessOf z x y (nI ix_1)) < a2_1 then l_X4_findMasterPlan_6 z x y dx_1 (ix_1 + 1) (nI ix_1) (f_X4_guessOf z x y (nI ix_1)) else l_X4_findMasterPlan_6 z x y dx_1 (ix_1 + 1) a1_1 a2_1)) else l_X4_findMasterPlan_6 z x y dx_1 (ix_1 + 1) a1_1 a2_1)
def f_X4_findMasterPlan (z : SoC) (x : PlC) (y : CuC) : Int32 :=
  ((l_X4_findMasterPlan_6 z x y (2 ^ pN x) 0 (-1) (nI 0)).1)
set_option maxHeartbeats 4000000 in
set_option maxRecDepth 100000 in
theorem c_X4_findMasterPlan {l : Launch} {dd : va_G} {t : CL4} {N : Nat} {ad : Nat → Nat} {V : Nat → va_E} {b : Nat} {z : SoC} {x : PlC} {y : CuC}  (hp0 : SoP N ad V t b z) (hp1 : PlP N ad V t (b + 1) x) (hp2 : CuP N ad V t (b + 13) y)   : RM l dd t N ad V yX4_findMasterPlan cX4_findMasterPlan 5 (some .int) rmX4_findMasterPlan [.ref (ad b)] (f_X4_findMasterPlan z x y) := by
  refine RM.of (by decide +kernel) ⟨rfl, rfl⟩ (Nat.le_of_ble_eq_true rfl) (narI _) ?_
  intro p e s m as below meth c Q X H hP ls hl kr
  have X : WX p s m as c cX4_findMasterPlan 5 RX4 dd t := X
  have hx := X.1.1
  have hb := X.1.2.1
  have hl : lv_has ls 5 [(0, .ref (ad b))] := hl
  have hi1_0 := hp1.i0
  have hi1_1 := hp1.i1
  have hi2_0 := hp2.i0
  have hle0 := hp0.le
  have hle1 := hp1.le
  have hle2 := hp2.le
  have hpw : 2 ^ pN x ≤ 128 := pow7 hi1_0
  refine lv_iconst (v := (-1)) hx hb dX4_findMasterPlan_0 (by decide) ?_
  refine lv_istore_n (lv' := [(1, .int ((-1))), (0, .ref (ad b))]) hx hb dX4_findMasterPlan_1 rfl hl (by decide) rfl (fun ls hl => ?_)
  refine lv_iconst (v := nI 0) hx hb dX4_findMasterPlan_2 (by decide) ?_
  refine lv_istore_n (lv' := [(2, .int (nI 0)), (1, .int ((-1))), (0, .ref (ad b))]) hx hb dX4_findMasterPlan_3 rfl hl (by decide) rfl (fun ls hl => ?_)
  refine lv_iconst (v := nI 0) hx hb dX4_findMasterPlan_4 (by decide) ?_
  refine lv_istore_n (lv' := [(3, .int (nI 0)), (2, .int (nI 0)), (1, .int ((-1))), (0, .ref (ad b))]) hx hb dX4_findMasterPlan_5 rfl hl (by decide) rfl (fun ls hl => ?_)
  have L1 : ∀ (dx_1 ix_1 : Nat) (a1_1 : Int32) (a2_1 : Int32) (ls : Array Slot), (ix_1 + dx_1 = 2 ^ pN x) → (l_X4_findMasterPlan_6 z x y dx_1 ix_1 a1_1 a2_1 = l_X4_findMasterPlan_6 z x y (2 ^ pN x) 0 (-1) (nI 0)) → (lv_has ls 5 [(0, .ref (ad b)), (1, .int (a1_1)), (2, .int (a2_1)), (3, .int (nI ix_1))]) → W p l e rmX4_findMasterPlan s m as below meth c H [] 0 0 Q (F0 m 6 ls []) := by
    intro dx_1
    induction dx_1 with
    | zero =>
      intro ix_1 a1_1 a2_1 ls hid hvx_1 hl
      have hiN : 2 ^ pN x = ix_1 := by omega
      subst hiN
      have hvx_1 : (a1_1, a2_1) = l_X4_findMasterPlan_6 z x y (2 ^ pN x) 0 (-1) (nI 0) := hvx_1
      have hh0 : a1_1 = (l_X4_findMasterPlan_6 z x y (2 ^ pN x) 0 (-1) (nI 0)).1 := congrArg (fun q => (q).1) hvx_1
      have hh1 : a2_1 = (l_X4_findMasterPlan_6 z x y (2 ^ pN x) 0 (-1) (nI 0)).2 := congrArg (fun q => (q).2) hvx_1
      subst hh0
      subst hh1
      refine lv_iload_n hx hb dX4_findMasterPlan_6 rfl (lv_at hl 3 rfl) ?_
      refine lv_aload_n hx hb dX4_findMasterPlan_7 rfl (lv_at hl 0 rfl) ?_
      refine g_So_places X hP hp0 m36 dX4_findMasterPlan_8 ?_
      refine r_call (As := []) (rest := [.int (nI (2 ^ pN x))]) (ci := 3) X hP (c_X3_planCount hp1) o_X3_planCount rfl hp1.lt hp1.ob m281 ⟨rfl, rfl⟩ ⟨Nat.le_of_ble_eq_true rfl, Nat.le_of_ble_eq_true rfl⟩ rfl hl.1 rfl (Nat.le_of_ble_eq_true rfl) ⟨Nat.zero_le _, Nat.zero_le _⟩ dX4_findMasterPlan_11 ?_
      refine q_val (show nI (f_X3_planCount x) = nI (2 ^ pN x) from rfl) ?_
      refine q_ge (tgt := 54) hx hb (by omega) (by omega) dX4_findMasterPlan_14 (by decide) (fun c2 => ?_) (fun h => absurd h (by omega))
      refine lv_iload_n hx hb dX4_findMasterPlan_54 rfl (lv_at hl 1 rfl) ?_
      exact kr 55 ls _ (Eq.symm (by rw [f_X4_findMasterPlan] <;> rfl)) dX4_findMasterPlan_55
    | succ dx_1 ihx_1 =>
      intro ix_1 a1_1 a2_1 ls hid hvx_1 hl
      refine lv_iload_n hx hb dX4_findMasterPlan_6 rfl (lv_at hl 3 rfl) ?_
      refine lv_aload_n hx hb dX4_findMasterPlan_7 rfl (lv_at hl 0 rfl) ?_
      refine g_So_places X hP hp0 m36 dX4_findMasterPlan_8 ?_
      refine r_call (As := []) (rest := [.int (nI ix_1)]) (ci := 3) X hP (c_X3_planCount hp1) o_X3_planCount rfl hp1.lt hp1.ob m281 ⟨rfl, rfl⟩ ⟨Nat.le_of_ble_eq_true rfl, Nat.le_of_ble_eq_true rfl⟩ rfl hl.1 rfl (Nat.le_of_ble_eq_true rfl) ⟨Nat.zero_le _, Nat.zero_le _⟩ dX4_findMasterPlan_11 ?_
      refine q_val (show nI (f_X3_planCount x) = nI (2 ^ pN x) from rfl) ?_
      refine q_ge (tgt := 54) hx hb (by omega) (by omega) dX4_findMasterPlan_14 (by decide) (fun h => absurd h (by omega)) (fun c3 => ?_)
      refine lv_aload_n hx hb dX4_findMasterPlan_17 rfl (lv_at hl 0 rfl) ?_
      refine lv_iload_n hx hb dX4_findMasterPlan_18 rfl (lv_at hl 3 rfl) ?_
      refine r_call (As := [.int (nI ix_1)]) (rest := []) (ci := 4) X hP (c_X4_isForMaster hp0 hp1 hp2 (nI ix_1)) o_X4_isForMaster rfl hp0.lt hp0.ob m285 ⟨rfl, rfl⟩ ⟨Nat.le_of_ble_eq_true rfl, Nat.le_of_ble_eq_true rfl⟩ rfl hl.1 rfl (Nat.le_of_ble_eq_true rfl) ⟨Nat.zero_le _, Nat.zero_le _⟩ dX4_findMasterPlan_19 ?_
      refine q_eqB (tgt := 48) hx hb dX4_findMasterPlan_22 (by decide) (fun c4 => ?_) (fun c4 => ?_)
      · refine lv_iinc (v := nI (ix_1 + 1)) (lv' := [(3, .int (nI (ix_1 + 1))), (0, .ref (ad b)), (1, .int (a1_1)), (2, .int (a2_1))]) hx hb dX4_findMasterPlan_48 hl (k := 3) rfl (nI_inc _) (by decide) rfl (fun ls hl => ?_)
        refine lv_goto (tgt := 6) hx hb dX4_findMasterPlan_51 (by decide) ?_
        exact ihx_1 (ix_1 + 1) a1_1 a2_1 ls (by omega) (Eq.trans (Eq.symm (by rw [l_X4_findMasterPlan_6, if_neg (nt c4)] <;> rfl)) hvx_1) (lv_sub hl [1, 2, 3, 0] rfl)
      · refine lv_aload_n hx hb dX4_findMasterPlan_25 rfl (lv_at hl 0 rfl) ?_
        refine lv_iload_n hx hb dX4_findMasterPlan_26 rfl (lv_at hl 3 rfl) ?_
        refine r_call (As := [.int (nI ix_1)]) (rest := []) (ci := 4) X hP (c_X4_guessOf hp0 hp1 hp2 (nI ix_1)) o_X4_guessOf rfl hp0.lt hp0.ob m310 ⟨rfl, rfl⟩ ⟨Nat.le_of_ble_eq_true rfl, Nat.le_of_ble_eq_true rfl⟩ rfl hl.1 rfl (Nat.le_of_ble_eq_true rfl) ⟨Nat.zero_le _, Nat.zero_le _⟩ dX4_findMasterPlan_27 ?_
        refine lv_istore (lv' := [(4, .int (f_X4_guessOf z x y (nI ix_1))), (0, .ref (ad b)), (1, .int (a1_1)), (2, .int (a2_1)), (3, .int (nI ix_1))]) hx hb dX4_findMasterPlan_30 hl (by decide) rfl (fun ls hl => ?_)
        refine lv_iload_n hx hb dX4_findMasterPlan_32 rfl (lv_at hl 2 rfl) ?_
        refine lv_iconst (v := (-1)) hx hb dX4_findMasterPlan_33 (by decide) ?_
        refine lv_icmp_eq (tgt := 43) hx hb dX4_findMasterPlan_34 (by decide) (fun c5 => ?_) (fun c5 => ?_)
        · refine lv_iload_n hx hb dX4_findMasterPlan_43 rfl (lv_at hl 4 rfl) ?_
          refine lv_istore_n (lv' := [(1, .int (nI ix_1)), (4, .int (f_X4_guessOf z x y (nI ix_1))), (0, .ref (ad b)), (2, .int (a2_1)), (3, .int (nI ix_1))]) hx hb dX4_findMasterPlan_44 rfl hl (by decide) rfl (fun ls hl => ?_)
          refine lv_iload hx hb dX4_findMasterPlan_45 (lv_at hl 1 rfl) ?_
          refine lv_istore_n (lv' := [(2, .int (f_X4_guessOf z x y (nI ix_1))), (1, .int (nI ix_1)), (4, .int (f_X4_guessOf z x y (nI ix_1))), (0, .ref (ad b)), (3, .int (nI ix_1))]) hx hb dX4_findMasterPlan_47 rfl hl (by decide) rfl (fun ls hl => ?_)
          refine lv_iinc (v := nI (ix_1 + 1)) (lv' := [(3, .int (nI (ix_1 + 1))), (2, .int (f_X4_guessOf z x y (nI ix_1))), (1, .int (nI ix_1)), (4, .int (f_X4_guessOf z x y (nI ix_1))), (0, .ref (ad b))]) hx hb dX4_findMasterPlan_48 hl (k := 4) rfl (nI_inc _) (by decide) rfl (fun ls hl => ?_)
          refine lv_goto (tgt := 6) hx hb dX4_findMasterPlan_51 (by decide) ?_
          exact ihx_1 (ix_1 + 1) (nI ix_1) (f_X4_guessOf z x y (nI ix_1)) ls (by omega) (Eq.trans (Eq.symm (by rw [l_X4_findMasterPlan_6, if_pos c4, if_pos c5] <;> rfl)) hvx_1) (lv_sub hl [4, 2, 1, 0] rfl)
        · refine lv_iload hx hb dX4_findMasterPlan_37 (lv_at hl 0 rfl) ?_
          refine lv_iload_n hx hb dX4_findMasterPlan_39 rfl (lv_at hl 3 rfl) ?_
          refine j_ge (tgt := 48) hx hb dX4_findMasterPlan_40 (by decide) (fun c6 => ?_) (fun c6 => ?_)
          · refine lv_iinc (v := nI (ix_1 + 1)) (lv' := [(3, .int (nI (ix_1 + 1))), (4, .int (f_X4_guessOf z x y (nI ix_1))), (0, .ref (ad b)), (1, .int (a1_1)), (2, .int (a2_1))]) hx hb dX4_findMasterPlan_48 hl (k := 4) rfl (nI_inc _) (by decide) rfl (fun ls hl => ?_)
            refine lv_goto (tgt := 6) hx hb dX4_findMasterPlan_51 (by decide) ?_
            exact ihx_1 (ix_1 + 1) a1_1 a2_1 ls (by omega) (Eq.trans (Eq.symm (by rw [l_X4_findMasterPlan_6, if_pos c4, if_neg c5, if_neg c6] <;> rfl)) hvx_1) (lv_sub hl [2, 3, 4, 0] rfl)
          · refine lv_iload_n hx hb dX4_findMasterPlan_43 rfl (lv_at hl 4 rfl) ?_
            refine lv_istore_n (lv' := [(1, .int (nI ix_1)), (4, .int (f_X4_guessOf z x y (nI ix_1))), (0, .ref (ad b)), (2, .int (a2_1)), (3, .int (nI ix_1))]) hx hb dX4_findMasterPlan_44 rfl hl (by decide) rfl (fun ls hl => ?_)
            refine lv_iload hx hb dX4_findMasterPlan_45 (lv_at hl 1 rfl) ?_
            refine lv_istore_n (lv' := [(2, .int (f_X4_guessOf z x y (nI ix_1))), (1, .int (nI ix_1)), (4, .int (f_X4_guessOf z x y (nI ix_1))), (0, .ref (ad b)), (3, .int (nI ix_1))]) hx hb dX4_findMasterPlan_47 rfl hl (by decide) rfl (fun ls hl => ?_)
            refine lv_iinc (v := nI (ix_1 + 1)) (lv' := [(3, .int (nI (ix_1 + 1))), (2, .int (f_X4_guessOf z x y (nI ix_1))), (1, .int (nI ix_1)), (4, .int (f_X4_guessOf z x y (nI ix_1))), (0, .ref (ad b))]) hx hb dX4_findMasterPlan_48 hl (k := 4) rfl (nI_inc _) (by decide) rfl (fun ls hl => ?_)
            refine lv_goto (tgt := 6) hx hb dX4_findMasterPlan_51 (by decide) ?_
            exact ihx_1 (ix_1 + 1) (nI ix_1) (f_X4_guessOf z x y (nI ix_1)) ls (by omega) (Eq.trans (Eq.symm (by rw [l_X4_findMasterPlan_6, if_pos c4, if_neg c5, if_pos c6] <;> rfl)) hvx_1) (lv_sub hl [4, 2, 1, 0] rfl)
  exact L1 (2 ^ pN x) 0 (-1) (nI 0) ls (by omega) rfl (lv_sub hl [3, 2, 1, 0] rfl)
theorem o_X4_findMasterPlan : okV yX4_findMasterPlan cX4_findMasterPlan 5 (some .int) 0 := ⟨m278, m279, m14, m280, by decide +kernel, by decide +kernel, by decide +kernel⟩
def rmX4_isBroken : Room := { frames := 3, cells := 0, slots := 0, locals := 68 }
def f_X4_isBroken (z : SoC) (x : PlC) (y : CuC) (cut : Nat) (plan : Int32) : Bool :=
  (if (f_X1_isRay y cut) = true then (if (f_X1_weightOf y cut plan) = 0 then true else false) else (if (f_X3_routeCostOf x plan) < (f_X1_valueOf y cut plan) then true else false))
set_option maxHeartbeats 4000000 in
set_option maxRecDepth 100000 in
theorem c_X4_isBroken {l : Launch} {dd : va_G} {t : CL4} {N : Nat} {ad : Nat → Nat} {V : Nat → va_E} {b : Nat} {z : SoC} {x : PlC} {y : CuC}  (hp0 : SoP N ad V t b z) (hp1 : PlP N ad V t (b + 1) x) (hp2 : CuP N ad V t (b + 13) y) (cut : Nat) (plan : Int32) (h_cut : cut < kA y) : RM l dd t N ad V yX4_isBroken cX4_isBroken 3 (some .boolean) rmX4_isBroken [.ref (ad b), .int (nI cut), .int (plan)] (b01 (f_X4_isBroken z x y cut plan)) := by
  refine RM.of (by decide +kernel) ⟨rfl, rfl⟩ (Nat.le_of_ble_eq_true rfl) (narB _) ?_
  intro p e s m as below meth c Q X H hP ls hl kr
  have X : WX p s m as c cX4_isBroken 3 RX4 dd t := X
  have hx := X.1.1
  have hb := X.1.2.1
  have hl : lv_has ls 3 [(0, .ref (ad b)), (1, .int (nI cut)), (2, .int (plan))] := hl
  have hi1_0 := hp1.i0
  have hi1_1 := hp1.i1
  have hi2_0 := hp2.i0
  have hle0 := hp0.le
  have hle1 := hp1.le
  have hle2 := hp2.le
  refine lv_aload_n hx hb dX4_isBroken_0 rfl (lv_at hl 0 rfl) ?_
  refine g_So_cuts X hP hp0 m40 dX4_isBroken_1 ?_
  refine lv_iload_n hx hb dX4_isBroken_4 rfl (lv_at hl 1 rfl) ?_
  refine r_call (As := [.int (nI cut)]) (rest := []) (ci := 1) X hP (c_X1_isRay hp2 cut (by omega)) o_X1_isRay rfl hp2.lt hp2.ob m673 ⟨rfl, rfl⟩ ⟨Nat.le_of_ble_eq_true rfl, Nat.le_of_ble_eq_true rfl⟩ rfl hl.1 rfl (Nat.le_of_ble_eq_true rfl) ⟨Nat.zero_le _, Nat.zero_le _⟩ dX4_isBroken_5 ?_
  refine q_eqB (tgt := 29) hx hb dX4_isBroken_8 (by decide) (fun c1 => ?_) (fun c1 => ?_)
  · refine lv_aload_n hx hb dX4_isBroken_29 rfl (lv_at hl 0 rfl) ?_
    refine g_So_cuts X hP hp0 m40 dX4_isBroken_30 ?_
    refine lv_iload_n hx hb dX4_isBroken_33 rfl (lv_at hl 1 rfl) ?_
    refine lv_iload_n hx hb dX4_isBroken_34 rfl (lv_at hl 2 rfl) ?_
    refine r_call (As := [.int (nI cut), .int (plan)]) (rest := []) (ci := 1) X hP (c_X1_valueOf hp2 cut plan (by omega)) o_X1_valueOf rfl hp2.lt hp2.ob m675 ⟨rfl, rfl⟩ ⟨Nat.le_of_ble_eq_true rfl, Nat.le_of_ble_eq_true rfl⟩ rfl hl.1 rfl (Nat.le_of_ble_eq_true rfl) ⟨Nat.zero_le _, Nat.zero_le _⟩ dX4_isBroken_35 ?_
    refine lv_aload_n hx hb dX4_isBroken_38 rfl (lv_at hl 0 rfl) ?_
    refine g_So_places X hP hp0 m36 dX4_isBroken_39 ?_
    refine lv_iload_n hx hb dX4_isBroken_42 rfl (lv_at hl 2 rfl) ?_
    refine r_call (As := [.int (plan)]) (rest := [.int (f_X1_valueOf y cut plan)]) (ci := 3) X hP (c_X3_routeCostOf hp1 plan) o_X3_routeCostOf rfl hp1.lt hp1.ob m676 ⟨rfl, rfl⟩ ⟨Nat.le_of_ble_eq_true rfl, Nat.le_of_ble_eq_true rfl⟩ rfl hl.1 rfl (Nat.le_of_ble_eq_true rfl) ⟨Nat.zero_le _, Nat.zero_le _⟩ dX4_isBroken_43 ?_
    refine j_le (tgt := 53) hx hb dX4_isBroken_46 (by decide) (fun c2 => ?_) (fun c2 => ?_)
    · refine lv_iconst (v := nI 0) hx hb dX4_isBroken_53 (by decide) ?_
      exact kr 54 ls _ (b_f (by rw [f_X4_isBroken, if_neg (nt c1), if_neg c2] <;> rfl)) dX4_isBroken_54
    · refine lv_iconst (v := nI 1) hx hb dX4_isBroken_49 (by decide) ?_
      refine lv_goto (tgt := 54) hx hb dX4_isBroken_50 (by decide) ?_
      exact kr 54 ls _ (b_t (by rw [f_X4_isBroken, if_neg (nt c1), if_pos c2] <;> rfl)) dX4_isBroken_54
  · refine lv_aload_n hx hb dX4_isBroken_11 rfl (lv_at hl 0 rfl) ?_
    refine g_So_cuts X hP hp0 m40 dX4_isBroken_12 ?_
    refine lv_iload_n hx hb dX4_isBroken_15 rfl (lv_at hl 1 rfl) ?_
    refine lv_iload_n hx hb dX4_isBroken_16 rfl (lv_at hl 2 rfl) ?_
    refine r_call (As := [.int (nI cut), .int (plan)]) (rest := []) (ci := 1) X hP (c_X1_weightOf hp2 cut plan (by omega)) o_X1_weightOf rfl hp2.lt hp2.ob m674 ⟨rfl, rfl⟩ ⟨Nat.le_of_ble_eq_true rfl, Nat.le_of_ble_eq_true rfl⟩ rfl hl.1 rfl (Nat.le_of_ble_eq_true rfl) ⟨Nat.zero_le _, Nat.zero_le _⟩ dX4_isBroken_17 ?_
    refine lv_if_ne (tgt := 27) hx hb dX4_isBroken_20 (by decide) (fun c3 => ?_) (fun c3 => ?_)
    · refine lv_iconst (v := nI 0) hx hb dX4_isBroken_27 (by decide) ?_
      exact kr 28 ls _ (b_f (by rw [f_X4_isBroken, if_pos c1, if_neg c3] <;> rfl)) dX4_isBroken_28
    · refine lv_iconst (v := nI 1) hx hb dX4_isBroken_23 (by decide) ?_
      refine lv_goto (tgt := 28) hx hb dX4_isBroken_24 (by decide) ?_
      exact kr 28 ls _ (b_t (by rw [f_X4_isBroken, if_pos c1, if_pos c3] <;> rfl)) dX4_isBroken_28
theorem o_X4_isBroken : okV yX4_isBroken cX4_isBroken 3 (some .boolean) 2 := ⟨m670, m671, m14, m672, by decide +kernel, by decide +kernel, by decide +kernel⟩
def rmX4_isTight : Room := { frames := 3, cells := 0, slots := 0, locals := 68 }
def f_X4_isTight (z : SoC) (x : PlC) (y : CuC) (cut : Nat) (plan : Int32) : Bool :=
  (if (f_X1_isRay y cut) = true then (if (f_X1_weightOf y cut plan) = (nI 1) then true else false) else (if (f_X1_valueOf y cut plan) = (f_X3_routeCostOf x plan) then true else false))
set_option maxHeartbeats 4000000 in
set_option maxRecDepth 100000 in
theorem c_X4_isTight {l : Launch} {dd : va_G} {t : CL4} {N : Nat} {ad : Nat → Nat} {V : Nat → va_E} {b : Nat} {z : SoC} {x : PlC} {y : CuC}  (hp0 : SoP N ad V t b z) (hp1 : PlP N ad V t (b + 1) x) (hp2 : CuP N ad V t (b + 13) y) (cut : Nat) (plan : Int32) (h_cut : cut < kA y) : RM l dd t N ad V yX4_isTight cX4_isTight 3 (some .boolean) rmX4_isTight [.ref (ad b), .int (nI cut), .int (plan)] (b01 (f_X4_isTight z x y cut plan)) := by
  refine RM.of (by decide +kernel) ⟨rfl, rfl⟩ (Nat.le_of_ble_eq_true rfl) (narB _) ?_
  intro p e s m as below meth c Q X H hP ls hl kr
  have X : WX p s m as c cX4_isTight 3 RX4 dd t := X
  have hx := X.1.1
  have hb := X.1.2.1
  have hl : lv_has ls 3 [(0, .ref (ad b)), (1, .int (nI cut)), (2, .int (plan))] := hl
  have hi1_0 := hp1.i0
  have hi1_1 := hp1.i1
  have hi2_0 := hp2.i0
  have hle0 := hp0.le
  have hle1 := hp1.le
  have hle2 := hp2.le
  refine lv_aload_n hx hb dX4_isTight_0 rfl (lv_at hl 0 rfl) ?_
  refine g_So_cuts X hP hp0 m40 dX4_isTight_1 ?_
  refine lv_iload_n hx hb dX4_isTight_4 rfl (lv_at hl 1 rfl) ?_
  refine r_call (As := [.int (nI cut)]) (rest := []) (ci := 1) X hP (c_X1_isRay hp2 cut (by omega)) o_X1_isRay rfl hp2.lt hp2.ob m673 ⟨rfl, rfl⟩ ⟨Nat.le_of_ble_eq_true rfl, Nat.le_of_ble_eq_true rfl⟩ rfl hl.1 rfl (Nat.le_of_ble_eq_true rfl) ⟨Nat.zero_le _, Nat.zero_le _⟩ dX4_isTight_5 ?_
  refine q_eqB (tgt := 30) hx hb dX4_isTight_8 (by decide) (fun c1 => ?_) (fun c1 => ?_)
  · refine lv_aload_n hx hb dX4_isTight_30 rfl (lv_at hl 0 rfl) ?_
    refine g_So_cuts X hP hp0 m40 dX4_isTight_31 ?_
    refine lv_iload_n hx hb dX4_isTight_34 rfl (lv_at hl 1 rfl) ?_
    refine lv_iload_n hx hb dX4_isTight_35 rfl (lv_at hl 2 rfl) ?_
    refine r_call (As := [.int (nI cut), .int (plan)]) (rest := []) (ci := 1) X hP (c_X1_valueOf hp2 cut plan (by omega)) o_X1_valueOf rfl hp2.lt hp2.ob m675 ⟨rfl, rfl⟩ ⟨Nat.le_of_ble_eq_true rfl, Nat.le_of_ble_eq_true rfl⟩ rfl hl.1 rfl (Nat.le_of_ble_eq_true rfl) ⟨Nat.zero_le _, Nat.zero_le _⟩ dX4_isTight_36 ?_
    refine lv_aload_n hx hb dX4_isTight_39 rfl (lv_at hl 0 rfl) ?_
    refine g_So_places X hP hp0 m36 dX4_isTight_40 ?_
    refine lv_iload_n hx hb dX4_isTight_43 rfl (lv_at hl 2 rfl) ?_
    refine r_call (As := [.int (plan)]) (rest := [.int (f_X1_valueOf y cut plan)]) (ci := 3) X hP (c_X3_routeCostOf hp1 plan) o_X3_routeCostOf rfl hp1.lt hp1.ob m676 ⟨rfl, rfl⟩ ⟨Nat.le_of_ble_eq_true rfl, Nat.le_of_ble_eq_true rfl⟩ rfl hl.1 rfl (Nat.le_of_ble_eq_true rfl) ⟨Nat.zero_le _, Nat.zero_le _⟩ dX4_isTight_44 ?_
    refine lv_icmp_ne (tgt := 54) hx hb dX4_isTight_47 (by decide) (fun c2 => ?_) (fun c2 => ?_)
    · refine lv_iconst (v := nI 0) hx hb dX4_isTight_54 (by decide) ?_
      exact kr 55 ls _ (b_f (by rw [f_X4_isTight, if_neg (nt c1), if_neg c2] <;> rfl)) dX4_isTight_55
    · refine lv_iconst (v := nI 1) hx hb dX4_isTight_50 (by decide) ?_
      refine lv_goto (tgt := 55) hx hb dX4_isTight_51 (by decide) ?_
      exact kr 55 ls _ (b_t (by rw [f_X4_isTight, if_neg (nt c1), if_pos c2] <;> rfl)) dX4_isTight_55
  · refine lv_aload_n hx hb dX4_isTight_11 rfl (lv_at hl 0 rfl) ?_
    refine g_So_cuts X hP hp0 m40 dX4_isTight_12 ?_
    refine lv_iload_n hx hb dX4_isTight_15 rfl (lv_at hl 1 rfl) ?_
    refine lv_iload_n hx hb dX4_isTight_16 rfl (lv_at hl 2 rfl) ?_
    refine r_call (As := [.int (nI cut), .int (plan)]) (rest := []) (ci := 1) X hP (c_X1_weightOf hp2 cut plan (by omega)) o_X1_weightOf rfl hp2.lt hp2.ob m674 ⟨rfl, rfl⟩ ⟨Nat.le_of_ble_eq_true rfl, Nat.le_of_ble_eq_true rfl⟩ rfl hl.1 rfl (Nat.le_of_ble_eq_true rfl) ⟨Nat.zero_le _, Nat.zero_le _⟩ dX4_isTight_17 ?_
    refine lv_iconst (v := nI 1) hx hb dX4_isTight_20 (by decide) ?_
    refine lv_icmp_ne (tgt := 28) hx hb dX4_isTight_21 (by decide) (fun c3 => ?_) (fun c3 => ?_)
    · refine lv_iconst (v := nI 0) hx hb dX4_isTight_28 (by decide) ?_
      exact kr 29 ls _ (b_f (by rw [f_X4_isTight, if_pos c1, if_neg c3] <;> rfl)) dX4_isTight_29
    · refine lv_iconst (v := nI 1) hx hb dX4_isTight_24 (by decide) ?_
      refine lv_goto (tgt := 29) hx hb dX4_isTight_25 (by decide) ?_
      exact kr 29 ls _ (b_t (by rw [f_X4_isTight, if_pos c1, if_pos c3] <;> rfl)) dX4_isTight_29
theorem o_X4_isTight : okV yX4_isTight cX4_isTight 3 (some .boolean) 2 := ⟨m682, m683, m14, m684, by decide +kernel, by decide +kernel, by decide +kernel⟩
def rmX4_countPlansThatBreak : Room := { frames := 5, cells := 0, slots := 0, locals := 109 }
def l_X4_countPlansThatBreak_4 (z : SoC) (x : PlC) (y : CuC) (cut : Nat) : Nat → Nat → Nat → Nat
  | 0, ix_1, a2_1 => a2_1
  | dx_1 + 1, ix_1, a2_1 => (if (f_X3_isFeasible x (nI ix_1)) = true then (if (f_X4_isBroken z x y cut (nI ix_1)) = true then l_X4_countPlansThatBreak_4 z x y cut dx_1 (ix_1 + 1) (a2_1 + 1) else l_X4_countPlansThatBreak_4 z x y cut dx_1 (ix_1 + 1) a2_1) else l_X4_countPlansThatBreak_4 z x y cut dx_1 (ix_1 + 1) a2_1)
def f_X4_countPlansThatBreak (z : SoC) (x : PlC) (y : CuC) (cut : Nat) : Int32 :=
  nI (l_X4_countPlansThatBreak_4 z x y cut (2 ^ pN x) 0 0)
set_option maxHeartbeats 4000000 in
set_option maxRecDepth 100000 in
theorem c_X4_countPlansThatBreak {l : Launch} {dd : va_G} {t : CL4} {N : Nat} {ad : Nat → Nat} {V : Nat → va_E} {b : Nat} {z : SoC} {x : PlC} {y : CuC}  (hp0 : SoP N ad V t b z) (hp1 : PlP N ad V t (b + 1) x) (hp2 : CuP N ad V t (b + 13) y) (cut : Nat) (h_cut : cut < kA y) : RM l dd t N ad V yX4_countPlansThatBreak cX4_countPlansThatBreak 4 (some .int) rmX4_countPlansThatBreak [.ref (ad b), .int (nI cut)] (f_X4_countPlansThatBreak z x y cut) := by
  refine RM.of (by decide +kernel) ⟨rfl, rfl⟩ (Nat.le_of_ble_eq_true rfl) (narI _) ?_
  intro p e s m as below meth c Q X H hP ls hl kr
  have X : WX p s m as c cX4_countPlansThatBreak 4 RX4 dd t := X
  have hx := X.1.1
  have hb := X.1.2.1
  have hl : lv_has ls 4 [(0, .ref (ad b)), (1, .int (nI cut))] := hl
  have hi1_0 := hp1.i0
  have hi1_1 := hp1.i1
  have hi2_0 := hp2.i0
  have hle0 := hp0.le
  have hle1 := hp1.le
  have hle2 := hp2.le
  have hpw : 2 ^ pN x ≤ 128 := pow7 hi1_0
  refine lv_iconst (v := nI 0) hx hb dX4_countPlansThatBreak_0 (by decide) ?_
  refine lv_istore_n (lv' := [(2, .int (nI 0)), (0, .ref (ad b)), (1, .int (nI cut))]) hx hb dX4_countPlansThatBreak_1 rfl hl (by decide) rfl (fun ls hl => ?_)
  refine lv_iconst (v := nI 0) hx hb dX4_countPlansThatBreak_2 (by decide) ?_
  refine lv_istore_n (lv' := [(3, .int (nI 0)), (2, .int (nI 0)), (0, .ref (ad b)), (1, .int (nI cut))]) hx hb dX4_countPlansThatBreak_3 rfl hl (by decide) rfl (fun ls hl => ?_)
  have L1 : ∀ (dx_1 ix_1 : Nat) (a2_1 : Nat) (ls : Array Slot), (ix_1 + dx_1 = 2 ^ pN x) → (l_X4_countPlansThatBreak_4 z x y cut dx_1 ix_1 a2_1 = l_X4_countPlansThatBreak_4 z x y cut (2 ^ pN x) 0 0) → (lv_has ls 4 [(0, .ref (ad b)), (1, .int (nI cut)), (2, .int (nI a2_1)), (3, .int (nI ix_1))]) → W p l e rmX4_countPlansThatBreak s m as below meth c H [] 0 0 Q (F0 m 4 ls []) := by
    intro dx_1
    induction dx_1 with
    | zero =>
      intro ix_1 a2_1 ls hid hvx_1 hl
      have hiN : 2 ^ pN x = ix_1 := by omega
      subst hiN
      have hvx_1 : a2_1 = l_X4_countPlansThatBreak_4 z x y cut (2 ^ pN x) 0 0 := hvx_1
      have hh0 : a2_1 = l_X4_countPlansThatBreak_4 z x y cut (2 ^ pN x) 0 0 := hvx_1
      subst hh0
      refine lv_iload_n hx hb dX4_countPlansThatBreak_4 rfl (lv_at hl 3 rfl) ?_
      refine lv_aload_n hx hb dX4_countPlansThatBreak_5 rfl (lv_at hl 0 rfl) ?_
      refine g_So_places X hP hp0 m36 dX4_countPlansThatBreak_6 ?_
      refine r_call (As := []) (rest := [.int (nI (2 ^ pN x))]) (ci := 3) X hP (c_X3_planCount hp1) o_X3_planCount rfl hp1.lt hp1.ob m281 ⟨rfl, rfl⟩ ⟨Nat.le_of_ble_eq_true rfl, Nat.le_of_ble_eq_true rfl⟩ rfl hl.1 rfl (Nat.le_of_ble_eq_true rfl) ⟨Nat.zero_le _, Nat.zero_le _⟩ dX4_countPlansThatBreak_9 ?_
      refine q_val (show nI (f_X3_planCount x) = nI (2 ^ pN x) from rfl) ?_
      refine q_ge (tgt := 44) hx hb (by omega) (by omega) dX4_countPlansThatBreak_12 (by decide) (fun c2 => ?_) (fun h => absurd h (by omega))
      refine lv_iload_n hx hb dX4_countPlansThatBreak_44 rfl (lv_at hl 2 rfl) ?_
      exact kr 45 ls _ (Eq.symm (by rw [f_X4_countPlansThatBreak] <;> rfl)) dX4_countPlansThatBreak_45
    | succ dx_1 ihx_1 =>
      intro ix_1 a2_1 ls hid hvx_1 hl
      refine lv_iload_n hx hb dX4_countPlansThatBreak_4 rfl (lv_at hl 3 rfl) ?_
      refine lv_aload_n hx hb dX4_countPlansThatBreak_5 rfl (lv_at hl 0 rfl) ?_
      refine g_So_places X hP hp0 m36 dX4_countPlansThatBreak_6 ?_
      refine r_call (As := []) (rest := [.int (nI ix_1)]) (ci := 3) X hP (c_X3_planCount hp1) o_X3_planCount rfl hp1.lt hp1.ob m281 ⟨rfl, rfl⟩ ⟨Nat.le_of_ble_eq_true rfl, Nat.le_of_ble_eq_true rfl⟩ rfl hl.1 rfl (Nat.le_of_ble_eq_true rfl) ⟨Nat.zero_le _, Nat.zero_le _⟩ dX4_countPlansThatBreak_9 ?_
      refine q_val (show nI (f_X3_planCount x) = nI (2 ^ pN x) from rfl) ?_
      refine q_ge (tgt := 44) hx hb (by omega) (by omega) dX4_countPlansThatBreak_12 (by decide) (fun h => absurd h (by omega)) (fun c3 => ?_)
      refine lv_aload_n hx hb dX4_countPlansThatBreak_15 rfl (lv_at hl 0 rfl) ?_
      refine g_So_places X hP hp0 m36 dX4_countPlansThatBreak_16 ?_
      refine lv_iload_n hx hb dX4_countPlansThatBreak_19 rfl (lv_at hl 3 rfl) ?_
      refine r_call (As := [.int (nI ix_1)]) (rest := []) (ci := 3) X hP (c_X3_isFeasible hp1 (nI ix_1)) o_X3_isFeasible rfl hp1.lt hp1.ob m664 ⟨rfl, rfl⟩ ⟨Nat.le_of_ble_eq_true rfl, Nat.le_of_ble_eq_true rfl⟩ rfl hl.1 rfl (Nat.le_of_ble_eq_true rfl) ⟨Nat.zero_le _, Nat.zero_le _⟩ dX4_countPlansThatBreak_20 ?_
      refine q_eqB (tgt := 38) hx hb dX4_countPlansThatBreak_23 (by decide) (fun c4 => ?_) (fun c4 => ?_)
      · refine lv_iinc (v := nI (ix_1 + 1)) (lv' := [(3, .int (nI (ix_1 + 1))), (0, .ref (ad b)), (1, .int (nI cut)), (2, .int (nI a2_1))]) hx hb dX4_countPlansThatBreak_38 hl (k := 3) rfl (nI_inc _) (by decide) rfl (fun ls hl => ?_)
        refine lv_goto (tgt := 4) hx hb dX4_countPlansThatBreak_41 (by decide) ?_
        exact ihx_1 (ix_1 + 1) a2_1 ls (by omega) (Eq.trans (Eq.symm (by rw [l_X4_countPlansThatBreak_4, if_neg (nt c4)] <;> rfl)) hvx_1) (lv_sub hl [1, 2, 3, 0] rfl)
      · refine lv_aload_n hx hb dX4_countPlansThatBreak_26 rfl (lv_at hl 0 rfl) ?_
        refine lv_iload_n hx hb dX4_countPlansThatBreak_27 rfl (lv_at hl 1 rfl) ?_
        refine lv_iload_n hx hb dX4_countPlansThatBreak_28 rfl (lv_at hl 3 rfl) ?_
        refine r_call (As := [.int (nI cut), .int (nI ix_1)]) (rest := []) (ci := 4) X hP (c_X4_isBroken hp0 hp1 hp2 cut (nI ix_1) (by omega)) o_X4_isBroken rfl hp0.lt hp0.ob m669 ⟨rfl, rfl⟩ ⟨Nat.le_of_ble_eq_true rfl, Nat.le_of_ble_eq_true rfl⟩ rfl hl.1 rfl (Nat.le_of_ble_eq_true rfl) ⟨Nat.zero_le _, Nat.zero_le _⟩ dX4_countPlansThatBreak_29 ?_
        refine q_eqB (tgt := 38) hx hb dX4_countPlansThatBreak_32 (by decide) (fun c5 => ?_) (fun c5 => ?_)
        · refine lv_iinc (v := nI (ix_1 + 1)) (lv' := [(3, .int (nI (ix_1 + 1))), (0, .ref (ad b)), (1, .int (nI cut)), (2, .int (nI a2_1))]) hx hb dX4_countPlansThatBreak_38 hl (k := 3) rfl (nI_inc _) (by decide) rfl (fun ls hl => ?_)
          refine lv_goto (tgt := 4) hx hb dX4_countPlansThatBreak_41 (by decide) ?_
          exact ihx_1 (ix_1 + 1) a2_1 ls (by omega) (Eq.trans (Eq.symm (by rw [l_X4_countPlansThatBreak_4, if_pos c4, if_neg (nt c5)] <;> rfl)) hvx_1) (lv_sub hl [1, 2, 3, 0] rfl)
        · refine lv_iinc (v := nI (a2_1 + 1)) (lv' := [(2, .int (nI (a2_1 + 1))), (0, .ref (ad b)), (1, .int (nI cut)), (3, .int (nI ix_1))]) hx hb dX4_countPlansThatBreak_35 hl (k := 2) rfl (nI_inc _) (by decide) rfl (fun ls hl => ?_)
          refine lv_iinc (v := nI (ix_1 + 1)) (lv' := [(3, .int (nI (ix_1 + 1))), (2, .int (nI (a2_1 + 1))), (0, .ref (ad b)), (1, .int (nI cut))]) hx hb dX4_countPlansThatBreak_38 hl (k := 3) rfl (nI_inc _) (by decide) rfl (fun ls hl => ?_)
          refine lv_goto (tgt := 4) hx hb dX4_countPlansThatBreak_41 (by decide) ?_
          exact ihx_1 (ix_1 + 1) (a2_1 + 1) ls (by omega) (Eq.trans (Eq.symm (by rw [l_X4_countPlansThatBreak_4, if_pos c4, if_pos c5] <;> rfl)) hvx_1) (lv_sub hl [2, 3, 1, 0] rfl)
  exact L1 (2 ^ pN x) 0 0 ls (by omega) rfl (lv_sub hl [2, 3, 1, 0] rfl)
theorem o_X4_countPlansThatBreak : okV yX4_countPlansThatBreak cX4_countPlansThatBreak 4 (some .int) 1 := ⟨m661, m662, m14, m663, by decide +kernel, by decide +kernel, by decide +kernel⟩
def rmX4_countPlansThatAreTight : Room := { frames := 5, cells := 0, slots := 0, locals := 109 }
def l_X4_countPlansThatAreTight_4 (z : SoC) (x : PlC) (y : CuC) (cut : Nat) : Nat → Nat → Nat → Nat
  | 0, ix_1, a2_1 => a2_1
  | dx_1 + 1, ix_1, a2_1 => (if (f_X3_isFeasible x (nI ix_1)) = true then (if (f_X4_isTight z x y cut (nI ix_1)) = true then l_X4_countPlansThatAreTight_4 z x y cut dx_1 (ix_1 + 1) (a2_1 + 1) else l_X4_countPlansThatAreTight_4 z x y cut dx_1 (ix_1 + 1) a2_1) else l_X4_countPlansThatAreTight_4 z x y cut dx_1 (ix_1 + 1) a2_1)
def f_X4_countPlansThatAreTight (z : SoC) (x : PlC) (y : CuC) (cut : Nat) : Int32 :=
  nI (l_X4_countPlansThatAreTight_4 z x y cut (2 ^ pN x) 0 0)
set_option maxHeartbeats 4000000 in
set_option maxRecDepth 100000 in
theorem c_X4_countPlansThatAreTight {l : Launch} {dd : va_G} {t : CL4} {N : Nat} {ad : Nat → Nat} {V : Nat → va_E} {b : Nat} {z : SoC} {x : PlC} {y : CuC}  (hp0 : SoP N ad V t b z) (hp1 : PlP N ad V t (b + 1) x) (hp2 : CuP N ad V t (b + 13) y) (cut : Nat) (h_cut : cut < kA y) : RM l dd t N ad V yX4_countPlansThatAreTight cX4_countPlansThatAreTight 4 (some .int) rmX4_countPlansThatAreTight [.ref (ad b), .int (nI cut)] (f_X4_countPlansThatAreTight z x y cut) := by
  refine RM.of (by decide +kernel) ⟨rfl, rfl⟩ (Nat.le_of_ble_eq_true rfl) (narI _) ?_
  intro p e s m as below meth c Q X H hP ls hl kr
  have X : WX p s m as c cX4_countPlansThatAreTight 4 RX4 dd t := X
  have hx := X.1.1
  have hb := X.1.2.1
  have hl : lv_has ls 4 [(0, .ref (ad b)), (1, .int (nI cut))] := hl
  have hi1_0 := hp1.i0
  have hi1_1 := hp1.i1
  have hi2_0 := hp2.i0
  have hle0 := hp0.le
  have hle1 := hp1.le
  have hle2 := hp2.le
  have hpw : 2 ^ pN x ≤ 128 := pow7 hi1_0
  refine lv_iconst (v := nI 0) hx hb dX4_countPlansThatAreTight_0 (by decide) ?_
  refine lv_istore_n (lv' := [(2, .int (nI 0)), (0, .ref (ad b)), (1, .int (nI cut))]) hx hb dX4_countPlansThatAreTight_1 rfl hl (by decide) rfl (fun ls hl => ?_)
  refine lv_iconst (v := nI 0) hx hb dX4_countPlansThatAreTight_2 (by decide) ?_
  refine lv_istore_n (lv' := [(3, .int (nI 0)), (2, .int (nI 0)), (0, .ref (ad b)), (1, .int (nI cut))]) hx hb dX4_countPlansThatAreTight_3 rfl hl (by decide) rfl (fun ls hl => ?_)
  have L1 : ∀ (dx_1 ix_1 : Nat) (a2_1 : Nat) (ls : Array Slot), (ix_1 + dx_1 = 2 ^ pN x) → (l_X4_countPlansThatAreTight_4 z x y cut dx_1 ix_1 a2_1 = l_X4_countPlansThatAreTight_4 z x y cut (2 ^ pN x) 0 0) → (lv_has ls 4 [(0, .ref (ad b)), (1, .int (nI cut)), (2, .int (nI a2_1)), (3, .int (nI ix_1))]) → W p l e rmX4_countPlansThatAreTight s m as below meth c H [] 0 0 Q (F0 m 4 ls []) := by
    intro dx_1
    induction dx_1 with
    | zero =>
      intro ix_1 a2_1 ls hid hvx_1 hl
      have hiN : 2 ^ pN x = ix_1 := by omega
      subst hiN
      have hvx_1 : a2_1 = l_X4_countPlansThatAreTight_4 z x y cut (2 ^ pN x) 0 0 := hvx_1
      have hh0 : a2_1 = l_X4_countPlansThatAreTight_4 z x y cut (2 ^ pN x) 0 0 := hvx_1
      subst hh0
      refine lv_iload_n hx hb dX4_countPlansThatAreTight_4 rfl (lv_at hl 3 rfl) ?_
      refine lv_aload_n hx hb dX4_countPlansThatAreTight_5 rfl (lv_at hl 0 rfl) ?_
      refine g_So_places X hP hp0 m36 dX4_countPlansThatAreTight_6 ?_
      refine r_call (As := []) (rest := [.int (nI (2 ^ pN x))]) (ci := 3) X hP (c_X3_planCount hp1) o_X3_planCount rfl hp1.lt hp1.ob m281 ⟨rfl, rfl⟩ ⟨Nat.le_of_ble_eq_true rfl, Nat.le_of_ble_eq_true rfl⟩ rfl hl.1 rfl (Nat.le_of_ble_eq_true rfl) ⟨Nat.zero_le _, Nat.zero_le _⟩ dX4_countPlansThatAreTight_9 ?_
      refine q_val (show nI (f_X3_planCount x) = nI (2 ^ pN x) from rfl) ?_
      refine q_ge (tgt := 44) hx hb (by omega) (by omega) dX4_countPlansThatAreTight_12 (by decide) (fun c2 => ?_) (fun h => absurd h (by omega))
      refine lv_iload_n hx hb dX4_countPlansThatAreTight_44 rfl (lv_at hl 2 rfl) ?_
      exact kr 45 ls _ (Eq.symm (by rw [f_X4_countPlansThatAreTight] <;> rfl)) dX4_countPlansThatAreTight_45
    | succ dx_1 ihx_1 =>
      intro ix_1 a2_1 ls hid hvx_1 hl
      refine lv_iload_n hx hb dX4_countPlansThatAreTight_4 rfl (lv_at hl 3 rfl) ?_
      refine lv_aload_n hx hb dX4_countPlansThatAreTight_5 rfl (lv_at hl 0 rfl) ?_
      refine g_So_places X hP hp0 m36 dX4_countPlansThatAreTight_6 ?_
      refine r_call (As := []) (rest := [.int (nI ix_1)]) (ci := 3) X hP (c_X3_planCount hp1) o_X3_planCount rfl hp1.lt hp1.ob m281 ⟨rfl, rfl⟩ ⟨Nat.le_of_ble_eq_true rfl, Nat.le_of_ble_eq_true rfl⟩ rfl hl.1 rfl (Nat.le_of_ble_eq_true rfl) ⟨Nat.zero_le _, Nat.zero_le _⟩ dX4_countPlansThatAreTight_9 ?_
      refine q_val (show nI (f_X3_planCount x) = nI (2 ^ pN x) from rfl) ?_
      refine q_ge (tgt := 44) hx hb (by omega) (by omega) dX4_countPlansThatAreTight_12 (by decide) (fun h => absurd h (by omega)) (fun c3 => ?_)
      refine lv_aload_n hx hb dX4_countPlansThatAreTight_15 rfl (lv_at hl 0 rfl) ?_
      refine g_So_places X hP hp0 m36 dX4_countPlansThatAreTight_16 ?_
      refine lv_iload_n hx hb dX4_countPlansThatAreTight_19 rfl (lv_at hl 3 rfl) ?_
      refine r_call (As := [.int (nI ix_1)]) (rest := []) (ci := 3) X hP (c_X3_isFeasible hp1 (nI ix_1)) o_X3_isFeasible rfl hp1.lt hp1.ob m664 ⟨rfl, rfl⟩ ⟨Nat.le_of_ble_eq_true rfl, Nat.le_of_ble_eq_true rfl⟩ rfl hl.1 rfl (Nat.le_of_ble_eq_true rfl) ⟨Nat.zero_le _, Nat.zero_le _⟩ dX4_countPlansThatAreTight_20 ?_
      refine q_eqB (tgt := 38) hx hb dX4_countPlansThatAreTight_23 (by decide) (fun c4 => ?_) (fun c4 => ?_)
      · refine lv_iinc (v := nI (ix_1 + 1)) (lv' := [(3, .int (nI (ix_1 + 1))), (0, .ref (ad b)), (1, .int (nI cut)), (2, .int (nI a2_1))]) hx hb dX4_countPlansThatAreTight_38 hl (k := 3) rfl (nI_inc _) (by decide) rfl (fun ls hl => ?_)
        refine lv_goto (tgt := 4) hx hb dX4_countPlansThatAreTight_41 (by decide) ?_
        exact ihx_1 (ix_1 + 1) a2_1 ls (by omega) (Eq.trans (Eq.symm (by rw [l_X4_countPlansThatAreTight_4, if_neg (nt c4)] <;> rfl)) hvx_1) (lv_sub hl [1, 2, 3, 0] rfl)
      · refine lv_aload_n hx hb dX4_countPlansThatAreTight_26 rfl (lv_at hl 0 rfl) ?_
        refine lv_iload_n hx hb dX4_countPlansThatAreTight_27 rfl (lv_at hl 1 rfl) ?_
        refine lv_iload_n hx hb dX4_countPlansThatAreTight_28 rfl (lv_at hl 3 rfl) ?_
        refine r_call (As := [.int (nI cut), .int (nI ix_1)]) (rest := []) (ci := 4) X hP (c_X4_isTight hp0 hp1 hp2 cut (nI ix_1) (by omega)) o_X4_isTight rfl hp0.lt hp0.ob m681 ⟨rfl, rfl⟩ ⟨Nat.le_of_ble_eq_true rfl, Nat.le_of_ble_eq_true rfl⟩ rfl hl.1 rfl (Nat.le_of_ble_eq_true rfl) ⟨Nat.zero_le _, Nat.zero_le _⟩ dX4_countPlansThatAreTight_29 ?_
        refine q_eqB (tgt := 38) hx hb dX4_countPlansThatAreTight_32 (by decide) (fun c5 => ?_) (fun c5 => ?_)
        · refine lv_iinc (v := nI (ix_1 + 1)) (lv' := [(3, .int (nI (ix_1 + 1))), (0, .ref (ad b)), (1, .int (nI cut)), (2, .int (nI a2_1))]) hx hb dX4_countPlansThatAreTight_38 hl (k := 3) rfl (nI_inc _) (by decide) rfl (fun ls hl => ?_)
          refine lv_goto (tgt := 4) hx hb dX4_countPlansThatAreTight_41 (by decide) ?_
          exact ihx_1 (ix_1 + 1) a2_1 ls (by omega) (Eq.trans (Eq.symm (by rw [l_X4_countPlansThatAreTight_4, if_pos c4, if_neg (nt c5)] <;> rfl)) hvx_1) (lv_sub hl [1, 2, 3, 0] rfl)
        · refine lv_iinc (v := nI (a2_1 + 1)) (lv' := [(2, .int (nI (a2_1 + 1))), (0, .ref (ad b)), (1, .int (nI cut)), (3, .int (nI ix_1))]) hx hb dX4_countPlansThatAreTight_35 hl (k := 2) rfl (nI_inc _) (by decide) rfl (fun ls hl => ?_)
          refine lv_iinc (v := nI (ix_1 + 1)) (lv' := [(3, .int (nI (ix_1 + 1))), (2, .int (nI (a2_1 + 1))), (0, .ref (ad b)), (1, .int (nI cut))]) hx hb dX4_countPlansThatAreTight_38 hl (k := 3) rfl (nI_inc _) (by decide) rfl (fun ls hl => ?_)
          refine lv_goto (tgt := 4) hx hb dX4_countPlansThatAreTight_41 (by decide) ?_
          exact ihx_1 (ix_1 + 1) (a2_1 + 1) ls (by omega) (Eq.trans (Eq.symm (by rw [l_X4_countPlansThatAreTight_4, if_pos c4, if_pos c5] <;> rfl)) hvx_1) (lv_sub hl [2, 3, 1, 0] rfl)
  exact L1 (2 ^ pN x) 0 0 ls (by omega) rfl (lv_sub hl [2, 3, 1, 0] rfl)
theorem o_X4_countPlansThatAreTight : okV yX4_countPlansThatAreTight cX4_countPlansThatAreTight 4 (some .int) 1 := ⟨m678, m679, m14, m680, by decide +kernel, by decide +kernel, by decide +kernel⟩
end
