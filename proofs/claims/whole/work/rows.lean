section
-- ===== PART A: goes FIRST, ahead of the names: the tables' words, and 'selects' of the private methods out of them =====
/-- a private method of a class that the tables say can be made, by its rows of tables_1 -/
def lw_okq (q : MethodName × Nat) : Prop := (q.1.cls ≠ "java/lang/invoke/MethodHandle" ∧ q.1.cls ≠ "java/lang/invoke/VarHandle") ∧ Cond.instantiable q.1.cls q.2 ∈ tables_1 ∧ Cond.privateMethod q.1 ∈ tables_1 ∧ Cond.instanceMethod q.1 ∈ tables_1
theorem lw_p0 : lw_okq (⟨"SiteCuts", "lowerBound", "()I"⟩, 7) := ⟨⟨by decide +kernel, by decide +kernel⟩, List.mem_of_getElem? (i := 11) (by decide +kernel), List.mem_of_getElem? (i := 546) (by decide +kernel), List.mem_of_getElem? (i := 547) (by decide +kernel)⟩
theorem lw_p1 : lw_okq (⟨"SiteCuts", "costOrNone", "(I)I"⟩, 7) := ⟨⟨by decide +kernel, by decide +kernel⟩, List.mem_of_getElem? (i := 11) (by decide +kernel), List.mem_of_getElem? (i := 550) (by decide +kernel), List.mem_of_getElem? (i := 551) (by decide +kernel)⟩
theorem lw_p2 : lw_okq (⟨"SiteCuts", "gap", "()I"⟩, 7) := ⟨⟨by decide +kernel, by decide +kernel⟩, List.mem_of_getElem? (i := 11) (by decide +kernel), List.mem_of_getElem? (i := 554) (by decide +kernel), List.mem_of_getElem? (i := 555) (by decide +kernel)⟩
theorem lw_p3 : lw_okq (⟨"SiteCutsModel", "begin", "()V"⟩, 10) := ⟨⟨by decide +kernel, by decide +kernel⟩, List.mem_of_getElem? (i := 589) (by decide +kernel), List.mem_of_getElem? (i := 638) (by decide +kernel), List.mem_of_getElem? (i := 639) (by decide +kernel)⟩
theorem lw_p4 : lw_okq (⟨"SiteCutsModel", "remember", "()V"⟩, 10) := ⟨⟨by decide +kernel, by decide +kernel⟩, List.mem_of_getElem? (i := 589) (by decide +kernel), List.mem_of_getElem? (i := 642) (by decide +kernel), List.mem_of_getElem? (i := 643) (by decide +kernel)⟩
theorem lw_p5 : lw_okq (⟨"SiteCutsModel", "record", "()V"⟩, 10) := ⟨⟨by decide +kernel, by decide +kernel⟩, List.mem_of_getElem? (i := 589) (by decide +kernel), List.mem_of_getElem? (i := 646) (by decide +kernel), List.mem_of_getElem? (i := 647) (by decide +kernel)⟩
theorem lw_p6 : lw_okq (⟨"SiteCutsModel", "dropAll", "()V"⟩, 10) := ⟨⟨by decide +kernel, by decide +kernel⟩, List.mem_of_getElem? (i := 589) (by decide +kernel), List.mem_of_getElem? (i := 657) (by decide +kernel), List.mem_of_getElem? (i := 658) (by decide +kernel)⟩
theorem lw_p7 : lw_okq (⟨"SiteCutsModel", "noSite", "(I)Z"⟩, 10) := ⟨⟨by decide +kernel, by decide +kernel⟩, List.mem_of_getElem? (i := 589) (by decide +kernel), List.mem_of_getElem? (i := 669) (by decide +kernel), List.mem_of_getElem? (i := 670) (by decide +kernel)⟩
theorem lw_p8 : lw_okq (⟨"SiteCutsModel", "change", "(II)I"⟩, 10) := ⟨⟨by decide +kernel, by decide +kernel⟩, List.mem_of_getElem? (i := 589) (by decide +kernel), List.mem_of_getElem? (i := 673) (by decide +kernel), List.mem_of_getElem? (i := 674) (by decide +kernel)⟩
theorem lw_p9 : lw_okq (⟨"SiteCutsModel", "noCustomer", "(I)Z"⟩, 10) := ⟨⟨by decide +kernel, by decide +kernel⟩, List.mem_of_getElem? (i := 589) (by decide +kernel), List.mem_of_getElem? (i := 681) (by decide +kernel), List.mem_of_getElem? (i := 682) (by decide +kernel)⟩
theorem lw_p10 : lw_okq (⟨"SiteCutsModel", "makeStep", "()I"⟩, 10) := ⟨⟨by decide +kernel, by decide +kernel⟩, List.mem_of_getElem? (i := 589) (by decide +kernel), List.mem_of_getElem? (i := 710) (by decide +kernel), List.mem_of_getElem? (i := 711) (by decide +kernel)⟩
theorem lw_p11 : lw_okq (⟨"SiteCutsModel", "masterPlan", "()I"⟩, 10) := ⟨⟨by decide +kernel, by decide +kernel⟩, List.mem_of_getElem? (i := 589) (by decide +kernel), List.mem_of_getElem? (i := 714) (by decide +kernel), List.mem_of_getElem? (i := 715) (by decide +kernel)⟩
theorem lw_p12 : lw_okq (⟨"SiteCutsModel", "isAllowed", "(I)Z"⟩, 10) := ⟨⟨by decide +kernel, by decide +kernel⟩, List.mem_of_getElem? (i := 589) (by decide +kernel), List.mem_of_getElem? (i := 718) (by decide +kernel), List.mem_of_getElem? (i := 719) (by decide +kernel)⟩
theorem lw_p13 : lw_okq (⟨"SiteCutsModel", "excludes", "(I)Z"⟩, 10) := ⟨⟨by decide +kernel, by decide +kernel⟩, List.mem_of_getElem? (i := 589) (by decide +kernel), List.mem_of_getElem? (i := 722) (by decide +kernel), List.mem_of_getElem? (i := 723) (by decide +kernel)⟩
theorem lw_p14 : lw_okq (⟨"SiteCutsModel", "raysMissed", "(I)I"⟩, 10) := ⟨⟨by decide +kernel, by decide +kernel⟩, List.mem_of_getElem? (i := 589) (by decide +kernel), List.mem_of_getElem? (i := 726) (by decide +kernel), List.mem_of_getElem? (i := 727) (by decide +kernel)⟩
theorem lw_p15 : lw_okq (⟨"SiteCutsModel", "isRay", "(I)Z"⟩, 10) := ⟨⟨by decide +kernel, by decide +kernel⟩, List.mem_of_getElem? (i := 589) (by decide +kernel), List.mem_of_getElem? (i := 730) (by decide +kernel), List.mem_of_getElem? (i := 731) (by decide +kernel)⟩
def lw_privs_1 : List (MethodName × Nat) := [(⟨"SiteCuts", "lowerBound", "()I"⟩, 7), (⟨"SiteCuts", "costOrNone", "(I)I"⟩, 7), (⟨"SiteCuts", "gap", "()I"⟩, 7), (⟨"SiteCutsModel", "begin", "()V"⟩, 10), (⟨"SiteCutsModel", "remember", "()V"⟩, 10), (⟨"SiteCutsModel", "record", "()V"⟩, 10), (⟨"SiteCutsModel", "dropAll", "()V"⟩, 10), (⟨"SiteCutsModel", "noSite", "(I)Z"⟩, 10), (⟨"SiteCutsModel", "change", "(II)I"⟩, 10), (⟨"SiteCutsModel", "noCustomer", "(I)Z"⟩, 10), (⟨"SiteCutsModel", "makeStep", "()I"⟩, 10), (⟨"SiteCutsModel", "masterPlan", "()I"⟩, 10), (⟨"SiteCutsModel", "isAllowed", "(I)Z"⟩, 10), (⟨"SiteCutsModel", "excludes", "(I)Z"⟩, 10), (⟨"SiteCutsModel", "raysMissed", "(I)I"⟩, 10), (⟨"SiteCutsModel", "isRay", "(I)Z"⟩, 10)]
theorem lw_r1 : ∀ q ∈ lw_privs_1, lw_okq q := List.forall_mem_cons.mpr ⟨lw_p0, List.forall_mem_cons.mpr ⟨lw_p1, List.forall_mem_cons.mpr ⟨lw_p2, List.forall_mem_cons.mpr ⟨lw_p3, List.forall_mem_cons.mpr ⟨lw_p4, List.forall_mem_cons.mpr ⟨lw_p5, List.forall_mem_cons.mpr ⟨lw_p6, List.forall_mem_cons.mpr ⟨lw_p7, List.forall_mem_cons.mpr ⟨lw_p8, List.forall_mem_cons.mpr ⟨lw_p9, List.forall_mem_cons.mpr ⟨lw_p10, List.forall_mem_cons.mpr ⟨lw_p11, List.forall_mem_cons.mpr ⟨lw_p12, List.forall_mem_cons.mpr ⟨lw_p13, List.forall_mem_cons.mpr ⟨lw_p14, List.forall_mem_cons.mpr ⟨lw_p15, fun _ h => absurd h List.not_mem_nil⟩⟩⟩⟩⟩⟩⟩⟩⟩⟩⟩⟩⟩⟩⟩⟩
theorem lw_p16 : lw_okq (⟨"SiteCutsModel", "asked", "(II)I"⟩, 10) := ⟨⟨by decide +kernel, by decide +kernel⟩, List.mem_of_getElem? (i := 589) (by decide +kernel), List.mem_of_getElem? (i := 734) (by decide +kernel), List.mem_of_getElem? (i := 735) (by decide +kernel)⟩
theorem lw_p17 : lw_okq (⟨"SiteCutsModel", "reachedFrom", "(I)I"⟩, 10) := ⟨⟨by decide +kernel, by decide +kernel⟩, List.mem_of_getElem? (i := 589) (by decide +kernel), List.mem_of_getElem? (i := 738) (by decide +kernel), List.mem_of_getElem? (i := 739) (by decide +kernel)⟩
theorem lw_p18 : lw_okq (⟨"SiteCutsModel", "guess", "(I)I"⟩, 10) := ⟨⟨by decide +kernel, by decide +kernel⟩, List.mem_of_getElem? (i := 589) (by decide +kernel), List.mem_of_getElem? (i := 742) (by decide +kernel), List.mem_of_getElem? (i := 743) (by decide +kernel)⟩
theorem lw_p19 : lw_okq (⟨"SiteCutsModel", "valueOf", "(II)I"⟩, 10) := ⟨⟨by decide +kernel, by decide +kernel⟩, List.mem_of_getElem? (i := 589) (by decide +kernel), List.mem_of_getElem? (i := 746) (by decide +kernel), List.mem_of_getElem? (i := 747) (by decide +kernel)⟩
theorem lw_p20 : lw_okq (⟨"SiteCutsModel", "weightOf", "(II)I"⟩, 10) := ⟨⟨by decide +kernel, by decide +kernel⟩, List.mem_of_getElem? (i := 589) (by decide +kernel), List.mem_of_getElem? (i := 750) (by decide +kernel), List.mem_of_getElem? (i := 751) (by decide +kernel)⟩
theorem lw_p21 : lw_okq (⟨"SiteCutsModel", "prices", "(I)I"⟩, 10) := ⟨⟨by decide +kernel, by decide +kernel⟩, List.mem_of_getElem? (i := 589) (by decide +kernel), List.mem_of_getElem? (i := 754) (by decide +kernel), List.mem_of_getElem? (i := 755) (by decide +kernel)⟩
theorem lw_p22 : lw_okq (⟨"SiteCutsModel", "missed", "(I)I"⟩, 10) := ⟨⟨by decide +kernel, by decide +kernel⟩, List.mem_of_getElem? (i := 589) (by decide +kernel), List.mem_of_getElem? (i := 758) (by decide +kernel), List.mem_of_getElem? (i := 759) (by decide +kernel)⟩
theorem lw_p23 : lw_okq (⟨"SiteCutsModel", "routes", "(I)I"⟩, 10) := ⟨⟨by decide +kernel, by decide +kernel⟩, List.mem_of_getElem? (i := 589) (by decide +kernel), List.mem_of_getElem? (i := 762) (by decide +kernel), List.mem_of_getElem? (i := 763) (by decide +kernel)⟩
theorem lw_p24 : lw_okq (⟨"SiteCutsModel", "server", "(II)I"⟩, 10) := ⟨⟨by decide +kernel, by decide +kernel⟩, List.mem_of_getElem? (i := 589) (by decide +kernel), List.mem_of_getElem? (i := 766) (by decide +kernel), List.mem_of_getElem? (i := 767) (by decide +kernel)⟩
theorem lw_p25 : lw_okq (⟨"SiteCutsModel", "goBack", "()V"⟩, 10) := ⟨⟨by decide +kernel, by decide +kernel⟩, List.mem_of_getElem? (i := 589) (by decide +kernel), List.mem_of_getElem? (i := 774) (by decide +kernel), List.mem_of_getElem? (i := 775) (by decide +kernel)⟩
theorem lw_p26 : lw_okq (⟨"SiteCutsModel", "noCut", "(I)Z"⟩, 10) := ⟨⟨by decide +kernel, by decide +kernel⟩, List.mem_of_getElem? (i := 589) (by decide +kernel), List.mem_of_getElem? (i := 782) (by decide +kernel), List.mem_of_getElem? (i := 783) (by decide +kernel)⟩
theorem lw_p27 : lw_okq (⟨"SiteCutsModel", "dropOne", "(I)V"⟩, 10) := ⟨⟨by decide +kernel, by decide +kernel⟩, List.mem_of_getElem? (i := 589) (by decide +kernel), List.mem_of_getElem? (i := 786) (by decide +kernel), List.mem_of_getElem? (i := 787) (by decide +kernel)⟩
theorem lw_p28 : lw_okq (⟨"SiteCutsModel", "isLoose", "(III)Z"⟩, 10) := ⟨⟨by decide +kernel, by decide +kernel⟩, List.mem_of_getElem? (i := 589) (by decide +kernel), List.mem_of_getElem? (i := 794) (by decide +kernel), List.mem_of_getElem? (i := 795) (by decide +kernel)⟩
theorem lw_p29 : lw_okq (⟨"SiteCutsModel", "readNumbers", "()Z"⟩, 10) := ⟨⟨by decide +kernel, by decide +kernel⟩, List.mem_of_getElem? (i := 589) (by decide +kernel), List.mem_of_getElem? (i := 810) (by decide +kernel), List.mem_of_getElem? (i := 811) (by decide +kernel)⟩
theorem lw_p30 : lw_okq (⟨"SiteCutsModel", "sees", "(II)Z"⟩, 10) := ⟨⟨by decide +kernel, by decide +kernel⟩, List.mem_of_getElem? (i := 589) (by decide +kernel), List.mem_of_getElem? (i := 814) (by decide +kernel), List.mem_of_getElem? (i := 815) (by decide +kernel)⟩
theorem lw_p31 : lw_okq (⟨"SiteCutsModel", "noPlan", "(I)Z"⟩, 10) := ⟨⟨by decide +kernel, by decide +kernel⟩, List.mem_of_getElem? (i := 589) (by decide +kernel), List.mem_of_getElem? (i := 822) (by decide +kernel), List.mem_of_getElem? (i := 823) (by decide +kernel)⟩
def lw_privs_2 : List (MethodName × Nat) := [(⟨"SiteCutsModel", "asked", "(II)I"⟩, 10), (⟨"SiteCutsModel", "reachedFrom", "(I)I"⟩, 10), (⟨"SiteCutsModel", "guess", "(I)I"⟩, 10), (⟨"SiteCutsModel", "valueOf", "(II)I"⟩, 10), (⟨"SiteCutsModel", "weightOf", "(II)I"⟩, 10), (⟨"SiteCutsModel", "prices", "(I)I"⟩, 10), (⟨"SiteCutsModel", "missed", "(I)I"⟩, 10), (⟨"SiteCutsModel", "routes", "(I)I"⟩, 10), (⟨"SiteCutsModel", "server", "(II)I"⟩, 10), (⟨"SiteCutsModel", "goBack", "()V"⟩, 10), (⟨"SiteCutsModel", "noCut", "(I)Z"⟩, 10), (⟨"SiteCutsModel", "dropOne", "(I)V"⟩, 10), (⟨"SiteCutsModel", "isLoose", "(III)Z"⟩, 10), (⟨"SiteCutsModel", "readNumbers", "()Z"⟩, 10), (⟨"SiteCutsModel", "sees", "(II)Z"⟩, 10), (⟨"SiteCutsModel", "noPlan", "(I)Z"⟩, 10)]
theorem lw_r2 : ∀ q ∈ lw_privs_2, lw_okq q := List.forall_mem_cons.mpr ⟨lw_p16, List.forall_mem_cons.mpr ⟨lw_p17, List.forall_mem_cons.mpr ⟨lw_p18, List.forall_mem_cons.mpr ⟨lw_p19, List.forall_mem_cons.mpr ⟨lw_p20, List.forall_mem_cons.mpr ⟨lw_p21, List.forall_mem_cons.mpr ⟨lw_p22, List.forall_mem_cons.mpr ⟨lw_p23, List.forall_mem_cons.mpr ⟨lw_p24, List.forall_mem_cons.mpr ⟨lw_p25, List.forall_mem_cons.mpr ⟨lw_p26, List.forall_mem_cons.mpr ⟨lw_p27, List.forall_mem_cons.mpr ⟨lw_p28, List.forall_mem_cons.mpr ⟨lw_p29, List.forall_mem_cons.mpr ⟨lw_p30, List.forall_mem_cons.mpr ⟨lw_p31, fun _ h => absurd h List.not_mem_nil⟩⟩⟩⟩⟩⟩⟩⟩⟩⟩⟩⟩⟩⟩⟩⟩
theorem lw_p32 : lw_okq (⟨"SiteCutsModel", "plansBy", "(IZ)I"⟩, 10) := ⟨⟨by decide +kernel, by decide +kernel⟩, List.mem_of_getElem? (i := 589) (by decide +kernel), List.mem_of_getElem? (i := 838) (by decide +kernel), List.mem_of_getElem? (i := 839) (by decide +kernel)⟩
theorem lw_p33 : lw_okq (⟨"SiteCutsModel", "isFeasible", "(I)Z"⟩, 10) := ⟨⟨by decide +kernel, by decide +kernel⟩, List.mem_of_getElem? (i := 589) (by decide +kernel), List.mem_of_getElem? (i := 842) (by decide +kernel), List.mem_of_getElem? (i := 843) (by decide +kernel)⟩
theorem lw_p34 : lw_okq (⟨"SiteCutsModel", "allRoutes", "()I"⟩, 10) := ⟨⟨by decide +kernel, by decide +kernel⟩, List.mem_of_getElem? (i := 589) (by decide +kernel), List.mem_of_getElem? (i := 867) (by decide +kernel), List.mem_of_getElem? (i := 868) (by decide +kernel)⟩
theorem lw_p35 : lw_okq (⟨"SiteCutsModel", "pairs", "()I"⟩, 10) := ⟨⟨by decide +kernel, by decide +kernel⟩, List.mem_of_getElem? (i := 589) (by decide +kernel), List.mem_of_getElem? (i := 871) (by decide +kernel), List.mem_of_getElem? (i := 872) (by decide +kernel)⟩
theorem lw_p36 : lw_okq (⟨"SiteCutsModel", "rays", "()I"⟩, 10) := ⟨⟨by decide +kernel, by decide +kernel⟩, List.mem_of_getElem? (i := 589) (by decide +kernel), List.mem_of_getElem? (i := 875) (by decide +kernel), List.mem_of_getElem? (i := 876) (by decide +kernel)⟩
def lw_privs_3 : List (MethodName × Nat) := [(⟨"SiteCutsModel", "plansBy", "(IZ)I"⟩, 10), (⟨"SiteCutsModel", "isFeasible", "(I)Z"⟩, 10), (⟨"SiteCutsModel", "allRoutes", "()I"⟩, 10), (⟨"SiteCutsModel", "pairs", "()I"⟩, 10), (⟨"SiteCutsModel", "rays", "()I"⟩, 10)]
theorem lw_r3 : ∀ q ∈ lw_privs_3, lw_okq q := List.forall_mem_cons.mpr ⟨lw_p32, List.forall_mem_cons.mpr ⟨lw_p33, List.forall_mem_cons.mpr ⟨lw_p34, List.forall_mem_cons.mpr ⟨lw_p35, List.forall_mem_cons.mpr ⟨lw_p36, fun _ h => absurd h List.not_mem_nil⟩⟩⟩⟩⟩
def lw_privs : List (MethodName × Nat) := lw_privs_1 ++ (lw_privs_2 ++ (lw_privs_3))
def lw_tbl : List Cond := k2_sels lw_privs ++ tables_1
theorem lw_privs_ok : ∀ q ∈ lw_privs, lw_okq q := by
  show ∀ q ∈ lw_privs_1 ++ (lw_privs_2 ++ (lw_privs_3)), lw_okq q
  exact List.forall_mem_append.mpr ⟨lw_r1, List.forall_mem_append.mpr ⟨lw_r2, lw_r3⟩⟩
end
section
def RX0 : String := "SiteCuts$CutText"
def TX0 : u_T := fun k => match k with
  | 0 => ("SiteCuts$CutText", "characters", "[C", true)
  | _ => ("SiteCuts$CutText", "length", "I", false)
def tyX0 : Nat → FieldType := fun k => match k with
  | 0 => .array .char
  | _ => .int
abbrev wsX00 : List Cond := u_ws RX0 TX0 2
theorem nmX0 : ∀ a, a < 2 → ∀ b, b < 2 → a ≠ b → (TX0 a).2.1 ≠ (TX0 b).2.1 := by decide +kernel
theorem tyX0_ok : ∀ k, k < 2 → parseFieldDescriptor (TX0 k).2.2.1 = some (tyX0 k) := by decide +kernel
abbrev cX0_init : ByteArray := prog_2_method_1_code
def yX0_init : MethodName := ⟨RX0, "<init>", "()V"⟩
abbrev cX0_isFull : ByteArray := prog_2_method_2_code
def yX0_isFull : MethodName := ⟨RX0, "isFull", "()Z"⟩
abbrev cX0_append : ByteArray := prog_2_method_3_code
def yX0_append : MethodName := ⟨RX0, "append", "(C)V"⟩
abbrev cX0_readNumbers : ByteArray := prog_2_method_4_code
def yX0_readNumbers : MethodName := ⟨RX0, "readNumbers", "([II)I"⟩
abbrev cX0_isCommaAt : ByteArray := prog_2_method_5_code
def yX0_isCommaAt : MethodName := ⟨RX0, "isCommaAt", "(I)Z"⟩
abbrev cX0_isDigitAt : ByteArray := prog_2_method_6_code
def yX0_isDigitAt : MethodName := ⟨RX0, "isDigitAt", "(I)Z"⟩
abbrev cX0_digitAt : ByteArray := prog_2_method_7_code
def yX0_digitAt : MethodName := ⟨RX0, "digitAt", "(I)I"⟩
def RX1 : String := "SiteCuts$Cuts"
def TX1 : u_T := fun k => match k with
  | 0 => ("SiteCuts$Cuts", "amount", "I", false)
  | 1 => ("SiteCuts$Cuts", "customers", "[I", true)
  | 2 => ("SiteCuts$Cuts", "starts", "[I", true)
  | _ => ("SiteCuts$Cuts", "weights", "[[I", true)
def tyX1 : Nat → FieldType := fun k => match k with
  | 0 => .int
  | 1 => .array .int
  | 2 => .array .int
  | _ => .array (.array .int)
abbrev wsX10 : List Cond := u_ws RX1 TX1 4
theorem nmX1 : ∀ a, a < 4 → ∀ b, b < 4 → a ≠ b → (TX1 a).2.1 ≠ (TX1 b).2.1 := by decide +kernel
theorem tyX1_ok : ∀ k, k < 4 → parseFieldDescriptor (TX1 k).2.2.1 = some (tyX1 k) := by decide +kernel
abbrev cX1_init : ByteArray := prog_3_method_1_code
def yX1_init : MethodName := ⟨RX1, "<init>", "()V"⟩
abbrev cX1_copyFrom : ByteArray := prog_3_method_2_code
def yX1_copyFrom : MethodName := ⟨RX1, "copyFrom", "(LSiteCuts$Cuts;)V"⟩
abbrev cX1_copyCut : ByteArray := prog_3_method_3_code
def yX1_copyCut : MethodName := ⟨RX1, "copyCut", "(LSiteCuts$Cuts;II)V"⟩
abbrev cX1_isCut : ByteArray := prog_3_method_4_code
def yX1_isCut : MethodName := ⟨RX1, "isCut", "(I)Z"⟩
abbrev cX1_isFull : ByteArray := prog_3_method_5_code
def yX1_isFull : MethodName := ⟨RX1, "isFull", "()Z"⟩
abbrev cX1_isRay : ByteArray := prog_3_method_6_code
def yX1_isRay : MethodName := ⟨RX1, "isRay", "(I)Z"⟩
abbrev cX1_appendRay : ByteArray := prog_3_method_7_code
def yX1_appendRay : MethodName := ⟨RX1, "appendRay", "(LSiteCuts$Places;I)I"⟩
abbrev cX1_appendPriceCut : ByteArray := prog_3_method_8_code
def yX1_appendPriceCut : MethodName := ⟨RX1, "appendPriceCut", "(LSiteCuts$Places;[I)I"⟩
abbrev cX1_savedBy : ByteArray := prog_3_method_9_code
def yX1_savedBy : MethodName := ⟨RX1, "savedBy", "(LSiteCuts$Places;I[I)I"⟩
abbrev cX1_remove : ByteArray := prog_3_method_10_code
def yX1_remove : MethodName := ⟨RX1, "remove", "(I)V"⟩
abbrev cX1_weightOf : ByteArray := prog_3_method_11_code
def yX1_weightOf : MethodName := ⟨RX1, "weightOf", "(II)I"⟩
abbrev cX1_valueOf : ByteArray := prog_3_method_12_code
def yX1_valueOf : MethodName := ⟨RX1, "valueOf", "(II)I"⟩
abbrev cX1_greatestValue : ByteArray := prog_3_method_13_code
def yX1_greatestValue : MethodName := ⟨RX1, "greatestValue", "(I)I"⟩
abbrev cX1_countRays : ByteArray := prog_3_method_14_code
def yX1_countRays : MethodName := ⟨RX1, "countRays", "()I"⟩
abbrev cX1_countMissedRays : ByteArray := prog_3_method_15_code
def yX1_countMissedRays : MethodName := ⟨RX1, "countMissedRays", "(I)I"⟩
abbrev cX1_isLoose : ByteArray := prog_3_method_16_code
def yX1_isLoose : MethodName := ⟨RX1, "isLoose", "(III)Z"⟩
abbrev cX1_countLoose : ByteArray := prog_3_method_17_code
def yX1_countLoose : MethodName := ⟨RX1, "countLoose", "(I)I"⟩
abbrev cX1_removeLoose : ByteArray := prog_3_method_18_code
def yX1_removeLoose : MethodName := ⟨RX1, "removeLoose", "(I)V"⟩
def RX2 : String := "SiteCuts$History"
def TX2 : u_T := fun k => match k with
  | 0 => ("SiteCuts$History", "states", "[LSiteCuts$State;", true)
  | _ => ("SiteCuts$History", "amount", "I", false)
def tyX2 : Nat → FieldType := fun k => match k with
  | 0 => .array (.object "SiteCuts$State")
  | _ => .int
abbrev wsX20 : List Cond := u_ws RX2 TX2 2
theorem nmX2 : ∀ a, a < 2 → ∀ b, b < 2 → a ≠ b → (TX2 a).2.1 ≠ (TX2 b).2.1 := by decide +kernel
theorem tyX2_ok : ∀ k, k < 2 → parseFieldDescriptor (TX2 k).2.2.1 = some (tyX2 k) := by decide +kernel
abbrev cX2_init : ByteArray := prog_4_method_1_code
def yX2_init : MethodName := ⟨RX2, "<init>", "()V"⟩
abbrev cX2_record : ByteArray := prog_4_method_2_code
def yX2_record : MethodName := ⟨RX2, "record", "(LSiteCuts$State;)V"⟩
abbrev cX2_moveOldestToEnd : ByteArray := prog_4_method_3_code
def yX2_moveOldestToEnd : MethodName := ⟨RX2, "moveOldestToEnd", "()V"⟩
abbrev cX2_takeLatest : ByteArray := prog_4_method_4_code
def yX2_takeLatest : MethodName := ⟨RX2, "takeLatest", "(LSiteCuts$State;)V"⟩
def RX3 : String := "SiteCuts$Places"
def TX3 : u_T := fun k => match k with
  | 0 => ("SiteCuts$Places", "siteCount", "I", false)
  | 1 => ("SiteCuts$Places", "customerCount", "I", false)
  | 2 => ("SiteCuts$Places", "most", "I", false)
  | 3 => ("SiteCuts$Places", "sitePrices", "[I", true)
  | 4 => ("SiteCuts$Places", "demands", "[I", true)
  | 5 => ("SiteCuts$Places", "routePrices", "[[I", true)
  | _ => ("SiteCuts$Places", "excluded", "[I", true)
def tyX3 : Nat → FieldType := fun k => match k with
  | 0 => .int
  | 1 => .int
  | 2 => .int
  | 3 => .array .int
  | 4 => .array .int
  | 5 => .array (.array .int)
  | _ => .array .int
abbrev wsX30 : List Cond := u_ws RX3 TX3 7
theorem nmX3 : ∀ a, a < 7 → ∀ b, b < 7 → a ≠ b → (TX3 a).2.1 ≠ (TX3 b).2.1 := by decide +kernel
theorem tyX3_ok : ∀ k, k < 7 → parseFieldDescriptor (TX3 k).2.2.1 = some (tyX3 k) := by decide +kernel
abbrev cX3_init : ByteArray := prog_5_method_1_code
def yX3_init : MethodName := ⟨RX3, "<init>", "()V"⟩
abbrev cX3_copyFrom : ByteArray := prog_5_method_2_code
def yX3_copyFrom : MethodName := ⟨RX3, "copyFrom", "(LSiteCuts$Places;)V"⟩
abbrev cX3_isSite : ByteArray := prog_5_method_3_code
def yX3_isSite : MethodName := ⟨RX3, "isSite", "(I)Z"⟩
abbrev cX3_isCustomer : ByteArray := prog_5_method_4_code
def yX3_isCustomer : MethodName := ⟨RX3, "isCustomer", "(I)Z"⟩
abbrev cX3_isPlan : ByteArray := prog_5_method_5_code
def yX3_isPlan : MethodName := ⟨RX3, "isPlan", "(I)Z"⟩
abbrev cX3_planCount : ByteArray := prog_5_method_6_code
def yX3_planCount : MethodName := ⟨RX3, "planCount", "()I"⟩
abbrev cX3_appendSite : ByteArray := prog_5_method_7_code
def yX3_appendSite : MethodName := ⟨RX3, "appendSite", "(I)I"⟩
abbrev cX3_appendCustomer : ByteArray := prog_5_method_8_code
def yX3_appendCustomer : MethodName := ⟨RX3, "appendCustomer", "(I)I"⟩
abbrev cX3_areExcluding : ByteArray := prog_5_method_9_code
def yX3_areExcluding : MethodName := ⟨RX3, "areExcluding", "(II)Z"⟩
abbrev cX3_turnExclusion : ByteArray := prog_5_method_10_code
def yX3_turnExclusion : MethodName := ⟨RX3, "turnExclusion", "(II)V"⟩
abbrev cX3_hasRoute : ByteArray := prog_5_method_11_code
def yX3_hasRoute : MethodName := ⟨RX3, "hasRoute", "(II)Z"⟩
abbrev cX3_isAllowed : ByteArray := prog_5_method_12_code
def yX3_isAllowed : MethodName := ⟨RX3, "isAllowed", "(I)Z"⟩
abbrev cX3_hasExcludingSites : ByteArray := prog_5_method_13_code
def yX3_hasExcludingSites : MethodName := ⟨RX3, "hasExcludingSites", "(I)Z"⟩
abbrev cX3_verdictOf : ByteArray := prog_5_method_14_code
def yX3_verdictOf : MethodName := ⟨RX3, "verdictOf", "(I)I"⟩
abbrev cX3_leastRoutePrice : ByteArray := prog_5_method_15_code
def yX3_leastRoutePrice : MethodName := ⟨RX3, "leastRoutePrice", "(II)I"⟩
abbrev cX3_cheapestSite : ByteArray := prog_5_method_16_code
def yX3_cheapestSite : MethodName := ⟨RX3, "cheapestSite", "(II)I"⟩
abbrev cX3_lowestMissedCustomer : ByteArray := prog_5_method_17_code
def yX3_lowestMissedCustomer : MethodName := ⟨RX3, "lowestMissedCustomer", "(I)I"⟩
abbrev cX3_reachesAll : ByteArray := prog_5_method_18_code
def yX3_reachesAll : MethodName := ⟨RX3, "reachesAll", "(I)Z"⟩
abbrev cX3_sitePricesOf : ByteArray := prog_5_method_19_code
def yX3_sitePricesOf : MethodName := ⟨RX3, "sitePricesOf", "(I)I"⟩
abbrev cX3_routeCostOf : ByteArray := prog_5_method_20_code
def yX3_routeCostOf : MethodName := ⟨RX3, "routeCostOf", "(I)I"⟩
abbrev cX3_costOf : ByteArray := prog_5_method_21_code
def yX3_costOf : MethodName := ⟨RX3, "costOf", "(I)I"⟩
abbrev cX3_isFeasible : ByteArray := prog_5_method_22_code
def yX3_isFeasible : MethodName := ⟨RX3, "isFeasible", "(I)Z"⟩
abbrev cX3_findBestPlan : ByteArray := prog_5_method_23_code
def yX3_findBestPlan : MethodName := ⟨RX3, "findBestPlan", "()I"⟩
abbrev cX3_countFeasiblePlans : ByteArray := prog_5_method_24_code
def yX3_countFeasiblePlans : MethodName := ⟨RX3, "countFeasiblePlans", "()I"⟩
abbrev cX3_countRoutes : ByteArray := prog_5_method_25_code
def yX3_countRoutes : MethodName := ⟨RX3, "countRoutes", "()I"⟩
abbrev cX3_countExcludingPairs : ByteArray := prog_5_method_26_code
def yX3_countExcludingPairs : MethodName := ⟨RX3, "countExcludingPairs", "()I"⟩
def RX4 : String := "SiteCuts$State"
def TX4 : u_T := fun k => match k with
  | 0 => ("SiteCuts$State", "places", "LSiteCuts$Places;", true)
  | 1 => ("SiteCuts$State", "cuts", "LSiteCuts$Cuts;", true)
  | 2 => ("SiteCuts$State", "best", "I", false)
  | _ => ("SiteCuts$State", "steps", "I", false)
def tyX4 : Nat → FieldType := fun k => match k with
  | 0 => .object "SiteCuts$Places"
  | 1 => .object "SiteCuts$Cuts"
  | 2 => .int
  | _ => .int
abbrev wsX40 : List Cond := u_ws RX4 TX4 4
theorem nmX4 : ∀ a, a < 4 → ∀ b, b < 4 → a ≠ b → (TX4 a).2.1 ≠ (TX4 b).2.1 := by decide +kernel
theorem tyX4_ok : ∀ k, k < 4 → parseFieldDescriptor (TX4 k).2.2.1 = some (tyX4 k) := by decide +kernel
abbrev cX4_init : ByteArray := prog_6_method_1_code
def yX4_init : MethodName := ⟨RX4, "<init>", "()V"⟩
abbrev cX4_copyFrom : ByteArray := prog_6_method_2_code
def yX4_copyFrom : MethodName := ⟨RX4, "copyFrom", "(LSiteCuts$State;)V"⟩
abbrev cX4_forgetBest : ByteArray := prog_6_method_3_code
def yX4_forgetBest : MethodName := ⟨RX4, "forgetBest", "()V"⟩
abbrev cX4_forgetCuts : ByteArray := prog_6_method_4_code
def yX4_forgetCuts : MethodName := ⟨RX4, "forgetCuts", "()V"⟩
abbrev cX4_guessOf : ByteArray := prog_6_method_5_code
def yX4_guessOf : MethodName := ⟨RX4, "guessOf", "(I)I"⟩
abbrev cX4_isForMaster : ByteArray := prog_6_method_6_code
def yX4_isForMaster : MethodName := ⟨RX4, "isForMaster", "(I)Z"⟩
abbrev cX4_findMasterPlan : ByteArray := prog_6_method_7_code
def yX4_findMasterPlan : MethodName := ⟨RX4, "findMasterPlan", "()I"⟩
abbrev cX4_makeStep : ByteArray := prog_6_method_8_code
def yX4_makeStep : MethodName := ⟨RX4, "makeStep", "([I)I"⟩
abbrev cX4_improveBest : ByteArray := prog_6_method_9_code
def yX4_improveBest : MethodName := ⟨RX4, "improveBest", "(I)V"⟩
abbrev cX4_countPlansThatBreak : ByteArray := prog_6_method_10_code
def yX4_countPlansThatBreak : MethodName := ⟨RX4, "countPlansThatBreak", "(I)I"⟩
abbrev cX4_isBroken : ByteArray := prog_6_method_11_code
def yX4_isBroken : MethodName := ⟨RX4, "isBroken", "(II)Z"⟩
abbrev cX4_countPlansThatAreTight : ByteArray := prog_6_method_12_code
def yX4_countPlansThatAreTight : MethodName := ⟨RX4, "countPlansThatAreTight", "(I)I"⟩
abbrev cX4_isTight : ByteArray := prog_6_method_13_code
def yX4_isTight : MethodName := ⟨RX4, "isTight", "(II)Z"⟩
def RX5 : String := "SiteCuts"
def TX5 : u_T := fun k => match k with
  | 0 => ("SiteCuts", "now", "LSiteCuts$State;", true)
  | 1 => ("SiteCuts", "before", "LSiteCuts$State;", true)
  | 2 => ("SiteCuts", "snapshot", "LSiteCuts$State;", true)
  | 3 => ("SiteCuts", "hasSnapshot", "Z", false)
  | 4 => ("SiteCuts", "history", "LSiteCuts$History;", true)
  | 5 => ("SiteCuts", "text", "LSiteCuts$CutText;", true)
  | _ => ("SiteCuts", "numbers", "[I", true)
def tyX5 : Nat → FieldType := fun k => match k with
  | 0 => .object "SiteCuts$State"
  | 1 => .object "SiteCuts$State"
  | 2 => .object "SiteCuts$State"
  | 3 => .boolean
  | 4 => .object "SiteCuts$History"
  | 5 => .object "SiteCuts$CutText"
  | _ => .array .int
abbrev wsX50 : List Cond := u_ws RX5 TX5 7
theorem nmX5 : ∀ a, a < 7 → ∀ b, b < 7 → a ≠ b → (TX5 a).2.1 ≠ (TX5 b).2.1 := by decide +kernel
theorem tyX5_ok : ∀ k, k < 7 → parseFieldDescriptor (TX5 k).2.2.1 = some (tyX5 k) := by decide +kernel
abbrev cX5_init : ByteArray := prog_1_method_1_code
def yX5_init : MethodName := ⟨RX5, "<init>", "()V"⟩
abbrev cX5_addSite : ByteArray := prog_1_method_2_code
def yX5_addSite : MethodName := ⟨RX5, "addSite", "(I)I"⟩
abbrev cX5_addCustomer : ByteArray := prog_1_method_3_code
def yX5_addCustomer : MethodName := ⟨RX5, "addCustomer", "(I)I"⟩
abbrev cX5_setPrice : ByteArray := prog_1_method_4_code
def yX5_setPrice : MethodName := ⟨RX5, "setPrice", "(II)I"⟩
abbrev cX5_setDemand : ByteArray := prog_1_method_5_code
def yX5_setDemand : MethodName := ⟨RX5, "setDemand", "(II)I"⟩
abbrev cX5_setRoute : ByteArray := prog_1_method_6_code
def yX5_setRoute : MethodName := ⟨RX5, "setRoute", "(III)I"⟩
abbrev cX5_setMost : ByteArray := prog_1_method_7_code
def yX5_setMost : MethodName := ⟨RX5, "setMost", "(I)I"⟩
abbrev cX5_exclude : ByteArray := prog_1_method_8_code
def yX5_exclude : MethodName := ⟨RX5, "exclude", "(IIZ)I"⟩
abbrev cX5_step : ByteArray := prog_1_method_9_code
def yX5_step : MethodName := ⟨RX5, "step", "()I"⟩
abbrev cX5_solve : ByteArray := prog_1_method_10_code
def yX5_solve : MethodName := ⟨RX5, "solve", "()I"⟩
abbrev cX5_readCut : ByteArray := prog_1_method_11_code
def yX5_readCut : MethodName := ⟨RX5, "readCut", "()I"⟩
abbrev cX5_drop : ByteArray := prog_1_method_12_code
def yX5_drop : MethodName := ⟨RX5, "drop", "(I)I"⟩
abbrev cX5_dropLoose : ByteArray := prog_1_method_13_code
def yX5_dropLoose : MethodName := ⟨RX5, "dropLoose", "()I"⟩
abbrev cX5_type : ByteArray := prog_1_method_14_code
def yX5_type : MethodName := ⟨RX5, "type", "(C)I"⟩
abbrev cX5_clearText : ByteArray := prog_1_method_15_code
def yX5_clearText : MethodName := ⟨RX5, "clearText", "()I"⟩
abbrev cX5_undo : ByteArray := prog_1_method_16_code
def yX5_undo : MethodName := ⟨RX5, "undo", "()I"⟩
abbrev cX5_keep : ByteArray := prog_1_method_17_code
def yX5_keep : MethodName := ⟨RX5, "keep", "()I"⟩
abbrev cX5_restore : ByteArray := prog_1_method_18_code
def yX5_restore : MethodName := ⟨RX5, "restore", "()I"⟩
abbrev cX5_judge : ByteArray := prog_1_method_19_code
def yX5_judge : MethodName := ⟨RX5, "judge", "(I)I"⟩
abbrev cX5_plan : ByteArray := prog_1_method_20_code
def yX5_plan : MethodName := ⟨RX5, "plan", "(II)I"⟩
abbrev cX5_serves : ByteArray := prog_1_method_21_code
def yX5_serves : MethodName := ⟨RX5, "serves", "(II)I"⟩
abbrev cX5_cut : ByteArray := prog_1_method_22_code
def yX5_cut : MethodName := ⟨RX5, "cut", "(II)I"⟩
abbrev cX5_weight : ByteArray := prog_1_method_23_code
def yX5_weight : MethodName := ⟨RX5, "weight", "(II)I"⟩
abbrev cX5_value : ByteArray := prog_1_method_24_code
def yX5_value : MethodName := ⟨RX5, "value", "(II)I"⟩
abbrev cX5_master : ByteArray := prog_1_method_25_code
def yX5_master : MethodName := ⟨RX5, "master", "(I)I"⟩
abbrev cX5_byAll : ByteArray := prog_1_method_26_code
def yX5_byAll : MethodName := ⟨RX5, "byAll", "(I)I"⟩
abbrev cX5_count : ByteArray := prog_1_method_27_code
def yX5_count : MethodName := ⟨RX5, "count", "(I)I"⟩
abbrev cX5_lowerBound : ByteArray := prog_1_method_28_code
def yX5_lowerBound : MethodName := ⟨RX5, "lowerBound", "()I"⟩
abbrev cX5_costOrNone : ByteArray := prog_1_method_29_code
def yX5_costOrNone : MethodName := ⟨RX5, "costOrNone", "(I)I"⟩
abbrev cX5_gap : ByteArray := prog_1_method_30_code
def yX5_gap : MethodName := ⟨RX5, "gap", "()I"⟩
abbrev cX5_planOrNone : ByteArray := prog_1_method_31_code
def yX5_planOrNone : MethodName := ⟨RX5, "planOrNone", "(I)I"⟩
abbrev cX5_isCutAdded : ByteArray := prog_1_method_32_code
def yX5_isCutAdded : MethodName := ⟨RX5, "isCutAdded", "(I)Z"⟩
abbrev cX5_isSitePrice : ByteArray := prog_1_method_33_code
def yX5_isSitePrice : MethodName := ⟨RX5, "isSitePrice", "(I)Z"⟩
abbrev cX5_isDemand : ByteArray := prog_1_method_34_code
def yX5_isDemand : MethodName := ⟨RX5, "isDemand", "(I)Z"⟩
abbrev cX5_isIn : ByteArray := prog_1_method_35_code
def yX5_isIn : MethodName := ⟨RX5, "isIn", "(II)Z"⟩
def RX6 : String := "SiteCutsModel"
def TX6 : u_T := fun k => match k with
  | 0 => ("SiteCutsModel", "row", "[I", true)
  | 1 => ("SiteCutsModel", "past", "[I", true)
  | 2 => ("SiteCutsModel", "aside", "[I", true)
  | 3 => ("SiteCutsModel", "before", "[I", true)
  | 4 => ("SiteCutsModel", "states", "I", false)
  | 5 => ("SiteCutsModel", "isAside", "Z", false)
  | 6 => ("SiteCutsModel", "text", "[C", true)
  | 7 => ("SiteCutsModel", "length", "I", false)
  | 8 => ("SiteCutsModel", "at", "I", false)
  | _ => ("SiteCutsModel", "read", "[I", true)
def tyX6 : Nat → FieldType := fun k => match k with
  | 0 => .array .int
  | 1 => .array .int
  | 2 => .array .int
  | 3 => .array .int
  | 4 => .int
  | 5 => .boolean
  | 6 => .array .char
  | 7 => .int
  | 8 => .int
  | _ => .array .int
abbrev wsX60 : List Cond := u_ws RX6 TX6 10
theorem nmX6 : ∀ a, a < 10 → ∀ b, b < 10 → a ≠ b → (TX6 a).2.1 ≠ (TX6 b).2.1 := by decide +kernel
theorem tyX6_ok : ∀ k, k < 10 → parseFieldDescriptor (TX6 k).2.2.1 = some (tyX6 k) := by decide +kernel
abbrev cX6_init : ByteArray := prog_8_method_1_code
def yX6_init : MethodName := ⟨RX6, "<init>", "()V"⟩
abbrev cX6_in : ByteArray := prog_8_method_2_code
def yX6_in : MethodName := ⟨RX6, "in", "(III)Z"⟩
abbrev cX6_isIn : ByteArray := prog_8_method_3_code
def yX6_isIn : MethodName := ⟨RX6, "isIn", "(II)Z"⟩
abbrev cX6_many : ByteArray := prog_8_method_4_code
def yX6_many : MethodName := ⟨RX6, "many", "(I)I"⟩
abbrev cX6_remember : ByteArray := prog_8_method_5_code
def yX6_remember : MethodName := ⟨RX6, "remember", "()V"⟩
abbrev cX6_goBack : ByteArray := prog_8_method_6_code
def yX6_goBack : MethodName := ⟨RX6, "goBack", "()V"⟩
abbrev cX6_record : ByteArray := prog_8_method_7_code
def yX6_record : MethodName := ⟨RX6, "record", "()V"⟩
abbrev cX6_begin : ByteArray := prog_8_method_8_code
def yX6_begin : MethodName := ⟨RX6, "begin", "()V"⟩
abbrev cX6_undo : ByteArray := prog_8_method_9_code
def yX6_undo : MethodName := ⟨RX6, "undo", "()I"⟩
abbrev cX6_keep : ByteArray := prog_8_method_10_code
def yX6_keep : MethodName := ⟨RX6, "keep", "()I"⟩
abbrev cX6_restore : ByteArray := prog_8_method_11_code
def yX6_restore : MethodName := ⟨RX6, "restore", "()I"⟩
abbrev cX6_noSite : ByteArray := prog_8_method_12_code
def yX6_noSite : MethodName := ⟨RX6, "noSite", "(I)Z"⟩
abbrev cX6_noCustomer : ByteArray := prog_8_method_13_code
def yX6_noCustomer : MethodName := ⟨RX6, "noCustomer", "(I)Z"⟩
abbrev cX6_route : ByteArray := prog_8_method_14_code
def yX6_route : MethodName := ⟨RX6, "route", "(II)I"⟩
abbrev cX6_dropAll : ByteArray := prog_8_method_15_code
def yX6_dropAll : MethodName := ⟨RX6, "dropAll", "()V"⟩
abbrev cX6_addSite : ByteArray := prog_8_method_16_code
def yX6_addSite : MethodName := ⟨RX6, "addSite", "(I)I"⟩
abbrev cX6_addCustomer : ByteArray := prog_8_method_17_code
def yX6_addCustomer : MethodName := ⟨RX6, "addCustomer", "(I)I"⟩
abbrev cX6_change : ByteArray := prog_8_method_18_code
def yX6_change : MethodName := ⟨RX6, "change", "(II)I"⟩
abbrev cX6_setPrice : ByteArray := prog_8_method_19_code
def yX6_setPrice : MethodName := ⟨RX6, "setPrice", "(II)I"⟩
abbrev cX6_setDemand : ByteArray := prog_8_method_20_code
def yX6_setDemand : MethodName := ⟨RX6, "setDemand", "(II)I"⟩
abbrev cX6_setRoute : ByteArray := prog_8_method_21_code
def yX6_setRoute : MethodName := ⟨RX6, "setRoute", "(III)I"⟩
abbrev cX6_setMost : ByteArray := prog_8_method_22_code
def yX6_setMost : MethodName := ⟨RX6, "setMost", "(I)I"⟩
abbrev cX6_exclude : ByteArray := prog_8_method_23_code
def yX6_exclude : MethodName := ⟨RX6, "exclude", "(IIZ)I"⟩
abbrev cX6_noPlan : ByteArray := prog_8_method_24_code
def yX6_noPlan : MethodName := ⟨RX6, "noPlan", "(I)Z"⟩
abbrev cX6_excludes : ByteArray := prog_8_method_25_code
def yX6_excludes : MethodName := ⟨RX6, "excludes", "(I)Z"⟩
abbrev cX6_isAllowed : ByteArray := prog_8_method_26_code
def yX6_isAllowed : MethodName := ⟨RX6, "isAllowed", "(I)Z"⟩
abbrev cX6_reachedFrom : ByteArray := prog_8_method_27_code
def yX6_reachedFrom : MethodName := ⟨RX6, "reachedFrom", "(I)I"⟩
abbrev cX6_missed : ByteArray := prog_8_method_28_code
def yX6_missed : MethodName := ⟨RX6, "missed", "(I)I"⟩
abbrev cX6_server : ByteArray := prog_8_method_29_code
def yX6_server : MethodName := ⟨RX6, "server", "(II)I"⟩
abbrev cX6_prices : ByteArray := prog_8_method_30_code
def yX6_prices : MethodName := ⟨RX6, "prices", "(I)I"⟩
abbrev cX6_routes : ByteArray := prog_8_method_31_code
def yX6_routes : MethodName := ⟨RX6, "routes", "(I)I"⟩
abbrev cX6_isFeasible : ByteArray := prog_8_method_32_code
def yX6_isFeasible : MethodName := ⟨RX6, "isFeasible", "(I)Z"⟩
abbrev cX6_noCut : ByteArray := prog_8_method_33_code
def yX6_noCut : MethodName := ⟨RX6, "noCut", "(I)Z"⟩
abbrev cX6_isRay : ByteArray := prog_8_method_34_code
def yX6_isRay : MethodName := ⟨RX6, "isRay", "(I)Z"⟩
abbrev cX6_weightOf : ByteArray := prog_8_method_35_code
def yX6_weightOf : MethodName := ⟨RX6, "weightOf", "(II)I"⟩
abbrev cX6_valueOf : ByteArray := prog_8_method_36_code
def yX6_valueOf : MethodName := ⟨RX6, "valueOf", "(II)I"⟩
abbrev cX6_asked : ByteArray := prog_8_method_37_code
def yX6_asked : MethodName := ⟨RX6, "asked", "(II)I"⟩
abbrev cX6_raysMissed : ByteArray := prog_8_method_38_code
def yX6_raysMissed : MethodName := ⟨RX6, "raysMissed", "(I)I"⟩
abbrev cX6_guess : ByteArray := prog_8_method_39_code
def yX6_guess : MethodName := ⟨RX6, "guess", "(I)I"⟩
abbrev cX6_masterPlan : ByteArray := prog_8_method_40_code
def yX6_masterPlan : MethodName := ⟨RX6, "masterPlan", "()I"⟩
abbrev cX6_makeStep : ByteArray := prog_8_method_41_code
def yX6_makeStep : MethodName := ⟨RX6, "makeStep", "()I"⟩
abbrev cX6_step : ByteArray := prog_8_method_42_code
def yX6_step : MethodName := ⟨RX6, "step", "()I"⟩
abbrev cX6_solve : ByteArray := prog_8_method_43_code
def yX6_solve : MethodName := ⟨RX6, "solve", "()I"⟩
abbrev cX6_dropOne : ByteArray := prog_8_method_44_code
def yX6_dropOne : MethodName := ⟨RX6, "dropOne", "(I)V"⟩
abbrev cX6_drop : ByteArray := prog_8_method_45_code
def yX6_drop : MethodName := ⟨RX6, "drop", "(I)I"⟩
abbrev cX6_isLoose : ByteArray := prog_8_method_46_code
def yX6_isLoose : MethodName := ⟨RX6, "isLoose", "(III)Z"⟩
abbrev cX6_dropLoose : ByteArray := prog_8_method_47_code
def yX6_dropLoose : MethodName := ⟨RX6, "dropLoose", "()I"⟩
abbrev cX6_type : ByteArray := prog_8_method_48_code
def yX6_type : MethodName := ⟨RX6, "type", "(C)I"⟩
abbrev cX6_clearText : ByteArray := prog_8_method_49_code
def yX6_clearText : MethodName := ⟨RX6, "clearText", "()I"⟩
abbrev cX6_sees : ByteArray := prog_8_method_50_code
def yX6_sees : MethodName := ⟨RX6, "sees", "(II)Z"⟩
abbrev cX6_readNumbers : ByteArray := prog_8_method_51_code
def yX6_readNumbers : MethodName := ⟨RX6, "readNumbers", "()Z"⟩
abbrev cX6_readCut : ByteArray := prog_8_method_52_code
def yX6_readCut : MethodName := ⟨RX6, "readCut", "()I"⟩
abbrev cX6_judge : ByteArray := prog_8_method_53_code
def yX6_judge : MethodName := ⟨RX6, "judge", "(I)I"⟩
abbrev cX6_plan : ByteArray := prog_8_method_54_code
def yX6_plan : MethodName := ⟨RX6, "plan", "(II)I"⟩
abbrev cX6_serves : ByteArray := prog_8_method_55_code
def yX6_serves : MethodName := ⟨RX6, "serves", "(II)I"⟩
abbrev cX6_plansBy : ByteArray := prog_8_method_56_code
def yX6_plansBy : MethodName := ⟨RX6, "plansBy", "(IZ)I"⟩
abbrev cX6_cut : ByteArray := prog_8_method_57_code
def yX6_cut : MethodName := ⟨RX6, "cut", "(II)I"⟩
abbrev cX6_weight : ByteArray := prog_8_method_58_code
def yX6_weight : MethodName := ⟨RX6, "weight", "(II)I"⟩
abbrev cX6_value : ByteArray := prog_8_method_59_code
def yX6_value : MethodName := ⟨RX6, "value", "(II)I"⟩
abbrev cX6_master : ByteArray := prog_8_method_60_code
def yX6_master : MethodName := ⟨RX6, "master", "(I)I"⟩
abbrev cX6_byAll : ByteArray := prog_8_method_61_code
def yX6_byAll : MethodName := ⟨RX6, "byAll", "(I)I"⟩
abbrev cX6_rays : ByteArray := prog_8_method_62_code
def yX6_rays : MethodName := ⟨RX6, "rays", "()I"⟩
abbrev cX6_pairs : ByteArray := prog_8_method_63_code
def yX6_pairs : MethodName := ⟨RX6, "pairs", "()I"⟩
abbrev cX6_allRoutes : ByteArray := prog_8_method_64_code
def yX6_allRoutes : MethodName := ⟨RX6, "allRoutes", "()I"⟩
abbrev cX6_count : ByteArray := prog_8_method_65_code
def yX6_count : MethodName := ⟨RX6, "count", "(I)I"⟩
def RJ6 : String := "java/lang/Integer"
def TJ6 : u_T := fun k => match k with
  | _ => ("", "", "", false)
def tyJ6 : Nat → FieldType := fun k => match k with
  | _ => .int
abbrev cJ6_bitCount_0f7a4 : ByteArray := prog_9_method_49_code
def yJ6_bitCount_0f7a4 : MethodName := ⟨RJ6, "bitCount", "(I)I"⟩
def RJ9 : String := "java/lang/Math"
def TJ9 : u_T := fun k => match k with
  | _ => ("", "", "", false)
def tyJ9 : Nat → FieldType := fun k => match k with
  | _ => .int
def RL : String := "SiteCutsLaw"
abbrev cL_law : ByteArray := code
def yL_law : MethodName := ⟨RL, "law", "([I)Z"⟩
abbrev vwCl : List vw_C := [(RX0, TX0, 2), (RX1, TX1, 4), (RX2, TX2, 2), (RX3, TX3, 7), (RX4, TX4, 4), (RX5, TX5, 7), (RX6, TX6, 10)]
end
section
def GW : List Cond := lw_tbl.filter goodWord
theorem GW_good : GW.all goodWord = true := List.all_eq_true.mpr (fun _ h => (List.mem_filter.mp h).2)
theorem GW_in : ∀ w ∈ GW, w ∈ lw_tbl := fun _ h => (List.mem_filter.mp h).1
theorem GW_of {w : Cond} (h : w ∈ lw_tbl) (g : goodWord w = true) : w ∈ GW := List.mem_filter.mpr ⟨h, g⟩
theorem m0 : Cond.classLink RL 7 RX5 ∈ GW := GW_of (List.mem_of_getElem? (i := 47) (by decide +kernel)) rfl
theorem m1 : Cond.instantiable RX5 7 ∈ GW := GW_of (List.mem_of_getElem? (i := 48) (by decide +kernel)) rfl
theorem m2 : Cond.initialized RX5 ∈ GW := GW_of (List.mem_of_getElem? (i := 38) (by decide +kernel)) rfl
theorem m3 : Cond.classLink RL 10 RX6 ∈ GW := GW_of (List.mem_of_getElem? (i := 625) (by decide +kernel)) rfl
theorem m4 : Cond.instantiable RX6 10 ∈ GW := GW_of (List.mem_of_getElem? (i := 626) (by decide +kernel)) rfl
theorem m5 : Cond.initialized RX6 ∈ GW := GW_of (List.mem_of_getElem? (i := 44) (by decide +kernel)) rfl
theorem m6 : Cond.methodLink RL 9 yX5_init ∈ GW := GW_of (List.mem_of_getElem? (i := 49) (by decide +kernel)) rfl
theorem m7 : Cond.instanceMethod yX5_init ∈ GW := GW_of (List.mem_of_getElem? (i := 50) (by decide +kernel)) rfl
theorem m8 : Cond.code yX5_init cX5_init 1 none ∈ GW := GW_of (List.mem_of_getElem? (i := 51) (by decide +kernel)) rfl
theorem m9 : Cond.methodLink RX5 1 objectInit ∈ GW := GW_of (List.mem_of_getElem? (i := 52) (by decide +kernel)) rfl
theorem m10 : Cond.instanceMethod objectInit ∈ GW := GW_of (List.mem_of_getElem? (i := 53) (by decide +kernel)) rfl
theorem m11 : Cond.code objectInit ⟨#[0xb1]⟩ 1 none ∈ GW := GW_of (List.mem_of_getElem? (i := 54) (by decide +kernel)) rfl
theorem m12 : Cond.classLink RX5 7 RX4 ∈ GW := GW_of (List.mem_of_getElem? (i := 55) (by decide +kernel)) rfl
theorem m13 : Cond.instantiable RX4 4 ∈ GW := GW_of (List.mem_of_getElem? (i := 56) (by decide +kernel)) rfl
theorem m14 : Cond.initialized RX4 ∈ GW := GW_of (List.mem_of_getElem? (i := 39) (by decide +kernel)) rfl
theorem m15 : Cond.fieldLink RX5 10 "SiteCuts" "now" "LSiteCuts$State;" ∈ GW := GW_of (List.mem_of_getElem? (i := 178) (by decide +kernel)) rfl
theorem m16 : Cond.fieldLink RX5 16 "SiteCuts" "before" "LSiteCuts$State;" ∈ GW := GW_of (List.mem_of_getElem? (i := 179) (by decide +kernel)) rfl
theorem m17 : Cond.fieldLink RX5 19 "SiteCuts" "snapshot" "LSiteCuts$State;" ∈ GW := GW_of (List.mem_of_getElem? (i := 180) (by decide +kernel)) rfl
theorem m18 : Cond.fieldLink RX5 22 "SiteCuts" "hasSnapshot" "Z" ∈ GW := GW_of (List.mem_of_getElem? (i := 181) (by decide +kernel)) rfl
theorem m19 : Cond.classLink RX5 26 RX2 ∈ GW := GW_of (List.mem_of_getElem? (i := 146) (by decide +kernel)) rfl
theorem m20 : Cond.instantiable RX2 2 ∈ GW := GW_of (List.mem_of_getElem? (i := 147) (by decide +kernel)) rfl
theorem m21 : Cond.initialized RX2 ∈ GW := GW_of (List.mem_of_getElem? (i := 42) (by decide +kernel)) rfl
theorem m22 : Cond.fieldLink RX5 29 "SiteCuts" "history" "LSiteCuts$History;" ∈ GW := GW_of (List.mem_of_getElem? (i := 182) (by decide +kernel)) rfl
theorem m23 : Cond.classLink RX5 33 RX0 ∈ GW := GW_of (List.mem_of_getElem? (i := 163) (by decide +kernel)) rfl
theorem m24 : Cond.instantiable RX0 2 ∈ GW := GW_of (List.mem_of_getElem? (i := 164) (by decide +kernel)) rfl
theorem m25 : Cond.initialized RX0 ∈ GW := GW_of (List.mem_of_getElem? (i := 43) (by decide +kernel)) rfl
theorem m26 : Cond.fieldLink RX5 36 "SiteCuts" "text" "LSiteCuts$CutText;" ∈ GW := GW_of (List.mem_of_getElem? (i := 183) (by decide +kernel)) rfl
theorem m27 : Cond.arrayClass .int ∈ GW := GW_of (List.mem_of_getElem? (i := 103) (by decide +kernel)) rfl
theorem m28 : Cond.fieldLink RX5 40 "SiteCuts" "numbers" "[I" ∈ GW := GW_of (List.mem_of_getElem? (i := 184) (by decide +kernel)) rfl
theorem m29 : Cond.methodLink RX5 9 yX4_init ∈ GW := GW_of (List.mem_of_getElem? (i := 57) (by decide +kernel)) rfl
theorem m30 : Cond.instanceMethod yX4_init ∈ GW := GW_of (List.mem_of_getElem? (i := 58) (by decide +kernel)) rfl
theorem m31 : Cond.code yX4_init cX4_init 1 none ∈ GW := GW_of (List.mem_of_getElem? (i := 59) (by decide +kernel)) rfl
theorem m32 : Cond.methodLink RX4 3 objectInit ∈ GW := GW_of (List.mem_of_getElem? (i := 60) (by decide +kernel)) rfl
theorem m33 : Cond.classLink RX4 9 RX3 ∈ GW := GW_of (List.mem_of_getElem? (i := 61) (by decide +kernel)) rfl
theorem m34 : Cond.instantiable RX3 7 ∈ GW := GW_of (List.mem_of_getElem? (i := 62) (by decide +kernel)) rfl
theorem m35 : Cond.initialized RX3 ∈ GW := GW_of (List.mem_of_getElem? (i := 40) (by decide +kernel)) rfl
theorem m36 : Cond.fieldLink RX4 12 "SiteCuts$State" "places" "LSiteCuts$Places;" ∈ GW := GW_of (List.mem_of_getElem? (i := 129) (by decide +kernel)) rfl
theorem m37 : Cond.classLink RX4 18 RX1 ∈ GW := GW_of (List.mem_of_getElem? (i := 104) (by decide +kernel)) rfl
theorem m38 : Cond.instantiable RX1 4 ∈ GW := GW_of (List.mem_of_getElem? (i := 105) (by decide +kernel)) rfl
theorem m39 : Cond.initialized RX1 ∈ GW := GW_of (List.mem_of_getElem? (i := 41) (by decide +kernel)) rfl
theorem m40 : Cond.fieldLink RX4 21 "SiteCuts$State" "cuts" "LSiteCuts$Cuts;" ∈ GW := GW_of (List.mem_of_getElem? (i := 131) (by decide +kernel)) rfl
theorem m41 : Cond.fieldLink RX4 25 "SiteCuts$State" "best" "I" ∈ GW := GW_of (List.mem_of_getElem? (i := 133) (by decide +kernel)) rfl
theorem m42 : Cond.fieldLink RX4 29 "SiteCuts$State" "steps" "I" ∈ GW := GW_of (List.mem_of_getElem? (i := 135) (by decide +kernel)) rfl
theorem m43 : Cond.methodLink RX4 11 yX3_init ∈ GW := GW_of (List.mem_of_getElem? (i := 63) (by decide +kernel)) rfl
theorem m44 : Cond.instanceMethod yX3_init ∈ GW := GW_of (List.mem_of_getElem? (i := 64) (by decide +kernel)) rfl
theorem m45 : Cond.code yX3_init cX3_init 1 none ∈ GW := GW_of (List.mem_of_getElem? (i := 65) (by decide +kernel)) rfl
theorem m46 : Cond.methodLink RX3 3 objectInit ∈ GW := GW_of (List.mem_of_getElem? (i := 66) (by decide +kernel)) rfl
theorem m47 : Cond.fieldLink RX3 9 "SiteCuts$Places" "siteCount" "I" ∈ GW := GW_of (List.mem_of_getElem? (i := 69) (by decide +kernel)) rfl
theorem m48 : Cond.fieldLink RX3 15 "SiteCuts$Places" "customerCount" "I" ∈ GW := GW_of (List.mem_of_getElem? (i := 72) (by decide +kernel)) rfl
theorem m49 : Cond.fieldLink RX3 18 "SiteCuts$Places" "most" "I" ∈ GW := GW_of (List.mem_of_getElem? (i := 76) (by decide +kernel)) rfl
theorem m50 : Cond.fieldLink RX3 21 "SiteCuts$Places" "sitePrices" "[I" ∈ GW := GW_of (List.mem_of_getElem? (i := 78) (by decide +kernel)) rfl
theorem m51 : Cond.fieldLink RX3 25 "SiteCuts$Places" "demands" "[I" ∈ GW := GW_of (List.mem_of_getElem? (i := 80) (by decide +kernel)) rfl
theorem m52 : Cond.classLink RX3 28 "[[I" ∈ GW := GW_of (List.mem_of_getElem? (i := 67) (by decide +kernel)) rfl
theorem m53 : Cond.fieldLink RX3 30 "SiteCuts$Places" "routePrices" "[[I" ∈ GW := GW_of (List.mem_of_getElem? (i := 83) (by decide +kernel)) rfl
theorem m54 : Cond.fieldLink RX3 33 "SiteCuts$Places" "excluded" "[I" ∈ GW := GW_of (List.mem_of_getElem? (i := 86) (by decide +kernel)) rfl
theorem m55 : Cond.methodLink RX4 20 yX1_init ∈ GW := GW_of (List.mem_of_getElem? (i := 106) (by decide +kernel)) rfl
theorem m56 : Cond.instanceMethod yX1_init ∈ GW := GW_of (List.mem_of_getElem? (i := 107) (by decide +kernel)) rfl
theorem m57 : Cond.code yX1_init cX1_init 1 none ∈ GW := GW_of (List.mem_of_getElem? (i := 108) (by decide +kernel)) rfl
theorem m58 : Cond.methodLink RX1 3 objectInit ∈ GW := GW_of (List.mem_of_getElem? (i := 109) (by decide +kernel)) rfl
theorem m59 : Cond.fieldLink RX1 9 "SiteCuts$Cuts" "amount" "I" ∈ GW := GW_of (List.mem_of_getElem? (i := 111) (by decide +kernel)) rfl
theorem m60 : Cond.fieldLink RX1 15 "SiteCuts$Cuts" "customers" "[I" ∈ GW := GW_of (List.mem_of_getElem? (i := 114) (by decide +kernel)) rfl
theorem m61 : Cond.fieldLink RX1 19 "SiteCuts$Cuts" "starts" "[I" ∈ GW := GW_of (List.mem_of_getElem? (i := 116) (by decide +kernel)) rfl
theorem m62 : Cond.classLink RX1 22 "[[I" ∈ GW := GW_of (List.mem_of_getElem? (i := 110) (by decide +kernel)) rfl
theorem m63 : Cond.fieldLink RX1 24 "SiteCuts$Cuts" "weights" "[[I" ∈ GW := GW_of (List.mem_of_getElem? (i := 118) (by decide +kernel)) rfl
theorem m64 : Cond.methodLink RX5 28 yX2_init ∈ GW := GW_of (List.mem_of_getElem? (i := 148) (by decide +kernel)) rfl
theorem m65 : Cond.instanceMethod yX2_init ∈ GW := GW_of (List.mem_of_getElem? (i := 149) (by decide +kernel)) rfl
theorem m66 : Cond.code yX2_init cX2_init 2 none ∈ GW := GW_of (List.mem_of_getElem? (i := 150) (by decide +kernel)) rfl
theorem m67 : Cond.methodLink RX2 3 objectInit ∈ GW := GW_of (List.mem_of_getElem? (i := 151) (by decide +kernel)) rfl
theorem m68 : Cond.classLink RX2 9 RX4 ∈ GW := GW_of (List.mem_of_getElem? (i := 152) (by decide +kernel)) rfl
theorem m69 : Cond.fieldLink RX2 11 "SiteCuts$History" "states" "[LSiteCuts$State;" ∈ GW := GW_of (List.mem_of_getElem? (i := 155) (by decide +kernel)) rfl
theorem m70 : Cond.fieldLink RX2 18 "SiteCuts$History" "amount" "I" ∈ GW := GW_of (List.mem_of_getElem? (i := 156) (by decide +kernel)) rfl
theorem m71 : Cond.methodLink RX2 17 yX4_init ∈ GW := GW_of (List.mem_of_getElem? (i := 154) (by decide +kernel)) rfl
theorem m72 : Cond.methodLink RX5 35 yX0_init ∈ GW := GW_of (List.mem_of_getElem? (i := 165) (by decide +kernel)) rfl
theorem m73 : Cond.instanceMethod yX0_init ∈ GW := GW_of (List.mem_of_getElem? (i := 166) (by decide +kernel)) rfl
theorem m74 : Cond.code yX0_init cX0_init 1 none ∈ GW := GW_of (List.mem_of_getElem? (i := 167) (by decide +kernel)) rfl
theorem m75 : Cond.methodLink RX0 3 objectInit ∈ GW := GW_of (List.mem_of_getElem? (i := 168) (by decide +kernel)) rfl
theorem m76 : Cond.arrayClass .char ∈ GW := GW_of (List.mem_of_getElem? (i := 177) (by decide +kernel)) rfl
theorem m77 : Cond.fieldLink RX0 9 "SiteCuts$CutText" "characters" "[C" ∈ GW := GW_of (List.mem_of_getElem? (i := 169) (by decide +kernel)) rfl
theorem m78 : Cond.fieldLink RX0 15 "SiteCuts$CutText" "length" "I" ∈ GW := GW_of (List.mem_of_getElem? (i := 170) (by decide +kernel)) rfl
theorem m79 : Cond.methodLink RL 12 yX6_init ∈ GW := GW_of (List.mem_of_getElem? (i := 627) (by decide +kernel)) rfl
theorem m80 : Cond.instanceMethod yX6_init ∈ GW := GW_of (List.mem_of_getElem? (i := 628) (by decide +kernel)) rfl
theorem m81 : Cond.code yX6_init cX6_init 2 none ∈ GW := GW_of (List.mem_of_getElem? (i := 629) (by decide +kernel)) rfl
theorem m82 : Cond.methodLink RX6 1 objectInit ∈ GW := GW_of (List.mem_of_getElem? (i := 630) (by decide +kernel)) rfl
theorem m83 : Cond.fieldLink RX6 7 "SiteCutsModel" "row" "[I" ∈ GW := GW_of (List.mem_of_getElem? (i := 631) (by decide +kernel)) rfl
theorem m84 : Cond.fieldLink RX6 13 "SiteCutsModel" "past" "[I" ∈ GW := GW_of (List.mem_of_getElem? (i := 632) (by decide +kernel)) rfl
theorem m85 : Cond.fieldLink RX6 16 "SiteCutsModel" "aside" "[I" ∈ GW := GW_of (List.mem_of_getElem? (i := 633) (by decide +kernel)) rfl
theorem m86 : Cond.fieldLink RX6 19 "SiteCutsModel" "before" "[I" ∈ GW := GW_of (List.mem_of_getElem? (i := 634) (by decide +kernel)) rfl
theorem m87 : Cond.fieldLink RX6 22 "SiteCutsModel" "text" "[C" ∈ GW := GW_of (List.mem_of_getElem? (i := 637) (by decide +kernel)) rfl
theorem m88 : Cond.fieldLink RX6 26 "SiteCutsModel" "read" "[I" ∈ GW := GW_of (List.mem_of_getElem? (i := 640) (by decide +kernel)) rfl
theorem m89 : Cond.methodLink RL 13 yX5_addSite ∈ GW := GW_of (List.mem_of_getElem? (i := 200) (by decide +kernel)) rfl
theorem m90 : Cond.instanceMethod yX5_addSite ∈ GW := GW_of (List.mem_of_getElem? (i := 201) (by decide +kernel)) rfl
theorem m91 : Cond.selects RX5 yX5_addSite yX5_addSite ∈ GW := GW_of (List.mem_of_getElem? (i := 202) (by decide +kernel)) rfl
theorem m92 : Cond.code yX5_addSite cX5_addSite 2 (some .int) ∈ GW := GW_of (List.mem_of_getElem? (i := 203) (by decide +kernel)) rfl
theorem m93 : Cond.fieldLink RX5 48 "SiteCuts$State" "places" "LSiteCuts$Places;" ∈ GW := GW_of (List.mem_of_getElem? (i := 130) (by decide +kernel)) rfl
theorem m94 : Cond.fieldLink RX5 52 "SiteCuts$Places" "siteCount" "I" ∈ GW := GW_of (List.mem_of_getElem? (i := 70) (by decide +kernel)) rfl
theorem m95 : Cond.methodLink RX5 44 yX5_isSitePrice ∈ GW := GW_of (List.mem_of_getElem? (i := 204) (by decide +kernel)) rfl
theorem m96 : Cond.static yX5_isSitePrice ∈ GW := GW_of (List.mem_of_getElem? (i := 205) (by decide +kernel)) rfl
theorem m97 : Cond.code yX5_isSitePrice cX5_isSitePrice 1 (some .boolean) ∈ GW := GW_of (List.mem_of_getElem? (i := 206) (by decide +kernel)) rfl
theorem m98 : Cond.methodLink RX5 58 yX2_record ∈ GW := GW_of (List.mem_of_getElem? (i := 207) (by decide +kernel)) rfl
theorem m99 : Cond.instanceMethod yX2_record ∈ GW := GW_of (List.mem_of_getElem? (i := 208) (by decide +kernel)) rfl
theorem m100 : Cond.selects RX2 yX2_record yX2_record ∈ GW := GW_of (List.mem_of_getElem? (i := 209) (by decide +kernel)) rfl
theorem m101 : Cond.code yX2_record cX2_record 2 none ∈ GW := GW_of (List.mem_of_getElem? (i := 210) (by decide +kernel)) rfl
theorem m102 : Cond.methodLink RX2 22 yX2_moveOldestToEnd ∈ GW := GW_of (List.mem_of_getElem? (i := 211) (by decide +kernel)) rfl
theorem m103 : Cond.instanceMethod yX2_moveOldestToEnd ∈ GW := GW_of (List.mem_of_getElem? (i := 212) (by decide +kernel)) rfl
theorem m104 : Cond.selects RX2 yX2_moveOldestToEnd yX2_moveOldestToEnd ∈ GW := GW_of (List.mem_of_getElem? (i := 213) (by decide +kernel)) rfl
theorem m105 : Cond.code yX2_moveOldestToEnd cX2_moveOldestToEnd 3 none ∈ GW := GW_of (List.mem_of_getElem? (i := 214) (by decide +kernel)) rfl
theorem m106 : Cond.methodLink RX2 25 yX4_copyFrom ∈ GW := GW_of (List.mem_of_getElem? (i := 215) (by decide +kernel)) rfl
theorem m107 : Cond.instanceMethod yX4_copyFrom ∈ GW := GW_of (List.mem_of_getElem? (i := 216) (by decide +kernel)) rfl
theorem m108 : Cond.selects RX4 yX4_copyFrom yX4_copyFrom ∈ GW := GW_of (List.mem_of_getElem? (i := 217) (by decide +kernel)) rfl
theorem m109 : Cond.code yX4_copyFrom cX4_copyFrom 2 none ∈ GW := GW_of (List.mem_of_getElem? (i := 218) (by decide +kernel)) rfl
theorem m110 : Cond.methodLink RX4 32 yX3_copyFrom ∈ GW := GW_of (List.mem_of_getElem? (i := 219) (by decide +kernel)) rfl
theorem m111 : Cond.instanceMethod yX3_copyFrom ∈ GW := GW_of (List.mem_of_getElem? (i := 220) (by decide +kernel)) rfl
theorem m112 : Cond.selects RX3 yX3_copyFrom yX3_copyFrom ∈ GW := GW_of (List.mem_of_getElem? (i := 221) (by decide +kernel)) rfl
theorem m113 : Cond.code yX3_copyFrom cX3_copyFrom 4 none ∈ GW := GW_of (List.mem_of_getElem? (i := 222) (by decide +kernel)) rfl
theorem m114 : Cond.methodLink RX4 36 yX1_copyFrom ∈ GW := GW_of (List.mem_of_getElem? (i := 223) (by decide +kernel)) rfl
theorem m115 : Cond.instanceMethod yX1_copyFrom ∈ GW := GW_of (List.mem_of_getElem? (i := 224) (by decide +kernel)) rfl
theorem m116 : Cond.selects RX1 yX1_copyFrom yX1_copyFrom ∈ GW := GW_of (List.mem_of_getElem? (i := 225) (by decide +kernel)) rfl
theorem m117 : Cond.code yX1_copyFrom cX1_copyFrom 3 none ∈ GW := GW_of (List.mem_of_getElem? (i := 226) (by decide +kernel)) rfl
theorem m118 : Cond.methodLink RX1 27 yX1_copyCut ∈ GW := GW_of (List.mem_of_getElem? (i := 227) (by decide +kernel)) rfl
theorem m119 : Cond.instanceMethod yX1_copyCut ∈ GW := GW_of (List.mem_of_getElem? (i := 228) (by decide +kernel)) rfl
theorem m120 : Cond.selects RX1 yX1_copyCut yX1_copyCut ∈ GW := GW_of (List.mem_of_getElem? (i := 229) (by decide +kernel)) rfl
theorem m121 : Cond.code yX1_copyCut cX1_copyCut 5 none ∈ GW := GW_of (List.mem_of_getElem? (i := 230) (by decide +kernel)) rfl
theorem m122 : Cond.methodLink RX5 62 yX4_forgetCuts ∈ GW := GW_of (List.mem_of_getElem? (i := 231) (by decide +kernel)) rfl
theorem m123 : Cond.instanceMethod yX4_forgetCuts ∈ GW := GW_of (List.mem_of_getElem? (i := 232) (by decide +kernel)) rfl
theorem m124 : Cond.selects RX4 yX4_forgetCuts yX4_forgetCuts ∈ GW := GW_of (List.mem_of_getElem? (i := 233) (by decide +kernel)) rfl
theorem m125 : Cond.code yX4_forgetCuts cX4_forgetCuts 1 none ∈ GW := GW_of (List.mem_of_getElem? (i := 234) (by decide +kernel)) rfl
theorem m126 : Cond.fieldLink RX4 39 "SiteCuts$Cuts" "amount" "I" ∈ GW := GW_of (List.mem_of_getElem? (i := 112) (by decide +kernel)) rfl
theorem m127 : Cond.methodLink RX4 42 yX4_forgetBest ∈ GW := GW_of (List.mem_of_getElem? (i := 235) (by decide +kernel)) rfl
theorem m128 : Cond.instanceMethod yX4_forgetBest ∈ GW := GW_of (List.mem_of_getElem? (i := 236) (by decide +kernel)) rfl
theorem m129 : Cond.selects RX4 yX4_forgetBest yX4_forgetBest ∈ GW := GW_of (List.mem_of_getElem? (i := 237) (by decide +kernel)) rfl
theorem m130 : Cond.code yX4_forgetBest cX4_forgetBest 1 none ∈ GW := GW_of (List.mem_of_getElem? (i := 238) (by decide +kernel)) rfl
theorem m131 : Cond.methodLink RX5 65 yX3_appendSite ∈ GW := GW_of (List.mem_of_getElem? (i := 239) (by decide +kernel)) rfl
theorem m132 : Cond.instanceMethod yX3_appendSite ∈ GW := GW_of (List.mem_of_getElem? (i := 240) (by decide +kernel)) rfl
theorem m133 : Cond.selects RX3 yX3_appendSite yX3_appendSite ∈ GW := GW_of (List.mem_of_getElem? (i := 241) (by decide +kernel)) rfl
theorem m134 : Cond.code yX3_appendSite cX3_appendSite 4 (some .int) ∈ GW := GW_of (List.mem_of_getElem? (i := 242) (by decide +kernel)) rfl
theorem m135 : Cond.methodLink RL 17 yX6_addSite ∈ GW := GW_of (List.mem_of_getElem? (i := 686) (by decide +kernel)) rfl
theorem m136 : Cond.instanceMethod yX6_addSite ∈ GW := GW_of (List.mem_of_getElem? (i := 687) (by decide +kernel)) rfl
theorem m137 : Cond.selects RX6 yX6_addSite yX6_addSite ∈ GW := GW_of (List.mem_of_getElem? (i := 688) (by decide +kernel)) rfl
theorem m138 : Cond.code yX6_addSite cX6_addSite 3 (some .int) ∈ GW := GW_of (List.mem_of_getElem? (i := 689) (by decide +kernel)) rfl
theorem m139 : Cond.methodLink RX6 46 yX6_in ∈ GW := GW_of (List.mem_of_getElem? (i := 690) (by decide +kernel)) rfl
theorem m140 : Cond.static yX6_in ∈ GW := GW_of (List.mem_of_getElem? (i := 691) (by decide +kernel)) rfl
theorem m141 : Cond.code yX6_in cX6_in 3 (some .boolean) ∈ GW := GW_of (List.mem_of_getElem? (i := 692) (by decide +kernel)) rfl
theorem m142 : Cond.methodLink RX6 43 yX6_begin ∈ GW := GW_of (List.mem_of_getElem? (i := 674) (by decide +kernel)) rfl
theorem m143 : Cond.instanceMethod yX6_begin ∈ GW := GW_of (List.mem_of_getElem? (i := 676) (by decide +kernel)) rfl
theorem m144 : Cond.selects RX6 yX6_begin yX6_begin ∈ GW := GW_of (List.mem_of_getElem? (i := 3) (by decide +kernel)) rfl
theorem m145 : Cond.code yX6_begin cX6_begin 1 none ∈ GW := GW_of (List.mem_of_getElem? (i := 677) (by decide +kernel)) rfl
theorem m146 : Cond.methodLink RX6 33 yX6_remember ∈ GW := GW_of (List.mem_of_getElem? (i := 678) (by decide +kernel)) rfl
theorem m147 : Cond.instanceMethod yX6_remember ∈ GW := GW_of (List.mem_of_getElem? (i := 680) (by decide +kernel)) rfl
theorem m148 : Cond.selects RX6 yX6_remember yX6_remember ∈ GW := GW_of (List.mem_of_getElem? (i := 4) (by decide +kernel)) rfl
theorem m149 : Cond.code yX6_remember cX6_remember 2 none ∈ GW := GW_of (List.mem_of_getElem? (i := 681) (by decide +kernel)) rfl
theorem m150 : Cond.methodLink RX6 36 yX6_record ∈ GW := GW_of (List.mem_of_getElem? (i := 682) (by decide +kernel)) rfl
theorem m151 : Cond.instanceMethod yX6_record ∈ GW := GW_of (List.mem_of_getElem? (i := 684) (by decide +kernel)) rfl
theorem m152 : Cond.selects RX6 yX6_record yX6_record ∈ GW := GW_of (List.mem_of_getElem? (i := 5) (by decide +kernel)) rfl
theorem m153 : Cond.code yX6_record cX6_record 2 none ∈ GW := GW_of (List.mem_of_getElem? (i := 685) (by decide +kernel)) rfl
theorem m154 : Cond.fieldLink RX6 29 "SiteCutsModel" "states" "I" ∈ GW := GW_of (List.mem_of_getElem? (i := 635) (by decide +kernel)) rfl
theorem m155 : Cond.methodLink RX6 50 yX6_dropAll ∈ GW := GW_of (List.mem_of_getElem? (i := 693) (by decide +kernel)) rfl
theorem m156 : Cond.instanceMethod yX6_dropAll ∈ GW := GW_of (List.mem_of_getElem? (i := 695) (by decide +kernel)) rfl
theorem m157 : Cond.selects RX6 yX6_dropAll yX6_dropAll ∈ GW := GW_of (List.mem_of_getElem? (i := 6) (by decide +kernel)) rfl
theorem m158 : Cond.code yX6_dropAll cX6_dropAll 2 none ∈ GW := GW_of (List.mem_of_getElem? (i := 696) (by decide +kernel)) rfl
theorem m159 : Cond.methodLink RL 18 yX5_addCustomer ∈ GW := GW_of (List.mem_of_getElem? (i := 243) (by decide +kernel)) rfl
theorem m160 : Cond.instanceMethod yX5_addCustomer ∈ GW := GW_of (List.mem_of_getElem? (i := 244) (by decide +kernel)) rfl
theorem m161 : Cond.selects RX5 yX5_addCustomer yX5_addCustomer ∈ GW := GW_of (List.mem_of_getElem? (i := 245) (by decide +kernel)) rfl
theorem m162 : Cond.code yX5_addCustomer cX5_addCustomer 2 (some .int) ∈ GW := GW_of (List.mem_of_getElem? (i := 246) (by decide +kernel)) rfl
theorem m163 : Cond.fieldLink RX5 72 "SiteCuts$Places" "customerCount" "I" ∈ GW := GW_of (List.mem_of_getElem? (i := 73) (by decide +kernel)) rfl
theorem m164 : Cond.methodLink RX5 69 yX5_isDemand ∈ GW := GW_of (List.mem_of_getElem? (i := 247) (by decide +kernel)) rfl
theorem m165 : Cond.static yX5_isDemand ∈ GW := GW_of (List.mem_of_getElem? (i := 248) (by decide +kernel)) rfl
theorem m166 : Cond.code yX5_isDemand cX5_isDemand 1 (some .boolean) ∈ GW := GW_of (List.mem_of_getElem? (i := 249) (by decide +kernel)) rfl
theorem m167 : Cond.methodLink RX5 75 yX3_appendCustomer ∈ GW := GW_of (List.mem_of_getElem? (i := 250) (by decide +kernel)) rfl
theorem m168 : Cond.instanceMethod yX3_appendCustomer ∈ GW := GW_of (List.mem_of_getElem? (i := 251) (by decide +kernel)) rfl
theorem m169 : Cond.selects RX3 yX3_appendCustomer yX3_appendCustomer ∈ GW := GW_of (List.mem_of_getElem? (i := 252) (by decide +kernel)) rfl
theorem m170 : Cond.code yX3_appendCustomer cX3_appendCustomer 4 (some .int) ∈ GW := GW_of (List.mem_of_getElem? (i := 253) (by decide +kernel)) rfl
theorem m171 : Cond.methodLink RL 21 yX6_addCustomer ∈ GW := GW_of (List.mem_of_getElem? (i := 697) (by decide +kernel)) rfl
theorem m172 : Cond.instanceMethod yX6_addCustomer ∈ GW := GW_of (List.mem_of_getElem? (i := 698) (by decide +kernel)) rfl
theorem m173 : Cond.selects RX6 yX6_addCustomer yX6_addCustomer ∈ GW := GW_of (List.mem_of_getElem? (i := 699) (by decide +kernel)) rfl
theorem m174 : Cond.code yX6_addCustomer cX6_addCustomer 3 (some .int) ∈ GW := GW_of (List.mem_of_getElem? (i := 700) (by decide +kernel)) rfl
theorem m175 : Cond.methodLink RL 22 yX5_setPrice ∈ GW := GW_of (List.mem_of_getElem? (i := 254) (by decide +kernel)) rfl
theorem m176 : Cond.instanceMethod yX5_setPrice ∈ GW := GW_of (List.mem_of_getElem? (i := 255) (by decide +kernel)) rfl
theorem m177 : Cond.selects RX5 yX5_setPrice yX5_setPrice ∈ GW := GW_of (List.mem_of_getElem? (i := 256) (by decide +kernel)) rfl
theorem m178 : Cond.code yX5_setPrice cX5_setPrice 4 (some .int) ∈ GW := GW_of (List.mem_of_getElem? (i := 257) (by decide +kernel)) rfl
theorem m179 : Cond.fieldLink RX5 81 "SiteCuts$Places" "sitePrices" "[I" ∈ GW := GW_of (List.mem_of_getElem? (i := 79) (by decide +kernel)) rfl
theorem m180 : Cond.methodLink RX5 78 yX3_isSite ∈ GW := GW_of (List.mem_of_getElem? (i := 258) (by decide +kernel)) rfl
theorem m181 : Cond.instanceMethod yX3_isSite ∈ GW := GW_of (List.mem_of_getElem? (i := 259) (by decide +kernel)) rfl
theorem m182 : Cond.selects RX3 yX3_isSite yX3_isSite ∈ GW := GW_of (List.mem_of_getElem? (i := 260) (by decide +kernel)) rfl
theorem m183 : Cond.code yX3_isSite cX3_isSite 2 (some .boolean) ∈ GW := GW_of (List.mem_of_getElem? (i := 261) (by decide +kernel)) rfl
theorem m184 : Cond.methodLink RL 26 yX6_setPrice ∈ GW := GW_of (List.mem_of_getElem? (i := 701) (by decide +kernel)) rfl
theorem m185 : Cond.instanceMethod yX6_setPrice ∈ GW := GW_of (List.mem_of_getElem? (i := 702) (by decide +kernel)) rfl
theorem m186 : Cond.selects RX6 yX6_setPrice yX6_setPrice ∈ GW := GW_of (List.mem_of_getElem? (i := 703) (by decide +kernel)) rfl
theorem m187 : Cond.code yX6_setPrice cX6_setPrice 3 (some .int) ∈ GW := GW_of (List.mem_of_getElem? (i := 704) (by decide +kernel)) rfl
theorem m188 : Cond.methodLink RX6 53 yX6_noSite ∈ GW := GW_of (List.mem_of_getElem? (i := 705) (by decide +kernel)) rfl
theorem m189 : Cond.instanceMethod yX6_noSite ∈ GW := GW_of (List.mem_of_getElem? (i := 707) (by decide +kernel)) rfl
theorem m190 : Cond.selects RX6 yX6_noSite yX6_noSite ∈ GW := GW_of (List.mem_of_getElem? (i := 7) (by decide +kernel)) rfl
theorem m191 : Cond.code yX6_noSite cX6_noSite 2 (some .boolean) ∈ GW := GW_of (List.mem_of_getElem? (i := 708) (by decide +kernel)) rfl
theorem m192 : Cond.methodLink RX6 57 yX6_change ∈ GW := GW_of (List.mem_of_getElem? (i := 709) (by decide +kernel)) rfl
theorem m193 : Cond.instanceMethod yX6_change ∈ GW := GW_of (List.mem_of_getElem? (i := 711) (by decide +kernel)) rfl
theorem m194 : Cond.selects RX6 yX6_change yX6_change ∈ GW := GW_of (List.mem_of_getElem? (i := 8) (by decide +kernel)) rfl
theorem m195 : Cond.code yX6_change cX6_change 4 (some .int) ∈ GW := GW_of (List.mem_of_getElem? (i := 712) (by decide +kernel)) rfl
theorem m196 : Cond.methodLink RL 27 yX5_setDemand ∈ GW := GW_of (List.mem_of_getElem? (i := 262) (by decide +kernel)) rfl
theorem m197 : Cond.instanceMethod yX5_setDemand ∈ GW := GW_of (List.mem_of_getElem? (i := 263) (by decide +kernel)) rfl
theorem m198 : Cond.selects RX5 yX5_setDemand yX5_setDemand ∈ GW := GW_of (List.mem_of_getElem? (i := 264) (by decide +kernel)) rfl
theorem m199 : Cond.code yX5_setDemand cX5_setDemand 4 (some .int) ∈ GW := GW_of (List.mem_of_getElem? (i := 265) (by decide +kernel)) rfl
theorem m200 : Cond.fieldLink RX5 87 "SiteCuts$Places" "demands" "[I" ∈ GW := GW_of (List.mem_of_getElem? (i := 81) (by decide +kernel)) rfl
theorem m201 : Cond.methodLink RX5 84 yX3_isCustomer ∈ GW := GW_of (List.mem_of_getElem? (i := 266) (by decide +kernel)) rfl
theorem m202 : Cond.instanceMethod yX3_isCustomer ∈ GW := GW_of (List.mem_of_getElem? (i := 267) (by decide +kernel)) rfl
theorem m203 : Cond.selects RX3 yX3_isCustomer yX3_isCustomer ∈ GW := GW_of (List.mem_of_getElem? (i := 268) (by decide +kernel)) rfl
theorem m204 : Cond.code yX3_isCustomer cX3_isCustomer 2 (some .boolean) ∈ GW := GW_of (List.mem_of_getElem? (i := 269) (by decide +kernel)) rfl
theorem m205 : Cond.methodLink RL 30 yX6_setDemand ∈ GW := GW_of (List.mem_of_getElem? (i := 713) (by decide +kernel)) rfl
theorem m206 : Cond.instanceMethod yX6_setDemand ∈ GW := GW_of (List.mem_of_getElem? (i := 714) (by decide +kernel)) rfl
theorem m207 : Cond.selects RX6 yX6_setDemand yX6_setDemand ∈ GW := GW_of (List.mem_of_getElem? (i := 715) (by decide +kernel)) rfl
theorem m208 : Cond.code yX6_setDemand cX6_setDemand 3 (some .int) ∈ GW := GW_of (List.mem_of_getElem? (i := 716) (by decide +kernel)) rfl
theorem m209 : Cond.methodLink RX6 61 yX6_noCustomer ∈ GW := GW_of (List.mem_of_getElem? (i := 717) (by decide +kernel)) rfl
theorem m210 : Cond.instanceMethod yX6_noCustomer ∈ GW := GW_of (List.mem_of_getElem? (i := 719) (by decide +kernel)) rfl
theorem m211 : Cond.selects RX6 yX6_noCustomer yX6_noCustomer ∈ GW := GW_of (List.mem_of_getElem? (i := 9) (by decide +kernel)) rfl
theorem m212 : Cond.code yX6_noCustomer cX6_noCustomer 2 (some .boolean) ∈ GW := GW_of (List.mem_of_getElem? (i := 720) (by decide +kernel)) rfl
theorem m213 : Cond.methodLink RL 31 yX5_setRoute ∈ GW := GW_of (List.mem_of_getElem? (i := 270) (by decide +kernel)) rfl
theorem m214 : Cond.instanceMethod yX5_setRoute ∈ GW := GW_of (List.mem_of_getElem? (i := 271) (by decide +kernel)) rfl
theorem m215 : Cond.selects RX5 yX5_setRoute yX5_setRoute ∈ GW := GW_of (List.mem_of_getElem? (i := 272) (by decide +kernel)) rfl
theorem m216 : Cond.code yX5_setRoute cX5_setRoute 5 (some .int) ∈ GW := GW_of (List.mem_of_getElem? (i := 273) (by decide +kernel)) rfl
theorem m217 : Cond.fieldLink RX5 90 "SiteCuts$Places" "routePrices" "[[I" ∈ GW := GW_of (List.mem_of_getElem? (i := 84) (by decide +kernel)) rfl
theorem m218 : Cond.methodLink RL 35 yX6_setRoute ∈ GW := GW_of (List.mem_of_getElem? (i := 721) (by decide +kernel)) rfl
theorem m219 : Cond.instanceMethod yX6_setRoute ∈ GW := GW_of (List.mem_of_getElem? (i := 722) (by decide +kernel)) rfl
theorem m220 : Cond.selects RX6 yX6_setRoute yX6_setRoute ∈ GW := GW_of (List.mem_of_getElem? (i := 723) (by decide +kernel)) rfl
theorem m221 : Cond.code yX6_setRoute cX6_setRoute 4 (some .int) ∈ GW := GW_of (List.mem_of_getElem? (i := 724) (by decide +kernel)) rfl
theorem m222 : Cond.methodLink RX6 64 yX6_route ∈ GW := GW_of (List.mem_of_getElem? (i := 725) (by decide +kernel)) rfl
theorem m223 : Cond.static yX6_route ∈ GW := GW_of (List.mem_of_getElem? (i := 726) (by decide +kernel)) rfl
theorem m224 : Cond.code yX6_route cX6_route 2 (some .int) ∈ GW := GW_of (List.mem_of_getElem? (i := 727) (by decide +kernel)) rfl
theorem m225 : Cond.methodLink RL 36 yX5_setMost ∈ GW := GW_of (List.mem_of_getElem? (i := 274) (by decide +kernel)) rfl
theorem m226 : Cond.instanceMethod yX5_setMost ∈ GW := GW_of (List.mem_of_getElem? (i := 275) (by decide +kernel)) rfl
theorem m227 : Cond.selects RX5 yX5_setMost yX5_setMost ∈ GW := GW_of (List.mem_of_getElem? (i := 276) (by decide +kernel)) rfl
theorem m228 : Cond.code yX5_setMost cX5_setMost 3 (some .int) ∈ GW := GW_of (List.mem_of_getElem? (i := 277) (by decide +kernel)) rfl
theorem m229 : Cond.fieldLink RX5 94 "SiteCuts$Places" "most" "I" ∈ GW := GW_of (List.mem_of_getElem? (i := 77) (by decide +kernel)) rfl
theorem m230 : Cond.methodLink RX5 97 yX4_forgetBest ∈ GW := GW_of (List.mem_of_getElem? (i := 278) (by decide +kernel)) rfl
theorem m231 : Cond.methodLink RL 39 yX6_setMost ∈ GW := GW_of (List.mem_of_getElem? (i := 728) (by decide +kernel)) rfl
theorem m232 : Cond.instanceMethod yX6_setMost ∈ GW := GW_of (List.mem_of_getElem? (i := 729) (by decide +kernel)) rfl
theorem m233 : Cond.selects RX6 yX6_setMost yX6_setMost ∈ GW := GW_of (List.mem_of_getElem? (i := 730) (by decide +kernel)) rfl
theorem m234 : Cond.code yX6_setMost cX6_setMost 3 (some .int) ∈ GW := GW_of (List.mem_of_getElem? (i := 731) (by decide +kernel)) rfl
theorem m235 : Cond.methodLink RL 40 yX5_exclude ∈ GW := GW_of (List.mem_of_getElem? (i := 279) (by decide +kernel)) rfl
theorem m236 : Cond.instanceMethod yX5_exclude ∈ GW := GW_of (List.mem_of_getElem? (i := 280) (by decide +kernel)) rfl
theorem m237 : Cond.selects RX5 yX5_exclude yX5_exclude ∈ GW := GW_of (List.mem_of_getElem? (i := 281) (by decide +kernel)) rfl
theorem m238 : Cond.code yX5_exclude cX5_exclude 4 (some .int) ∈ GW := GW_of (List.mem_of_getElem? (i := 282) (by decide +kernel)) rfl
theorem m239 : Cond.fieldLink RX5 108 "SiteCuts$Places" "excluded" "[I" ∈ GW := GW_of (List.mem_of_getElem? (i := 87) (by decide +kernel)) rfl
theorem m240 : Cond.methodLink RX5 100 yX3_areExcluding ∈ GW := GW_of (List.mem_of_getElem? (i := 283) (by decide +kernel)) rfl
theorem m241 : Cond.instanceMethod yX3_areExcluding ∈ GW := GW_of (List.mem_of_getElem? (i := 284) (by decide +kernel)) rfl
theorem m242 : Cond.selects RX3 yX3_areExcluding yX3_areExcluding ∈ GW := GW_of (List.mem_of_getElem? (i := 285) (by decide +kernel)) rfl
theorem m243 : Cond.code yX3_areExcluding cX3_areExcluding 3 (some .boolean) ∈ GW := GW_of (List.mem_of_getElem? (i := 286) (by decide +kernel)) rfl
theorem m244 : Cond.static yX5_isIn ∈ GW := GW_of (List.mem_of_getElem? (i := 288) (by decide +kernel)) rfl
theorem m245 : Cond.code yX5_isIn cX5_isIn 2 (some .boolean) ∈ GW := GW_of (List.mem_of_getElem? (i := 289) (by decide +kernel)) rfl
theorem m246 : Cond.methodLink RX5 104 yX3_turnExclusion ∈ GW := GW_of (List.mem_of_getElem? (i := 290) (by decide +kernel)) rfl
theorem m247 : Cond.instanceMethod yX3_turnExclusion ∈ GW := GW_of (List.mem_of_getElem? (i := 291) (by decide +kernel)) rfl
theorem m248 : Cond.selects RX3 yX3_turnExclusion yX3_turnExclusion ∈ GW := GW_of (List.mem_of_getElem? (i := 292) (by decide +kernel)) rfl
theorem m249 : Cond.code yX3_turnExclusion cX3_turnExclusion 3 none ∈ GW := GW_of (List.mem_of_getElem? (i := 293) (by decide +kernel)) rfl
theorem m250 : Cond.methodLink RX5 111 yJ6_bitCount_0f7a4 ∈ GW := GW_of (List.mem_of_getElem? (i := 294) (by decide +kernel)) rfl
theorem m251 : Cond.static yJ6_bitCount_0f7a4 ∈ GW := GW_of (List.mem_of_getElem? (i := 295) (by decide +kernel)) rfl
theorem m252 : Cond.initialized RJ6 ∈ GW := GW_of (List.mem_of_getElem? (i := 45) (by decide +kernel)) rfl
theorem m253 : Cond.code yJ6_bitCount_0f7a4 cJ6_bitCount_0f7a4 1 (some .int) ∈ GW := GW_of (List.mem_of_getElem? (i := 296) (by decide +kernel)) rfl
theorem m254 : Cond.constant RJ6 265 (1431655765) ∈ GW := GW_of (List.mem_of_getElem? (i := 297) (by decide +kernel)) rfl
theorem m255 : Cond.constant RJ6 266 (858993459) ∈ GW := GW_of (List.mem_of_getElem? (i := 298) (by decide +kernel)) rfl
theorem m256 : Cond.constant RJ6 267 (252645135) ∈ GW := GW_of (List.mem_of_getElem? (i := 299) (by decide +kernel)) rfl
theorem m257 : Cond.methodLink RL 44 yX6_exclude ∈ GW := GW_of (List.mem_of_getElem? (i := 732) (by decide +kernel)) rfl
theorem m258 : Cond.instanceMethod yX6_exclude ∈ GW := GW_of (List.mem_of_getElem? (i := 733) (by decide +kernel)) rfl
theorem m259 : Cond.selects RX6 yX6_exclude yX6_exclude ∈ GW := GW_of (List.mem_of_getElem? (i := 734) (by decide +kernel)) rfl
theorem m260 : Cond.code yX6_exclude cX6_exclude 4 (some .int) ∈ GW := GW_of (List.mem_of_getElem? (i := 735) (by decide +kernel)) rfl
theorem m261 : Cond.methodLink RX6 67 yX6_isIn ∈ GW := GW_of (List.mem_of_getElem? (i := 736) (by decide +kernel)) rfl
theorem m262 : Cond.static yX6_isIn ∈ GW := GW_of (List.mem_of_getElem? (i := 737) (by decide +kernel)) rfl
theorem m263 : Cond.code yX6_isIn cX6_isIn 2 (some .boolean) ∈ GW := GW_of (List.mem_of_getElem? (i := 738) (by decide +kernel)) rfl
theorem m264 : Cond.methodLink RX6 71 yX6_many ∈ GW := GW_of (List.mem_of_getElem? (i := 739) (by decide +kernel)) rfl
theorem m265 : Cond.static yX6_many ∈ GW := GW_of (List.mem_of_getElem? (i := 740) (by decide +kernel)) rfl
theorem m266 : Cond.code yX6_many cX6_many 3 (some .int) ∈ GW := GW_of (List.mem_of_getElem? (i := 741) (by decide +kernel)) rfl
theorem m267 : Cond.methodLink RL 45 yX5_step ∈ GW := GW_of (List.mem_of_getElem? (i := 300) (by decide +kernel)) rfl
theorem m268 : Cond.instanceMethod yX5_step ∈ GW := GW_of (List.mem_of_getElem? (i := 301) (by decide +kernel)) rfl
theorem m269 : Cond.selects RX5 yX5_step yX5_step ∈ GW := GW_of (List.mem_of_getElem? (i := 302) (by decide +kernel)) rfl
theorem m270 : Cond.code yX5_step cX5_step 2 (some .int) ∈ GW := GW_of (List.mem_of_getElem? (i := 303) (by decide +kernel)) rfl
theorem m271 : Cond.methodLink RX5 116 yX4_copyFrom ∈ GW := GW_of (List.mem_of_getElem? (i := 304) (by decide +kernel)) rfl
theorem m272 : Cond.methodLink RX5 119 yX4_makeStep ∈ GW := GW_of (List.mem_of_getElem? (i := 305) (by decide +kernel)) rfl
theorem m273 : Cond.instanceMethod yX4_makeStep ∈ GW := GW_of (List.mem_of_getElem? (i := 306) (by decide +kernel)) rfl
theorem m274 : Cond.selects RX4 yX4_makeStep yX4_makeStep ∈ GW := GW_of (List.mem_of_getElem? (i := 307) (by decide +kernel)) rfl
theorem m275 : Cond.code yX4_makeStep cX4_makeStep 6 (some .int) ∈ GW := GW_of (List.mem_of_getElem? (i := 308) (by decide +kernel)) rfl
theorem m276 : Cond.fieldLink RX4 69 "SiteCuts$Places" "customerCount" "I" ∈ GW := GW_of (List.mem_of_getElem? (i := 74) (by decide +kernel)) rfl
theorem m277 : Cond.methodLink RX4 72 yX4_findMasterPlan ∈ GW := GW_of (List.mem_of_getElem? (i := 309) (by decide +kernel)) rfl
theorem m278 : Cond.instanceMethod yX4_findMasterPlan ∈ GW := GW_of (List.mem_of_getElem? (i := 310) (by decide +kernel)) rfl
theorem m279 : Cond.selects RX4 yX4_findMasterPlan yX4_findMasterPlan ∈ GW := GW_of (List.mem_of_getElem? (i := 311) (by decide +kernel)) rfl
theorem m280 : Cond.code yX4_findMasterPlan cX4_findMasterPlan 5 (some .int) ∈ GW := GW_of (List.mem_of_getElem? (i := 312) (by decide +kernel)) rfl
theorem m281 : Cond.methodLink RX4 59 yX3_planCount ∈ GW := GW_of (List.mem_of_getElem? (i := 313) (by decide +kernel)) rfl
theorem m282 : Cond.instanceMethod yX3_planCount ∈ GW := GW_of (List.mem_of_getElem? (i := 314) (by decide +kernel)) rfl
theorem m283 : Cond.selects RX3 yX3_planCount yX3_planCount ∈ GW := GW_of (List.mem_of_getElem? (i := 315) (by decide +kernel)) rfl
theorem m284 : Cond.code yX3_planCount cX3_planCount 1 (some .int) ∈ GW := GW_of (List.mem_of_getElem? (i := 316) (by decide +kernel)) rfl
theorem m285 : Cond.methodLink RX4 63 yX4_isForMaster ∈ GW := GW_of (List.mem_of_getElem? (i := 317) (by decide +kernel)) rfl
theorem m286 : Cond.instanceMethod yX4_isForMaster ∈ GW := GW_of (List.mem_of_getElem? (i := 318) (by decide +kernel)) rfl
theorem m287 : Cond.selects RX4 yX4_isForMaster yX4_isForMaster ∈ GW := GW_of (List.mem_of_getElem? (i := 319) (by decide +kernel)) rfl
theorem m288 : Cond.code yX4_isForMaster cX4_isForMaster 2 (some .boolean) ∈ GW := GW_of (List.mem_of_getElem? (i := 320) (by decide +kernel)) rfl
theorem m289 : Cond.methodLink RX4 52 yX3_isAllowed ∈ GW := GW_of (List.mem_of_getElem? (i := 321) (by decide +kernel)) rfl
theorem m290 : Cond.instanceMethod yX3_isAllowed ∈ GW := GW_of (List.mem_of_getElem? (i := 322) (by decide +kernel)) rfl
theorem m291 : Cond.selects RX3 yX3_isAllowed yX3_isAllowed ∈ GW := GW_of (List.mem_of_getElem? (i := 323) (by decide +kernel)) rfl
theorem m292 : Cond.code yX3_isAllowed cX3_isAllowed 2 (some .boolean) ∈ GW := GW_of (List.mem_of_getElem? (i := 324) (by decide +kernel)) rfl
theorem m293 : Cond.methodLink RX3 44 yJ6_bitCount_0f7a4 ∈ GW := GW_of (List.mem_of_getElem? (i := 325) (by decide +kernel)) rfl
theorem m294 : Cond.methodLink RX3 50 yX3_hasExcludingSites ∈ GW := GW_of (List.mem_of_getElem? (i := 326) (by decide +kernel)) rfl
theorem m295 : Cond.instanceMethod yX3_hasExcludingSites ∈ GW := GW_of (List.mem_of_getElem? (i := 327) (by decide +kernel)) rfl
theorem m296 : Cond.selects RX3 yX3_hasExcludingSites yX3_hasExcludingSites ∈ GW := GW_of (List.mem_of_getElem? (i := 328) (by decide +kernel)) rfl
theorem m297 : Cond.code yX3_hasExcludingSites cX3_hasExcludingSites 3 (some .boolean) ∈ GW := GW_of (List.mem_of_getElem? (i := 329) (by decide +kernel)) rfl
theorem m298 : Cond.methodLink RX4 56 yX1_countMissedRays ∈ GW := GW_of (List.mem_of_getElem? (i := 330) (by decide +kernel)) rfl
theorem m299 : Cond.instanceMethod yX1_countMissedRays ∈ GW := GW_of (List.mem_of_getElem? (i := 331) (by decide +kernel)) rfl
theorem m300 : Cond.selects RX1 yX1_countMissedRays yX1_countMissedRays ∈ GW := GW_of (List.mem_of_getElem? (i := 332) (by decide +kernel)) rfl
theorem m301 : Cond.code yX1_countMissedRays cX1_countMissedRays 4 (some .int) ∈ GW := GW_of (List.mem_of_getElem? (i := 333) (by decide +kernel)) rfl
theorem m302 : Cond.methodLink RX1 65 yX1_isRay ∈ GW := GW_of (List.mem_of_getElem? (i := 334) (by decide +kernel)) rfl
theorem m303 : Cond.instanceMethod yX1_isRay ∈ GW := GW_of (List.mem_of_getElem? (i := 335) (by decide +kernel)) rfl
theorem m304 : Cond.selects RX1 yX1_isRay yX1_isRay ∈ GW := GW_of (List.mem_of_getElem? (i := 336) (by decide +kernel)) rfl
theorem m305 : Cond.code yX1_isRay cX1_isRay 2 (some .boolean) ∈ GW := GW_of (List.mem_of_getElem? (i := 337) (by decide +kernel)) rfl
theorem m306 : Cond.methodLink RX1 62 yX1_weightOf ∈ GW := GW_of (List.mem_of_getElem? (i := 338) (by decide +kernel)) rfl
theorem m307 : Cond.instanceMethod yX1_weightOf ∈ GW := GW_of (List.mem_of_getElem? (i := 339) (by decide +kernel)) rfl
theorem m308 : Cond.selects RX1 yX1_weightOf yX1_weightOf ∈ GW := GW_of (List.mem_of_getElem? (i := 340) (by decide +kernel)) rfl
theorem m309 : Cond.code yX1_weightOf cX1_weightOf 5 (some .int) ∈ GW := GW_of (List.mem_of_getElem? (i := 341) (by decide +kernel)) rfl
theorem m310 : Cond.methodLink RX4 66 yX4_guessOf ∈ GW := GW_of (List.mem_of_getElem? (i := 343) (by decide +kernel)) rfl
theorem m311 : Cond.instanceMethod yX4_guessOf ∈ GW := GW_of (List.mem_of_getElem? (i := 344) (by decide +kernel)) rfl
theorem m312 : Cond.selects RX4 yX4_guessOf yX4_guessOf ∈ GW := GW_of (List.mem_of_getElem? (i := 345) (by decide +kernel)) rfl
theorem m313 : Cond.code yX4_guessOf cX4_guessOf 2 (some .int) ∈ GW := GW_of (List.mem_of_getElem? (i := 346) (by decide +kernel)) rfl
theorem m314 : Cond.methodLink RX4 45 yX3_sitePricesOf ∈ GW := GW_of (List.mem_of_getElem? (i := 347) (by decide +kernel)) rfl
theorem m315 : Cond.instanceMethod yX3_sitePricesOf ∈ GW := GW_of (List.mem_of_getElem? (i := 348) (by decide +kernel)) rfl
theorem m316 : Cond.selects RX3 yX3_sitePricesOf yX3_sitePricesOf ∈ GW := GW_of (List.mem_of_getElem? (i := 349) (by decide +kernel)) rfl
theorem m317 : Cond.code yX3_sitePricesOf cX3_sitePricesOf 4 (some .int) ∈ GW := GW_of (List.mem_of_getElem? (i := 350) (by decide +kernel)) rfl
theorem m318 : Cond.methodLink RX4 49 yX1_greatestValue ∈ GW := GW_of (List.mem_of_getElem? (i := 351) (by decide +kernel)) rfl
theorem m319 : Cond.instanceMethod yX1_greatestValue ∈ GW := GW_of (List.mem_of_getElem? (i := 352) (by decide +kernel)) rfl
theorem m320 : Cond.selects RX1 yX1_greatestValue yX1_greatestValue ∈ GW := GW_of (List.mem_of_getElem? (i := 353) (by decide +kernel)) rfl
theorem m321 : Cond.code yX1_greatestValue cX1_greatestValue 4 (some .int) ∈ GW := GW_of (List.mem_of_getElem? (i := 354) (by decide +kernel)) rfl
theorem m322 : Cond.methodLink RX1 53 Lib.Math.max.name ∈ GW := GW_of (List.mem_of_getElem? (i := 359) (by decide +kernel)) rfl
theorem m323 : Cond.static Lib.Math.max.name ∈ GW := GW_of (List.mem_of_getElem? (i := 360) (by decide +kernel)) rfl
theorem m324 : Cond.initialized "java/lang/Math" ∈ GW := GW_of (List.mem_of_getElem? (i := 46) (by decide +kernel)) rfl
theorem m325 : Cond.code Lib.Math.max.name Lib.Math.max.code 2 (some .int) ∈ GW := GW_of (List.mem_of_getElem? (i := 361) (by decide +kernel)) rfl
theorem m326 : Cond.methodLink RX1 69 yX1_valueOf ∈ GW := GW_of (List.mem_of_getElem? (i := 355) (by decide +kernel)) rfl
theorem m327 : Cond.instanceMethod yX1_valueOf ∈ GW := GW_of (List.mem_of_getElem? (i := 356) (by decide +kernel)) rfl
theorem m328 : Cond.selects RX1 yX1_valueOf yX1_valueOf ∈ GW := GW_of (List.mem_of_getElem? (i := 357) (by decide +kernel)) rfl
theorem m329 : Cond.code yX1_valueOf cX1_valueOf 3 (some .int) ∈ GW := GW_of (List.mem_of_getElem? (i := 358) (by decide +kernel)) rfl
theorem m330 : Cond.methodLink RX4 75 yX3_lowestMissedCustomer ∈ GW := GW_of (List.mem_of_getElem? (i := 362) (by decide +kernel)) rfl
theorem m331 : Cond.instanceMethod yX3_lowestMissedCustomer ∈ GW := GW_of (List.mem_of_getElem? (i := 363) (by decide +kernel)) rfl
theorem m332 : Cond.selects RX3 yX3_lowestMissedCustomer yX3_lowestMissedCustomer ∈ GW := GW_of (List.mem_of_getElem? (i := 364) (by decide +kernel)) rfl
theorem m333 : Cond.code yX3_lowestMissedCustomer cX3_lowestMissedCustomer 3 (some .int) ∈ GW := GW_of (List.mem_of_getElem? (i := 365) (by decide +kernel)) rfl
theorem m334 : Cond.methodLink RX3 63 yX3_leastRoutePrice ∈ GW := GW_of (List.mem_of_getElem? (i := 366) (by decide +kernel)) rfl
theorem m335 : Cond.instanceMethod yX3_leastRoutePrice ∈ GW := GW_of (List.mem_of_getElem? (i := 367) (by decide +kernel)) rfl
theorem m336 : Cond.selects RX3 yX3_leastRoutePrice yX3_leastRoutePrice ∈ GW := GW_of (List.mem_of_getElem? (i := 368) (by decide +kernel)) rfl
theorem m337 : Cond.code yX3_leastRoutePrice cX3_leastRoutePrice 5 (some .int) ∈ GW := GW_of (List.mem_of_getElem? (i := 369) (by decide +kernel)) rfl
theorem m338 : Cond.methodLink RX3 57 Lib.Math.min.name ∈ GW := GW_of (List.mem_of_getElem? (i := 370) (by decide +kernel)) rfl
theorem m339 : Cond.static Lib.Math.min.name ∈ GW := GW_of (List.mem_of_getElem? (i := 371) (by decide +kernel)) rfl
theorem m340 : Cond.code Lib.Math.min.name Lib.Math.min.code 2 (some .int) ∈ GW := GW_of (List.mem_of_getElem? (i := 372) (by decide +kernel)) rfl
theorem m341 : Cond.methodLink RX4 78 yX3_costOf ∈ GW := GW_of (List.mem_of_getElem? (i := 373) (by decide +kernel)) rfl
theorem m342 : Cond.instanceMethod yX3_costOf ∈ GW := GW_of (List.mem_of_getElem? (i := 374) (by decide +kernel)) rfl
theorem m343 : Cond.selects RX3 yX3_costOf yX3_costOf ∈ GW := GW_of (List.mem_of_getElem? (i := 375) (by decide +kernel)) rfl
theorem m344 : Cond.code yX3_costOf cX3_costOf 2 (some .int) ∈ GW := GW_of (List.mem_of_getElem? (i := 376) (by decide +kernel)) rfl
theorem m345 : Cond.methodLink RX3 72 yX3_sitePricesOf ∈ GW := GW_of (List.mem_of_getElem? (i := 377) (by decide +kernel)) rfl
theorem m346 : Cond.methodLink RX3 75 yX3_routeCostOf ∈ GW := GW_of (List.mem_of_getElem? (i := 378) (by decide +kernel)) rfl
theorem m347 : Cond.instanceMethod yX3_routeCostOf ∈ GW := GW_of (List.mem_of_getElem? (i := 379) (by decide +kernel)) rfl
theorem m348 : Cond.selects RX3 yX3_routeCostOf yX3_routeCostOf ∈ GW := GW_of (List.mem_of_getElem? (i := 380) (by decide +kernel)) rfl
theorem m349 : Cond.code yX3_routeCostOf cX3_routeCostOf 4 (some .int) ∈ GW := GW_of (List.mem_of_getElem? (i := 381) (by decide +kernel)) rfl
theorem m350 : Cond.methodLink RX4 81 yX1_isFull ∈ GW := GW_of (List.mem_of_getElem? (i := 382) (by decide +kernel)) rfl
theorem m351 : Cond.instanceMethod yX1_isFull ∈ GW := GW_of (List.mem_of_getElem? (i := 383) (by decide +kernel)) rfl
theorem m352 : Cond.selects RX1 yX1_isFull yX1_isFull ∈ GW := GW_of (List.mem_of_getElem? (i := 384) (by decide +kernel)) rfl
theorem m353 : Cond.code yX1_isFull cX1_isFull 1 (some .boolean) ∈ GW := GW_of (List.mem_of_getElem? (i := 385) (by decide +kernel)) rfl
theorem m354 : Cond.methodLink RX4 85 yX1_appendRay ∈ GW := GW_of (List.mem_of_getElem? (i := 386) (by decide +kernel)) rfl
theorem m355 : Cond.instanceMethod yX1_appendRay ∈ GW := GW_of (List.mem_of_getElem? (i := 387) (by decide +kernel)) rfl
theorem m356 : Cond.selects RX1 yX1_appendRay yX1_appendRay ∈ GW := GW_of (List.mem_of_getElem? (i := 388) (by decide +kernel)) rfl
theorem m357 : Cond.code yX1_appendRay cX1_appendRay 5 (some .int) ∈ GW := GW_of (List.mem_of_getElem? (i := 389) (by decide +kernel)) rfl
theorem m358 : Cond.fieldLink RX1 31 "SiteCuts$Places" "siteCount" "I" ∈ GW := GW_of (List.mem_of_getElem? (i := 71) (by decide +kernel)) rfl
theorem m359 : Cond.methodLink RX1 36 yX3_hasRoute ∈ GW := GW_of (List.mem_of_getElem? (i := 390) (by decide +kernel)) rfl
theorem m360 : Cond.instanceMethod yX3_hasRoute ∈ GW := GW_of (List.mem_of_getElem? (i := 391) (by decide +kernel)) rfl
theorem m361 : Cond.selects RX3 yX3_hasRoute yX3_hasRoute ∈ GW := GW_of (List.mem_of_getElem? (i := 392) (by decide +kernel)) rfl
theorem m362 : Cond.code yX3_hasRoute cX3_hasRoute 3 (some .boolean) ∈ GW := GW_of (List.mem_of_getElem? (i := 393) (by decide +kernel)) rfl
theorem m363 : Cond.methodLink RX4 89 yX4_improveBest ∈ GW := GW_of (List.mem_of_getElem? (i := 394) (by decide +kernel)) rfl
theorem m364 : Cond.instanceMethod yX4_improveBest ∈ GW := GW_of (List.mem_of_getElem? (i := 395) (by decide +kernel)) rfl
theorem m365 : Cond.selects RX4 yX4_improveBest yX4_improveBest ∈ GW := GW_of (List.mem_of_getElem? (i := 396) (by decide +kernel)) rfl
theorem m366 : Cond.code yX4_improveBest cX4_improveBest 2 none ∈ GW := GW_of (List.mem_of_getElem? (i := 397) (by decide +kernel)) rfl
theorem m367 : Cond.methodLink RX4 93 yX3_leastRoutePrice ∈ GW := GW_of (List.mem_of_getElem? (i := 398) (by decide +kernel)) rfl
theorem m368 : Cond.methodLink RX4 97 yX1_appendPriceCut ∈ GW := GW_of (List.mem_of_getElem? (i := 399) (by decide +kernel)) rfl
theorem m369 : Cond.instanceMethod yX1_appendPriceCut ∈ GW := GW_of (List.mem_of_getElem? (i := 400) (by decide +kernel)) rfl
theorem m370 : Cond.selects RX1 yX1_appendPriceCut yX1_appendPriceCut ∈ GW := GW_of (List.mem_of_getElem? (i := 401) (by decide +kernel)) rfl
theorem m371 : Cond.code yX1_appendPriceCut cX1_appendPriceCut 5 (some .int) ∈ GW := GW_of (List.mem_of_getElem? (i := 402) (by decide +kernel)) rfl
theorem m372 : Cond.fieldLink RX1 40 "SiteCuts$Places" "customerCount" "I" ∈ GW := GW_of (List.mem_of_getElem? (i := 75) (by decide +kernel)) rfl
theorem m373 : Cond.fieldLink RX1 43 "SiteCuts$Places" "demands" "[I" ∈ GW := GW_of (List.mem_of_getElem? (i := 82) (by decide +kernel)) rfl
theorem m374 : Cond.methodLink RX1 46 yX1_savedBy ∈ GW := GW_of (List.mem_of_getElem? (i := 403) (by decide +kernel)) rfl
theorem m375 : Cond.static yX1_savedBy ∈ GW := GW_of (List.mem_of_getElem? (i := 404) (by decide +kernel)) rfl
theorem m376 : Cond.code yX1_savedBy cX1_savedBy 6 (some .int) ∈ GW := GW_of (List.mem_of_getElem? (i := 405) (by decide +kernel)) rfl
theorem m377 : Cond.fieldLink RX1 50 "SiteCuts$Places" "routePrices" "[[I" ∈ GW := GW_of (List.mem_of_getElem? (i := 85) (by decide +kernel)) rfl
theorem m378 : Cond.methodLink RL 49 yX6_step ∈ GW := GW_of (List.mem_of_getElem? (i := 742) (by decide +kernel)) rfl
theorem m379 : Cond.instanceMethod yX6_step ∈ GW := GW_of (List.mem_of_getElem? (i := 743) (by decide +kernel)) rfl
theorem m380 : Cond.selects RX6 yX6_step yX6_step ∈ GW := GW_of (List.mem_of_getElem? (i := 744) (by decide +kernel)) rfl
theorem m381 : Cond.code yX6_step cX6_step 2 (some .int) ∈ GW := GW_of (List.mem_of_getElem? (i := 745) (by decide +kernel)) rfl
theorem m382 : Cond.methodLink RX6 118 yX6_makeStep ∈ GW := GW_of (List.mem_of_getElem? (i := 746) (by decide +kernel)) rfl
theorem m383 : Cond.instanceMethod yX6_makeStep ∈ GW := GW_of (List.mem_of_getElem? (i := 748) (by decide +kernel)) rfl
theorem m384 : Cond.selects RX6 yX6_makeStep yX6_makeStep ∈ GW := GW_of (List.mem_of_getElem? (i := 10) (by decide +kernel)) rfl
theorem m385 : Cond.code yX6_makeStep cX6_makeStep 7 (some .int) ∈ GW := GW_of (List.mem_of_getElem? (i := 749) (by decide +kernel)) rfl
theorem m386 : Cond.methodLink RX6 111 yX6_masterPlan ∈ GW := GW_of (List.mem_of_getElem? (i := 750) (by decide +kernel)) rfl
theorem m387 : Cond.instanceMethod yX6_masterPlan ∈ GW := GW_of (List.mem_of_getElem? (i := 752) (by decide +kernel)) rfl
theorem m388 : Cond.selects RX6 yX6_masterPlan yX6_masterPlan ∈ GW := GW_of (List.mem_of_getElem? (i := 11) (by decide +kernel)) rfl
theorem m389 : Cond.code yX6_masterPlan cX6_masterPlan 5 (some .int) ∈ GW := GW_of (List.mem_of_getElem? (i := 753) (by decide +kernel)) rfl
theorem m390 : Cond.methodLink RX6 84 yX6_isAllowed ∈ GW := GW_of (List.mem_of_getElem? (i := 754) (by decide +kernel)) rfl
theorem m391 : Cond.instanceMethod yX6_isAllowed ∈ GW := GW_of (List.mem_of_getElem? (i := 756) (by decide +kernel)) rfl
theorem m392 : Cond.selects RX6 yX6_isAllowed yX6_isAllowed ∈ GW := GW_of (List.mem_of_getElem? (i := 12) (by decide +kernel)) rfl
theorem m393 : Cond.code yX6_isAllowed cX6_isAllowed 2 (some .boolean) ∈ GW := GW_of (List.mem_of_getElem? (i := 757) (by decide +kernel)) rfl
theorem m394 : Cond.methodLink RX6 75 yX6_excludes ∈ GW := GW_of (List.mem_of_getElem? (i := 758) (by decide +kernel)) rfl
theorem m395 : Cond.instanceMethod yX6_excludes ∈ GW := GW_of (List.mem_of_getElem? (i := 760) (by decide +kernel)) rfl
theorem m396 : Cond.selects RX6 yX6_excludes yX6_excludes ∈ GW := GW_of (List.mem_of_getElem? (i := 13) (by decide +kernel)) rfl
theorem m397 : Cond.code yX6_excludes cX6_excludes 4 (some .boolean) ∈ GW := GW_of (List.mem_of_getElem? (i := 761) (by decide +kernel)) rfl
theorem m398 : Cond.methodLink RX6 105 yX6_raysMissed ∈ GW := GW_of (List.mem_of_getElem? (i := 762) (by decide +kernel)) rfl
theorem m399 : Cond.instanceMethod yX6_raysMissed ∈ GW := GW_of (List.mem_of_getElem? (i := 764) (by decide +kernel)) rfl
theorem m400 : Cond.selects RX6 yX6_raysMissed yX6_raysMissed ∈ GW := GW_of (List.mem_of_getElem? (i := 14) (by decide +kernel)) rfl
theorem m401 : Cond.code yX6_raysMissed cX6_raysMissed 4 (some .int) ∈ GW := GW_of (List.mem_of_getElem? (i := 765) (by decide +kernel)) rfl
theorem m402 : Cond.methodLink RX6 93 yX6_isRay ∈ GW := GW_of (List.mem_of_getElem? (i := 766) (by decide +kernel)) rfl
theorem m403 : Cond.instanceMethod yX6_isRay ∈ GW := GW_of (List.mem_of_getElem? (i := 768) (by decide +kernel)) rfl
theorem m404 : Cond.selects RX6 yX6_isRay yX6_isRay ∈ GW := GW_of (List.mem_of_getElem? (i := 15) (by decide +kernel)) rfl
theorem m405 : Cond.code yX6_isRay cX6_isRay 2 (some .boolean) ∈ GW := GW_of (List.mem_of_getElem? (i := 769) (by decide +kernel)) rfl
theorem m406 : Cond.methodLink RX6 96 yX6_asked ∈ GW := GW_of (List.mem_of_getElem? (i := 770) (by decide +kernel)) rfl
theorem m407 : Cond.instanceMethod yX6_asked ∈ GW := GW_of (List.mem_of_getElem? (i := 772) (by decide +kernel)) rfl
theorem m408 : Cond.selects RX6 yX6_asked yX6_asked ∈ GW := GW_of (List.mem_of_getElem? (i := 16) (by decide +kernel)) rfl
theorem m409 : Cond.code yX6_asked cX6_asked 3 (some .int) ∈ GW := GW_of (List.mem_of_getElem? (i := 773) (by decide +kernel)) rfl
theorem m410 : Cond.methodLink RX6 78 yX6_reachedFrom ∈ GW := GW_of (List.mem_of_getElem? (i := 774) (by decide +kernel)) rfl
theorem m411 : Cond.instanceMethod yX6_reachedFrom ∈ GW := GW_of (List.mem_of_getElem? (i := 776) (by decide +kernel)) rfl
theorem m412 : Cond.selects RX6 yX6_reachedFrom yX6_reachedFrom ∈ GW := GW_of (List.mem_of_getElem? (i := 17) (by decide +kernel)) rfl
theorem m413 : Cond.code yX6_reachedFrom cX6_reachedFrom 4 (some .int) ∈ GW := GW_of (List.mem_of_getElem? (i := 777) (by decide +kernel)) rfl
theorem m414 : Cond.methodLink RX6 108 yX6_guess ∈ GW := GW_of (List.mem_of_getElem? (i := 778) (by decide +kernel)) rfl
theorem m415 : Cond.instanceMethod yX6_guess ∈ GW := GW_of (List.mem_of_getElem? (i := 780) (by decide +kernel)) rfl
theorem m416 : Cond.selects RX6 yX6_guess yX6_guess ∈ GW := GW_of (List.mem_of_getElem? (i := 18) (by decide +kernel)) rfl
theorem m417 : Cond.code yX6_guess cX6_guess 5 (some .int) ∈ GW := GW_of (List.mem_of_getElem? (i := 781) (by decide +kernel)) rfl
theorem m418 : Cond.methodLink RX6 99 yX6_valueOf ∈ GW := GW_of (List.mem_of_getElem? (i := 782) (by decide +kernel)) rfl
theorem m419 : Cond.instanceMethod yX6_valueOf ∈ GW := GW_of (List.mem_of_getElem? (i := 784) (by decide +kernel)) rfl
theorem m420 : Cond.selects RX6 yX6_valueOf yX6_valueOf ∈ GW := GW_of (List.mem_of_getElem? (i := 19) (by decide +kernel)) rfl
theorem m421 : Cond.code yX6_valueOf cX6_valueOf 5 (some .int) ∈ GW := GW_of (List.mem_of_getElem? (i := 785) (by decide +kernel)) rfl
theorem m422 : Cond.methodLink RX6 90 yX6_weightOf ∈ GW := GW_of (List.mem_of_getElem? (i := 786) (by decide +kernel)) rfl
theorem m423 : Cond.instanceMethod yX6_weightOf ∈ GW := GW_of (List.mem_of_getElem? (i := 788) (by decide +kernel)) rfl
theorem m424 : Cond.selects RX6 yX6_weightOf yX6_weightOf ∈ GW := GW_of (List.mem_of_getElem? (i := 20) (by decide +kernel)) rfl
theorem m425 : Cond.code yX6_weightOf cX6_weightOf 6 (some .int) ∈ GW := GW_of (List.mem_of_getElem? (i := 789) (by decide +kernel)) rfl
theorem m426 : Cond.methodLink RX6 102 yX6_prices ∈ GW := GW_of (List.mem_of_getElem? (i := 790) (by decide +kernel)) rfl
theorem m427 : Cond.instanceMethod yX6_prices ∈ GW := GW_of (List.mem_of_getElem? (i := 792) (by decide +kernel)) rfl
theorem m428 : Cond.selects RX6 yX6_prices yX6_prices ∈ GW := GW_of (List.mem_of_getElem? (i := 21) (by decide +kernel)) rfl
theorem m429 : Cond.code yX6_prices cX6_prices 4 (some .int) ∈ GW := GW_of (List.mem_of_getElem? (i := 793) (by decide +kernel)) rfl
theorem m430 : Cond.methodLink RX6 87 yX6_missed ∈ GW := GW_of (List.mem_of_getElem? (i := 794) (by decide +kernel)) rfl
theorem m431 : Cond.instanceMethod yX6_missed ∈ GW := GW_of (List.mem_of_getElem? (i := 796) (by decide +kernel)) rfl
theorem m432 : Cond.selects RX6 yX6_missed yX6_missed ∈ GW := GW_of (List.mem_of_getElem? (i := 22) (by decide +kernel)) rfl
theorem m433 : Cond.code yX6_missed cX6_missed 3 (some .int) ∈ GW := GW_of (List.mem_of_getElem? (i := 797) (by decide +kernel)) rfl
theorem m434 : Cond.methodLink RX6 115 yX6_routes ∈ GW := GW_of (List.mem_of_getElem? (i := 798) (by decide +kernel)) rfl
theorem m435 : Cond.instanceMethod yX6_routes ∈ GW := GW_of (List.mem_of_getElem? (i := 800) (by decide +kernel)) rfl
theorem m436 : Cond.selects RX6 yX6_routes yX6_routes ∈ GW := GW_of (List.mem_of_getElem? (i := 23) (by decide +kernel)) rfl
theorem m437 : Cond.code yX6_routes cX6_routes 4 (some .int) ∈ GW := GW_of (List.mem_of_getElem? (i := 801) (by decide +kernel)) rfl
theorem m438 : Cond.methodLink RX6 81 yX6_server ∈ GW := GW_of (List.mem_of_getElem? (i := 802) (by decide +kernel)) rfl
theorem m439 : Cond.instanceMethod yX6_server ∈ GW := GW_of (List.mem_of_getElem? (i := 804) (by decide +kernel)) rfl
theorem m440 : Cond.selects RX6 yX6_server yX6_server ∈ GW := GW_of (List.mem_of_getElem? (i := 24) (by decide +kernel)) rfl
theorem m441 : Cond.code yX6_server cX6_server 6 (some .int) ∈ GW := GW_of (List.mem_of_getElem? (i := 805) (by decide +kernel)) rfl
theorem m442 : Cond.methodLink RL 50 yX5_solve ∈ GW := GW_of (List.mem_of_getElem? (i := 406) (by decide +kernel)) rfl
theorem m443 : Cond.instanceMethod yX5_solve ∈ GW := GW_of (List.mem_of_getElem? (i := 407) (by decide +kernel)) rfl
theorem m444 : Cond.selects RX5 yX5_solve yX5_solve ∈ GW := GW_of (List.mem_of_getElem? (i := 408) (by decide +kernel)) rfl
theorem m445 : Cond.code yX5_solve cX5_solve 3 (some .int) ∈ GW := GW_of (List.mem_of_getElem? (i := 409) (by decide +kernel)) rfl
theorem m446 : Cond.fieldLink RX5 126 "SiteCuts$State" "cuts" "LSiteCuts$Cuts;" ∈ GW := GW_of (List.mem_of_getElem? (i := 132) (by decide +kernel)) rfl
theorem m447 : Cond.fieldLink RX5 130 "SiteCuts$Cuts" "amount" "I" ∈ GW := GW_of (List.mem_of_getElem? (i := 113) (by decide +kernel)) rfl
theorem m448 : Cond.methodLink RX5 123 yX5_isCutAdded ∈ GW := GW_of (List.mem_of_getElem? (i := 410) (by decide +kernel)) rfl
theorem m449 : Cond.static yX5_isCutAdded ∈ GW := GW_of (List.mem_of_getElem? (i := 411) (by decide +kernel)) rfl
theorem m450 : Cond.code yX5_isCutAdded cX5_isCutAdded 1 (some .boolean) ∈ GW := GW_of (List.mem_of_getElem? (i := 412) (by decide +kernel)) rfl
theorem m451 : Cond.methodLink RL 53 yX6_solve ∈ GW := GW_of (List.mem_of_getElem? (i := 806) (by decide +kernel)) rfl
theorem m452 : Cond.instanceMethod yX6_solve ∈ GW := GW_of (List.mem_of_getElem? (i := 807) (by decide +kernel)) rfl
theorem m453 : Cond.selects RX6 yX6_solve yX6_solve ∈ GW := GW_of (List.mem_of_getElem? (i := 808) (by decide +kernel)) rfl
theorem m454 : Cond.code yX6_solve cX6_solve 4 (some .int) ∈ GW := GW_of (List.mem_of_getElem? (i := 809) (by decide +kernel)) rfl
theorem m455 : Cond.methodLink RX6 121 yX6_goBack ∈ GW := GW_of (List.mem_of_getElem? (i := 810) (by decide +kernel)) rfl
theorem m456 : Cond.instanceMethod yX6_goBack ∈ GW := GW_of (List.mem_of_getElem? (i := 812) (by decide +kernel)) rfl
theorem m457 : Cond.selects RX6 yX6_goBack yX6_goBack ∈ GW := GW_of (List.mem_of_getElem? (i := 25) (by decide +kernel)) rfl
theorem m458 : Cond.code yX6_goBack cX6_goBack 2 none ∈ GW := GW_of (List.mem_of_getElem? (i := 813) (by decide +kernel)) rfl
theorem m459 : Cond.methodLink RL 54 yX5_readCut ∈ GW := GW_of (List.mem_of_getElem? (i := 413) (by decide +kernel)) rfl
theorem m460 : Cond.instanceMethod yX5_readCut ∈ GW := GW_of (List.mem_of_getElem? (i := 414) (by decide +kernel)) rfl
theorem m461 : Cond.selects RX5 yX5_readCut yX5_readCut ∈ GW := GW_of (List.mem_of_getElem? (i := 415) (by decide +kernel)) rfl
theorem m462 : Cond.code yX5_readCut cX5_readCut 2 (some .int) ∈ GW := GW_of (List.mem_of_getElem? (i := 416) (by decide +kernel)) rfl
theorem m463 : Cond.methodLink RX5 135 yX0_readNumbers ∈ GW := GW_of (List.mem_of_getElem? (i := 417) (by decide +kernel)) rfl
theorem m464 : Cond.instanceMethod yX0_readNumbers ∈ GW := GW_of (List.mem_of_getElem? (i := 418) (by decide +kernel)) rfl
theorem m465 : Cond.selects RX0 yX0_readNumbers yX0_readNumbers ∈ GW := GW_of (List.mem_of_getElem? (i := 419) (by decide +kernel)) rfl
theorem m466 : Cond.code yX0_readNumbers cX0_readNumbers 6 (some .int) ∈ GW := GW_of (List.mem_of_getElem? (i := 420) (by decide +kernel)) rfl
theorem m467 : Cond.methodLink RX0 19 yX0_isCommaAt ∈ GW := GW_of (List.mem_of_getElem? (i := 421) (by decide +kernel)) rfl
theorem m468 : Cond.instanceMethod yX0_isCommaAt ∈ GW := GW_of (List.mem_of_getElem? (i := 422) (by decide +kernel)) rfl
theorem m469 : Cond.selects RX0 yX0_isCommaAt yX0_isCommaAt ∈ GW := GW_of (List.mem_of_getElem? (i := 423) (by decide +kernel)) rfl
theorem m470 : Cond.code yX0_isCommaAt cX0_isCommaAt 2 (some .boolean) ∈ GW := GW_of (List.mem_of_getElem? (i := 424) (by decide +kernel)) rfl
theorem m471 : Cond.methodLink RX0 23 yX0_isDigitAt ∈ GW := GW_of (List.mem_of_getElem? (i := 425) (by decide +kernel)) rfl
theorem m472 : Cond.instanceMethod yX0_isDigitAt ∈ GW := GW_of (List.mem_of_getElem? (i := 426) (by decide +kernel)) rfl
theorem m473 : Cond.selects RX0 yX0_isDigitAt yX0_isDigitAt ∈ GW := GW_of (List.mem_of_getElem? (i := 427) (by decide +kernel)) rfl
theorem m474 : Cond.code yX0_isDigitAt cX0_isDigitAt 2 (some .boolean) ∈ GW := GW_of (List.mem_of_getElem? (i := 428) (by decide +kernel)) rfl
theorem m475 : Cond.methodLink RX0 26 yX0_digitAt ∈ GW := GW_of (List.mem_of_getElem? (i := 429) (by decide +kernel)) rfl
theorem m476 : Cond.instanceMethod yX0_digitAt ∈ GW := GW_of (List.mem_of_getElem? (i := 430) (by decide +kernel)) rfl
theorem m477 : Cond.selects RX0 yX0_digitAt yX0_digitAt ∈ GW := GW_of (List.mem_of_getElem? (i := 431) (by decide +kernel)) rfl
theorem m478 : Cond.code yX0_digitAt cX0_digitAt 2 (some .int) ∈ GW := GW_of (List.mem_of_getElem? (i := 432) (by decide +kernel)) rfl
theorem m479 : Cond.methodLink RX5 139 yX1_isFull ∈ GW := GW_of (List.mem_of_getElem? (i := 433) (by decide +kernel)) rfl
theorem m480 : Cond.methodLink RX5 143 yX1_appendPriceCut ∈ GW := GW_of (List.mem_of_getElem? (i := 434) (by decide +kernel)) rfl
theorem m481 : Cond.methodLink RL 57 yX6_readCut ∈ GW := GW_of (List.mem_of_getElem? (i := 842) (by decide +kernel)) rfl
theorem m482 : Cond.instanceMethod yX6_readCut ∈ GW := GW_of (List.mem_of_getElem? (i := 843) (by decide +kernel)) rfl
theorem m483 : Cond.selects RX6 yX6_readCut yX6_readCut ∈ GW := GW_of (List.mem_of_getElem? (i := 844) (by decide +kernel)) rfl
theorem m484 : Cond.code yX6_readCut cX6_readCut 3 (some .int) ∈ GW := GW_of (List.mem_of_getElem? (i := 845) (by decide +kernel)) rfl
theorem m485 : Cond.fieldLink RX6 137 "SiteCutsModel" "at" "I" ∈ GW := GW_of (List.mem_of_getElem? (i := 639) (by decide +kernel)) rfl
theorem m486 : Cond.methodLink RX6 143 yX6_readNumbers ∈ GW := GW_of (List.mem_of_getElem? (i := 846) (by decide +kernel)) rfl
theorem m487 : Cond.instanceMethod yX6_readNumbers ∈ GW := GW_of (List.mem_of_getElem? (i := 848) (by decide +kernel)) rfl
theorem m488 : Cond.selects RX6 yX6_readNumbers yX6_readNumbers ∈ GW := GW_of (List.mem_of_getElem? (i := 29) (by decide +kernel)) rfl
theorem m489 : Cond.code yX6_readNumbers cX6_readNumbers 3 (some .boolean) ∈ GW := GW_of (List.mem_of_getElem? (i := 849) (by decide +kernel)) rfl
theorem m490 : Cond.fieldLink RX6 134 "SiteCutsModel" "length" "I" ∈ GW := GW_of (List.mem_of_getElem? (i := 638) (by decide +kernel)) rfl
theorem m491 : Cond.methodLink RX6 140 yX6_sees ∈ GW := GW_of (List.mem_of_getElem? (i := 850) (by decide +kernel)) rfl
theorem m492 : Cond.instanceMethod yX6_sees ∈ GW := GW_of (List.mem_of_getElem? (i := 852) (by decide +kernel)) rfl
theorem m493 : Cond.selects RX6 yX6_sees yX6_sees ∈ GW := GW_of (List.mem_of_getElem? (i := 30) (by decide +kernel)) rfl
theorem m494 : Cond.code yX6_sees cX6_sees 3 (some .boolean) ∈ GW := GW_of (List.mem_of_getElem? (i := 853) (by decide +kernel)) rfl
theorem m495 : Cond.methodLink RL 58 yX5_drop ∈ GW := GW_of (List.mem_of_getElem? (i := 435) (by decide +kernel)) rfl
theorem m496 : Cond.instanceMethod yX5_drop ∈ GW := GW_of (List.mem_of_getElem? (i := 436) (by decide +kernel)) rfl
theorem m497 : Cond.selects RX5 yX5_drop yX5_drop ∈ GW := GW_of (List.mem_of_getElem? (i := 437) (by decide +kernel)) rfl
theorem m498 : Cond.code yX5_drop cX5_drop 2 (some .int) ∈ GW := GW_of (List.mem_of_getElem? (i := 438) (by decide +kernel)) rfl
theorem m499 : Cond.methodLink RX5 147 yX1_isCut ∈ GW := GW_of (List.mem_of_getElem? (i := 439) (by decide +kernel)) rfl
theorem m500 : Cond.instanceMethod yX1_isCut ∈ GW := GW_of (List.mem_of_getElem? (i := 440) (by decide +kernel)) rfl
theorem m501 : Cond.selects RX1 yX1_isCut yX1_isCut ∈ GW := GW_of (List.mem_of_getElem? (i := 441) (by decide +kernel)) rfl
theorem m502 : Cond.code yX1_isCut cX1_isCut 2 (some .boolean) ∈ GW := GW_of (List.mem_of_getElem? (i := 442) (by decide +kernel)) rfl
theorem m503 : Cond.methodLink RX5 150 yX1_remove ∈ GW := GW_of (List.mem_of_getElem? (i := 443) (by decide +kernel)) rfl
theorem m504 : Cond.instanceMethod yX1_remove ∈ GW := GW_of (List.mem_of_getElem? (i := 444) (by decide +kernel)) rfl
theorem m505 : Cond.selects RX1 yX1_remove yX1_remove ∈ GW := GW_of (List.mem_of_getElem? (i := 445) (by decide +kernel)) rfl
theorem m506 : Cond.code yX1_remove cX1_remove 3 none ∈ GW := GW_of (List.mem_of_getElem? (i := 446) (by decide +kernel)) rfl
theorem m507 : Cond.methodLink RL 61 yX6_drop ∈ GW := GW_of (List.mem_of_getElem? (i := 814) (by decide +kernel)) rfl
theorem m508 : Cond.instanceMethod yX6_drop ∈ GW := GW_of (List.mem_of_getElem? (i := 815) (by decide +kernel)) rfl
theorem m509 : Cond.selects RX6 yX6_drop yX6_drop ∈ GW := GW_of (List.mem_of_getElem? (i := 816) (by decide +kernel)) rfl
theorem m510 : Cond.code yX6_drop cX6_drop 2 (some .int) ∈ GW := GW_of (List.mem_of_getElem? (i := 817) (by decide +kernel)) rfl
theorem m511 : Cond.methodLink RX6 124 yX6_noCut ∈ GW := GW_of (List.mem_of_getElem? (i := 818) (by decide +kernel)) rfl
theorem m512 : Cond.instanceMethod yX6_noCut ∈ GW := GW_of (List.mem_of_getElem? (i := 820) (by decide +kernel)) rfl
theorem m513 : Cond.selects RX6 yX6_noCut yX6_noCut ∈ GW := GW_of (List.mem_of_getElem? (i := 26) (by decide +kernel)) rfl
theorem m514 : Cond.code yX6_noCut cX6_noCut 2 (some .boolean) ∈ GW := GW_of (List.mem_of_getElem? (i := 821) (by decide +kernel)) rfl
theorem m515 : Cond.methodLink RX6 127 yX6_dropOne ∈ GW := GW_of (List.mem_of_getElem? (i := 822) (by decide +kernel)) rfl
theorem m516 : Cond.instanceMethod yX6_dropOne ∈ GW := GW_of (List.mem_of_getElem? (i := 824) (by decide +kernel)) rfl
theorem m517 : Cond.selects RX6 yX6_dropOne yX6_dropOne ∈ GW := GW_of (List.mem_of_getElem? (i := 27) (by decide +kernel)) rfl
theorem m518 : Cond.code yX6_dropOne cX6_dropOne 3 none ∈ GW := GW_of (List.mem_of_getElem? (i := 825) (by decide +kernel)) rfl
theorem m519 : Cond.methodLink RL 62 yX5_dropLoose ∈ GW := GW_of (List.mem_of_getElem? (i := 447) (by decide +kernel)) rfl
theorem m520 : Cond.instanceMethod yX5_dropLoose ∈ GW := GW_of (List.mem_of_getElem? (i := 448) (by decide +kernel)) rfl
theorem m521 : Cond.selects RX5 yX5_dropLoose yX5_dropLoose ∈ GW := GW_of (List.mem_of_getElem? (i := 449) (by decide +kernel)) rfl
theorem m522 : Cond.code yX5_dropLoose cX5_dropLoose 3 (some .int) ∈ GW := GW_of (List.mem_of_getElem? (i := 450) (by decide +kernel)) rfl
theorem m523 : Cond.methodLink RX5 154 yX4_findMasterPlan ∈ GW := GW_of (List.mem_of_getElem? (i := 451) (by decide +kernel)) rfl
theorem m524 : Cond.methodLink RX5 158 yX1_countLoose ∈ GW := GW_of (List.mem_of_getElem? (i := 452) (by decide +kernel)) rfl
theorem m525 : Cond.instanceMethod yX1_countLoose ∈ GW := GW_of (List.mem_of_getElem? (i := 453) (by decide +kernel)) rfl
theorem m526 : Cond.selects RX1 yX1_countLoose yX1_countLoose ∈ GW := GW_of (List.mem_of_getElem? (i := 454) (by decide +kernel)) rfl
theorem m527 : Cond.code yX1_countLoose cX1_countLoose 5 (some .int) ∈ GW := GW_of (List.mem_of_getElem? (i := 455) (by decide +kernel)) rfl
theorem m528 : Cond.methodLink RX1 72 yX1_greatestValue ∈ GW := GW_of (List.mem_of_getElem? (i := 456) (by decide +kernel)) rfl
theorem m529 : Cond.methodLink RX1 76 yX1_isLoose ∈ GW := GW_of (List.mem_of_getElem? (i := 457) (by decide +kernel)) rfl
theorem m530 : Cond.instanceMethod yX1_isLoose ∈ GW := GW_of (List.mem_of_getElem? (i := 458) (by decide +kernel)) rfl
theorem m531 : Cond.selects RX1 yX1_isLoose yX1_isLoose ∈ GW := GW_of (List.mem_of_getElem? (i := 459) (by decide +kernel)) rfl
theorem m532 : Cond.code yX1_isLoose cX1_isLoose 4 (some .boolean) ∈ GW := GW_of (List.mem_of_getElem? (i := 460) (by decide +kernel)) rfl
theorem m533 : Cond.methodLink RX5 161 yX1_removeLoose ∈ GW := GW_of (List.mem_of_getElem? (i := 461) (by decide +kernel)) rfl
theorem m534 : Cond.instanceMethod yX1_removeLoose ∈ GW := GW_of (List.mem_of_getElem? (i := 462) (by decide +kernel)) rfl
theorem m535 : Cond.selects RX1 yX1_removeLoose yX1_removeLoose ∈ GW := GW_of (List.mem_of_getElem? (i := 463) (by decide +kernel)) rfl
theorem m536 : Cond.code yX1_removeLoose cX1_removeLoose 5 none ∈ GW := GW_of (List.mem_of_getElem? (i := 464) (by decide +kernel)) rfl
theorem m537 : Cond.methodLink RL 65 yX6_dropLoose ∈ GW := GW_of (List.mem_of_getElem? (i := 826) (by decide +kernel)) rfl
theorem m538 : Cond.instanceMethod yX6_dropLoose ∈ GW := GW_of (List.mem_of_getElem? (i := 827) (by decide +kernel)) rfl
theorem m539 : Cond.selects RX6 yX6_dropLoose yX6_dropLoose ∈ GW := GW_of (List.mem_of_getElem? (i := 828) (by decide +kernel)) rfl
theorem m540 : Cond.code yX6_dropLoose cX6_dropLoose 5 (some .int) ∈ GW := GW_of (List.mem_of_getElem? (i := 829) (by decide +kernel)) rfl
theorem m541 : Cond.methodLink RX6 131 yX6_isLoose ∈ GW := GW_of (List.mem_of_getElem? (i := 830) (by decide +kernel)) rfl
theorem m542 : Cond.instanceMethod yX6_isLoose ∈ GW := GW_of (List.mem_of_getElem? (i := 832) (by decide +kernel)) rfl
theorem m543 : Cond.selects RX6 yX6_isLoose yX6_isLoose ∈ GW := GW_of (List.mem_of_getElem? (i := 28) (by decide +kernel)) rfl
theorem m544 : Cond.code yX6_isLoose cX6_isLoose 4 (some .boolean) ∈ GW := GW_of (List.mem_of_getElem? (i := 833) (by decide +kernel)) rfl
theorem m545 : Cond.methodLink RL 66 yX5_type ∈ GW := GW_of (List.mem_of_getElem? (i := 465) (by decide +kernel)) rfl
theorem m546 : Cond.instanceMethod yX5_type ∈ GW := GW_of (List.mem_of_getElem? (i := 466) (by decide +kernel)) rfl
theorem m547 : Cond.selects RX5 yX5_type yX5_type ∈ GW := GW_of (List.mem_of_getElem? (i := 467) (by decide +kernel)) rfl
theorem m548 : Cond.code yX5_type cX5_type 2 (some .int) ∈ GW := GW_of (List.mem_of_getElem? (i := 468) (by decide +kernel)) rfl
theorem m549 : Cond.fieldLink RX5 169 "SiteCuts$CutText" "length" "I" ∈ GW := GW_of (List.mem_of_getElem? (i := 171) (by decide +kernel)) rfl
theorem m550 : Cond.methodLink RX5 164 yX0_isFull ∈ GW := GW_of (List.mem_of_getElem? (i := 469) (by decide +kernel)) rfl
theorem m551 : Cond.instanceMethod yX0_isFull ∈ GW := GW_of (List.mem_of_getElem? (i := 470) (by decide +kernel)) rfl
theorem m552 : Cond.selects RX0 yX0_isFull yX0_isFull ∈ GW := GW_of (List.mem_of_getElem? (i := 471) (by decide +kernel)) rfl
theorem m553 : Cond.code yX0_isFull cX0_isFull 1 (some .boolean) ∈ GW := GW_of (List.mem_of_getElem? (i := 472) (by decide +kernel)) rfl
theorem m554 : Cond.methodLink RX5 165 yX0_append ∈ GW := GW_of (List.mem_of_getElem? (i := 473) (by decide +kernel)) rfl
theorem m555 : Cond.instanceMethod yX0_append ∈ GW := GW_of (List.mem_of_getElem? (i := 474) (by decide +kernel)) rfl
theorem m556 : Cond.selects RX0 yX0_append yX0_append ∈ GW := GW_of (List.mem_of_getElem? (i := 475) (by decide +kernel)) rfl
theorem m557 : Cond.code yX0_append cX0_append 2 none ∈ GW := GW_of (List.mem_of_getElem? (i := 476) (by decide +kernel)) rfl
theorem m558 : Cond.methodLink RL 70 yX6_type ∈ GW := GW_of (List.mem_of_getElem? (i := 834) (by decide +kernel)) rfl
theorem m559 : Cond.instanceMethod yX6_type ∈ GW := GW_of (List.mem_of_getElem? (i := 835) (by decide +kernel)) rfl
theorem m560 : Cond.selects RX6 yX6_type yX6_type ∈ GW := GW_of (List.mem_of_getElem? (i := 836) (by decide +kernel)) rfl
theorem m561 : Cond.code yX6_type cX6_type 2 (some .int) ∈ GW := GW_of (List.mem_of_getElem? (i := 837) (by decide +kernel)) rfl
theorem m562 : Cond.methodLink RL 71 yX5_clearText ∈ GW := GW_of (List.mem_of_getElem? (i := 477) (by decide +kernel)) rfl
theorem m563 : Cond.instanceMethod yX5_clearText ∈ GW := GW_of (List.mem_of_getElem? (i := 478) (by decide +kernel)) rfl
theorem m564 : Cond.selects RX5 yX5_clearText yX5_clearText ∈ GW := GW_of (List.mem_of_getElem? (i := 479) (by decide +kernel)) rfl
theorem m565 : Cond.code yX5_clearText cX5_clearText 2 (some .int) ∈ GW := GW_of (List.mem_of_getElem? (i := 480) (by decide +kernel)) rfl
theorem m566 : Cond.methodLink RL 74 yX6_clearText ∈ GW := GW_of (List.mem_of_getElem? (i := 838) (by decide +kernel)) rfl
theorem m567 : Cond.instanceMethod yX6_clearText ∈ GW := GW_of (List.mem_of_getElem? (i := 839) (by decide +kernel)) rfl
theorem m568 : Cond.selects RX6 yX6_clearText yX6_clearText ∈ GW := GW_of (List.mem_of_getElem? (i := 840) (by decide +kernel)) rfl
theorem m569 : Cond.code yX6_clearText cX6_clearText 2 (some .int) ∈ GW := GW_of (List.mem_of_getElem? (i := 841) (by decide +kernel)) rfl
theorem m570 : Cond.methodLink RL 75 yX5_undo ∈ GW := GW_of (List.mem_of_getElem? (i := 481) (by decide +kernel)) rfl
theorem m571 : Cond.instanceMethod yX5_undo ∈ GW := GW_of (List.mem_of_getElem? (i := 482) (by decide +kernel)) rfl
theorem m572 : Cond.selects RX5 yX5_undo yX5_undo ∈ GW := GW_of (List.mem_of_getElem? (i := 483) (by decide +kernel)) rfl
theorem m573 : Cond.code yX5_undo cX5_undo 1 (some .int) ∈ GW := GW_of (List.mem_of_getElem? (i := 484) (by decide +kernel)) rfl
theorem m574 : Cond.fieldLink RX5 172 "SiteCuts$History" "amount" "I" ∈ GW := GW_of (List.mem_of_getElem? (i := 157) (by decide +kernel)) rfl
theorem m575 : Cond.methodLink RX5 173 yX2_takeLatest ∈ GW := GW_of (List.mem_of_getElem? (i := 485) (by decide +kernel)) rfl
theorem m576 : Cond.instanceMethod yX2_takeLatest ∈ GW := GW_of (List.mem_of_getElem? (i := 486) (by decide +kernel)) rfl
theorem m577 : Cond.selects RX2 yX2_takeLatest yX2_takeLatest ∈ GW := GW_of (List.mem_of_getElem? (i := 487) (by decide +kernel)) rfl
theorem m578 : Cond.code yX2_takeLatest cX2_takeLatest 2 none ∈ GW := GW_of (List.mem_of_getElem? (i := 488) (by decide +kernel)) rfl
theorem m579 : Cond.methodLink RL 78 yX6_undo ∈ GW := GW_of (List.mem_of_getElem? (i := 662) (by decide +kernel)) rfl
theorem m580 : Cond.instanceMethod yX6_undo ∈ GW := GW_of (List.mem_of_getElem? (i := 663) (by decide +kernel)) rfl
theorem m581 : Cond.selects RX6 yX6_undo yX6_undo ∈ GW := GW_of (List.mem_of_getElem? (i := 664) (by decide +kernel)) rfl
theorem m582 : Cond.code yX6_undo cX6_undo 2 (some .int) ∈ GW := GW_of (List.mem_of_getElem? (i := 665) (by decide +kernel)) rfl
theorem m583 : Cond.methodLink RL 79 yX5_keep ∈ GW := GW_of (List.mem_of_getElem? (i := 489) (by decide +kernel)) rfl
theorem m584 : Cond.instanceMethod yX5_keep ∈ GW := GW_of (List.mem_of_getElem? (i := 490) (by decide +kernel)) rfl
theorem m585 : Cond.selects RX5 yX5_keep yX5_keep ∈ GW := GW_of (List.mem_of_getElem? (i := 491) (by decide +kernel)) rfl
theorem m586 : Cond.code yX5_keep cX5_keep 1 (some .int) ∈ GW := GW_of (List.mem_of_getElem? (i := 492) (by decide +kernel)) rfl
theorem m587 : Cond.methodLink RL 82 yX6_keep ∈ GW := GW_of (List.mem_of_getElem? (i := 666) (by decide +kernel)) rfl
theorem m588 : Cond.instanceMethod yX6_keep ∈ GW := GW_of (List.mem_of_getElem? (i := 667) (by decide +kernel)) rfl
theorem m589 : Cond.selects RX6 yX6_keep yX6_keep ∈ GW := GW_of (List.mem_of_getElem? (i := 668) (by decide +kernel)) rfl
theorem m590 : Cond.code yX6_keep cX6_keep 2 (some .int) ∈ GW := GW_of (List.mem_of_getElem? (i := 669) (by decide +kernel)) rfl
theorem m591 : Cond.fieldLink RX6 39 "SiteCutsModel" "isAside" "Z" ∈ GW := GW_of (List.mem_of_getElem? (i := 636) (by decide +kernel)) rfl
theorem m592 : Cond.methodLink RL 83 yX5_restore ∈ GW := GW_of (List.mem_of_getElem? (i := 493) (by decide +kernel)) rfl
theorem m593 : Cond.instanceMethod yX5_restore ∈ GW := GW_of (List.mem_of_getElem? (i := 494) (by decide +kernel)) rfl
theorem m594 : Cond.selects RX5 yX5_restore yX5_restore ∈ GW := GW_of (List.mem_of_getElem? (i := 495) (by decide +kernel)) rfl
theorem m595 : Cond.code yX5_restore cX5_restore 1 (some .int) ∈ GW := GW_of (List.mem_of_getElem? (i := 496) (by decide +kernel)) rfl
theorem m596 : Cond.methodLink RL 86 yX6_restore ∈ GW := GW_of (List.mem_of_getElem? (i := 670) (by decide +kernel)) rfl
theorem m597 : Cond.instanceMethod yX6_restore ∈ GW := GW_of (List.mem_of_getElem? (i := 671) (by decide +kernel)) rfl
theorem m598 : Cond.selects RX6 yX6_restore yX6_restore ∈ GW := GW_of (List.mem_of_getElem? (i := 672) (by decide +kernel)) rfl
theorem m599 : Cond.code yX6_restore cX6_restore 2 (some .int) ∈ GW := GW_of (List.mem_of_getElem? (i := 673) (by decide +kernel)) rfl
theorem m600 : Cond.methodLink RL 87 yX5_judge ∈ GW := GW_of (List.mem_of_getElem? (i := 497) (by decide +kernel)) rfl
theorem m601 : Cond.instanceMethod yX5_judge ∈ GW := GW_of (List.mem_of_getElem? (i := 498) (by decide +kernel)) rfl
theorem m602 : Cond.selects RX5 yX5_judge yX5_judge ∈ GW := GW_of (List.mem_of_getElem? (i := 499) (by decide +kernel)) rfl
theorem m603 : Cond.code yX5_judge cX5_judge 2 (some .int) ∈ GW := GW_of (List.mem_of_getElem? (i := 500) (by decide +kernel)) rfl
theorem m604 : Cond.methodLink RX5 176 yX3_isPlan ∈ GW := GW_of (List.mem_of_getElem? (i := 501) (by decide +kernel)) rfl
theorem m605 : Cond.instanceMethod yX3_isPlan ∈ GW := GW_of (List.mem_of_getElem? (i := 502) (by decide +kernel)) rfl
theorem m606 : Cond.selects RX3 yX3_isPlan yX3_isPlan ∈ GW := GW_of (List.mem_of_getElem? (i := 503) (by decide +kernel)) rfl
theorem m607 : Cond.code yX3_isPlan cX3_isPlan 2 (some .boolean) ∈ GW := GW_of (List.mem_of_getElem? (i := 504) (by decide +kernel)) rfl
theorem m608 : Cond.methodLink RX3 36 yX3_planCount ∈ GW := GW_of (List.mem_of_getElem? (i := 505) (by decide +kernel)) rfl
theorem m609 : Cond.methodLink RX5 179 yX3_verdictOf ∈ GW := GW_of (List.mem_of_getElem? (i := 506) (by decide +kernel)) rfl
theorem m610 : Cond.instanceMethod yX3_verdictOf ∈ GW := GW_of (List.mem_of_getElem? (i := 507) (by decide +kernel)) rfl
theorem m611 : Cond.selects RX3 yX3_verdictOf yX3_verdictOf ∈ GW := GW_of (List.mem_of_getElem? (i := 508) (by decide +kernel)) rfl
theorem m612 : Cond.code yX3_verdictOf cX3_verdictOf 2 (some .int) ∈ GW := GW_of (List.mem_of_getElem? (i := 509) (by decide +kernel)) rfl
theorem m613 : Cond.methodLink RX3 54 yX3_reachesAll ∈ GW := GW_of (List.mem_of_getElem? (i := 510) (by decide +kernel)) rfl
theorem m614 : Cond.instanceMethod yX3_reachesAll ∈ GW := GW_of (List.mem_of_getElem? (i := 511) (by decide +kernel)) rfl
theorem m615 : Cond.selects RX3 yX3_reachesAll yX3_reachesAll ∈ GW := GW_of (List.mem_of_getElem? (i := 512) (by decide +kernel)) rfl
theorem m616 : Cond.code yX3_reachesAll cX3_reachesAll 2 (some .boolean) ∈ GW := GW_of (List.mem_of_getElem? (i := 513) (by decide +kernel)) rfl
theorem m617 : Cond.methodLink RX3 69 yX3_lowestMissedCustomer ∈ GW := GW_of (List.mem_of_getElem? (i := 514) (by decide +kernel)) rfl
theorem m618 : Cond.methodLink RL 90 yX6_judge ∈ GW := GW_of (List.mem_of_getElem? (i := 854) (by decide +kernel)) rfl
theorem m619 : Cond.instanceMethod yX6_judge ∈ GW := GW_of (List.mem_of_getElem? (i := 855) (by decide +kernel)) rfl
theorem m620 : Cond.selects RX6 yX6_judge yX6_judge ∈ GW := GW_of (List.mem_of_getElem? (i := 856) (by decide +kernel)) rfl
theorem m621 : Cond.code yX6_judge cX6_judge 2 (some .int) ∈ GW := GW_of (List.mem_of_getElem? (i := 857) (by decide +kernel)) rfl
theorem m622 : Cond.methodLink RX6 147 yX6_noPlan ∈ GW := GW_of (List.mem_of_getElem? (i := 858) (by decide +kernel)) rfl
theorem m623 : Cond.instanceMethod yX6_noPlan ∈ GW := GW_of (List.mem_of_getElem? (i := 860) (by decide +kernel)) rfl
theorem m624 : Cond.selects RX6 yX6_noPlan yX6_noPlan ∈ GW := GW_of (List.mem_of_getElem? (i := 31) (by decide +kernel)) rfl
theorem m625 : Cond.code yX6_noPlan cX6_noPlan 2 (some .boolean) ∈ GW := GW_of (List.mem_of_getElem? (i := 861) (by decide +kernel)) rfl
theorem m626 : Cond.methodLink RL 91 yX5_plan ∈ GW := GW_of (List.mem_of_getElem? (i := 515) (by decide +kernel)) rfl
theorem m627 : Cond.instanceMethod yX5_plan ∈ GW := GW_of (List.mem_of_getElem? (i := 516) (by decide +kernel)) rfl
theorem m628 : Cond.selects RX5 yX5_plan yX5_plan ∈ GW := GW_of (List.mem_of_getElem? (i := 517) (by decide +kernel)) rfl
theorem m629 : Cond.code yX5_plan cX5_plan 4 (some .int) ∈ GW := GW_of (List.mem_of_getElem? (i := 518) (by decide +kernel)) rfl
theorem m630 : Cond.methodLink RX5 182 yX3_reachesAll ∈ GW := GW_of (List.mem_of_getElem? (i := 519) (by decide +kernel)) rfl
theorem m631 : Cond.methodLink RX5 185 yX3_costOf ∈ GW := GW_of (List.mem_of_getElem? (i := 520) (by decide +kernel)) rfl
theorem m632 : Cond.methodLink RX5 188 yX3_sitePricesOf ∈ GW := GW_of (List.mem_of_getElem? (i := 521) (by decide +kernel)) rfl
theorem m633 : Cond.methodLink RX5 191 yX3_routeCostOf ∈ GW := GW_of (List.mem_of_getElem? (i := 522) (by decide +kernel)) rfl
theorem m634 : Cond.methodLink RX5 194 yX4_guessOf ∈ GW := GW_of (List.mem_of_getElem? (i := 523) (by decide +kernel)) rfl
theorem m635 : Cond.methodLink RX5 197 yX1_countMissedRays ∈ GW := GW_of (List.mem_of_getElem? (i := 524) (by decide +kernel)) rfl
theorem m636 : Cond.methodLink RL 94 yX6_plan ∈ GW := GW_of (List.mem_of_getElem? (i := 862) (by decide +kernel)) rfl
theorem m637 : Cond.instanceMethod yX6_plan ∈ GW := GW_of (List.mem_of_getElem? (i := 863) (by decide +kernel)) rfl
theorem m638 : Cond.selects RX6 yX6_plan yX6_plan ∈ GW := GW_of (List.mem_of_getElem? (i := 864) (by decide +kernel)) rfl
theorem m639 : Cond.code yX6_plan cX6_plan 3 (some .int) ∈ GW := GW_of (List.mem_of_getElem? (i := 865) (by decide +kernel)) rfl
theorem m640 : Cond.methodLink RL 95 yX5_serves ∈ GW := GW_of (List.mem_of_getElem? (i := 525) (by decide +kernel)) rfl
theorem m641 : Cond.instanceMethod yX5_serves ∈ GW := GW_of (List.mem_of_getElem? (i := 526) (by decide +kernel)) rfl
theorem m642 : Cond.selects RX5 yX5_serves yX5_serves ∈ GW := GW_of (List.mem_of_getElem? (i := 527) (by decide +kernel)) rfl
theorem m643 : Cond.code yX5_serves cX5_serves 4 (some .int) ∈ GW := GW_of (List.mem_of_getElem? (i := 528) (by decide +kernel)) rfl
theorem m644 : Cond.methodLink RX5 200 yX3_cheapestSite ∈ GW := GW_of (List.mem_of_getElem? (i := 529) (by decide +kernel)) rfl
theorem m645 : Cond.instanceMethod yX3_cheapestSite ∈ GW := GW_of (List.mem_of_getElem? (i := 530) (by decide +kernel)) rfl
theorem m646 : Cond.selects RX3 yX3_cheapestSite yX3_cheapestSite ∈ GW := GW_of (List.mem_of_getElem? (i := 531) (by decide +kernel)) rfl
theorem m647 : Cond.code yX3_cheapestSite cX3_cheapestSite 5 (some .int) ∈ GW := GW_of (List.mem_of_getElem? (i := 532) (by decide +kernel)) rfl
theorem m648 : Cond.methodLink RX3 66 yX3_hasRoute ∈ GW := GW_of (List.mem_of_getElem? (i := 533) (by decide +kernel)) rfl
theorem m649 : Cond.methodLink RL 98 yX6_serves ∈ GW := GW_of (List.mem_of_getElem? (i := 866) (by decide +kernel)) rfl
theorem m650 : Cond.instanceMethod yX6_serves ∈ GW := GW_of (List.mem_of_getElem? (i := 867) (by decide +kernel)) rfl
theorem m651 : Cond.selects RX6 yX6_serves yX6_serves ∈ GW := GW_of (List.mem_of_getElem? (i := 868) (by decide +kernel)) rfl
theorem m652 : Cond.code yX6_serves cX6_serves 3 (some .int) ∈ GW := GW_of (List.mem_of_getElem? (i := 869) (by decide +kernel)) rfl
theorem m653 : Cond.methodLink RL 99 yX5_cut ∈ GW := GW_of (List.mem_of_getElem? (i := 534) (by decide +kernel)) rfl
theorem m654 : Cond.instanceMethod yX5_cut ∈ GW := GW_of (List.mem_of_getElem? (i := 535) (by decide +kernel)) rfl
theorem m655 : Cond.selects RX5 yX5_cut yX5_cut ∈ GW := GW_of (List.mem_of_getElem? (i := 536) (by decide +kernel)) rfl
theorem m656 : Cond.code yX5_cut cX5_cut 3 (some .int) ∈ GW := GW_of (List.mem_of_getElem? (i := 537) (by decide +kernel)) rfl
theorem m657 : Cond.fieldLink RX5 207 "SiteCuts$Cuts" "customers" "[I" ∈ GW := GW_of (List.mem_of_getElem? (i := 115) (by decide +kernel)) rfl
theorem m658 : Cond.fieldLink RX5 210 "SiteCuts$Cuts" "starts" "[I" ∈ GW := GW_of (List.mem_of_getElem? (i := 117) (by decide +kernel)) rfl
theorem m659 : Cond.methodLink RX5 204 yX1_isRay ∈ GW := GW_of (List.mem_of_getElem? (i := 538) (by decide +kernel)) rfl
theorem m660 : Cond.methodLink RX5 213 yX4_countPlansThatBreak ∈ GW := GW_of (List.mem_of_getElem? (i := 539) (by decide +kernel)) rfl
theorem m661 : Cond.instanceMethod yX4_countPlansThatBreak ∈ GW := GW_of (List.mem_of_getElem? (i := 540) (by decide +kernel)) rfl
theorem m662 : Cond.selects RX4 yX4_countPlansThatBreak yX4_countPlansThatBreak ∈ GW := GW_of (List.mem_of_getElem? (i := 541) (by decide +kernel)) rfl
theorem m663 : Cond.code yX4_countPlansThatBreak cX4_countPlansThatBreak 4 (some .int) ∈ GW := GW_of (List.mem_of_getElem? (i := 542) (by decide +kernel)) rfl
theorem m664 : Cond.methodLink RX4 101 yX3_isFeasible ∈ GW := GW_of (List.mem_of_getElem? (i := 543) (by decide +kernel)) rfl
theorem m665 : Cond.instanceMethod yX3_isFeasible ∈ GW := GW_of (List.mem_of_getElem? (i := 544) (by decide +kernel)) rfl
theorem m666 : Cond.selects RX3 yX3_isFeasible yX3_isFeasible ∈ GW := GW_of (List.mem_of_getElem? (i := 545) (by decide +kernel)) rfl
theorem m667 : Cond.code yX3_isFeasible cX3_isFeasible 2 (some .boolean) ∈ GW := GW_of (List.mem_of_getElem? (i := 546) (by decide +kernel)) rfl
theorem m668 : Cond.methodLink RX3 78 yX3_isAllowed ∈ GW := GW_of (List.mem_of_getElem? (i := 547) (by decide +kernel)) rfl
theorem m669 : Cond.methodLink RX4 104 yX4_isBroken ∈ GW := GW_of (List.mem_of_getElem? (i := 548) (by decide +kernel)) rfl
theorem m670 : Cond.instanceMethod yX4_isBroken ∈ GW := GW_of (List.mem_of_getElem? (i := 549) (by decide +kernel)) rfl
theorem m671 : Cond.selects RX4 yX4_isBroken yX4_isBroken ∈ GW := GW_of (List.mem_of_getElem? (i := 550) (by decide +kernel)) rfl
theorem m672 : Cond.code yX4_isBroken cX4_isBroken 3 (some .boolean) ∈ GW := GW_of (List.mem_of_getElem? (i := 551) (by decide +kernel)) rfl
theorem m673 : Cond.methodLink RX4 108 yX1_isRay ∈ GW := GW_of (List.mem_of_getElem? (i := 552) (by decide +kernel)) rfl
theorem m674 : Cond.methodLink RX4 111 yX1_weightOf ∈ GW := GW_of (List.mem_of_getElem? (i := 553) (by decide +kernel)) rfl
theorem m675 : Cond.methodLink RX4 114 yX1_valueOf ∈ GW := GW_of (List.mem_of_getElem? (i := 554) (by decide +kernel)) rfl
theorem m676 : Cond.methodLink RX4 117 yX3_routeCostOf ∈ GW := GW_of (List.mem_of_getElem? (i := 555) (by decide +kernel)) rfl
theorem m677 : Cond.methodLink RX5 216 yX4_countPlansThatAreTight ∈ GW := GW_of (List.mem_of_getElem? (i := 556) (by decide +kernel)) rfl
theorem m678 : Cond.instanceMethod yX4_countPlansThatAreTight ∈ GW := GW_of (List.mem_of_getElem? (i := 557) (by decide +kernel)) rfl
theorem m679 : Cond.selects RX4 yX4_countPlansThatAreTight yX4_countPlansThatAreTight ∈ GW := GW_of (List.mem_of_getElem? (i := 558) (by decide +kernel)) rfl
theorem m680 : Cond.code yX4_countPlansThatAreTight cX4_countPlansThatAreTight 4 (some .int) ∈ GW := GW_of (List.mem_of_getElem? (i := 559) (by decide +kernel)) rfl
theorem m681 : Cond.methodLink RX4 120 yX4_isTight ∈ GW := GW_of (List.mem_of_getElem? (i := 560) (by decide +kernel)) rfl
theorem m682 : Cond.instanceMethod yX4_isTight ∈ GW := GW_of (List.mem_of_getElem? (i := 561) (by decide +kernel)) rfl
theorem m683 : Cond.selects RX4 yX4_isTight yX4_isTight ∈ GW := GW_of (List.mem_of_getElem? (i := 562) (by decide +kernel)) rfl
theorem m684 : Cond.code yX4_isTight cX4_isTight 3 (some .boolean) ∈ GW := GW_of (List.mem_of_getElem? (i := 563) (by decide +kernel)) rfl
theorem m685 : Cond.methodLink RL 102 yX6_cut ∈ GW := GW_of (List.mem_of_getElem? (i := 870) (by decide +kernel)) rfl
theorem m686 : Cond.instanceMethod yX6_cut ∈ GW := GW_of (List.mem_of_getElem? (i := 871) (by decide +kernel)) rfl
theorem m687 : Cond.selects RX6 yX6_cut yX6_cut ∈ GW := GW_of (List.mem_of_getElem? (i := 872) (by decide +kernel)) rfl
theorem m688 : Cond.code yX6_cut cX6_cut 3 (some .int) ∈ GW := GW_of (List.mem_of_getElem? (i := 873) (by decide +kernel)) rfl
theorem m689 : Cond.methodLink RX6 153 yX6_plansBy ∈ GW := GW_of (List.mem_of_getElem? (i := 874) (by decide +kernel)) rfl
theorem m690 : Cond.instanceMethod yX6_plansBy ∈ GW := GW_of (List.mem_of_getElem? (i := 876) (by decide +kernel)) rfl
theorem m691 : Cond.selects RX6 yX6_plansBy yX6_plansBy ∈ GW := GW_of (List.mem_of_getElem? (i := 32) (by decide +kernel)) rfl
theorem m692 : Cond.code yX6_plansBy cX6_plansBy 7 (some .int) ∈ GW := GW_of (List.mem_of_getElem? (i := 877) (by decide +kernel)) rfl
theorem m693 : Cond.methodLink RX6 150 yX6_isFeasible ∈ GW := GW_of (List.mem_of_getElem? (i := 878) (by decide +kernel)) rfl
theorem m694 : Cond.instanceMethod yX6_isFeasible ∈ GW := GW_of (List.mem_of_getElem? (i := 880) (by decide +kernel)) rfl
theorem m695 : Cond.selects RX6 yX6_isFeasible yX6_isFeasible ∈ GW := GW_of (List.mem_of_getElem? (i := 33) (by decide +kernel)) rfl
theorem m696 : Cond.code yX6_isFeasible cX6_isFeasible 2 (some .boolean) ∈ GW := GW_of (List.mem_of_getElem? (i := 881) (by decide +kernel)) rfl
theorem m697 : Cond.methodLink RL 103 yX5_weight ∈ GW := GW_of (List.mem_of_getElem? (i := 564) (by decide +kernel)) rfl
theorem m698 : Cond.instanceMethod yX5_weight ∈ GW := GW_of (List.mem_of_getElem? (i := 565) (by decide +kernel)) rfl
theorem m699 : Cond.selects RX5 yX5_weight yX5_weight ∈ GW := GW_of (List.mem_of_getElem? (i := 566) (by decide +kernel)) rfl
theorem m700 : Cond.code yX5_weight cX5_weight 3 (some .int) ∈ GW := GW_of (List.mem_of_getElem? (i := 567) (by decide +kernel)) rfl
theorem m701 : Cond.fieldLink RX5 219 "SiteCuts$Cuts" "weights" "[[I" ∈ GW := GW_of (List.mem_of_getElem? (i := 119) (by decide +kernel)) rfl
theorem m702 : Cond.methodLink RL 106 yX6_weight ∈ GW := GW_of (List.mem_of_getElem? (i := 882) (by decide +kernel)) rfl
theorem m703 : Cond.instanceMethod yX6_weight ∈ GW := GW_of (List.mem_of_getElem? (i := 883) (by decide +kernel)) rfl
theorem m704 : Cond.selects RX6 yX6_weight yX6_weight ∈ GW := GW_of (List.mem_of_getElem? (i := 884) (by decide +kernel)) rfl
theorem m705 : Cond.code yX6_weight cX6_weight 3 (some .int) ∈ GW := GW_of (List.mem_of_getElem? (i := 885) (by decide +kernel)) rfl
theorem m706 : Cond.methodLink RL 107 yX5_value ∈ GW := GW_of (List.mem_of_getElem? (i := 568) (by decide +kernel)) rfl
theorem m707 : Cond.instanceMethod yX5_value ∈ GW := GW_of (List.mem_of_getElem? (i := 569) (by decide +kernel)) rfl
theorem m708 : Cond.selects RX5 yX5_value yX5_value ∈ GW := GW_of (List.mem_of_getElem? (i := 570) (by decide +kernel)) rfl
theorem m709 : Cond.code yX5_value cX5_value 3 (some .int) ∈ GW := GW_of (List.mem_of_getElem? (i := 571) (by decide +kernel)) rfl
theorem m710 : Cond.constant RX5 228 (1000000) ∈ GW := GW_of (List.mem_of_getElem? (i := 574) (by decide +kernel)) rfl
theorem m711 : Cond.methodLink RX5 222 yX1_weightOf ∈ GW := GW_of (List.mem_of_getElem? (i := 572) (by decide +kernel)) rfl
theorem m712 : Cond.methodLink RX5 225 yX1_valueOf ∈ GW := GW_of (List.mem_of_getElem? (i := 573) (by decide +kernel)) rfl
theorem m713 : Cond.methodLink RL 110 yX6_value ∈ GW := GW_of (List.mem_of_getElem? (i := 886) (by decide +kernel)) rfl
theorem m714 : Cond.instanceMethod yX6_value ∈ GW := GW_of (List.mem_of_getElem? (i := 887) (by decide +kernel)) rfl
theorem m715 : Cond.selects RX6 yX6_value yX6_value ∈ GW := GW_of (List.mem_of_getElem? (i := 888) (by decide +kernel)) rfl
theorem m716 : Cond.code yX6_value cX6_value 3 (some .int) ∈ GW := GW_of (List.mem_of_getElem? (i := 889) (by decide +kernel)) rfl
theorem m717 : Cond.constant RX6 157 (1000000) ∈ GW := GW_of (List.mem_of_getElem? (i := 890) (by decide +kernel)) rfl
theorem m718 : Cond.methodLink RL 111 yX5_master ∈ GW := GW_of (List.mem_of_getElem? (i := 575) (by decide +kernel)) rfl
theorem m719 : Cond.instanceMethod yX5_master ∈ GW := GW_of (List.mem_of_getElem? (i := 576) (by decide +kernel)) rfl
theorem m720 : Cond.selects RX5 yX5_master yX5_master ∈ GW := GW_of (List.mem_of_getElem? (i := 577) (by decide +kernel)) rfl
theorem m721 : Cond.code yX5_master cX5_master 2 (some .int) ∈ GW := GW_of (List.mem_of_getElem? (i := 578) (by decide +kernel)) rfl
theorem m722 : Cond.fieldLink RX5 235 "SiteCuts$State" "best" "I" ∈ GW := GW_of (List.mem_of_getElem? (i := 134) (by decide +kernel)) rfl
theorem m723 : Cond.methodLink RX5 229 yX5_planOrNone ∈ GW := GW_of (List.mem_of_getElem? (i := 579) (by decide +kernel)) rfl
theorem m724 : Cond.static yX5_planOrNone ∈ GW := GW_of (List.mem_of_getElem? (i := 580) (by decide +kernel)) rfl
theorem m725 : Cond.code yX5_planOrNone cX5_planOrNone 1 (some .int) ∈ GW := GW_of (List.mem_of_getElem? (i := 581) (by decide +kernel)) rfl
theorem m726 : Cond.methodLink RX5 232 yX5_lowerBound ∈ GW := GW_of (List.mem_of_getElem? (i := 582) (by decide +kernel)) rfl
theorem m727 : Cond.instanceMethod yX5_lowerBound ∈ GW := GW_of (List.mem_of_getElem? (i := 584) (by decide +kernel)) rfl
theorem m728 : Cond.selects RX5 yX5_lowerBound yX5_lowerBound ∈ GW := GW_of (List.mem_of_getElem? (i := 0) (by decide +kernel)) rfl
theorem m729 : Cond.code yX5_lowerBound cX5_lowerBound 2 (some .int) ∈ GW := GW_of (List.mem_of_getElem? (i := 585) (by decide +kernel)) rfl
theorem m730 : Cond.methodLink RX5 238 yX5_costOrNone ∈ GW := GW_of (List.mem_of_getElem? (i := 586) (by decide +kernel)) rfl
theorem m731 : Cond.instanceMethod yX5_costOrNone ∈ GW := GW_of (List.mem_of_getElem? (i := 588) (by decide +kernel)) rfl
theorem m732 : Cond.selects RX5 yX5_costOrNone yX5_costOrNone ∈ GW := GW_of (List.mem_of_getElem? (i := 1) (by decide +kernel)) rfl
theorem m733 : Cond.code yX5_costOrNone cX5_costOrNone 2 (some .int) ∈ GW := GW_of (List.mem_of_getElem? (i := 589) (by decide +kernel)) rfl
theorem m734 : Cond.methodLink RX5 241 yX5_gap ∈ GW := GW_of (List.mem_of_getElem? (i := 590) (by decide +kernel)) rfl
theorem m735 : Cond.instanceMethod yX5_gap ∈ GW := GW_of (List.mem_of_getElem? (i := 592) (by decide +kernel)) rfl
theorem m736 : Cond.selects RX5 yX5_gap yX5_gap ∈ GW := GW_of (List.mem_of_getElem? (i := 2) (by decide +kernel)) rfl
theorem m737 : Cond.code yX5_gap cX5_gap 2 (some .int) ∈ GW := GW_of (List.mem_of_getElem? (i := 593) (by decide +kernel)) rfl
theorem m738 : Cond.methodLink RL 114 yX6_master ∈ GW := GW_of (List.mem_of_getElem? (i := 891) (by decide +kernel)) rfl
theorem m739 : Cond.instanceMethod yX6_master ∈ GW := GW_of (List.mem_of_getElem? (i := 892) (by decide +kernel)) rfl
theorem m740 : Cond.selects RX6 yX6_master yX6_master ∈ GW := GW_of (List.mem_of_getElem? (i := 893) (by decide +kernel)) rfl
theorem m741 : Cond.code yX6_master cX6_master 6 (some .int) ∈ GW := GW_of (List.mem_of_getElem? (i := 894) (by decide +kernel)) rfl
theorem m742 : Cond.methodLink RL 115 yX5_byAll ∈ GW := GW_of (List.mem_of_getElem? (i := 594) (by decide +kernel)) rfl
theorem m743 : Cond.instanceMethod yX5_byAll ∈ GW := GW_of (List.mem_of_getElem? (i := 595) (by decide +kernel)) rfl
theorem m744 : Cond.selects RX5 yX5_byAll yX5_byAll ∈ GW := GW_of (List.mem_of_getElem? (i := 596) (by decide +kernel)) rfl
theorem m745 : Cond.code yX5_byAll cX5_byAll 2 (some .int) ∈ GW := GW_of (List.mem_of_getElem? (i := 597) (by decide +kernel)) rfl
theorem m746 : Cond.methodLink RX5 244 yX3_findBestPlan ∈ GW := GW_of (List.mem_of_getElem? (i := 598) (by decide +kernel)) rfl
theorem m747 : Cond.instanceMethod yX3_findBestPlan ∈ GW := GW_of (List.mem_of_getElem? (i := 599) (by decide +kernel)) rfl
theorem m748 : Cond.selects RX3 yX3_findBestPlan yX3_findBestPlan ∈ GW := GW_of (List.mem_of_getElem? (i := 600) (by decide +kernel)) rfl
theorem m749 : Cond.code yX3_findBestPlan cX3_findBestPlan 4 (some .int) ∈ GW := GW_of (List.mem_of_getElem? (i := 601) (by decide +kernel)) rfl
theorem m750 : Cond.methodLink RX3 81 yX3_isFeasible ∈ GW := GW_of (List.mem_of_getElem? (i := 602) (by decide +kernel)) rfl
theorem m751 : Cond.methodLink RX3 84 yX3_costOf ∈ GW := GW_of (List.mem_of_getElem? (i := 603) (by decide +kernel)) rfl
theorem m752 : Cond.methodLink RX5 247 yX3_countFeasiblePlans ∈ GW := GW_of (List.mem_of_getElem? (i := 604) (by decide +kernel)) rfl
theorem m753 : Cond.instanceMethod yX3_countFeasiblePlans ∈ GW := GW_of (List.mem_of_getElem? (i := 605) (by decide +kernel)) rfl
theorem m754 : Cond.selects RX3 yX3_countFeasiblePlans yX3_countFeasiblePlans ∈ GW := GW_of (List.mem_of_getElem? (i := 606) (by decide +kernel)) rfl
theorem m755 : Cond.code yX3_countFeasiblePlans cX3_countFeasiblePlans 3 (some .int) ∈ GW := GW_of (List.mem_of_getElem? (i := 607) (by decide +kernel)) rfl
theorem m756 : Cond.methodLink RL 118 yX6_byAll ∈ GW := GW_of (List.mem_of_getElem? (i := 895) (by decide +kernel)) rfl
theorem m757 : Cond.instanceMethod yX6_byAll ∈ GW := GW_of (List.mem_of_getElem? (i := 896) (by decide +kernel)) rfl
theorem m758 : Cond.selects RX6 yX6_byAll yX6_byAll ∈ GW := GW_of (List.mem_of_getElem? (i := 897) (by decide +kernel)) rfl
theorem m759 : Cond.code yX6_byAll cX6_byAll 7 (some .int) ∈ GW := GW_of (List.mem_of_getElem? (i := 898) (by decide +kernel)) rfl
theorem m760 : Cond.methodLink RL 119 yX5_count ∈ GW := GW_of (List.mem_of_getElem? (i := 608) (by decide +kernel)) rfl
theorem m761 : Cond.instanceMethod yX5_count ∈ GW := GW_of (List.mem_of_getElem? (i := 609) (by decide +kernel)) rfl
theorem m762 : Cond.selects RX5 yX5_count yX5_count ∈ GW := GW_of (List.mem_of_getElem? (i := 610) (by decide +kernel)) rfl
theorem m763 : Cond.code yX5_count cX5_count 2 (some .int) ∈ GW := GW_of (List.mem_of_getElem? (i := 611) (by decide +kernel)) rfl
theorem m764 : Cond.fieldLink RX5 259 "SiteCuts$State" "steps" "I" ∈ GW := GW_of (List.mem_of_getElem? (i := 136) (by decide +kernel)) rfl
theorem m765 : Cond.methodLink RX5 250 yX3_countRoutes ∈ GW := GW_of (List.mem_of_getElem? (i := 612) (by decide +kernel)) rfl
theorem m766 : Cond.instanceMethod yX3_countRoutes ∈ GW := GW_of (List.mem_of_getElem? (i := 613) (by decide +kernel)) rfl
theorem m767 : Cond.selects RX3 yX3_countRoutes yX3_countRoutes ∈ GW := GW_of (List.mem_of_getElem? (i := 614) (by decide +kernel)) rfl
theorem m768 : Cond.code yX3_countRoutes cX3_countRoutes 4 (some .int) ∈ GW := GW_of (List.mem_of_getElem? (i := 615) (by decide +kernel)) rfl
theorem m769 : Cond.methodLink RX5 253 yX3_countExcludingPairs ∈ GW := GW_of (List.mem_of_getElem? (i := 616) (by decide +kernel)) rfl
theorem m770 : Cond.instanceMethod yX3_countExcludingPairs ∈ GW := GW_of (List.mem_of_getElem? (i := 617) (by decide +kernel)) rfl
theorem m771 : Cond.selects RX3 yX3_countExcludingPairs yX3_countExcludingPairs ∈ GW := GW_of (List.mem_of_getElem? (i := 618) (by decide +kernel)) rfl
theorem m772 : Cond.code yX3_countExcludingPairs cX3_countExcludingPairs 4 (some .int) ∈ GW := GW_of (List.mem_of_getElem? (i := 619) (by decide +kernel)) rfl
theorem m773 : Cond.methodLink RX3 87 yX3_areExcluding ∈ GW := GW_of (List.mem_of_getElem? (i := 620) (by decide +kernel)) rfl
theorem m774 : Cond.methodLink RX5 256 yX1_countRays ∈ GW := GW_of (List.mem_of_getElem? (i := 621) (by decide +kernel)) rfl
theorem m775 : Cond.instanceMethod yX1_countRays ∈ GW := GW_of (List.mem_of_getElem? (i := 622) (by decide +kernel)) rfl
theorem m776 : Cond.selects RX1 yX1_countRays yX1_countRays ∈ GW := GW_of (List.mem_of_getElem? (i := 623) (by decide +kernel)) rfl
theorem m777 : Cond.code yX1_countRays cX1_countRays 3 (some .int) ∈ GW := GW_of (List.mem_of_getElem? (i := 624) (by decide +kernel)) rfl
theorem m778 : Cond.methodLink RL 122 yX6_count ∈ GW := GW_of (List.mem_of_getElem? (i := 899) (by decide +kernel)) rfl
theorem m779 : Cond.instanceMethod yX6_count ∈ GW := GW_of (List.mem_of_getElem? (i := 900) (by decide +kernel)) rfl
theorem m780 : Cond.selects RX6 yX6_count yX6_count ∈ GW := GW_of (List.mem_of_getElem? (i := 901) (by decide +kernel)) rfl
theorem m781 : Cond.code yX6_count cX6_count 2 (some .int) ∈ GW := GW_of (List.mem_of_getElem? (i := 902) (by decide +kernel)) rfl
theorem m782 : Cond.methodLink RX6 158 yX6_allRoutes ∈ GW := GW_of (List.mem_of_getElem? (i := 903) (by decide +kernel)) rfl
theorem m783 : Cond.instanceMethod yX6_allRoutes ∈ GW := GW_of (List.mem_of_getElem? (i := 905) (by decide +kernel)) rfl
theorem m784 : Cond.selects RX6 yX6_allRoutes yX6_allRoutes ∈ GW := GW_of (List.mem_of_getElem? (i := 34) (by decide +kernel)) rfl
theorem m785 : Cond.code yX6_allRoutes cX6_allRoutes 3 (some .int) ∈ GW := GW_of (List.mem_of_getElem? (i := 906) (by decide +kernel)) rfl
theorem m786 : Cond.methodLink RX6 161 yX6_pairs ∈ GW := GW_of (List.mem_of_getElem? (i := 907) (by decide +kernel)) rfl
theorem m787 : Cond.instanceMethod yX6_pairs ∈ GW := GW_of (List.mem_of_getElem? (i := 909) (by decide +kernel)) rfl
theorem m788 : Cond.selects RX6 yX6_pairs yX6_pairs ∈ GW := GW_of (List.mem_of_getElem? (i := 35) (by decide +kernel)) rfl
theorem m789 : Cond.code yX6_pairs cX6_pairs 3 (some .int) ∈ GW := GW_of (List.mem_of_getElem? (i := 910) (by decide +kernel)) rfl
theorem m790 : Cond.methodLink RX6 164 yX6_rays ∈ GW := GW_of (List.mem_of_getElem? (i := 911) (by decide +kernel)) rfl
theorem m791 : Cond.instanceMethod yX6_rays ∈ GW := GW_of (List.mem_of_getElem? (i := 913) (by decide +kernel)) rfl
theorem m792 : Cond.selects RX6 yX6_rays yX6_rays ∈ GW := GW_of (List.mem_of_getElem? (i := 36) (by decide +kernel)) rfl
theorem m793 : Cond.code yX6_rays cX6_rays 3 (some .int) ∈ GW := GW_of (List.mem_of_getElem? (i := 914) (by decide +kernel)) rfl
theorem w5_0 : u_lay RX5 TX5 0 ∈ GW := GW_of (List.mem_of_getElem? (i := 185) (by decide +kernel)) rfl
theorem w5_1 : u_lay RX5 TX5 1 ∈ GW := GW_of (List.mem_of_getElem? (i := 187) (by decide +kernel)) rfl
theorem w5_2 : u_lay RX5 TX5 2 ∈ GW := GW_of (List.mem_of_getElem? (i := 189) (by decide +kernel)) rfl
theorem w5_3 : u_lay RX5 TX5 3 ∈ GW := GW_of (List.mem_of_getElem? (i := 191) (by decide +kernel)) rfl
theorem w5_4 : u_lay RX5 TX5 4 ∈ GW := GW_of (List.mem_of_getElem? (i := 193) (by decide +kernel)) rfl
theorem w5_5 : u_lay RX5 TX5 5 ∈ GW := GW_of (List.mem_of_getElem? (i := 195) (by decide +kernel)) rfl
theorem w5_6 : u_lay RX5 TX5 6 ∈ GW := GW_of (List.mem_of_getElem? (i := 197) (by decide +kernel)) rfl
theorem inlX5 : ∀ w ∈ u_ws RX5 TX5 7, w ∈ GW := List.forall_mem_cons.mpr ⟨w5_0, List.forall_mem_cons.mpr ⟨w5_1, List.forall_mem_cons.mpr ⟨w5_2, List.forall_mem_cons.mpr ⟨w5_3, List.forall_mem_cons.mpr ⟨w5_4, List.forall_mem_cons.mpr ⟨w5_5, List.forall_mem_cons.mpr ⟨w5_6, fun _ h => absurd h List.not_mem_nil⟩⟩⟩⟩⟩⟩⟩
theorem w6_0 : u_lay RX6 TX6 0 ∈ GW := GW_of (List.mem_of_getElem? (i := 641) (by decide +kernel)) rfl
theorem w6_1 : u_lay RX6 TX6 1 ∈ GW := GW_of (List.mem_of_getElem? (i := 643) (by decide +kernel)) rfl
theorem w6_2 : u_lay RX6 TX6 2 ∈ GW := GW_of (List.mem_of_getElem? (i := 645) (by decide +kernel)) rfl
theorem w6_3 : u_lay RX6 TX6 3 ∈ GW := GW_of (List.mem_of_getElem? (i := 647) (by decide +kernel)) rfl
theorem w6_4 : u_lay RX6 TX6 4 ∈ GW := GW_of (List.mem_of_getElem? (i := 649) (by decide +kernel)) rfl
theorem w6_5 : u_lay RX6 TX6 5 ∈ GW := GW_of (List.mem_of_getElem? (i := 651) (by decide +kernel)) rfl
theorem w6_6 : u_lay RX6 TX6 6 ∈ GW := GW_of (List.mem_of_getElem? (i := 653) (by decide +kernel)) rfl
theorem w6_7 : u_lay RX6 TX6 7 ∈ GW := GW_of (List.mem_of_getElem? (i := 655) (by decide +kernel)) rfl
theorem w6_8 : u_lay RX6 TX6 8 ∈ GW := GW_of (List.mem_of_getElem? (i := 657) (by decide +kernel)) rfl
theorem w6_9 : u_lay RX6 TX6 9 ∈ GW := GW_of (List.mem_of_getElem? (i := 659) (by decide +kernel)) rfl
theorem inlX6 : ∀ w ∈ u_ws RX6 TX6 10, w ∈ GW := List.forall_mem_cons.mpr ⟨w6_0, List.forall_mem_cons.mpr ⟨w6_1, List.forall_mem_cons.mpr ⟨w6_2, List.forall_mem_cons.mpr ⟨w6_3, List.forall_mem_cons.mpr ⟨w6_4, List.forall_mem_cons.mpr ⟨w6_5, List.forall_mem_cons.mpr ⟨w6_6, List.forall_mem_cons.mpr ⟨w6_7, List.forall_mem_cons.mpr ⟨w6_8, List.forall_mem_cons.mpr ⟨w6_9, fun _ h => absurd h List.not_mem_nil⟩⟩⟩⟩⟩⟩⟩⟩⟩⟩
theorem w4_0 : u_lay RX4 TX4 0 ∈ GW := GW_of (List.mem_of_getElem? (i := 137) (by decide +kernel)) rfl
theorem w4_1 : u_lay RX4 TX4 1 ∈ GW := GW_of (List.mem_of_getElem? (i := 139) (by decide +kernel)) rfl
theorem w4_2 : u_lay RX4 TX4 2 ∈ GW := GW_of (List.mem_of_getElem? (i := 141) (by decide +kernel)) rfl
theorem w4_3 : u_lay RX4 TX4 3 ∈ GW := GW_of (List.mem_of_getElem? (i := 143) (by decide +kernel)) rfl
theorem inlX4 : ∀ w ∈ u_ws RX4 TX4 4, w ∈ GW := List.forall_mem_cons.mpr ⟨w4_0, List.forall_mem_cons.mpr ⟨w4_1, List.forall_mem_cons.mpr ⟨w4_2, List.forall_mem_cons.mpr ⟨w4_3, fun _ h => absurd h List.not_mem_nil⟩⟩⟩⟩
theorem w2_0 : u_lay RX2 TX2 0 ∈ GW := GW_of (List.mem_of_getElem? (i := 158) (by decide +kernel)) rfl
theorem w2_1 : u_lay RX2 TX2 1 ∈ GW := GW_of (List.mem_of_getElem? (i := 160) (by decide +kernel)) rfl
theorem inlX2 : ∀ w ∈ u_ws RX2 TX2 2, w ∈ GW := List.forall_mem_cons.mpr ⟨w2_0, List.forall_mem_cons.mpr ⟨w2_1, fun _ h => absurd h List.not_mem_nil⟩⟩
theorem w0_0 : u_lay RX0 TX0 0 ∈ GW := GW_of (List.mem_of_getElem? (i := 172) (by decide +kernel)) rfl
theorem w0_1 : u_lay RX0 TX0 1 ∈ GW := GW_of (List.mem_of_getElem? (i := 174) (by decide +kernel)) rfl
theorem inlX0 : ∀ w ∈ u_ws RX0 TX0 2, w ∈ GW := List.forall_mem_cons.mpr ⟨w0_0, List.forall_mem_cons.mpr ⟨w0_1, fun _ h => absurd h List.not_mem_nil⟩⟩
theorem w3_0 : u_lay RX3 TX3 0 ∈ GW := GW_of (List.mem_of_getElem? (i := 88) (by decide +kernel)) rfl
theorem w3_1 : u_lay RX3 TX3 1 ∈ GW := GW_of (List.mem_of_getElem? (i := 90) (by decide +kernel)) rfl
theorem w3_2 : u_lay RX3 TX3 2 ∈ GW := GW_of (List.mem_of_getElem? (i := 92) (by decide +kernel)) rfl
theorem w3_3 : u_lay RX3 TX3 3 ∈ GW := GW_of (List.mem_of_getElem? (i := 94) (by decide +kernel)) rfl
theorem w3_4 : u_lay RX3 TX3 4 ∈ GW := GW_of (List.mem_of_getElem? (i := 96) (by decide +kernel)) rfl
theorem w3_5 : u_lay RX3 TX3 5 ∈ GW := GW_of (List.mem_of_getElem? (i := 98) (by decide +kernel)) rfl
theorem w3_6 : u_lay RX3 TX3 6 ∈ GW := GW_of (List.mem_of_getElem? (i := 100) (by decide +kernel)) rfl
theorem inlX3 : ∀ w ∈ u_ws RX3 TX3 7, w ∈ GW := List.forall_mem_cons.mpr ⟨w3_0, List.forall_mem_cons.mpr ⟨w3_1, List.forall_mem_cons.mpr ⟨w3_2, List.forall_mem_cons.mpr ⟨w3_3, List.forall_mem_cons.mpr ⟨w3_4, List.forall_mem_cons.mpr ⟨w3_5, List.forall_mem_cons.mpr ⟨w3_6, fun _ h => absurd h List.not_mem_nil⟩⟩⟩⟩⟩⟩⟩
theorem w1_0 : u_lay RX1 TX1 0 ∈ GW := GW_of (List.mem_of_getElem? (i := 120) (by decide +kernel)) rfl
theorem w1_1 : u_lay RX1 TX1 1 ∈ GW := GW_of (List.mem_of_getElem? (i := 122) (by decide +kernel)) rfl
theorem w1_2 : u_lay RX1 TX1 2 ∈ GW := GW_of (List.mem_of_getElem? (i := 124) (by decide +kernel)) rfl
theorem w1_3 : u_lay RX1 TX1 3 ∈ GW := GW_of (List.mem_of_getElem? (i := 126) (by decide +kernel)) rfl
theorem inlX1 : ∀ w ∈ u_ws RX1 TX1 4, w ∈ GW := List.forall_mem_cons.mpr ⟨w1_0, List.forall_mem_cons.mpr ⟨w1_1, List.forall_mem_cons.mpr ⟨w1_2, List.forall_mem_cons.mpr ⟨w1_3, fun _ h => absurd h List.not_mem_nil⟩⟩⟩⟩
end
section
/-! THE LAYER: one world of N numbered cells at addresses ad 0, ad 1 ..; what they hold: V. A method that only reads: RM. One that writes: MM, MV. -/
abbrev CL4 : Type := ClassId × ClassId × ClassId × ClassId
def tyL (t : CL4) : List (ClassId × FieldType) := [(t.1, .int), (t.2.1, .char), (t.2.2.1, .array .int), (t.2.2.2, .object RX4)]
def nw3 : Cond := .methodLinkNest RX3 40 yX5_isIn RX5
def nw1 : Cond := .methodLinkNest RX1 59 yX5_isIn RX5
/-- what a state's tables say, beside the words of GW -/
def Cx (dd : va_G) (t : CL4) (U : State) : Prop := va_K dd vwCl (tyL t) U ∧ va_Nw nw3 U ∧ va_Nw nw1 U
theorem Cx.warm {dd : va_G} {t : CL4} {s U : State} (hW : s.WarmedH U.vm) (h : Cx dd t s) : Cx dd t U := ⟨va_K.moved hW.alike h.1, va_Nw.warmM hW h.2.1, va_Nw.warmM hW h.2.2⟩
theorem Cx.calling {dd : va_G} {t : CL4} {U : State} {g : JFrame} {mk : MethodId} {a : Array Value} (h : Cx dd t U) : Cx dd t (U.calling g mk a) :=
  ⟨va_K.moved (u := U) (U := U.calling g mk a) (Vm.Alike.refl U.vm) h.1, va_Nw.same (u := U) rfl rfl h.2.1, va_Nw.same (u := U) rfl rfl h.2.2⟩
def WX (p : Program) (s : State) (m : MethodId) (as : Array Value) (c : Code) (cc : ByteArray) (nL : Nat) (own : String) (dd : va_G) (t : CL4) : Prop := CallFix p m c cc nL s as GW own ∧ Cx dd t s
/-- the world -/
def wd (N : Nat) (ad : Nat → Nat) (V : Nat → va_E) : va_W := (List.range N).map (fun k => (ad k, V k))
theorem wd_at {N : Nat} {ad : Nat → Nat} {V : Nat → va_E} {k : Nat} (h : k < N) : (wd N ad V)[k]? = some (ad k, V k) := by
  unfold wd
  rw [List.getElem?_map, List.getElem?_range h]
  rfl
theorem wd_len {N : Nat} {ad : Nat → Nat} {V : Nat → va_E} : (wd N ad V).length = N := by simp [wd]
theorem wd_of {N : Nat} {ad : Nat → Nat} {V : Nat → va_E} {k : Nat} {q : Nat × va_E} (h : (wd N ad V)[k]? = some q) : k < N ∧ q = (ad k, V k) := by
  have hk : k < N := by
    have := (List.getElem?_eq_some_iff.mp h).1
    rwa [wd_len] at this
  rw [wd_at hk] at h
  exact ⟨hk, (Option.some.inj h).symm⟩
theorem wd_set {N : Nat} {ad : Nat → Nat} {V : Nat → va_E} {k : Nat} {e : va_E} (h : k < N) : (wd N ad V).set k (ad k, e) = wd N ad (va_up V k e) := by
  apply List.ext_getElem?
  intro j
  by_cases hj : j = k
  · subst hj
    rw [List.getElem?_set_self (by rw [wd_len]; exact h), wd_at h, va_up_self]
  · rw [List.getElem?_set_ne (Ne.symm hj)]
    by_cases hN : j < N
    · rw [wd_at hN, wd_at hN, va_up_ne _ _ hj]
    · rw [List.getElem?_eq_none (by rw [wd_len]; omega), List.getElem?_eq_none (by rw [wd_len]; omega)]
def inj (N : Nat) (ad : Nat → Nat) : Prop := ∀ i j, i < N → j < N → ad i = ad j → i = j
def dm (N : Nat) (ad : Nat → Nat) (sz : Nat) : Nat → Prop := fun q => (∃ k, k < N ∧ q = ad k) ∨ sz ≤ q
theorem dm_in {N : Nat} {ad : Nat → Nat} {sz k : Nat} (h : k < N) : dm N ad sz (ad k) := Or.inl ⟨k, h, rfl⟩
theorem dm_new {N : Nat} {ad : Nat → Nat} {sz q : Nat} (h : sz ≤ q) : dm N ad sz q := Or.inr h
theorem wd_D {N : Nat} {ad : Nat → Nat} {V : Nat → va_E} {sz : Nat} (hi : inj N ad) : va_D (dm N ad sz) (wd N ad V) := by
  refine ⟨fun i j p q h1 h2 h3 => ?_, fun k q h => ?_⟩
  · obtain ⟨a1, a2⟩ := wd_of h1
    obtain ⟨b1, b2⟩ := wd_of h2
    rw [a2, b2] at h3
    exact hi i j a1 b1 h3
  · obtain ⟨a1, a2⟩ := wd_of h
    rw [a2]
    exact dm_in a1
abbrev HP (dd : va_G) (N : Nat) (ad : Nat → Nat) (V : Nat → va_E) (H : Heap) : Prop := va_P dd vwCl (wd N ad V) H
theorem HP.congr {dd : va_G} {N : Nat} {ad : Nat → Nat} {V V' : Nat → va_E} {H : Heap} (h : HP dd N ad V H) (e : ∀ k, k < N → V' k = V k) : HP dd N ad V' H := by
  intro k q hq
  obtain ⟨a1, a2⟩ := wd_of hq
  rw [a2, e k a1]
  exact h k _ (wd_at a1)
theorem dm_mono {N : Nat} {ad : Nat → Nat} {sz sz' q : Nat} (h : sz ≤ sz') (hq : dm N ad sz' q) : dm N ad sz q := by
  rcases hq with h1 | h1
  · exact Or.inl h1
  · exact Or.inr (Nat.le_trans h h1)
/-- contracts -/
def RM (l : Launch) (dd : va_G) (t : CL4) (N : Nat) (ad : Nat → Nat) (V : Nat → va_E) (y : MethodName) (b : ByteArray) (nL : Nat) (ret : Option FieldType) (rm : Room) (args : List Value) (v : Int32) : Prop :=
  Met l y (Cond.code y b nL ret :: GW) rm (va_Pc args (fun U => Cx dd t U ∧ HP dd N ad V U.heap)) (vp_Si (fun r => r = v)) 0 0 (fun _ => False)
def MM (l : Launch) (dd : va_G) (t : CL4) (N : Nat) (ad : Nat → Nat) (V : Nat → va_E) (y : MethodName) (b : ByteArray) (nL : Nat) (ret : Option FieldType) (rm : Room) (args : List Value) (post : Int32 → (Nat → va_E) → Prop) : Prop :=
  ∀ sz : Nat, Met l y (Cond.code y b nL ret :: GW) rm (va_Pc args (fun U => U.heap.size = sz ∧ Cx dd t U ∧ HP dd N ad V U.heap)) (va_Qi post (fun V' t' => HP dd N ad V' t'.heap) (dm N ad sz)) 0 0 (dm N ad sz)
def MV (l : Launch) (dd : va_G) (t : CL4) (N : Nat) (ad : Nat → Nat) (V : Nat → va_E) (y : MethodName) (b : ByteArray) (nL : Nat) (rm : Room) (args : List Value) (post : (Nat → va_E) → Prop) : Prop :=
  ∀ sz : Nat, Met l y (Cond.code y b nL none :: GW) rm (va_Pc args (fun U => U.heap.size = sz ∧ Cx dd t U ∧ HP dd N ad V U.heap)) (va_Qv post (fun V' t' => HP dd N ad V' t'.heap) (dm N ad sz)) 0 0 (dm N ad sz)
section LY
variable {p : Program} {l : Launch} {e : Env} {R : Room} {s : State} {m : MethodId} {as : Array Value} {below : List Frame} {meth : Method} {c : Code} {H H0 : Heap} {locs : List Loc} {cells slots : Nat} {Q : State → Prop}
variable {cc : ByteArray} {nL pc : Nat} {own : String} {ls : Array Slot} {rest : List Value} {dd : va_G} {t : CL4} {N : Nat} {ad : Nat → Nat} {V : Nat → va_E}
theorem r_get (X : WX p s m as c cc nL own dd t) (hP : HP dd N ad V H) {k ci : Nat} {C : String} {T : u_T} {n : Nat} (hc : vwCl[ci]? = some (C, T, n)) (hin : ∀ w ∈ u_ws C T n, w ∈ GW) {fs : List Value} (hk : k < N) (hV : V k = .inr (ci, fs)) (j : Nat) (hj : j < n) {index : Nat}
    (hlink : Cond.fieldLink own index (T j).1 (T j).2.1 (T j).2.2.1 ∈ GW) {v : Value} (hv : fs[j]? = some v) (hdg : decode cc pc = .ok (.getfield index, 3))
    (kk : W p l e R s m as below meth c H locs cells slots Q (F0 m (pc + 3) ls (v :: rest))) : W p l e R s m as below meth c H locs cells slots Q (F0 m pc ls (.ref (ad k) :: rest)) :=
  va_get X.1.1 X.1.2.1 X.1.2.2.2.2 hin X.1.2.2.2.1 X.2.1 hP k (by rw [wd_at hk, hV]) hc j hj (X.1.2.2.2.2 _ hlink) (fun _ h => h) hv hdg kk
theorem r_put (X : WX p s m as c cc nL own dd t) (hi : inj N ad) (hP : HP dd N ad V H) (hS : va_S (dm N ad H0.size) H0 H locs) {k ci : Nat} {C : String} {T : u_T} {n : Nat} (hc : vwCl[ci]? = some (C, T, n)) (hin : ∀ w ∈ u_ws C T n, w ∈ GW)
    (ty0 : Nat → FieldType) (hty : ∀ k, k < n → parseFieldDescriptor (T k).2.2.1 = some (ty0 k)) (hnm : ∀ a, a < n → ∀ b, b < n → a ≠ b → (T a).2.1 ≠ (T b).2.1) {fs : List Value} (hk : k < N) (hV : V k = .inr (ci, fs)) (j : Nat) (hj : j < n) {index : Nat}
    (hlink : Cond.fieldLink own index (T j).1 (T j).2.1 (T j).2.2.1 ∈ GW) (hfin : (T j).2.2.2 = false) {ty : FieldType} {v : Value} (hd : parseFieldDescriptor (T j).2.2.1 = some ty) (hn : narrow ty v = v) (hfit : fits ty v = true) (hl : j < fs.length) {fs' : List Value} (hfs : fs.set j v = fs') (hdg : decode cc pc = .ok (.putfield index, 3))
    (kk : ∀ (V1 : Nat → va_E) (H1 : Heap) (locs1 : List Loc), V1 k = .inr (ci, fs') → (∀ i, i ≠ k → V1 i = V i) → HP dd N ad V1 H1 → va_S (dm N ad H0.size) H0 H1 locs1 → W p l e R s m as below meth c H1 locs1 cells slots Q (F0 m (pc + 3) ls rest)) : W p l e R s m as below meth c H locs cells slots Q (F0 m pc ls (v :: .ref (ad k) :: rest)) := by
  subst hfs
  refine va_put X.1.1 X.1.2.1 X.1.2.2.2.2 hin ty0 hty hnm X.1.2.2.2.1 X.2.1 hP (wd_D hi) hS k (by rw [wd_at hk, hV]) hc j hj (X.1.2.2.2.2 _ hlink) (fun _ h => h) hfin hd hn hfit hl hdg (fun H1 locs1 hP1 _ hS1 => ?_)
  rw [wd_set hk] at hP1
  exact kk _ H1 locs1 (va_up_self _ _ _) (fun i hi => va_up_ne _ _ hi) hP1 hS1
theorem r_ild (X : WX p s m as c cc nL own dd t) (hP : HP dd N ad V H) {k n : Nat} {f : Nat → Int32} (hk : k < N) (hV : V k = .inl (t.1, n, .inl f)) {j : Nat} (hj : j < n) (hn : n < 2 ^ 31) (hdg : decode cc pc = .ok (.iaload, 1))
    (kk : W p l e R s m as below meth c H locs cells slots Q (F0 m (pc + 1) ls (.int (f j) :: rest))) : W p l e R s m as below meth c H locs cells slots Q (F0 m pc ls (.int (nI j) :: .ref (ad k) :: rest)) := by
  refine va_iald X.1.1 X.1.2.1 X.2.1 hP k 0 (by rw [wd_at hk, hV]) rfl (vp_in_nI hj hn) hdg ?_
  rw [nI_clamp (by omega)]
  exact kk
theorem r_cld (X : WX p s m as c cc nL own dd t) (hP : HP dd N ad V H) {k n : Nat} {f : Nat → Int32} (hk : k < N) (hV : V k = .inl (t.2.1, n, .inl f)) {j : Nat} (hj : j < n) (hn : n < 2 ^ 31) (hdg : decode cc pc = .ok (.caload, 1))
    (kk : W p l e R s m as below meth c H locs cells slots Q (F0 m (pc + 1) ls (.int (f j) :: rest))) : W p l e R s m as below meth c H locs cells slots Q (F0 m pc ls (.int (nI j) :: .ref (ad k) :: rest)) := by
  refine va_cald X.1.1 X.1.2.1 X.2.1 hP k 1 (by rw [wd_at hk, hV]) rfl (vp_in_nI hj hn) hdg ?_
  rw [nI_clamp (by omega)]
  exact kk
theorem r_ist (X : WX p s m as c cc nL own dd t) (hi : inj N ad) (hP : HP dd N ad V H) (hS : va_S (dm N ad H0.size) H0 H locs) {k n : Nat} {f : Nat → Int32} (hk : k < N) (hV : V k = .inl (t.1, n, .inl f)) {j : Nat} {x : Int32} (hj : j < n) (hn : n < 2 ^ 31) (hdg : decode cc pc = .ok (.iastore, 1))
    (kk : ∀ (V1 : Nat → va_E) (H1 : Heap) (locs1 : List Loc), V1 k = .inl (t.1, n, .inl (upd f j x)) → (∀ i, i ≠ k → V1 i = V i) → HP dd N ad V1 H1 → va_S (dm N ad H0.size) H0 H1 locs1 → W p l e R s m as below meth c H1 locs1 cells slots Q (F0 m (pc + 1) ls rest)) : W p l e R s m as below meth c H locs cells slots Q (F0 m pc ls (.int x :: .int (nI j) :: .ref (ad k) :: rest)) := by
  refine va_iast X.1.1 X.1.2.1 X.2.1 hP (wd_D hi) hS k 0 (by rw [wd_at hk, hV]) rfl (vp_in_nI hj hn) hdg (fun H1 locs1 hP1 _ hS1 => ?_)
  rw [nI_clamp (by omega), wd_set hk] at hP1
  exact kk _ H1 locs1 (va_up_self _ _ _) (fun i hi => va_up_ne _ _ hi) hP1 hS1
theorem r_cst (X : WX p s m as c cc nL own dd t) (hi : inj N ad) (hP : HP dd N ad V H) (hS : va_S (dm N ad H0.size) H0 H locs) {k n : Nat} {f : Nat → Int32} (hk : k < N) (hV : V k = .inl (t.2.1, n, .inl f)) {j : Nat} {x : Int32} (hj : j < n) (hn : n < 2 ^ 31) (hdg : decode cc pc = .ok (.castore, 1))
    (kk : ∀ (V1 : Nat → va_E) (H1 : Heap) (locs1 : List Loc), V1 k = .inl (t.2.1, n, .inl (upd f j (vp_nar .char x))) → (∀ i, i ≠ k → V1 i = V i) → HP dd N ad V1 H1 → va_S (dm N ad H0.size) H0 H1 locs1 → W p l e R s m as below meth c H1 locs1 cells slots Q (F0 m (pc + 1) ls rest)) : W p l e R s m as below meth c H locs cells slots Q (F0 m pc ls (.int x :: .int (nI j) :: .ref (ad k) :: rest)) := by
  refine va_cast X.1.1 X.1.2.1 X.2.1 hP (wd_D hi) hS k 1 (by rw [wd_at hk, hV]) rfl (vp_in_nI hj hn) hdg (fun H1 locs1 hP1 _ hS1 => ?_)
  rw [nI_clamp (by omega), wd_set hk] at hP1
  exact kk _ H1 locs1 (va_up_self _ _ _) (fun i hi => va_up_ne _ _ hi) hP1 hS1
/-- a row of a grid -/
theorem r_gld (X : WX p s m as c cc nL own dd t) (hP : HP dd N ad V H) {k n : Nat} {f : Nat → Option Nat} (hk : k < N) (hV : V k = .inl (t.2.2.1, n, .inr (.inr (.inr (.inr f))))) {j a : Nat} (hj : j < n) (hn : n < 2 ^ 31) (hf : f j = some a) (hdg : decode cc pc = .ok (.aaload, 1))
    (kk : W p l e R s m as below meth c H locs cells slots Q (F0 m (pc + 1) ls (.ref a :: rest))) : W p l e R s m as below meth c H locs cells slots Q (F0 m pc ls (.int (nI j) :: .ref (ad k) :: rest)) := by
  have hcl : (nI j).toNatClampNeg = j := nI_clamp (by omega)
  have h1 : H[ad k]? = some (vp_cell t.2.2.1 (n, .inr (.inr (.inr (.inr f))))) := hP k (ad k, .inl (t.2.2.1, n, .inr (.inr (.inr (.inr f))))) (by rw [wd_at hk, hV])
  refine W.aald (v := .ref a) (ty := .array .int) X.1.1 X.1.2.1 h1 ((X.2.1.2 2 _ rfl).1 n (fun j => va_rf (f j))) rfl (fun q => by cases q) (by show ¬ (nI j < 0 ∨ (arrV _ _ _).slots.size ≤ _); rw [arrV_size]; exact vp_in_nI hj hn) (by show (arrV _ _ _).slots[_]? = _; rw [hcl, arrV_read _ _ hj, hf]; rfl) rfl rfl hdg kk
/-- an object out of an array of States -/
theorem r_qld (X : WX p s m as c cc nL own dd t) (hP : HP dd N ad V H) {k n : Nat} {f : Nat → Option Nat} (hk : k < N) (hV : V k = .inl (t.2.2.2, n, .inr (.inr (.inr (.inr f))))) {j a : Nat} (hj : j < n) (hn : n < 2 ^ 31) (hf : f j = some a) (hdg : decode cc pc = .ok (.aaload, 1))
    (kk : W p l e R s m as below meth c H locs cells slots Q (F0 m (pc + 1) ls (.ref a :: rest))) : W p l e R s m as below meth c H locs cells slots Q (F0 m pc ls (.int (nI j) :: .ref (ad k) :: rest)) := by
  refine va_aldq (C := RX4) X.1.1 X.1.2.1 X.2.1 hP k 3 (by rw [wd_at hk, hV]) rfl (vp_in_nI hj hn) hdg ?_
  rw [nI_clamp (by omega), hf]
  exact kk
theorem r_qst (X : WX p s m as c cc nL own dd t) (hi : inj N ad) (hP : HP dd N ad V H) (hS : va_S (dm N ad H0.size) H0 H locs) {k n k2 : Nat} {f : Nat → Option Nat} {vs : List Value} (hk : k < N) (hV : V k = .inl (t.2.2.2, n, .inr (.inr (.inr (.inr f))))) (hk2 : k2 < N) (hV2 : V k2 = .inr (4, vs)) {j : Nat} (hj : j < n) (hn : n < 2 ^ 31) (hdg : decode cc pc = .ok (.aastore, 1))
    (kk : ∀ (V1 : Nat → va_E) (H1 : Heap) (locs1 : List Loc), V1 k = .inl (t.2.2.2, n, .inr (.inr (.inr (.inr (va_up f j (some (ad k2))))))) → (∀ i, i ≠ k → V1 i = V i) → HP dd N ad V1 H1 → va_S (dm N ad H0.size) H0 H1 locs1 → W p l e R s m as below meth c H1 locs1 cells slots Q (F0 m (pc + 1) ls rest)) : W p l e R s m as below meth c H locs cells slots Q (F0 m pc ls (.ref (ad k2) :: .int (nI j) :: .ref (ad k) :: rest)) := by
  refine va_astq (r := (RX4, TX4, 4)) X.1.1 X.1.2.1 X.2.1 hP (wd_D hi) hS k 3 k2 4 (by rw [wd_at hk, hV]) rfl (by rw [wd_at hk2, hV2]) rfl (vp_in_nI hj hn) hdg (fun H1 locs1 hP1 _ hS1 => ?_)
  rw [nI_clamp (by omega), wd_set hk] at hP1
  exact kk _ H1 locs1 (va_up_self _ _ _) (fun i hi => va_up_ne _ _ hi) hP1 hS1
end LY
/-! calls -/
theorem GW_goodIn {y : MethodName} {b : ByteArray} {nL : Nat} {ret : Option FieldType} (h : Cond.code y b nL ret ∈ GW) : GoodIn GW (Cond.code y b nL ret :: GW) := by
  intro w hw
  have h2 : w ∈ GW := by
    rcases List.mem_cons.mp hw with rfl | h3
    · exact h
    · exact h3
  exact ⟨h2, good_of_word (List.all_eq_true.mp GW_good w h2)⟩
/-- what is known of a callee -/
def okV (y : MethodName) (b : ByteArray) (nL : Nat) (ret : Option FieldType) (n : Nat) : Prop := Cond.instanceMethod y ∈ GW ∧ Cond.selects y.cls y y ∈ GW ∧ Cond.initialized y.cls ∈ GW ∧ Cond.code y b nL ret ∈ GW ∧ y.cls ≠ "java/lang/invoke/MethodHandle" ∧ y.cls ≠ "java/lang/invoke/VarHandle" ∧ (parseMethodDescriptor y.desc).map (fun d => d.parameters.length) = some n
def okS (y : MethodName) (b : ByteArray) (nL : Nat) (ret : Option FieldType) (n : Nat) : Prop := Cond.static y ∈ GW ∧ Cond.initialized y.cls ∈ GW ∧ Cond.code y b nL ret ∈ GW ∧ y.cls ≠ "java/lang/invoke/MethodHandle" ∧ y.cls ≠ "java/lang/invoke/VarHandle" ∧ (parseMethodDescriptor y.desc).map (fun d => d.parameters.length) = some n
def rmLe (rm R : Room) (nL : Nat) : Prop := rm.frames + 1 ≤ R.frames ∧ 8 + (nL + 11) + rm.locals ≤ R.locals
section CY
variable {p : Program} {l : Launch} {e : Env} {R : Room} {s : State} {m : MethodId} {as : Array Value} {below : List Frame} {meth : Method} {c : Code} {H H0 : Heap} {locs : List Loc} {cells slots : Nat} {Q : State → Prop}
variable {cc b : ByteArray} {nL nM n pc index k ci : Nat} {own : String} {ls : Array Slot} {rest As : List Value} {dd : va_G} {t : CL4} {N : Nat} {ad : Nat → Nat} {V : Nat → va_E} {y : MethodName} {ret : Option FieldType} {rm : Room} {v : Int32} {vs : List Value} {T : u_T} {nf : Nat} {st0 : List Value}
theorem cb_of (X : WX p s m as c cc nL own dd t) (hcode : Cond.code y b nM ret ∈ GW) (hini : Cond.initialized y.cls ∈ GW) (hd : y.cls ≠ "java/lang/invoke/MethodHandle" ∧ y.cls ≠ "java/lang/invoke/VarHandle" ∧ (parseMethodDescriptor y.desc).map (fun d => d.parameters.length) = some n) (hl : Cond.methodLink own index y ∈ GW) (hrm : rm.cells = 0 ∧ rm.slots = 0) (hR : rmLe rm R nM) :
    CallB R s as own index y b nM ret (Cond.code y b nM ret :: GW) rm 0 0 n :=
  callB_of n X.1.2.2.2.2 (GW_goodIn hcode) rfl hrm.1 hrm.2 (X.1.2.2.2.2 _ hini) (X.1.2.2.2.2 _ hl) hd hR
theorem rcv_of (X : WX p s m as c cc nL own dd t) (hP : HP dd N ad V H) {C : String} (hc : vwCl[ci]? = some (C, T, nf)) (hk : k < N) (hV : V k = .inr (ci, vs)) : ∃ cellB : Cell, H[ad k]? = some cellB ∧ cellB.vm.isStatics = false ∧ s.vm.findClass C = some cellB.cls :=
  va_recv X.2.1 hP hc (by rw [wd_at hk, hV])
/-- a reader, called on an object -/
theorem r_call (X : WX p s m as c cc nL own dd t) (hP : HP dd N ad V H) (hM : RM l dd t N ad V y b nM ret rm (.ref (ad k) :: As) v) (ok : okV y b nM ret n) (hc : vwCl[ci]? = some (y.cls, T, nf)) (hk : k < N) (hV : V k = .inr (ci, vs)) (hl : Cond.methodLink own index y ∈ GW) (hrm : rm.cells = 0 ∧ rm.slots = 0) (hR : rmLe rm R nM) (hn : As.length = n) (hls : ls.size = nL) (hst : st0 = As.reverse ++ .ref (ad k) :: rest) (hW : (rest.map fun v => v.category).sum ≤ 8) (hf : cells ≤ R.cells ∧ slots ≤ R.slots) (hdg : decode cc pc = .ok (.invokevirtual index, 3))
    (kk : W p l e R s m as below meth c H locs cells slots Q (F0 m (pc + 3) ls (.int v :: rest))) : W p l e R s m as below meth c H locs cells slots Q (F0 m pc ls st0) := by
  obtain ⟨o1, o2, o3, o4, o5⟩ := ok
  refine vp_callSi (rest := rest) (W.runV (b := ad k) (As := As) (rest := rest) X.1 hM (C := y.cls) ⟨cb_of X o4 o3 o5 hl hrm hR, X.1.2.2.2.2 _ o1, X.1.2.2.2.2 _ o2⟩ ⟨fun a U g mk h => ⟨h.1, h.2.1.calling, h.2.2⟩, rcv_of X hP hc hk hV, fun U hU hW => ⟨rfl, X.2.warm hW, by rw [hU]; exact hP⟩⟩ rfl hn hls hst (lv_room hW) hdg hf) (fun r hr => ?_)
  rw [hr]
  exact kk
/-- a reader that is static -/
theorem r_callS (X : WX p s m as c cc nL own dd t) (hP : HP dd N ad V H) (hM : RM l dd t N ad V y b nM ret rm As v) (ok : okS y b nM ret n) (hl : Cond.methodLink own index y ∈ GW) (hrm : rm.cells = 0 ∧ rm.slots = 0) (hR : rmLe rm R nM) (hn : As.length = n) (hls : ls.size = nL) (hst : st0 = As.reverse ++ rest) (hW : (rest.map fun v => v.category).sum ≤ 8) (hf : cells ≤ R.cells ∧ slots ≤ R.slots) (hdg : decode cc pc = .ok (.invokestatic index, 3))
    (kk : W p l e R s m as below meth c H locs cells slots Q (F0 m (pc + 3) ls (.int v :: rest))) : W p l e R s m as below meth c H locs cells slots Q (F0 m pc ls st0) := by
  obtain ⟨o1, o3, o4, o5⟩ := ok
  refine vp_callSi (rest := rest) (W.runS (As := As) (rest := rest) X.1 hM ⟨cb_of X o4 o3 o5 hl hrm hR, X.1.2.2.2.2 _ o1⟩ ⟨fun a U g mk h => ⟨h.1, h.2.1.calling, h.2.2⟩, fun U hU hW => ⟨rfl, X.2.warm hW, by rw [hU]; exact hP⟩⟩ rfl hn hls hst (lv_room hW) hdg hf) (fun r hr => ?_)
  rw [hr]
  exact kk
theorem va_run_si {post : Int32 → Prop} {a : Array Value} (hr : va_Run p l e R s m as below meth c H locs cells slots 0 0 (F0 m pc ls st0) rest (vp_Si post a) (fun _ => False))
    (kk : ∀ r : Int32, post r → W p l e R s m as below meth c H locs cells slots Q (F0 m (pc + 3) ls (.int r :: rest))) : W p l e R s m as below meth c H locs cells slots Q (F0 m pc ls st0) := by
  intro T hT X
  obtain ⟨v, st₀, t, T', L, h0, X', hL, e1, e2, ⟨r, hv, hp, hh⟩, st⟩ := hr T hT X
  cases hv
  obtain ⟨t2, a1, b1⟩ := kk r hp T' (by rw [e1, hh, h0]) (Stand.forget X' (fun q h => (hL q h).elim))
  exact ⟨t2, st t2 a1, b1⟩
/-- isIn, a private static of the outer class -/
theorem r_callN (X : WX p s m as c cc nL own dd t) (hP : HP dd N ad V H) (hM : RM l dd t N ad V y b nM ret rm As v) (ok : okS y b nM ret n) {host : String} (hl : va_Nw (.methodLinkNest own index y host) s) (hrm : rm.cells = 0 ∧ rm.slots = 0) (hR : rmLe rm R nM) (hn : As.length = n) (hls : ls.size = nL) (hst : st0 = As.reverse ++ rest) (hW : (rest.map fun v => v.category).sum ≤ 8) (hf : cells ≤ R.cells ∧ slots ≤ R.slots) (hdg : decode cc pc = .ok (.invokestatic index, 3))
    (kk : W p l e R s m as below meth c H locs cells slots Q (F0 m (pc + 3) ls (.int v :: rest))) : W p l e R s m as below meth c H locs cells slots Q (F0 m pc ls st0) := by
  obtain ⟨o1, o3, o4, o5⟩ := ok
  refine va_run_si (rest := rest) (va_runSN (As := As) (rest := rest) X.1 hM ⟨va_cnB n X.1.2.2.2.2 (GW_goodIn o4) rfl hrm.1 hrm.2 hl (X.1.2.2.2.2 _ o3) o5 hR, X.1.2.2.2.2 _ o1, trivial⟩ ⟨fun a U g mk h => ⟨h.1, h.2.1.calling, h.2.2⟩, fun U hU hW => ⟨rfl, X.2.warm hW, by rw [hU]; exact hP⟩⟩ rfl hn hls hst (lv_room hW) hdg hf) (fun r hr => ?_)
  rw [hr]
  exact kk
theorem dm_call {q : Nat} (hS : va_S (dm N ad H0.size) H0 H locs) (h : dm N ad H.size q) : dm N ad H0.size q := dm_mono hS.1 h
/-- a writer with an answer, called on an object -/
theorem r_callM (X : WX p s m as c cc nL own dd t) (hP : HP dd N ad V H) (hS : va_S (dm N ad H0.size) H0 H locs) {post : Int32 → (Nat → va_E) → Prop} (hM : MM l dd t N ad V y b nM ret rm (.ref (ad k) :: As) post) (ok : okV y b nM ret n) (hc : vwCl[ci]? = some (y.cls, T, nf)) (hk : k < N) (hV : V k = .inr (ci, vs)) (hl : Cond.methodLink own index y ∈ GW) (hrm : rm.cells = 0 ∧ rm.slots = 0) (hR : rmLe rm R nM) (hn : As.length = n) (hls : ls.size = nL) (hst : st0 = As.reverse ++ .ref (ad k) :: rest) (hW : (rest.map fun v => v.category).sum ≤ 8) (hf : cells ≤ R.cells ∧ slots ≤ R.slots) (hdg : decode cc pc = .ok (.invokevirtual index, 3))
    (kk : ∀ (r : Int32) (V1 : Nat → va_E) (H1 : Heap) (locs1 : List Loc), post r V1 → HP dd N ad V1 H1 → va_S (dm N ad H0.size) H0 H1 locs1 → W p l e R s m as below meth c H1 locs1 cells slots Q (F0 m (pc + 3) ls (.int r :: rest))) : W p l e R s m as below meth c H locs cells slots Q (F0 m pc ls st0) := by
  obtain ⟨o1, o2, o3, o4, o5⟩ := ok
  refine va_calli (rest := rest) (va_runV (b := ad k) (As := As) (rest := rest) X.1 (hM H.size) (C := y.cls) ⟨cb_of X o4 o3 o5 hl hrm hR, X.1.2.2.2.2 _ o1, X.1.2.2.2.2 _ o2⟩ ⟨fun a U g mk h => ⟨h.1, h.2.1, h.2.2.1.calling, h.2.2.2⟩, rcv_of X hP hc hk hV, fun U hU hW => ⟨rfl, by rw [hU], X.2.warm hW, by rw [hU]; exact hP⟩⟩ rfl hn hls hst (lv_room hW) hdg hf) hS (fun q _ h => dm_call hS h) (fun q h => dm_call hS h) (fun r V1 t1 H1 locs1 e1 _ hp hB _ _ hS1 => ?_)
  rw [e1] at hB
  exact kk r V1 H1 locs1 hp hB hS1
/-- a writer without an answer -/
theorem r_callW (X : WX p s m as c cc nL own dd t) (hP : HP dd N ad V H) (hS : va_S (dm N ad H0.size) H0 H locs) {post : (Nat → va_E) → Prop} (hM : MV l dd t N ad V y b nM rm (.ref (ad k) :: As) post) (ok : okV y b nM none n) (hc : vwCl[ci]? = some (y.cls, T, nf)) (hk : k < N) (hV : V k = .inr (ci, vs)) (hl : Cond.methodLink own index y ∈ GW) (hrm : rm.cells = 0 ∧ rm.slots = 0) (hR : rmLe rm R nM) (hn : As.length = n) (hls : ls.size = nL) (hst : st0 = As.reverse ++ .ref (ad k) :: rest) (hW : (rest.map fun v => v.category).sum ≤ 8) (hf : cells ≤ R.cells ∧ slots ≤ R.slots) (hdg : decode cc pc = .ok (.invokevirtual index, 3))
    (kk : ∀ (V1 : Nat → va_E) (H1 : Heap) (locs1 : List Loc), post V1 → HP dd N ad V1 H1 → va_S (dm N ad H0.size) H0 H1 locs1 → W p l e R s m as below meth c H1 locs1 cells slots Q (F0 m (pc + 3) ls rest)) : W p l e R s m as below meth c H locs cells slots Q (F0 m pc ls st0) := by
  obtain ⟨o1, o2, o3, o4, o5⟩ := ok
  refine va_callv (rest := rest) (va_runV (b := ad k) (As := As) (rest := rest) X.1 (hM H.size) (C := y.cls) ⟨cb_of X o4 o3 o5 hl hrm hR, X.1.2.2.2.2 _ o1, X.1.2.2.2.2 _ o2⟩ ⟨fun a U g mk h => ⟨h.1, h.2.1, h.2.2.1.calling, h.2.2.2⟩, rcv_of X hP hc hk hV, fun U hU hW => ⟨rfl, by rw [hU], X.2.warm hW, by rw [hU]; exact hP⟩⟩ rfl hn hls hst (lv_room hW) hdg hf) hS (fun q _ h => dm_call hS h) (fun q h => dm_call hS h) (fun V1 t1 H1 locs1 e1 _ hp hB _ _ hS1 => ?_)
  rw [e1] at hB
  exact kk V1 H1 locs1 hp hB hS1
end CY
/-! contracts out of walks -/
def narOk (ret : Option FieldType) (v : Int32) : Prop := ∃ ty, ret = some ty ∧ narrow ty (.int v) = .int v
theorem narI (v : Int32) : narOk (some .int) v := ⟨.int, rfl, rfl⟩
def b01 (q : Bool) : Int32 := if q = true then 1 else 0
theorem narB (q : Bool) : narOk (some .boolean) (b01 q) := ⟨.boolean, rfl, by cases q <;> rfl⟩
section MK
variable {l : Launch} {dd : va_G} {t : CL4} {N : Nat} {ad : Nat → Nat} {V : Nat → va_E} {y : MethodName} {b : ByteArray} {nL : Nat} {ret : Option FieldType} {rm : Room} {args : List Value}
theorem RM.of {v : Int32} (hy : plainName y.cls = true) (hrm : rm.cells = 0 ∧ rm.slots = 0) (hlen : (lg_sl args).length ≤ nL) (hv : narOk ret v)
    (w : ∀ (p : Program) (e : Env) (s : State) (m : MethodId) (as : Array Value) (below : List Frame) (meth : Method) (c : Code) (Q : State → Prop), WX p s m as c b nL y.cls dd t → ∀ (H : Heap), HP dd N ad V H → ∀ ls : Array Slot, lv_has ls nL (lv_args 0 args) →
      (∀ (pc : Nat) (ls : Array Slot) (r : Int32), r = v → decode b pc = .ok (.ireturn, 1) → W p l e rm s m as below meth c H [] 0 0 Q (F0 m pc ls [.int r])) → W p l e rm s m as below meth c H [] 0 0 Q (F0 m 0 ls [])) :
    RM l dd t N ad V y b nL ret rm args v := by
  refine Met.ofW (cc := b) (maxL := nL) (ret := ret) hy rfl ?_
  intro p e s m as below meth c s₁ B hml hv0
  obtain ⟨rfl, hC, hP⟩ := hv0
  have hts := atoms_spec (ws := Cond.code y b nL ret :: GW) B.pre
  have hX : WX p s m args.toArray c b nL y.cls dd t := ⟨⟨B.exec, B.bytes, hml, findClass_of_methodNamed B.named, fun w hw => hts w (List.mem_cons_of_mem _ hw)⟩, hC⟩
  have hl := lv_entry args (n := nL) hlen
  rw [lg_entry_eq]
  obtain ⟨ty, hret, hn⟩ := hv
  have hlocks := B.notSynchronized
  refine w p e s m args.toArray below meth c _ hX s.heap hP _ hl (fun pc ls r hr hdg => ?_)
  subst hr
  exact W.zret (ty := ty) B.exec B.bytes (by rw [B.returns, hret]) hn (fun t ht hW => ⟨r, rfl, rfl, ht⟩) (fun q hq => by cases hq) hdg
theorem MM.of {post : Int32 → (Nat → va_E) → Prop} (hy : plainName y.cls = true) (hrm : rm.cells = 0 ∧ rm.slots = 0) (hlen : (lg_sl args).length ≤ nL) {ty : FieldType} (hret : ret = some ty)
    (w : ∀ (p : Program) (e : Env) (s : State) (m : MethodId) (as : Array Value) (below : List Frame) (meth : Method) (c : Code) (Q : State → Prop), WX p s m as c b nL y.cls dd t → ∀ (H : Heap), HP dd N ad V H → va_S (dm N ad H.size) H H [] → ∀ ls : Array Slot, lv_has ls nL (lv_args 0 args) →
      (∀ (pc : Nat) (ls : Array Slot) (r : Int32) (V1 : Nat → va_E) (H1 : Heap) (locs1 : List Loc), HP dd N ad V1 H1 → va_S (dm N ad H.size) H H1 locs1 → narrow ty (.int r) = .int r → post r V1 → decode b pc = .ok (.ireturn, 1) → W p l e rm s m as below meth c H1 locs1 0 0 Q (F0 m pc ls [.int r])) → W p l e rm s m as below meth c H [] 0 0 Q (F0 m 0 ls [])) :
    MM l dd t N ad V y b nL ret rm args post := by
  intro sz
  refine Met.ofW (cc := b) (maxL := nL) (ret := ret) hy rfl ?_
  intro p e s m as below meth c s₁ B hml hv0
  obtain ⟨rfl, hsz, hC, hP⟩ := hv0
  subst hsz
  have hts := atoms_spec (ws := Cond.code y b nL ret :: GW) B.pre
  have hX : WX p s m args.toArray c b nL y.cls dd t := ⟨⟨B.exec, B.bytes, hml, findClass_of_methodNamed B.named, fun w hw => hts w (List.mem_cons_of_mem _ hw)⟩, hC⟩
  have hl := lv_entry args (n := nL) hlen
  rw [lg_entry_eq]
  have hlocks := B.notSynchronized
  refine w p e s m args.toArray below meth c _ hX s.heap hP va_S.rf _ hl (fun pc ls r V1 H1 locs1 hP1 hS1 hn hp hdg => ?_)
  exact W.zret (ty := ty) B.exec B.bytes (by rw [B.returns, hret]) hn (fun t ht hW => ⟨⟨r, V1, rfl, hp, by show HP dd N ad V1 t.heap; rw [ht]; exact hP1⟩, hS1.F ht⟩) hS1.2.2 hdg
theorem MV.of {post : (Nat → va_E) → Prop} (hy : plainName y.cls = true) (hrm : rm.cells = 0 ∧ rm.slots = 0) (hlen : (lg_sl args).length ≤ nL)
    (w : ∀ (p : Program) (e : Env) (s : State) (m : MethodId) (as : Array Value) (below : List Frame) (meth : Method) (c : Code) (Q : State → Prop), WX p s m as c b nL y.cls dd t → ∀ (H : Heap), HP dd N ad V H → va_S (dm N ad H.size) H H [] → ∀ ls : Array Slot, lv_has ls nL (lv_args 0 args) →
      (∀ (pc : Nat) (ls : Array Slot) (V1 : Nat → va_E) (H1 : Heap) (locs1 : List Loc), HP dd N ad V1 H1 → va_S (dm N ad H.size) H H1 locs1 → post V1 → decode b pc = .ok (.return_, 1) → W p l e rm s m as below meth c H1 locs1 0 0 Q (F0 m pc ls [])) → W p l e rm s m as below meth c H [] 0 0 Q (F0 m 0 ls [])) :
    MV l dd t N ad V y b nL rm args post := by
  intro sz
  refine Met.ofW (cc := b) (maxL := nL) (ret := none) hy rfl ?_
  intro p e s m as below meth c s₁ B hml hv0
  obtain ⟨rfl, hsz, hC, hP⟩ := hv0
  subst hsz
  have hts := atoms_spec (ws := Cond.code y b nL none :: GW) B.pre
  have hX : WX p s m args.toArray c b nL y.cls dd t := ⟨⟨B.exec, B.bytes, hml, findClass_of_methodNamed B.named, fun w hw => hts w (List.mem_cons_of_mem _ hw)⟩, hC⟩
  have hl := lv_entry args (n := nL) hlen
  rw [lg_entry_eq]
  have hlocks := B.notSynchronized
  refine w p e s m args.toArray below meth c _ hX s.heap hP va_S.rf _ hl (fun pc ls V1 H1 locs1 hP1 hS1 hp hdg => ?_)
  exact W.vret B.exec B.bytes B.returns (fun t ht hW => ⟨⟨V1, rfl, hp, by show HP dd N ad V1 t.heap; rw [ht]; exact hP1⟩, hS1.F ht⟩) hS1.2.2 hdg
end MK
end
