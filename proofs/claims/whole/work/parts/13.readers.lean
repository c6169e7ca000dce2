/-! readers of Places, Cuts and State -/
theorem pow7 {n : Nat} (h : n ≤ 7) : 2 ^ n ≤ 128 := Nat.pow_le_pow_right (n := 2) (by omega) h

def rmJ6_bitCount_0f7a4 : Room := { frames := 0, cells := 0, slots := 0, locals := 0 }
def f_J6_bitCount_0f7a4 (plan : Int32) : Int32 :=
  (((((((plan - (((plan.toUInt32 >>> ((nI 1).toUInt32 &&& Int32.toUInt32 31)).toInt32) &&& 1431655765)) &&& 858993459) + ((((plan - (((plan.toUInt32 >>> ((nI 1).toUInt32 &&& Int32.toUInt32 31)).toInt32) &&& 1431655765)).toUInt32 >>> ((nI 2).toUInt32 &&& Int32.toUInt32 31)).toInt32) &&& 858993459)) + (((((plan - (((plan.toUInt32 >>> ((nI 1).toUInt32 &&& Int32.toUInt32 31)).toInt32) &&& 1431655765)) &&& 858993459) + ((((plan - (((plan.toUInt32 >>> ((nI 1).toUInt32 &&& Int32.toUInt32 31)).toInt32) &&& 1431655765)).toUInt32 >>> ((nI 2).toUInt32 &&& Int32.toUInt32 31)).toInt32) &&& 858993459)).toUInt32 >>> ((nI 4).toUInt32 &&& Int32.toUInt32 31)).toInt32)) &&& 252645135) + (((((((plan - (((plan.toUInt32 >>> ((nI 1).toUInt32 &&& Int32.toUInt32 31)).toInt32) &&& 1431655765)) &&& 858993459) + ((((plan - (((plan.toUInt32 >>> ((nI 1).toUInt32 &&& Int32.toUInt32 31)).toInt32) &&& 1431655765)).toUInt32 >>> ((nI 2).toUInt32 &&& Int32.toUInt32 31)).toInt32) &&& 858993459)) + (((((plan - (((plan.toUInt32 >>> ((nI 1).toUInt32 &&& Int32.toUInt32 31)).toInt32) &&& 1431655765)) &&& 858993459) + ((((plan - (((plan.toUInt32 >>> ((nI 1).toUInt32 &&& Int32.toUInt32 31)).toInt32) &&& 1431655765)).toUInt32 >>> ((nI 2).toUInt32 &&& Int32.toUInt32 31)).toInt32) &&& 858993459)).toUInt32 >>> ((nI 4).toUInt32 &&& Int32.toUInt32 31)).toInt32)) &&& 252645135).toUInt32 >>> ((nI 8).toUInt32 &&& Int32.toUInt32 31)).toInt32)) + ((((((((plan - (((plan.toUInt32 >>> ((nI 1).toUInt32 &&& Int32.toUInt32 31)).toInt32) &&& 1431655765)) &&& 858993459) + ((((plan - (((plan.toUInt32 >>> ((nI 1).toUInt32 &&& Int32.toUInt32 31)).toInt32) &&& 1431655765)).toUInt32 >>> ((nI 2).toUInt32 &&& Int32.toUInt32 31)).toInt32) &&& 858993459)) + (((((plan - (((plan.toUInt32 >>> ((nI 1).toUInt32 &&& Int32.toUInt32 31)).toInt32) &&& 1431655765)) &&& 858993459) + ((((plan - (((plan.toUInt32 >>> ((nI 1).toUInt32 &&& Int32.toUInt32 31)).toInt32) &&& 1431655765)).toUInt32 >>> ((nI 2).toUInt32 &&& Int32.toUInt32 31)).toInt32) &&& 858993459)).toUInt32 >>> ((nI 4).toUInt32 &&& Int32.toUInt32 31)).toInt32)) &&& 252645135) + (((((((plan - (((plan.toUInt32 >>> ((nI 1).toUInt32 &&& Int32.toUInt32 31)).toInt32) &&& 1431655765)) &&& 858993459) + ((((plan - (((plan.toUInt32 >>> ((nI 1).toUInt32 &&& Int32.toUInt32 31)).toInt32) &&& 1431655765)).toUInt32 >>> ((nI 2).toUInt32 &&& Int32.toUInt32 31)).toInt32) &&& 858993459)) + (((((plan - (((plan.toUInt32 >>> ((nI 1).toUInt32 &&& Int32.toUInt32 31)).toInt32) &&& 1431655765)) &&& 858993459) + ((((plan - (((plan.toUInt32 >>> ((nI 1).toUInt32 &&& Int32.toUInt32 31)).toInt32) &&& 1431655765)).toUInt32 >>> ((nI 2).toUInt32 &&& Int32.toUInt32 31)).toInt32) &&& 858993459)).toUInt32 >>> ((nI 4).toUInt32 &&& Int32.toUInt32 31)).toInt32)) &&& 252645135).toUInt32 >>> ((nI 8).toUInt32 &&& Int32.toUInt32 31)).toInt32)).toUInt32 >>> ((nI 16).toUInt32 &&& Int32.toUInt32 31)).toInt32)) &&& (nI 63)
set_option maxHeartbeats 4000000 in
set_option maxRecDepth 100000 in
theorem c_J6_bitCount_0f7a4 {l : Launch} {dd : va_G} {t : CL4} {N : Nat} {ad : Nat → Nat} {V : Nat → va_E}     (plan : Int32)  : RM l dd t N ad V yJ6_bitCount_0f7a4 cJ6_bitCount_0f7a4 1 (some .int) rmJ6_bitCount_0f7a4 [.int (plan)] (f_J6_bitCount_0f7a4 plan) := by
  refine RM.of (by decide +kernel) ⟨rfl, rfl⟩ (Nat.le_of_ble_eq_true rfl) (narI _) ?_
  intro p e s m as below meth c Q X H hP ls hl kr
  have X : WX p s m as c cJ6_bitCount_0f7a4 1 RJ6 dd t := X
  have hx := X.1.1
  have hb := X.1.2.1
  have hl : lv_has ls 1 [(0, .int (plan))] := hl
  refine lv_iload_n hx hb dJ6_bitCount_0f7a4_0 rfl (lv_at hl 0 rfl) ?_
  refine lv_iload_n hx hb dJ6_bitCount_0f7a4_1 rfl (lv_at hl 0 rfl) ?_
  refine lv_iconst (v := nI 1) hx hb dJ6_bitCount_0f7a4_2 (by decide) ?_
  refine lv_iushr hx hb dJ6_bitCount_0f7a4_3 rfl ?_
  refine lv_ldcw (v := 1431655765) hx hb X.1.2.2.2.1 (X.1.2.2.2.2 _ m254) dJ6_bitCount_0f7a4_4 ?_
  refine lv_iand hx hb dJ6_bitCount_0f7a4_7 ?_
  refine lv_isub hx hb dJ6_bitCount_0f7a4_8 ?_
  refine lv_istore_n (lv' := [(0, .int (plan - (((plan.toUInt32 >>> ((nI 1).toUInt32 &&& Int32.toUInt32 31)).toInt32) &&& 1431655765)))]) hx hb dJ6_bitCount_0f7a4_9 rfl hl (by decide) rfl (fun ls hl => ?_)
  refine lv_iload_n hx hb dJ6_bitCount_0f7a4_10 rfl (lv_at hl 0 rfl) ?_
  refine lv_ldcw (v := 858993459) hx hb X.1.2.2.2.1 (X.1.2.2.2.2 _ m255) dJ6_bitCount_0f7a4_11 ?_
  refine lv_iand hx hb dJ6_bitCount_0f7a4_14 ?_
  refine lv_iload_n hx hb dJ6_bitCount_0f7a4_15 rfl (lv_at hl 0 rfl) ?_
  refine lv_iconst (v := nI 2) hx hb dJ6_bitCount_0f7a4_16 (by decide) ?_
  refine lv_iushr hx hb dJ6_bitCount_0f7a4_17 rfl ?_
  refine lv_ldcw (v := 858993459) hx hb X.1.2.2.2.1 (X.1.2.2.2.2 _ m255) dJ6_bitCount_0f7a4_18 ?_
  refine lv_iand hx hb dJ6_bitCount_0f7a4_21 ?_
  refine lv_iadd hx hb dJ6_bitCount_0f7a4_22 ?_
  refine lv_istore_n (lv' := [(0, .int (((plan - (((plan.toUInt32 >>> ((nI 1).toUInt32 &&& Int32.toUInt32 31)).toInt32) &&& 1431655765)) &&& 858993459) + ((((plan - (((plan.toUInt32 >>> ((nI 1).toUInt32 &&& Int32.toUInt32 31)).toInt32) &&& 1431655765)).toUInt32 >>> ((nI 2).toUInt32 &&& Int32.toUInt32 31)).toInt32) &&& 858993459)))]) hx hb dJ6_bitCount_0f7a4_23 rfl hl (by decide) rfl (fun ls hl => ?_)
  refine lv_iload_n hx hb dJ6_bitCount_0f7a4_24 rfl (lv_at hl 0 rfl) ?_
  refine lv_iload_n hx hb dJ6_bitCount_0f7a4_25 rfl (lv_at hl 0 rfl) ?_
  refine lv_iconst (v := nI 4) hx hb dJ6_bitCount_0f7a4_26 (by decide) ?_
  refine lv_iushr hx hb dJ6_bitCount_0f7a4_27 rfl ?_
  refine lv_iadd hx hb dJ6_bitCount_0f7a4_28 ?_
  refine lv_ldcw (v := 252645135) hx hb X.1.2.2.2.1 (X.1.2.2.2.2 _ m256) dJ6_bitCount_0f7a4_29 ?_
  refine lv_iand hx hb dJ6_bitCount_0f7a4_32 ?_
  refine lv_istore_n (lv' := [(0, .int (((((plan - (((plan.toUInt32 >>> ((nI 1).toUInt32 &&& Int32.toUInt32 31)).toInt32) &&& 1431655765)) &&& 858993459) + ((((plan - (((plan.toUInt32 >>> ((nI 1).toUInt32 &&& Int32.toUInt32 31)).toInt32) &&& 1431655765)).toUInt32 >>> ((nI 2).toUInt32 &&& Int32.toUInt32 31)).toInt32) &&& 858993459)) + (((((plan - (((plan.toUInt32 >>> ((nI 1).toUInt32 &&& Int32.toUInt32 31)).toInt32) &&& 1431655765)) &&& 858993459) + ((((plan - (((plan.toUInt32 >>> ((nI 1).toUInt32 &&& Int32.toUInt32 31)).toInt32) &&& 1431655765)).toUInt32 >>> ((nI 2).toUInt32 &&& Int32.toUInt32 31)).toInt32) &&& 858993459)).toUInt32 >>> ((nI 4).toUInt32 &&& Int32.toUInt32 31)).toInt32)) &&& 252645135))]) hx hb dJ6_bitCount_0f7a4_33 rfl hl (by decide) rfl (fun ls hl => ?_)
  refine lv_iload_n hx hb dJ6_bitCount_0f7a4_34 rfl (lv_at hl 0 rfl) ?_
  refine lv_iload_n hx hb dJ6_bitCount_0f7a4_35 rfl (lv_at hl 0 rfl) ?_
  refine lv_bipush (v := nI 8) hx hb dJ6_bitCount_0f7a4_36 (by decide) ?_
  refine lv_iushr hx hb dJ6_bitCount_0f7a4_38 rfl ?_
  refine lv_iadd hx hb dJ6_bitCount_0f7a4_39 ?_
  refine lv_istore_n (lv' := [(0, .int ((((((plan - (((plan.toUInt32 >>> ((nI 1).toUInt32 &&& Int32.toUInt32 31)).toInt32) &&& 1431655765)) &&& 858993459) + ((((plan - (((plan.toUInt32 >>> ((nI 1).toUInt32 &&& Int32.toUInt32 31)).toInt32) &&& 1431655765)).toUInt32 >>> ((nI 2).toUInt32 &&& Int32.toUInt32 31)).toInt32) &&& 858993459)) + (((((plan - (((plan.toUInt32 >>> ((nI 1).toUInt32 &&& Int32.toUInt32 31)).toInt32) &&& 1431655765)) &&& 858993459) + ((((plan - (((plan.toUInt32 >>> ((nI 1).toUInt32 &&& Int32.toUInt32 31)).toInt32) &&& 1431655765)).toUInt32 >>> ((nI 2).toUInt32 &&& Int32.toUInt32 31)).toInt32) &&& 858993459)).toUInt32 >>> ((nI 4).toUInt32 &&& Int32.toUInt32 31)).toInt32)) &&& 252645135) + (((((((plan - (((plan.toUInt32 >>> ((nI 1).toUInt32 &&& Int32.toUInt32 31)).toInt32) &&& 1431655765)) &&& 858993459) + ((((plan - (((plan.toUInt32 >>> ((nI 1).toUInt32 &&& Int32.toUInt32 31)).toInt32) &&& 1431655765)).toUInt32 >>> ((nI 2).toUInt32 &&& Int32.toUInt32 31)).toInt32) &&& 858993459)) + (((((plan - (((plan.toUInt32 >>> ((nI 1).toUInt32 &&& Int32.toUInt32 31)).toInt32) &&& 1431655765)) &&& 858993459) + ((((plan - (((plan.toUInt32 >>> ((nI 1).toUInt32 &&& Int32.toUInt32 31)).toInt32) &&& 1431655765)).toUInt32 >>> ((nI 2).toUInt32 &&& Int32.toUInt32 31)).toInt32) &&& 858993459)).toUInt32 >>> ((nI 4).toUInt32 &&& Int32.toUInt32 31)).toInt32)) &&& 252645135).toUInt32 >>> ((nI 8).toUInt32 &&& Int32.toUInt32 31)).toInt32)))]) hx hb dJ6_bitCount_0f7a4_40 rfl hl (by decide) rfl (fun ls hl => ?_)
  refine lv_iload_n hx hb dJ6_bitCount_0f7a4_41 rfl (lv_at hl 0 rfl) ?_
  refine lv_iload_n hx hb dJ6_bitCount_0f7a4_42 rfl (lv_at hl 0 rfl) ?_
  refine lv_bipush (v := nI 16) hx hb dJ6_bitCount_0f7a4_43 (by decide) ?_
  refine lv_iushr hx hb dJ6_bitCount_0f7a4_45 rfl ?_
  refine lv_iadd hx hb dJ6_bitCount_0f7a4_46 ?_
  refine lv_istore_n (lv' := [(0, .int (((((((plan - (((plan.toUInt32 >>> ((nI 1).toUInt32 &&& Int32.toUInt32 31)).toInt32) &&& 1431655765)) &&& 858993459) + ((((plan - (((plan.toUInt32 >>> ((nI 1).toUInt32 &&& Int32.toUInt32 31)).toInt32) &&& 1431655765)).toUInt32 >>> ((nI 2).toUInt32 &&& Int32.toUInt32 31)).toInt32) &&& 858993459)) + (((((plan - (((plan.toUInt32 >>> ((nI 1).toUInt32 &&& Int32.toUInt32 31)).toInt32) &&& 1431655765)) &&& 858993459) + ((((plan - (((plan.toUInt32 >>> ((nI 1).toUInt32 &&& Int32.toUInt32 31)).toInt32) &&& 1431655765)).toUInt32 >>> ((nI 2).toUInt32 &&& Int32.toUInt32 31)).toInt32) &&& 858993459)).toUInt32 >>> ((nI 4).toUInt32 &&& Int32.toUInt32 31)).toInt32)) &&& 252645135) + (((((((plan - (((plan.toUInt32 >>> ((nI 1).toUInt32 &&& Int32.toUInt32 31)).toInt32) &&& 1431655765)) &&& 858993459) + ((((plan - (((plan.toUInt32 >>> ((nI 1).toUInt32 &&& Int32.toUInt32 31)).toInt32) &&& 1431655765)).toUInt32 >>> ((nI 2).toUInt32 &&& Int32.toUInt32 31)).toInt32) &&& 858993459)) + (((((plan - (((plan.toUInt32 >>> ((nI 1).toUInt32 &&& Int32.toUInt32 31)).toInt32) &&& 1431655765)) &&& 858993459) + ((((plan - (((plan.toUInt32 >>> ((nI 1).toUInt32 &&& Int32.toUInt32 31)).toInt32) &&& 1431655765)).toUInt32 >>> ((nI 2).toUInt32 &&& Int32.toUInt32 31)).toInt32) &&& 858993459)).toUInt32 >>> ((nI 4).toUInt32 &&& Int32.toUInt32 31)).toInt32)) &&& 252645135).toUInt32 >>> ((nI 8).toUInt32 &&& Int32.toUInt32 31)).toInt32)) + ((((((((plan - (((plan.toUInt32 >>> ((nI 1).toUInt32 &&& Int32.toUInt32 31)).toInt32) &&& 1431655765)) &&& 858993459) + ((((plan - (((plan.toUInt32 >>> ((nI 1).toUInt32 &&& Int32.toUInt32 31)).toInt32) &&& 1431655765)).toUInt32 >>> ((nI 2).toUInt32 &&& Int32.toUInt32 31)).toInt32) &&& 858993459)) + (((((plan - (((plan.toUInt32 >>> ((nI 1).toUInt32 &&& Int32.toUInt32 31)).toInt32) &&& 1431655765)) &&& 858993459) + ((((plan - (((plan.toUInt32 >>> ((nI 1).toUInt32 &&& Int32.toUInt32 31)).toInt32) &&& 1431655765)).toUInt32 >>> ((nI 2).toUInt32 &&& Int32.toUInt32 31)).toInt32) &&& 858993459)).toUInt32 >>> ((nI 4).toUInt32 &&& Int32.toUInt32 31)).toInt32)) &&& 252645135) + (((((((plan - (((plan.toUInt32 >>> ((nI 1).toUInt32 &&& Int32.toUInt32 31)).toInt32) &&& 1431655765)) &&& 858993459) + ((((plan - (((plan.toUInt32 >>> ((nI 1).toUInt32 &&& Int32.toUInt32 31)).toInt32) &&& 1431655765)).toUInt32 >>> ((nI 2).toUInt32 &&& Int32.toUInt32 31)).toInt32) &&& 858993459)) + (((((plan - (((plan.toUInt32 >>> ((nI 1).toUInt32 &&& Int32.toUInt32 31)).toInt32) &&& 1431655765)) &&& 858993459) + ((((plan - (((plan.toUInt32 >>> ((nI 1).toUInt32 &&& Int32.toUInt32 31)).toInt32) &&& 1431655765)).toUInt32 >>> ((nI 2).toUInt32 &&& Int32.toUInt32 31)).toInt32) &&& 858993459)).toUInt32 >>> ((nI 4).toUInt32 &&& Int32.toUInt32 31)).toInt32)) &&& 252645135).toUInt32 >>> ((nI 8).toUInt32 &&& Int32.toUInt32 31)).toInt32)).toUInt32 >>> ((nI 16).toUInt32 &&& Int32.toUInt32 31)).toInt32)))]) hx hb dJ6_bitCount_0f7a4_47 rfl hl (by decide) rfl (fun ls hl => ?_)
  refine lv_iload_n hx hb dJ6_bitCount_0f7a4_48 rfl (lv_at hl 0 rfl) ?_
  refine lv_bipush (v := nI 63) hx hb dJ6_bitCount_0f7a4_49 (by decide) ?_
  refine lv_iand hx hb dJ6_bitCount_0f7a4_51 ?_
  exact kr 52 ls _ (Eq.symm (by rw [f_J6_bitCount_0f7a4] <;> rfl)) dJ6_bitCount_0f7a4_52
theorem o_J6_bitCount_0f7a4 : okS yJ6_bitCount_0f7a4 cJ6_bitCount_0f7a4 1 (some .int) 1 := ⟨m251, m252, m253, by decide +kernel, by decide +kernel, by decide +kernel⟩
def rmX3_isAllowed : Room := { frames := 2, cells := 0, slots := 0, locals := 43 }
def f_X3_isAllowed (x : PlC) (plan : Int32) : Bool :=
  (if (pO x) < (f_J6_bitCount_0f7a4 plan) then false else (if (f_X3_hasExcludingSites x plan) = true then false else true))
set_option maxHeartbeats 4000000 in
set_option maxRecDepth 100000 in
theorem c_X3_isAllowed {l : Launch} {dd : va_G} {t : CL4} {N : Nat} {ad : Nat → Nat} {V : Nat → va_E} {b : Nat} {x : PlC}  (hp0 : PlP N ad V t b x) (plan : Int32)  : RM l dd t N ad V yX3_isAllowed cX3_isAllowed 2 (some .boolean) rmX3_isAllowed [.ref (ad b), .int (plan)] (b01 (f_X3_isAllowed x plan)) := by
  refine RM.of (by decide +kernel) ⟨rfl, rfl⟩ (Nat.le_of_ble_eq_true rfl) (narB _) ?_
  intro p e s m as below meth c Q X H hP ls hl kr
  have X : WX p s m as c cX3_isAllowed 2 RX3 dd t := X
  have hx := X.1.1
  have hb := X.1.2.1
  have hl : lv_has ls 2 [(0, .ref (ad b)), (1, .int (plan))] := hl
  have hi0_0 := hp0.i0
  have hi0_1 := hp0.i1
  have hle0 := hp0.le
  refine lv_iload_n hx hb dX3_isAllowed_0 rfl (lv_at hl 1 rfl) ?_
  refine r_callS (As := [.int (plan)]) (rest := []) X hP (c_J6_bitCount_0f7a4 plan) o_J6_bitCount_0f7a4 m293 ⟨rfl, rfl⟩ ⟨Nat.le_of_ble_eq_true rfl, Nat.le_of_ble_eq_true rfl⟩ rfl hl.1 rfl (Nat.le_of_ble_eq_true rfl) ⟨Nat.zero_le _, Nat.zero_le _⟩ dX3_isAllowed_1 ?_
  refine lv_aload_n hx hb dX3_isAllowed_4 rfl (lv_at hl 0 rfl) ?_
  refine g_Pl_most X hP hp0 m49 dX3_isAllowed_5 ?_
  refine j_gt (tgt := 23) hx hb dX3_isAllowed_8 (by decide) (fun c1 => ?_) (fun c1 => ?_)
  · refine lv_iconst (v := nI 0) hx hb dX3_isAllowed_23 (by decide) ?_
    exact kr 24 ls _ (b_f (by rw [f_X3_isAllowed, if_pos c1] <;> rfl)) dX3_isAllowed_24
  · refine lv_aload_n hx hb dX3_isAllowed_11 rfl (lv_at hl 0 rfl) ?_
    refine lv_iload_n hx hb dX3_isAllowed_12 rfl (lv_at hl 1 rfl) ?_
    refine r_call (As := [.int (plan)]) (rest := []) (ci := 3) X hP (c_X3_hasExcludingSites hp0 plan) o_X3_hasExcludingSites rfl hp0.lt hp0.ob m294 ⟨rfl, rfl⟩ ⟨Nat.le_of_ble_eq_true rfl, Nat.le_of_ble_eq_true rfl⟩ rfl hl.1 rfl (Nat.le_of_ble_eq_true rfl) ⟨Nat.zero_le _, Nat.zero_le _⟩ dX3_isAllowed_13 ?_
    refine q_neB (tgt := 23) hx hb dX3_isAllowed_16 (by decide) (fun c2 => ?_) (fun c2 => ?_)
    · refine lv_iconst (v := nI 0) hx hb dX3_isAllowed_23 (by decide) ?_
      exact kr 24 ls _ (b_f (by rw [f_X3_isAllowed, if_neg c1, if_pos c2] <;> rfl)) dX3_isAllowed_24
    · refine lv_iconst (v := nI 1) hx hb dX3_isAllowed_19 (by decide) ?_
      refine lv_goto (tgt := 24) hx hb dX3_isAllowed_20 (by decide) ?_
      exact kr 24 ls _ (b_t (by rw [f_X3_isAllowed, if_neg c1, if_neg (nt c2)] <;> rfl)) dX3_isAllowed_24
theorem o_X3_isAllowed : okV yX3_isAllowed cX3_isAllowed 2 (some .boolean) 1 := ⟨m290, m291, m35, m292, by decide +kernel, by decide +kernel, by decide +kernel⟩
def rmX3_verdictOf : Room := { frames := 4, cells := 0, slots := 0, locals := 88 }
def f_X3_verdictOf (x : PlC) (plan : Int32) : Int32 :=
  (if (pO x) < (f_J6_bitCount_0f7a4 plan) then nI 1 else (if (f_X3_hasExcludingSites x plan) = true then nI 2 else (if (f_X3_reachesAll x plan) = true then nI 0 else nI 3)))
set_option maxHeartbeats 4000000 in
set_option maxRecDepth 100000 in
theorem c_X3_verdictOf {l : Launch} {dd : va_G} {t : CL4} {N : Nat} {ad : Nat → Nat} {V : Nat → va_E} {b : Nat} {x : PlC}  (hp0 : PlP N ad V t b x) (plan : Int32)  : RM l dd t N ad V yX3_verdictOf cX3_verdictOf 2 (some .int) rmX3_verdictOf [.ref (ad b), .int (plan)] (f_X3_verdictOf x plan) := by
  refine RM.of (by decide +kernel) ⟨rfl, rfl⟩ (Nat.le_of_ble_eq_true rfl) (narI _) ?_
  intro p e s m as below meth c Q X H hP ls hl kr
  have X : WX p s m as c cX3_verdictOf 2 RX3 dd t := X
  have hx := X.1.1
  have hb := X.1.2.1
  have hl : lv_has ls 2 [(0, .ref (ad b)), (1, .int (plan))] := hl
  have hi0_0 := hp0.i0
  have hi0_1 := hp0.i1
  have hle0 := hp0.le
  refine lv_iload_n hx hb dX3_verdictOf_0 rfl (lv_at hl 1 rfl) ?_
  refine r_callS (As := [.int (plan)]) (rest := []) X hP (c_J6_bitCount_0f7a4 plan) o_J6_bitCount_0f7a4 m293 ⟨rfl, rfl⟩ ⟨Nat.le_of_ble_eq_true rfl, Nat.le_of_ble_eq_true rfl⟩ rfl hl.1 rfl (Nat.le_of_ble_eq_true rfl) ⟨Nat.zero_le _, Nat.zero_le _⟩ dX3_verdictOf_1 ?_
  refine lv_aload_n hx hb dX3_verdictOf_4 rfl (lv_at hl 0 rfl) ?_
  refine g_Pl_most X hP hp0 m49 dX3_verdictOf_5 ?_
  refine j_le (tgt := 13) hx hb dX3_verdictOf_8 (by decide) (fun c1 => ?_) (fun c1 => ?_)
  · refine lv_aload_n hx hb dX3_verdictOf_13 rfl (lv_at hl 0 rfl) ?_
    refine lv_iload_n hx hb dX3_verdictOf_14 rfl (lv_at hl 1 rfl) ?_
    refine r_call (As := [.int (plan)]) (rest := []) (ci := 3) X hP (c_X3_hasExcludingSites hp0 plan) o_X3_hasExcludingSites rfl hp0.lt hp0.ob m294 ⟨rfl, rfl⟩ ⟨Nat.le_of_ble_eq_true rfl, Nat.le_of_ble_eq_true rfl⟩ rfl hl.1 rfl (Nat.le_of_ble_eq_true rfl) ⟨Nat.zero_le _, Nat.zero_le _⟩ dX3_verdictOf_15 ?_
    refine q_eqB (tgt := 23) hx hb dX3_verdictOf_18 (by decide) (fun c2 => ?_) (fun c2 => ?_)
    · refine lv_aload_n hx hb dX3_verdictOf_23 rfl (lv_at hl 0 rfl) ?_
      refine lv_iload_n hx hb dX3_verdictOf_24 rfl (lv_at hl 1 rfl) ?_
      refine r_call (As := [.int (plan)]) (rest := []) (ci := 3) X hP (c_X3_reachesAll hp0 plan) o_X3_reachesAll rfl hp0.lt hp0.ob m613 ⟨rfl, rfl⟩ ⟨Nat.le_of_ble_eq_true rfl, Nat.le_of_ble_eq_true rfl⟩ rfl hl.1 rfl (Nat.le_of_ble_eq_true rfl) ⟨Nat.zero_le _, Nat.zero_le _⟩ dX3_verdictOf_25 ?_
      refine q_eqB (tgt := 35) hx hb dX3_verdictOf_28 (by decide) (fun c3 => ?_) (fun c3 => ?_)
      · refine lv_iconst (v := nI 3) hx hb dX3_verdictOf_35 (by decide) ?_
        exact kr 36 ls _ (Eq.symm (by rw [f_X3_verdictOf, if_neg c1, if_neg (nt c2), if_neg (nt c3)] <;> rfl)) dX3_verdictOf_36
      · refine lv_iconst (v := nI 0) hx hb dX3_verdictOf_31 (by decide) ?_
        refine lv_goto (tgt := 36) hx hb dX3_verdictOf_32 (by decide) ?_
        exact kr 36 ls _ (Eq.symm (by rw [f_X3_verdictOf, if_neg c1, if_neg (nt c2), if_pos c3] <;> rfl)) dX3_verdictOf_36
    · refine lv_iconst (v := nI 2) hx hb dX3_verdictOf_21 (by decide) ?_
      exact kr 22 ls _ (Eq.symm (by rw [f_X3_verdictOf, if_neg c1, if_pos c2] <;> rfl)) dX3_verdictOf_22
  · refine lv_iconst (v := nI 1) hx hb dX3_verdictOf_11 (by decide) ?_
    exact kr 12 ls _ (Eq.symm (by rw [f_X3_verdictOf, if_pos c1] <;> rfl)) dX3_verdictOf_12
theorem o_X3_verdictOf : okV yX3_verdictOf cX3_verdictOf 2 (some .int) 1 := ⟨m610, m611, m35, m612, by decide +kernel, by decide +kernel, by decide +kernel⟩
def rmX3_isFeasible : Room := { frames := 4, cells := 0, slots := 0, locals := 88 }
def f_X3_isFeasible (x : PlC) (plan : Int32) : Bool :=
  (if (f_X3_isAllowed x plan) = true then (if (f_X3_reachesAll x plan) = true then true else false) else false)
set_option maxHeartbeats 4000000 in
set_option maxRecDepth 100000 in
theorem c_X3_isFeasible {l : Launch} {dd : va_G} {t : CL4} {N : Nat} {ad : Nat → Nat} {V : Nat → va_E} {b : Nat} {x : PlC}  (hp0 : PlP N ad V t b x) (plan : Int32)  : RM l dd t N ad V yX3_isFeasible cX3_isFeasible 2 (some .boolean) rmX3_isFeasible [.ref (ad b), .int (plan)] (b01 (f_X3_isFeasible x plan)) := by
  refine RM.of (by decide +kernel) ⟨rfl, rfl⟩ (Nat.le_of_ble_eq_true rfl) (narB _) ?_
  intro p e s m as below meth c Q X H hP ls hl kr
  have X : WX p s m as c cX3_isFeasible 2 RX3 dd t := X
  have hx := X.1.1
  have hb := X.1.2.1
  have hl : lv_has ls 2 [(0, .ref (ad b)), (1, .int (plan))] := hl
  have hi0_0 := hp0.i0
  have hi0_1 := hp0.i1
  have hle0 := hp0.le
  refine lv_aload_n hx hb dX3_isFeasible_0 rfl (lv_at hl 0 rfl) ?_
  refine lv_iload_n hx hb dX3_isFeasible_1 rfl (lv_at hl 1 rfl) ?_
  refine r_call (As := [.int (plan)]) (rest := []) (ci := 3) X hP (c_X3_isAllowed hp0 plan) o_X3_isAllowed rfl hp0.lt hp0.ob m668 ⟨rfl, rfl⟩ ⟨Nat.le_of_ble_eq_true rfl, Nat.le_of_ble_eq_true rfl⟩ rfl hl.1 rfl (Nat.le_of_ble_eq_true rfl) ⟨Nat.zero_le _, Nat.zero_le _⟩ dX3_isFeasible_2 ?_
  refine q_eqB (tgt := 20) hx hb dX3_isFeasible_5 (by decide) (fun c1 => ?_) (fun c1 => ?_)
  · refine lv_iconst (v := nI 0) hx hb dX3_isFeasible_20 (by decide) ?_
    exact kr 21 ls _ (b_f (by rw [f_X3_isFeasible, if_neg (nt c1)] <;> rfl)) dX3_isFeasible_21
  · refine lv_aload_n hx hb dX3_isFeasible_8 rfl (lv_at hl 0 rfl) ?_
    refine lv_iload_n hx hb dX3_isFeasible_9 rfl (lv_at hl 1 rfl) ?_
    refine r_call (As := [.int (plan)]) (rest := []) (ci := 3) X hP (c_X3_reachesAll hp0 plan) o_X3_reachesAll rfl hp0.lt hp0.ob m613 ⟨rfl, rfl⟩ ⟨Nat.le_of_ble_eq_true rfl, Nat.le_of_ble_eq_true rfl⟩ rfl hl.1 rfl (Nat.le_of_ble_eq_true rfl) ⟨Nat.zero_le _, Nat.zero_le _⟩ dX3_isFeasible_10 ?_
    refine q_eqB (tgt := 20) hx hb dX3_isFeasible_13 (by decide) (fun c2 => ?_) (fun c2 => ?_)
    · refine lv_iconst (v := nI 0) hx hb dX3_isFeasible_20 (by decide) ?_
      exact kr 21 ls _ (b_f (by rw [f_X3_isFeasible, if_pos c1, if_neg (nt c2)] <;> rfl)) dX3_isFeasible_21
    · refine lv_iconst (v := nI 1) hx hb dX3_isFeasible_16 (by decide) ?_
      refine lv_goto (tgt := 21) hx hb dX3_isFeasible_17 (by decide) ?_
      exact kr 21 ls _ (b_t (by rw [f_X3_isFeasible, if_pos c1, if_pos c2] <;> rfl)) dX3_isFeasible_21
theorem o_X3_isFeasible : okV yX3_isFeasible cX3_isFeasible 2 (some .boolean) 1 := ⟨m665, m666, m35, m667, by decide +kernel, by decide +kernel, by decide +kernel⟩
def rmX3_findBestPlan : Room := { frames := 5, cells := 0, slots := 0, locals := 109 }
def l_X3_findBestPlan_6 (x : PlC) : Nat → Nat → Int32 → Int32 → Int32 × Int32
  | 0, ix_1, a1_1, a2_1 => (a1_1, a2_1)
  | dx_1 + 1, ix_1, a1_1, a2_1 => (if (f_X3_isFeasible x (nI ix_1)) = true then (if a1_1 = (-1) then l_X3_findBestPlan_6 x dx_1 (ix_1 + 1) (nI ix_1) (f_X3_costOf x (nI ix_1)) else (if (f_X3_costOf x (nI ix_1)) < a2_1 then l_X3_findBestPlan_6 x dx_1 (ix_1 + 1) (nI ix_1) (f_X3_costOf x (nI ix_1)) else l_X3_findBestPlan_6 x dx_1 (ix_1 + 1) a1_1 a2_1)) else l_X3_findBestPlan_6 x dx_1 (ix_1 + 1) a1_1 a2_1)
def f_X3_findBestPlan (x : PlC) : Int32 :=
  ((l_X3_findBestPlan_6 x (2 ^ pN x) 0 (-1) (nI 0)).1)
set_option maxHeartbeats 4000000 in
set_option maxRecDepth 100000 in
theorem c_X3_findBestPlan {l : Launch} {dd : va_G} {t : CL4} {N : Nat} {ad : Nat → Nat} {V : Nat → va_E} {b : Nat} {x : PlC}  (hp0 : PlP N ad V t b x)   : RM l dd t N ad V yX3_findBestPlan cX3_findBestPlan 4 (some .int) rmX3_findBestPlan [.ref (ad b)] (f_X3_findBestPlan x) := by
  refine RM.of (by decide +kernel) ⟨rfl, rfl⟩ (Nat.le_of_ble_eq_true rfl) (narI _) ?_
  intro p e s m as below meth c Q X H hP ls hl kr
  have X : WX p s m as c cX3_findBestPlan 4 RX3 dd t := X
  have hx := X.1.1
  have hb := X.1.2.1
  have hl : lv_has ls 4 [(0, .ref (ad b))] := hl
  have hi0_0 := hp0.i0
  have hi0_1 := hp0.i1
  have hle0 := hp0.le
  have hpw : 2 ^ pN x ≤ 128 := pow7 hi0_0
  refine lv_iconst (v := (-1)) hx hb dX3_findBestPlan_0 (by decide) ?_
  refine lv_istore_n (lv' := [(1, .int ((-1))), (0, .ref (ad b))]) hx hb dX3_findBestPlan_1 rfl hl (by decide) rfl (fun ls hl => ?_)
  refine lv_iconst (v := nI 0) hx hb dX3_findBestPlan_2 (by decide) ?_
  refine lv_istore_n (lv' := [(2, .int (nI 0)), (1, .int ((-1))), (0, .ref (ad b))]) hx hb dX3_findBestPlan_3 rfl hl (by decide) rfl (fun ls hl => ?_)
  refine lv_iconst (v := nI 0) hx hb dX3_findBestPlan_4 (by decide) ?_
  refine lv_istore_n (lv' := [(3, .int (nI 0)), (2, .int (nI 0)), (1, .int ((-1))), (0, .ref (ad b))]) hx hb dX3_findBestPlan_5 rfl hl (by decide) rfl (fun ls hl => ?_)
  have L1 : ∀ (dx_1 ix_1 : Nat) (a1_1 : Int32) (a2_1 : Int32) (ls : Array Slot), (ix_1 + dx_1 = 2 ^ pN x) → (l_X3_findBestPlan_6 x dx_1 ix_1 a1_1 a2_1 = l_X3_findBestPlan_6 x (2 ^ pN x) 0 (-1) (nI 0)) → (lv_has ls 4 [(0, .ref (ad b)), (1, .int (a1_1)), (2, .int (a2_1)), (3, .int (nI ix_1))]) → W p l e rmX3_findBestPlan s m as below meth c H [] 0 0 Q (F0 m 6 ls []) := by
    intro dx_1
    induction dx_1 with
    | zero =>
      intro ix_1 a1_1 a2_1 ls hid hvx_1 hl
      have hiN : 2 ^ pN x = ix_1 := by omega
      subst hiN
      have hvx_1 : (a1_1, a2_1) = l_X3_findBestPlan_6 x (2 ^ pN x) 0 (-1) (nI 0) := hvx_1
      have hh0 : a1_1 = (l_X3_findBestPlan_6 x (2 ^ pN x) 0 (-1) (nI 0)).1 := congrArg (fun q => (q).1) hvx_1
      have hh1 : a2_1 = (l_X3_findBestPlan_6 x (2 ^ pN x) 0 (-1) (nI 0)).2 := congrArg (fun q => (q).2) hvx_1
      subst hh0
      subst hh1
      refine lv_iload_n hx hb dX3_findBestPlan_6 rfl (lv_at hl 3 rfl) ?_
      refine lv_aload_n hx hb dX3_findBestPlan_7 rfl (lv_at hl 0 rfl) ?_
      refine r_call (As := []) (rest := [.int (nI (2 ^ pN x))]) (ci := 3) X hP (c_X3_planCount hp0) o_X3_planCount rfl hp0.lt hp0.ob m608 ⟨rfl, rfl⟩ ⟨Nat.le_of_ble_eq_true rfl, Nat.le_of_ble_eq_true rfl⟩ rfl hl.1 rfl (Nat.le_of_ble_eq_true rfl) ⟨Nat.zero_le _, Nat.zero_le _⟩ dX3_findBestPlan_8 ?_
      refine q_val (show nI (f_X3_planCount x) = nI (2 ^ pN x) from rfl) ?_
      refine q_ge (tgt := 50) hx hb (by omega) (by omega) dX3_findBestPlan_11 (by decide) (fun c2 => ?_) (fun h => absurd h (by omega))
      refine lv_iload_n hx hb dX3_findBestPlan_50 rfl (lv_at hl 1 rfl) ?_
      exact kr 51 ls _ (Eq.symm (by rw [f_X3_findBestPlan] <;> rfl)) dX3_findBestPlan_51
    | succ dx_1 ihx_1 =>
      intro ix_1 a1_1 a2_1 ls hid hvx_1 hl
      refine lv_iload_n hx hb dX3_findBestPlan_6 rfl (lv_at hl 3 rfl) ?_
      refine lv_aload_n hx hb dX3_findBestPlan_7 rfl (lv_at hl 0 rfl) ?_
      refine r_call (As := []) (rest := [.int (nI ix_1)]) (ci := 3) X hP (c_X3_planCount hp0) o_X3_planCount rfl hp0.lt hp0.ob m608 ⟨rfl, rfl⟩ ⟨Nat.le_of_ble_eq_true rfl, Nat.le_of_ble_eq_true rfl⟩ rfl hl.1 rfl (Nat.le_of_ble_eq_true rfl) ⟨Nat.zero_le _, Nat.zero_le _⟩ dX3_findBestPlan_8 ?_
      refine q_val (show nI (f_X3_planCount x) = nI (2 ^ pN x) from rfl) ?_
      refine q_ge (tgt := 50) hx hb (by omega) (by omega) dX3_findBestPlan_11 (by decide) (fun h => absurd h (by omega)) (fun c3 => ?_)
      refine lv_aload_n hx hb dX3_findBestPlan_14 rfl (lv_at hl 0 rfl) ?_
      refine lv_iload_n hx hb dX3_findBestPlan_15 rfl (lv_at hl 3 rfl) ?_
      refine r_call (As := [.int (nI ix_1)]) (rest := []) (ci := 3) X hP (c_X3_isFeasible hp0 (nI ix_1)) o_X3_isFeasible rfl hp0.lt hp0.ob m750 ⟨rfl, rfl⟩ ⟨Nat.le_of_ble_eq_true rfl, Nat.le_of_ble_eq_true rfl⟩ rfl hl.1 rfl (Nat.le_of_ble_eq_true rfl) ⟨Nat.zero_le _, Nat.zero_le _⟩ dX3_findBestPlan_16 ?_
      refine q_eqB (tgt := 44) hx hb dX3_findBestPlan_19 (by decide) (fun c4 => ?_) (fun c4 => ?_)
      · refine lv_iinc (v := nI (ix_1 + 1)) (lv' := [(3, .int (nI (ix_1 + 1))), (0, .ref (ad b)), (1, .int (a1_1)), (2, .int (a2_1))]) hx hb dX3_findBestPlan_44 hl (k := 3) rfl (nI_inc _) (by decide) rfl (fun ls hl => ?_)
        refine lv_goto (tgt := 6) hx hb dX3_findBestPlan_47 (by decide) ?_
        exact ihx_1 (ix_1 + 1) a1_1 a2_1 ls (by omega) (Eq.trans (Eq.symm (by rw [l_X3_findBestPlan_6, if_neg (nt c4)] <;> rfl)) hvx_1) (lv_sub hl [1, 2, 3, 0] rfl)
      · refine lv_iload_n hx hb dX3_findBestPlan_22 rfl (lv_at hl 1 rfl) ?_
        refine lv_iconst (v := (-1)) hx hb dX3_findBestPlan_23 (by decide) ?_
        refine lv_icmp_eq (tgt := 36) hx hb dX3_findBestPlan_24 (by decide) (fun c5 => ?_) (fun c5 => ?_)
        · refine lv_iload_n hx hb dX3_findBestPlan_36 rfl (lv_at hl 3 rfl) ?_
          refine lv_istore_n (lv' := [(1, .int (nI ix_1)), (0, .ref (ad b)), (2, .int (a2_1)), (3, .int (nI ix_1))]) hx hb dX3_findBestPlan_37 rfl hl (by decide) rfl (fun ls hl => ?_)
          refine lv_aload_n hx hb dX3_findBestPlan_38 rfl (lv_at hl 1 rfl) ?_
          refine lv_iload_n hx hb dX3_findBestPlan_39 rfl (lv_at hl 3 rfl) ?_
          refine r_call (As := [.int (nI ix_1)]) (rest := []) (ci := 3) X hP (c_X3_costOf hp0 (nI ix_1)) o_X3_costOf rfl hp0.lt hp0.ob m751 ⟨rfl, rfl⟩ ⟨Nat.le_of_ble_eq_true rfl, Nat.le_of_ble_eq_true rfl⟩ rfl hl.1 rfl (Nat.le_of_ble_eq_true rfl) ⟨Nat.zero_le _, Nat.zero_le _⟩ dX3_findBestPlan_40 ?_
          refine lv_istore_n (lv' := [(2, .int (f_X3_costOf x (nI ix_1))), (1, .int (nI ix_1)), (0, .ref (ad b)), (3, .int (nI ix_1))]) hx hb dX3_findBestPlan_43 rfl hl (by decide) rfl (fun ls hl => ?_)
          refine lv_iinc (v := nI (ix_1 + 1)) (lv' := [(3, .int (nI (ix_1 + 1))), (2, .int (f_X3_costOf x (nI ix_1))), (1, .int (nI ix_1)), (0, .ref (ad b))]) hx hb dX3_findBestPlan_44 hl (k := 3) rfl (nI_inc _) (by decide) rfl (fun ls hl => ?_)
          refine lv_goto (tgt := 6) hx hb dX3_findBestPlan_47 (by decide) ?_
          exact ihx_1 (ix_1 + 1) (nI ix_1) (f_X3_costOf x (nI ix_1)) ls (by omega) (Eq.trans (Eq.symm (by rw [l_X3_findBestPlan_6, if_pos c4, if_pos c5] <;> rfl)) hvx_1) (lv_sub hl [3, 2, 1, 0] rfl)
        · refine lv_aload_n hx hb dX3_findBestPlan_27 rfl (lv_at hl 0 rfl) ?_
          refine lv_iload_n hx hb dX3_findBestPlan_28 rfl (lv_at hl 3 rfl) ?_
          refine r_call (As := [.int (nI ix_1)]) (rest := []) (ci := 3) X hP (c_X3_costOf hp0 (nI ix_1)) o_X3_costOf rfl hp0.lt hp0.ob m751 ⟨rfl, rfl⟩ ⟨Nat.le_of_ble_eq_true rfl, Nat.le_of_ble_eq_true rfl⟩ rfl hl.1 rfl (Nat.le_of_ble_eq_true rfl) ⟨Nat.zero_le _, Nat.zero_le _⟩ dX3_findBestPlan_29 ?_
          refine lv_iload_n hx hb dX3_findBestPlan_32 rfl (lv_at hl 2 rfl) ?_
          refine j_ge (tgt := 44) hx hb dX3_findBestPlan_33 (by decide) (fun c6 => ?_) (fun c6 => ?_)
          · refine lv_iinc (v := nI (ix_1 + 1)) (lv' := [(3, .int (nI (ix_1 + 1))), (0, .ref (ad b)), (1, .int (a1_1)), (2, .int (a2_1))]) hx hb dX3_findBestPlan_44 hl (k := 3) rfl (nI_inc _) (by decide) rfl (fun ls hl => ?_)
            refine lv_goto (tgt := 6) hx hb dX3_findBestPlan_47 (by decide) ?_
            exact ihx_1 (ix_1 + 1) a1_1 a2_1 ls (by omega) (Eq.trans (Eq.symm (by rw [l_X3_findBestPlan_6, if_pos c4, if_neg c5, if_neg c6] <;> rfl)) hvx_1) (lv_sub hl [1, 2, 3, 0] rfl)
          · refine lv_iload_n hx hb dX3_findBestPlan_36 rfl (lv_at hl 3 rfl) ?_
            refine lv_istore_n (lv' := [(1, .int (nI ix_1)), (0, .ref (ad b)), (2, .int (a2_1)), (3, .int (nI ix_1))]) hx hb dX3_findBestPlan_37 rfl hl (by decide) rfl (fun ls hl => ?_)
            refine lv_aload_n hx hb dX3_findBestPlan_38 rfl (lv_at hl 1 rfl) ?_
            refine lv_iload_n hx hb dX3_findBestPlan_39 rfl (lv_at hl 3 rfl) ?_
            refine r_call (As := [.int (nI ix_1)]) (rest := []) (ci := 3) X hP (c_X3_costOf hp0 (nI ix_1)) o_X3_costOf rfl hp0.lt hp0.ob m751 ⟨rfl, rfl⟩ ⟨Nat.le_of_ble_eq_true rfl, Nat.le_of_ble_eq_true rfl⟩ rfl hl.1 rfl (Nat.le_of_ble_eq_true rfl) ⟨Nat.zero_le _, Nat.zero_le _⟩ dX3_findBestPlan_40 ?_
            refine lv_istore_n (lv' := [(2, .int (f_X3_costOf x (nI ix_1))), (1, .int (nI ix_1)), (0, .ref (ad b)), (3, .int (nI ix_1))]) hx hb dX3_findBestPlan_43 rfl hl (by decide) rfl (fun ls hl => ?_)
            refine lv_iinc (v := nI (ix_1 + 1)) (lv' := [(3, .int (nI (ix_1 + 1))), (2, .int (f_X3_costOf x (nI ix_1))), (1, .int (nI ix_1)), (0, .ref (ad b))]) hx hb dX3_findBestPlan_44 hl (k := 3) rfl (nI_inc _) (by decide) rfl (fun ls hl => ?_)
            refine lv_goto (tgt := 6) hx hb dX3_findBestPlan_47 (by decide) ?_
            exact ihx_1 (ix_1 + 1) (nI ix_1) (f_X3_costOf x (nI ix_1)) ls (by omega) (Eq.trans (Eq.symm (by rw [l_X3_findBestPlan_6, if_pos c4, if_neg c5, if_pos c6] <;> rfl)) hvx_1) (lv_sub hl [3, 2, 1, 0] rfl)
  exact L1 (2 ^ pN x) 0 (-1) (nI 0) ls (by omega) rfl (lv_sub hl [3, 2, 1, 0] rfl)
theorem o_X3_findBestPlan : okV yX3_findBestPlan cX3_findBestPlan 4 (some .int) 0 := ⟨m747, m748, m35, m749, by decide +kernel, by decide +kernel, by decide +kernel⟩
def rmX3_countFeasiblePlans : Room := { frames := 5, cells := 0, slots := 0, locals := 109 }
def l_X3_countFeasiblePlans_4 (x : PlC) : Nat → Nat → Nat → Nat
  | 0, ix_1, a1_1 => a1_1
  | dx_1 + 1, ix_1, a1_1 => (if (f_X3_isFeasible x (nI ix_1)) = true then l_X3_countFeasiblePlans_4 x dx_1 (ix_1 + 1) (a1_1 + 1) else l_X3_countFeasiblePlans_4 x dx_1 (ix_1 + 1) a1_1)
def f_X3_countFeasiblePlans (x : PlC) : Int32 :=
  nI (l_X3_countFeasiblePlans_4 x (2 ^ pN x) 0 0)
set_option maxHeartbeats 4000000 in
set_option maxRecDepth 100000 in
theorem c_X3_countFeasiblePlans {l : Launch} {dd : va_G} {t : CL4} {N : Nat} {ad : Nat → Nat} {V : Nat → va_E} {b : Nat} {x : PlC}  (hp0 : PlP N ad V t b x)   : RM l dd t N ad V yX3_countFeasiblePlans cX3_countFeasiblePlans 3 (some .int) rmX3_countFeasiblePlans [.ref (ad b)] (f_X3_countFeasiblePlans x) := by
  refine RM.of (by decide +kernel) ⟨rfl, rfl⟩ (Nat.le_of_ble_eq_true rfl) (narI _) ?_
  intro p e s m as below meth c Q X H hP ls hl kr
  have X : WX p s m as c cX3_countFeasiblePlans 3 RX3 dd t := X
  have hx := X.1.1
  have hb := X.1.2.1
  have hl : lv_has ls 3 [(0, .ref (ad b))] := hl
  have hi0_0 := hp0.i0
  have hi0_1 := hp0.i1
  have hle0 := hp0.le
  have hpw : 2 ^ pN x ≤ 128 := pow7 hi0_0
  refine lv_iconst (v := nI 0) hx hb dX3_countFeasiblePlans_0 (by decide) ?_
  refine lv_istore_n (lv' := [(1, .int (nI 0)), (0, .ref (ad b))]) hx hb dX3_countFeasiblePlans_1 rfl hl (by decide) rfl (fun ls hl => ?_)
  refine lv_iconst (v := nI 0) hx hb dX3_countFeasiblePlans_2 (by decide) ?_
  refine lv_istore_n (lv' := [(2, .int (nI 0)), (1, .int (nI 0)), (0, .ref (ad b))]) hx hb dX3_countFeasiblePlans_3 rfl hl (by decide) rfl (fun ls hl => ?_)
  have L1 : ∀ (dx_1 ix_1 : Nat) (a1_1 : Nat) (ls : Array Slot), (ix_1 + dx_1 = 2 ^ pN x) → (l_X3_countFeasiblePlans_4 x dx_1 ix_1 a1_1 = l_X3_countFeasiblePlans_4 x (2 ^ pN x) 0 0) → (lv_has ls 3 [(0, .ref (ad b)), (1, .int (nI a1_1)), (2, .int (nI ix_1))]) → W p l e rmX3_countFeasiblePlans s m as below meth c H [] 0 0 Q (F0 m 4 ls []) := by
    intro dx_1
    induction dx_1 with
    | zero =>
      intro ix_1 a1_1 ls hid hvx_1 hl
      have hiN : 2 ^ pN x = ix_1 := by omega
      subst hiN
      have hvx_1 : a1_1 = l_X3_countFeasiblePlans_4 x (2 ^ pN x) 0 0 := hvx_1
      have hh0 : a1_1 = l_X3_countFeasiblePlans_4 x (2 ^ pN x) 0 0 := hvx_1
      subst hh0
      refine lv_iload_n hx hb dX3_countFeasiblePlans_4 rfl (lv_at hl 2 rfl) ?_
      refine lv_aload_n hx hb dX3_countFeasiblePlans_5 rfl (lv_at hl 0 rfl) ?_
      refine r_call (As := []) (rest := [.int (nI (2 ^ pN x))]) (ci := 3) X hP (c_X3_planCount hp0) o_X3_planCount rfl hp0.lt hp0.ob m608 ⟨rfl, rfl⟩ ⟨Nat.le_of_ble_eq_true rfl, Nat.le_of_ble_eq_true rfl⟩ rfl hl.1 rfl (Nat.le_of_ble_eq_true rfl) ⟨Nat.zero_le _, Nat.zero_le _⟩ dX3_countFeasiblePlans_6 ?_
      refine q_val (show nI (f_X3_planCount x) = nI (2 ^ pN x) from rfl) ?_
      refine q_ge (tgt := 29) hx hb (by omega) (by omega) dX3_countFeasiblePlans_9 (by decide) (fun c2 => ?_) (fun h => absurd h (by omega))
      refine lv_iload_n hx hb dX3_countFeasiblePlans_29 rfl (lv_at hl 1 rfl) ?_
      exact kr 30 ls _ (Eq.symm (by rw [f_X3_countFeasiblePlans] <;> rfl)) dX3_countFeasiblePlans_30
    | succ dx_1 ihx_1 =>
      intro ix_1 a1_1 ls hid hvx_1 hl
      refine lv_iload_n hx hb dX3_countFeasiblePlans_4 rfl (lv_at hl 2 rfl) ?_
      refine lv_aload_n hx hb dX3_countFeasiblePlans_5 rfl (lv_at hl 0 rfl) ?_
      refine r_call (As := []) (rest := [.int (nI ix_1)]) (ci := 3) X hP (c_X3_planCount hp0) o_X3_planCount rfl hp0.lt hp0.ob m608 ⟨rfl, rfl⟩ ⟨Nat.le_of_ble_eq_true rfl, Nat.le_of_ble_eq_true rfl⟩ rfl hl.1 rfl (Nat.le_of_ble_eq_true rfl) ⟨Nat.zero_le _, Nat.zero_le _⟩ dX3_countFeasiblePlans_6 ?_
      refine q_val (show nI (f_X3_planCount x) = nI (2 ^ pN x) from rfl) ?_
      refine q_ge (tgt := 29) hx hb (by omega) (by omega) dX3_countFeasiblePlans_9 (by decide) (fun h => absurd h (by omega)) (fun c3 => ?_)
      refine lv_aload_n hx hb dX3_countFeasiblePlans_12 rfl (lv_at hl 0 rfl) ?_
      refine lv_iload_n hx hb dX3_countFeasiblePlans_13 rfl (lv_at hl 2 rfl) ?_
      refine r_call (As := [.int (nI ix_1)]) (rest := []) (ci := 3) X hP (c_X3_isFeasible hp0 (nI ix_1)) o_X3_isFeasible rfl hp0.lt hp0.ob m750 ⟨rfl, rfl⟩ ⟨Nat.le_of_ble_eq_true rfl, Nat.le_of_ble_eq_true rfl⟩ rfl hl.1 rfl (Nat.le_of_ble_eq_true rfl) ⟨Nat.zero_le _, Nat.zero_le _⟩ dX3_countFeasiblePlans_14 ?_
      refine q_eqB (tgt := 23) hx hb dX3_countFeasiblePlans_17 (by decide) (fun c4 => ?_) (fun c4 => ?_)
      · refine lv_iinc (v := nI (ix_1 + 1)) (lv' := [(2, .int (nI (ix_1 + 1))), (0, .ref (ad b)), (1, .int (nI a1_1))]) hx hb dX3_countFeasiblePlans_23 hl (k := 2) rfl (nI_inc _) (by decide) rfl (fun ls hl => ?_)
        refine lv_goto (tgt := 4) hx hb dX3_countFeasiblePlans_26 (by decide) ?_
        exact ihx_1 (ix_1 + 1) a1_1 ls (by omega) (Eq.trans (Eq.symm (by rw [l_X3_countFeasiblePlans_4, if_neg (nt c4)] <;> rfl)) hvx_1) (lv_sub hl [1, 2, 0] rfl)
      · refine lv_iinc (v := nI (a1_1 + 1)) (lv' := [(1, .int (nI (a1_1 + 1))), (0, .ref (ad b)), (2, .int (nI ix_1))]) hx hb dX3_countFeasiblePlans_20 hl (k := 1) rfl (nI_inc _) (by decide) rfl (fun ls hl => ?_)
        refine lv_iinc (v := nI (ix_1 + 1)) (lv' := [(2, .int (nI (ix_1 + 1))), (1, .int (nI (a1_1 + 1))), (0, .ref (ad b))]) hx hb dX3_countFeasiblePlans_23 hl (k := 2) rfl (nI_inc _) (by decide) rfl (fun ls hl => ?_)
        refine lv_goto (tgt := 4) hx hb dX3_countFeasiblePlans_26 (by decide) ?_
        exact ihx_1 (ix_1 + 1) (a1_1 + 1) ls (by omega) (Eq.trans (Eq.symm (by rw [l_X3_countFeasiblePlans_4, if_pos c4] <;> rfl)) hvx_1) (lv_sub hl [2, 1, 0] rfl)
  exact L1 (2 ^ pN x) 0 0 ls (by omega) rfl (lv_sub hl [2, 1, 0] rfl)
theorem o_X3_countFeasiblePlans : okV yX3_countFeasiblePlans cX3_countFeasiblePlans 3 (some .int) 0 := ⟨m753, m754, m35, m755, by decide +kernel, by decide +kernel, by decide +kernel⟩
def rmX3_countRoutes : Room := { frames := 1, cells := 0, slots := 0, locals := 22 }
def l_X3_countRoutes_14 (x : PlC) (ix_1 : Nat) (a1_1 : Nat) : Nat → Nat → Nat → Nat
  | 0, ix_4, a1_4 => a1_4
  | dx_4 + 1, ix_4, a1_4 => (if (f_X3_hasRoute x ix_1 ix_4) = true then l_X3_countRoutes_14 x ix_1 a1_1 dx_4 (ix_4 + 1) (a1_4 + 1) else l_X3_countRoutes_14 x ix_1 a1_1 dx_4 (ix_4 + 1) a1_4)
def l_X3_countRoutes_4 (x : PlC) : Nat → Nat → Nat → Nat
  | 0, ix_1, a1_1 => a1_1
  | dx_1 + 1, ix_1, a1_1 => l_X3_countRoutes_4 x dx_1 (ix_1 + 1) (l_X3_countRoutes_14 x ix_1 a1_1 (pM x) 0 a1_1)
def f_X3_countRoutes (x : PlC) : Int32 :=
  nI (l_X3_countRoutes_4 x (pN x) 0 0)
set_option maxHeartbeats 4000000 in
set_option maxRecDepth 100000 in
theorem c_X3_countRoutes {l : Launch} {dd : va_G} {t : CL4} {N : Nat} {ad : Nat → Nat} {V : Nat → va_E} {b : Nat} {x : PlC}  (hp0 : PlP N ad V t b x)   : RM l dd t N ad V yX3_countRoutes cX3_countRoutes 4 (some .int) rmX3_countRoutes [.ref (ad b)] (f_X3_countRoutes x) := by
  refine RM.of (by decide +kernel) ⟨rfl, rfl⟩ (Nat.le_of_ble_eq_true rfl) (narI _) ?_
  intro p e s m as below meth c Q X H hP ls hl kr
  have X : WX p s m as c cX3_countRoutes 4 RX3 dd t := X
  have hx := X.1.1
  have hb := X.1.2.1
  have hl : lv_has ls 4 [(0, .ref (ad b))] := hl
  have hi0_0 := hp0.i0
  have hi0_1 := hp0.i1
  have hle0 := hp0.le
  refine lv_iconst (v := nI 0) hx hb dX3_countRoutes_0 (by decide) ?_
  refine lv_istore_n (lv' := [(1, .int (nI 0)), (0, .ref (ad b))]) hx hb dX3_countRoutes_1 rfl hl (by decide) rfl (fun ls hl => ?_)
  refine lv_iconst (v := nI 0) hx hb dX3_countRoutes_2 (by decide) ?_
  refine lv_istore_n (lv' := [(2, .int (nI 0)), (1, .int (nI 0)), (0, .ref (ad b))]) hx hb dX3_countRoutes_3 rfl hl (by decide) rfl (fun ls hl => ?_)
  have L1 : ∀ (dx_1 ix_1 : Nat) (a1_1 : Nat) (ls : Array Slot), (ix_1 + dx_1 = pN x) → (l_X3_countRoutes_4 x dx_1 ix_1 a1_1 = l_X3_countRoutes_4 x (pN x) 0 0) → (lv_has ls 4 [(0, .ref (ad b)), (1, .int (nI a1_1)), (2, .int (nI ix_1))]) → W p l e rmX3_countRoutes s m as below meth c H [] 0 0 Q (F0 m 4 ls []) := by
    intro dx_1
    induction dx_1 with
    | zero =>
      intro ix_1 a1_1 ls hid hvx_1 hl
      have hiN : pN x = ix_1 := by omega
      subst hiN
      have hvx_1 : a1_1 = l_X3_countRoutes_4 x (pN x) 0 0 := hvx_1
      have hh0 : a1_1 = l_X3_countRoutes_4 x (pN x) 0 0 := hvx_1
      subst hh0
      refine lv_iload_n hx hb dX3_countRoutes_4 rfl (lv_at hl 2 rfl) ?_
      refine lv_aload_n hx hb dX3_countRoutes_5 rfl (lv_at hl 0 rfl) ?_
      refine g_Pl_siteCount X hP hp0 m47 dX3_countRoutes_6 ?_
      refine q_ge (tgt := 46) hx hb (by omega) (by omega) dX3_countRoutes_9 (by decide) (fun c2 => ?_) (fun h => absurd h (by omega))
      refine lv_iload_n hx hb dX3_countRoutes_46 rfl (lv_at hl 1 rfl) ?_
      exact kr 47 ls _ (Eq.symm (by rw [f_X3_countRoutes] <;> rfl)) dX3_countRoutes_47
    | succ dx_1 ihx_1 =>
      intro ix_1 a1_1 ls hid hvx_1 hl
      refine lv_iload_n hx hb dX3_countRoutes_4 rfl (lv_at hl 2 rfl) ?_
      refine lv_aload_n hx hb dX3_countRoutes_5 rfl (lv_at hl 0 rfl) ?_
      refine g_Pl_siteCount X hP hp0 m47 dX3_countRoutes_6 ?_
      refine q_ge (tgt := 46) hx hb (by omega) (by omega) dX3_countRoutes_9 (by decide) (fun h => absurd h (by omega)) (fun c3 => ?_)
      refine lv_iconst (v := nI 0) hx hb dX3_countRoutes_12 (by decide) ?_
      refine lv_istore_n (lv' := [(3, .int (nI 0)), (0, .ref (ad b)), (1, .int (nI a1_1)), (2, .int (nI ix_1))]) hx hb dX3_countRoutes_13 rfl hl (by decide) rfl (fun ls hl => ?_)
      have L4 : ∀ (dx_4 ix_4 : Nat) (a1_4 : Nat) (ls : Array Slot), (ix_4 + dx_4 = pM x) → (l_X3_countRoutes_14 x ix_1 a1_1 dx_4 ix_4 a1_4 = l_X3_countRoutes_14 x ix_1 a1_1 (pM x) 0 a1_1) → (lv_has ls 4 [(0, .ref (ad b)), (1, .int (nI a1_4)), (2, .int (nI ix_1)), (3, .int (nI ix_4))]) → W p l e rmX3_countRoutes s m as below meth c H [] 0 0 Q (F0 m 14 ls []) := by
        intro dx_4
        induction dx_4 with
        | zero =>
          intro ix_4 a1_4 ls hid hvx_4 hl
          have hiN : pM x = ix_4 := by omega
          subst hiN
          have hvx_4 : a1_4 = l_X3_countRoutes_14 x ix_1 a1_1 (pM x) 0 a1_1 := hvx_4
          have hh0 : a1_4 = l_X3_countRoutes_14 x ix_1 a1_1 (pM x) 0 a1_1 := hvx_4
          subst hh0
          refine lv_iload_n hx hb dX3_countRoutes_14 rfl (lv_at hl 3 rfl) ?_
          refine lv_aload_n hx hb dX3_countRoutes_15 rfl (lv_at hl 0 rfl) ?_
          refine g_Pl_customerCount X hP hp0 m48 dX3_countRoutes_16 ?_
          refine q_ge (tgt := 40) hx hb (by omega) (by omega) dX3_countRoutes_19 (by decide) (fun c5 => ?_) (fun h => absurd h (by omega))
          refine lv_iinc (v := nI (ix_1 + 1)) (lv' := [(2, .int (nI (ix_1 + 1))), (0, .ref (ad b)), (1, .int (nI (l_X3_countRoutes_14 x ix_1 a1_1 (pM x) 0 a1_1))), (3, .int (nI (pM x)))]) hx hb dX3_countRoutes_40 hl (k := 2) rfl (nI_inc _) (by decide) rfl (fun ls hl => ?_)
          refine lv_goto (tgt := 4) hx hb dX3_countRoutes_43 (by decide) ?_
          exact ihx_1 (ix_1 + 1) (l_X3_countRoutes_14 x ix_1 a1_1 (pM x) 0 a1_1) ls (by omega) (Eq.trans (Eq.symm (by rw [l_X3_countRoutes_4] <;> rfl)) hvx_1) (lv_sub hl [1, 2, 0] rfl)
        | succ dx_4 ihx_4 =>
          intro ix_4 a1_4 ls hid hvx_4 hl
          refine lv_iload_n hx hb dX3_countRoutes_14 rfl (lv_at hl 3 rfl) ?_
          refine lv_aload_n hx hb dX3_countRoutes_15 rfl (lv_at hl 0 rfl) ?_
          refine g_Pl_customerCount X hP hp0 m48 dX3_countRoutes_16 ?_
          refine q_ge (tgt := 40) hx hb (by omega) (by omega) dX3_countRoutes_19 (by decide) (fun h => absurd h (by omega)) (fun c6 => ?_)
          refine lv_aload_n hx hb dX3_countRoutes_22 rfl (lv_at hl 0 rfl) ?_
          refine lv_iload_n hx hb dX3_countRoutes_23 rfl (lv_at hl 2 rfl) ?_
          refine lv_iload_n hx hb dX3_countRoutes_24 rfl (lv_at hl 3 rfl) ?_
          refine r_call (As := [.int (nI ix_1), .int (nI ix_4)]) (rest := []) (ci := 3) X hP (c_X3_hasRoute hp0 ix_1 ix_4 (by omega) (by omega)) o_X3_hasRoute rfl hp0.lt hp0.ob m648 ⟨rfl, rfl⟩ ⟨Nat.le_of_ble_eq_true rfl, Nat.le_of_ble_eq_true rfl⟩ rfl hl.1 rfl (Nat.le_of_ble_eq_true rfl) ⟨Nat.zero_le _, Nat.zero_le _⟩ dX3_countRoutes_25 ?_
          refine q_eqB (tgt := 34) hx hb dX3_countRoutes_28 (by decide) (fun c7 => ?_) (fun c7 => ?_)
          · refine lv_iinc (v := nI (ix_4 + 1)) (lv' := [(3, .int (nI (ix_4 + 1))), (0, .ref (ad b)), (1, .int (nI a1_4)), (2, .int (nI ix_1))]) hx hb dX3_countRoutes_34 hl (k := 3) rfl (nI_inc _) (by decide) rfl (fun ls hl => ?_)
            refine lv_goto (tgt := 14) hx hb dX3_countRoutes_37 (by decide) ?_
            exact ihx_4 (ix_4 + 1) a1_4 ls (by omega) (Eq.trans (Eq.symm (by rw [l_X3_countRoutes_14, if_neg (nt c7)] <;> rfl)) hvx_4) (lv_sub hl [1, 2, 3, 0] rfl)
          · refine lv_iinc (v := nI (a1_4 + 1)) (lv' := [(1, .int (nI (a1_4 + 1))), (0, .ref (ad b)), (2, .int (nI ix_1)), (3, .int (nI ix_4))]) hx hb dX3_countRoutes_31 hl (k := 1) rfl (nI_inc _) (by decide) rfl (fun ls hl => ?_)
            refine lv_iinc (v := nI (ix_4 + 1)) (lv' := [(3, .int (nI (ix_4 + 1))), (1, .int (nI (a1_4 + 1))), (0, .ref (ad b)), (2, .int (nI ix_1))]) hx hb dX3_countRoutes_34 hl (k := 3) rfl (nI_inc _) (by decide) rfl (fun ls hl => ?_)
            refine lv_goto (tgt := 14) hx hb dX3_countRoutes_37 (by decide) ?_
            exact ihx_4 (ix_4 + 1) (a1_4 + 1) ls (by omega) (Eq.trans (Eq.symm (by rw [l_X3_countRoutes_14, if_pos c7] <;> rfl)) hvx_4) (lv_sub hl [2, 1, 3, 0] rfl)
      exact L4 (pM x) 0 a1_1 ls (by omega) rfl (lv_sub hl [1, 2, 3, 0] rfl)
  exact L1 (pN x) 0 0 ls (by omega) rfl (lv_sub hl [2, 1, 0] rfl)
theorem o_X3_countRoutes : okV yX3_countRoutes cX3_countRoutes 4 (some .int) 0 := ⟨m766, m767, m35, m768, by decide +kernel, by decide +kernel, by decide +kernel⟩
def rmX3_countExcludingPairs : Room := { frames := 2, cells := 0, slots := 0, locals := 43 }
def l_X3_countExcludingPairs_14 (x : PlC) (ix_1 : Nat) (a1_1 : Nat) : Nat → Nat → Nat → Nat
  | 0, ix_4, a1_4 => a1_4
  | dx_4 + 1, ix_4, a1_4 => (if (f_X3_areExcluding x ix_1 ix_4) = true then l_X3_countExcludingPairs_14 x ix_1 a1_1 dx_4 (ix_4 + 1) (a1_4 + 1) else l_X3_countExcludingPairs_14 x ix_1 a1_1 dx_4 (ix_4 + 1) a1_4)
def l_X3_countExcludingPairs_4 (x : PlC) : Nat → Nat → Nat → Nat
  | 0, ix_1, a1_1 => a1_1
  | dx_1 + 1, ix_1, a1_1 => l_X3_countExcludingPairs_4 x dx_1 (ix_1 + 1) (l_X3_countExcludingPairs_14 x ix_1 a1_1 ix_1 0 a1_1)
def f_X3_countExcludingPairs (x : PlC) : Int32 :=
  nI (l_X3_countExcludingPairs_4 x (pN x) 0 0)
set_option maxHeartbeats 4000000 in
set_option maxRecDepth 100000 in
theorem c_X3_countExcludingPairs {l : Launch} {dd : va_G} {t : CL4} {N : Nat} {ad : Nat → Nat} {V : Nat → va_E} {b : Nat} {x : PlC}  (hp0 : PlP N ad V t b x)   : RM l dd t N ad V yX3_countExcludingPairs cX3_countExcludingPairs 4 (some .int) rmX3_countExcludingPairs [.ref (ad b)] (f_X3_countExcludingPairs x) := by
  refine RM.of (by decide +kernel) ⟨rfl, rfl⟩ (Nat.le_of_ble_eq_true rfl) (narI _) ?_
  intro p e s m as below meth c Q X H hP ls hl kr
  have X : WX p s m as c cX3_countExcludingPairs 4 RX3 dd t := X
  have hx := X.1.1
  have hb := X.1.2.1
  have hl : lv_has ls 4 [(0, .ref (ad b))] := hl
  have hi0_0 := hp0.i0
  have hi0_1 := hp0.i1
  have hle0 := hp0.le
  refine lv_iconst (v := nI 0) hx hb dX3_countExcludingPairs_0 (by decide) ?_
  refine lv_istore_n (lv' := [(1, .int (nI 0)), (0, .ref (ad b))]) hx hb dX3_countExcludingPairs_1 rfl hl (by decide) rfl (fun ls hl => ?_)
  refine lv_iconst (v := nI 0) hx hb dX3_countExcludingPairs_2 (by decide) ?_
  refine lv_istore_n (lv' := [(2, .int (nI 0)), (1, .int (nI 0)), (0, .ref (ad b))]) hx hb dX3_countExcludingPairs_3 rfl hl (by decide) rfl (fun ls hl => ?_)
  have L1 : ∀ (dx_1 ix_1 : Nat) (a1_1 : Nat) (ls : Array Slot), (ix_1 + dx_1 = pN x) → (l_X3_countExcludingPairs_4 x dx_1 ix_1 a1_1 = l_X3_countExcludingPairs_4 x (pN x) 0 0) → (lv_has ls 4 [(0, .ref (ad b)), (1, .int (nI a1_1)), (2, .int (nI ix_1))]) → W p l e rmX3_countExcludingPairs s m as below meth c H [] 0 0 Q (F0 m 4 ls []) := by
    intro dx_1
    induction dx_1 with
    | zero =>
      intro ix_1 a1_1 ls hid hvx_1 hl
      have hiN : pN x = ix_1 := by omega
      subst hiN
      have hvx_1 : a1_1 = l_X3_countExcludingPairs_4 x (pN x) 0 0 := hvx_1
      have hh0 : a1_1 = l_X3_countExcludingPairs_4 x (pN x) 0 0 := hvx_1
      subst hh0
      refine lv_iload_n hx hb dX3_countExcludingPairs_4 rfl (lv_at hl 2 rfl) ?_
      refine lv_aload_n hx hb dX3_countExcludingPairs_5 rfl (lv_at hl 0 rfl) ?_
      refine g_Pl_siteCount X hP hp0 m47 dX3_countExcludingPairs_6 ?_
      refine q_ge (tgt := 43) hx hb (by omega) (by omega) dX3_countExcludingPairs_9 (by decide) (fun c2 => ?_) (fun h => absurd h (by omega))
      refine lv_iload_n hx hb dX3_countExcludingPairs_43 rfl (lv_at hl 1 rfl) ?_
      exact kr 44 ls _ (Eq.symm (by rw [f_X3_countExcludingPairs] <;> rfl)) dX3_countExcludingPairs_44
    | succ dx_1 ihx_1 =>
      intro ix_1 a1_1 ls hid hvx_1 hl
      refine lv_iload_n hx hb dX3_countExcludingPairs_4 rfl (lv_at hl 2 rfl) ?_
      refine lv_aload_n hx hb dX3_countExcludingPairs_5 rfl (lv_at hl 0 rfl) ?_
      refine g_Pl_siteCount X hP hp0 m47 dX3_countExcludingPairs_6 ?_
      refine q_ge (tgt := 43) hx hb (by omega) (by omega) dX3_countExcludingPairs_9 (by decide) (fun h => absurd h (by omega)) (fun c3 => ?_)
      refine lv_iconst (v := nI 0) hx hb dX3_countExcludingPairs_12 (by decide) ?_
      refine lv_istore_n (lv' := [(3, .int (nI 0)), (0, .ref (ad b)), (1, .int (nI a1_1)), (2, .int (nI ix_1))]) hx hb dX3_countExcludingPairs_13 rfl hl (by decide) rfl (fun ls hl => ?_)
      have L4 : ∀ (dx_4 ix_4 : Nat) (a1_4 : Nat) (ls : Array Slot), (ix_4 + dx_4 = ix_1) → (l_X3_countExcludingPairs_14 x ix_1 a1_1 dx_4 ix_4 a1_4 = l_X3_countExcludingPairs_14 x ix_1 a1_1 ix_1 0 a1_1) → (lv_has ls 4 [(0, .ref (ad b)), (1, .int (nI a1_4)), (2, .int (nI ix_1)), (3, .int (nI ix_4))]) → W p l e rmX3_countExcludingPairs s m as below meth c H [] 0 0 Q (F0 m 14 ls []) := by
        intro dx_4
        induction dx_4 with
        | zero =>
          intro ix_4 a1_4 ls hid hvx_4 hl
          have hiN : ix_1 = ix_4 := by omega
          subst hiN
          have hvx_4 : a1_4 = l_X3_countExcludingPairs_14 x ix_1 a1_1 ix_1 0 a1_1 := hvx_4
          have hh0 : a1_4 = l_X3_countExcludingPairs_14 x ix_1 a1_1 ix_1 0 a1_1 := hvx_4
          subst hh0
          refine lv_iload_n hx hb dX3_countExcludingPairs_14 rfl (lv_at hl 3 rfl) ?_
          refine lv_iload_n hx hb dX3_countExcludingPairs_15 rfl (lv_at hl 2 rfl) ?_
          refine q_ge (tgt := 37) hx hb (by omega) (by omega) dX3_countExcludingPairs_16 (by decide) (fun c5 => ?_) (fun h => absurd h (by omega))
          refine lv_iinc (v := nI (ix_1 + 1)) (lv' := [(2, .int (nI (ix_1 + 1))), (0, .ref (ad b)), (1, .int (nI (l_X3_countExcludingPairs_14 x ix_1 a1_1 ix_1 0 a1_1))), (3, .int (nI ix_1))]) hx hb dX3_countExcludingPairs_37 hl (k := 2) rfl (nI_inc _) (by decide) rfl (fun ls hl => ?_)
          refine lv_goto (tgt := 4) hx hb dX3_countExcludingPairs_40 (by decide) ?_
          exact ihx_1 (ix_1 + 1) (l_X3_countExcludingPairs_14 x ix_1 a1_1 ix_1 0 a1_1) ls (by omega) (Eq.trans (Eq.symm (by rw [l_X3_countExcludingPairs_4] <;> rfl)) hvx_1) (lv_sub hl [1, 2, 0] rfl)
        | succ dx_4 ihx_4 =>
          intro ix_4 a1_4 ls hid hvx_4 hl
          refine lv_iload_n hx hb dX3_countExcludingPairs_14 rfl (lv_at hl 3 rfl) ?_
          refine lv_iload_n hx hb dX3_countExcludingPairs_15 rfl (lv_at hl 2 rfl) ?_
          refine q_ge (tgt := 37) hx hb (by omega) (by omega) dX3_countExcludingPairs_16 (by decide) (fun h => absurd h (by omega)) (fun c6 => ?_)
          refine lv_aload_n hx hb dX3_countExcludingPairs_19 rfl (lv_at hl 0 rfl) ?_
          refine lv_iload_n hx hb dX3_countExcludingPairs_20 rfl (lv_at hl 2 rfl) ?_
          refine lv_iload_n hx hb dX3_countExcludingPairs_21 rfl (lv_at hl 3 rfl) ?_
          refine r_call (As := [.int (nI ix_1), .int (nI ix_4)]) (rest := []) (ci := 3) X hP (c_X3_areExcluding hp0 ix_1 ix_4 (by omega)) o_X3_areExcluding rfl hp0.lt hp0.ob m773 ⟨rfl, rfl⟩ ⟨Nat.le_of_ble_eq_true rfl, Nat.le_of_ble_eq_true rfl⟩ rfl hl.1 rfl (Nat.le_of_ble_eq_true rfl) ⟨Nat.zero_le _, Nat.zero_le _⟩ dX3_countExcludingPairs_22 ?_
          refine q_eqB (tgt := 31) hx hb dX3_countExcludingPairs_25 (by decide) (fun c7 => ?_) (fun c7 => ?_)
          · refine lv_iinc (v := nI (ix_4 + 1)) (lv' := [(3, .int (nI (ix_4 + 1))), (0, .ref (ad b)), (1, .int (nI a1_4)), (2, .int (nI ix_1))]) hx hb dX3_countExcludingPairs_31 hl (k := 3) rfl (nI_inc _) (by decide) rfl (fun ls hl => ?_)
            refine lv_goto (tgt := 14) hx hb dX3_countExcludingPairs_34 (by decide) ?_
            exact ihx_4 (ix_4 + 1) a1_4 ls (by omega) (Eq.trans (Eq.symm (by rw [l_X3_countExcludingPairs_14, if_neg (nt c7)] <;> rfl)) hvx_4) (lv_sub hl [1, 2, 3, 0] rfl)
          · refine lv_iinc (v := nI (a1_4 + 1)) (lv' := [(1, .int (nI (a1_4 + 1))), (0, .ref (ad b)), (2, .int (nI ix_1)), (3, .int (nI ix_4))]) hx hb dX3_countExcludingPairs_28 hl (k := 1) rfl (nI_inc _) (by decide) rfl (fun ls hl => ?_)
            refine lv_iinc (v := nI (ix_4 + 1)) (lv' := [(3, .int (nI (ix_4 + 1))), (1, .int (nI (a1_4 + 1))), (0, .ref (ad b)), (2, .int (nI ix_1))]) hx hb dX3_countExcludingPairs_31 hl (k := 3) rfl (nI_inc _) (by decide) rfl (fun ls hl => ?_)
            refine lv_goto (tgt := 14) hx hb dX3_countExcludingPairs_34 (by decide) ?_
            exact ihx_4 (ix_4 + 1) (a1_4 + 1) ls (by omega) (Eq.trans (Eq.symm (by rw [l_X3_countExcludingPairs_14, if_pos c7] <;> rfl)) hvx_4) (lv_sub hl [2, 1, 3, 0] rfl)
      exact L4 ix_1 0 a1_1 ls (by omega) rfl (lv_sub hl [1, 2, 3, 0] rfl)
  exact L1 (pN x) 0 0 ls (by omega) rfl (lv_sub hl [2, 1, 0] rfl)
theorem o_X3_countExcludingPairs : okV yX3_countExcludingPairs cX3_countExcludingPairs 4 (some .int) 0 := ⟨m770, m771, m35, m772, by decide +kernel, by decide +kernel, by decide +kernel⟩
def rmX1_isCut : Room := { frames := 0, cells := 0, slots := 0, locals := 0 }
def f_X1_isCut (y : CuC) (cut : Int32) : Bool :=
  (if cut < 0 then false else (if cut < (nI (kA y)) then true else false))
set_option maxHeartbeats 4000000 in
set_option maxRecDepth 100000 in
theorem c_X1_isCut {l : Launch} {dd : va_G} {t : CL4} {N : Nat} {ad : Nat → Nat} {V : Nat → va_E} {b : Nat} {y : CuC}  (hp0 : CuP N ad V t b y) (cut : Int32)  : RM l dd t N ad V yX1_isCut cX1_isCut 2 (some .boolean) rmX1_isCut [.ref (ad b), .int (cut)] (b01 (f_X1_isCut y cut)) := by
  refine RM.of (by decide +kernel) ⟨rfl, rfl⟩ (Nat.le_of_ble_eq_true rfl) (narB _) ?_
  intro p e s m as below meth c Q X H hP ls hl kr
  have X : WX p s m as c cX1_isCut 2 RX1 dd t := X
  have hx := X.1.1
  have hb := X.1.2.1
  have hl : lv_has ls 2 [(0, .ref (ad b)), (1, .int (cut))] := hl
  have hi0_0 := hp0.i0
  have hle0 := hp0.le
  refine lv_iload_n hx hb dX1_isCut_0 rfl (lv_at hl 1 rfl) ?_
  refine u_lt (tgt := 16) hx hb dX1_isCut_1 (by decide) (fun c1 => ?_) (fun c1 => ?_)
  · refine lv_iconst (v := nI 0) hx hb dX1_isCut_16 (by decide) ?_
    exact kr 17 ls _ (b_f (by rw [f_X1_isCut, if_pos c1] <;> rfl)) dX1_isCut_17
  · refine lv_iload_n hx hb dX1_isCut_4 rfl (lv_at hl 1 rfl) ?_
    refine lv_aload_n hx hb dX1_isCut_5 rfl (lv_at hl 0 rfl) ?_
    refine g_Cu_amount X hP hp0 m59 dX1_isCut_6 ?_
    refine j_ge (tgt := 16) hx hb dX1_isCut_9 (by decide) (fun c2 => ?_) (fun c2 => ?_)
    · refine lv_iconst (v := nI 0) hx hb dX1_isCut_16 (by decide) ?_
      exact kr 17 ls _ (b_f (by rw [f_X1_isCut, if_neg c1, if_neg c2] <;> rfl)) dX1_isCut_17
    · refine lv_iconst (v := nI 1) hx hb dX1_isCut_12 (by decide) ?_
      refine lv_goto (tgt := 17) hx hb dX1_isCut_13 (by decide) ?_
      exact kr 17 ls _ (b_t (by rw [f_X1_isCut, if_neg c1, if_pos c2] <;> rfl)) dX1_isCut_17
theorem o_X1_isCut : okV yX1_isCut cX1_isCut 2 (some .boolean) 1 := ⟨m500, m501, m39, m502, by decide +kernel, by decide +kernel, by decide +kernel⟩
def rmX1_isFull : Room := { frames := 0, cells := 0, slots := 0, locals := 0 }
def f_X1_isFull (y : CuC) : Bool :=
  (if (kA y) < 40 then false else true)
set_option maxHeartbeats 4000000 in
set_option maxRecDepth 100000 in
theorem c_X1_isFull {l : Launch} {dd : va_G} {t : CL4} {N : Nat} {ad : Nat → Nat} {V : Nat → va_E} {b : Nat} {y : CuC}  (hp0 : CuP N ad V t b y)   : RM l dd t N ad V yX1_isFull cX1_isFull 1 (some .boolean) rmX1_isFull [.ref (ad b)] (b01 (f_X1_isFull y)) := by
  refine RM.of (by decide +kernel) ⟨rfl, rfl⟩ (Nat.le_of_ble_eq_true rfl) (narB _) ?_
  intro p e s m as below meth c Q X H hP ls hl kr
  have X : WX p s m as c cX1_isFull 1 RX1 dd t := X
  have hx := X.1.1
  have hb := X.1.2.1
  have hl : lv_has ls 1 [(0, .ref (ad b))] := hl
  have hi0_0 := hp0.i0
  have hle0 := hp0.le
  refine lv_aload_n hx hb dX1_isFull_0 rfl (lv_at hl 0 rfl) ?_
  refine g_Cu_amount X hP hp0 m59 dX1_isFull_1 ?_
  refine lv_bipush (v := nI 40) hx hb dX1_isFull_4 (by decide) ?_
  refine q_lt (tgt := 13) hx hb (by omega) (by omega) dX1_isFull_6 (by decide) (fun c1 => ?_) (fun c1 => ?_)
  · refine lv_iconst (v := nI 0) hx hb dX1_isFull_13 (by decide) ?_
    exact kr 14 ls _ (b_f (by rw [f_X1_isFull, if_pos c1] <;> rfl)) dX1_isFull_14
  · refine lv_iconst (v := nI 1) hx hb dX1_isFull_9 (by decide) ?_
    refine lv_goto (tgt := 14) hx hb dX1_isFull_10 (by decide) ?_
    exact kr 14 ls _ (b_t (by rw [f_X1_isFull, if_neg (Nat.not_lt.mpr c1)] <;> rfl)) dX1_isFull_14
theorem o_X1_isFull : okV yX1_isFull cX1_isFull 1 (some .boolean) 0 := ⟨m351, m352, m39, m353, by decide +kernel, by decide +kernel, by decide +kernel⟩
def rmX1_isRay : Room := { frames := 0, cells := 0, slots := 0, locals := 0 }
def f_X1_isRay (y : CuC) (cut : Nat) : Bool :=
  (if (kC y cut) = (-1) then false else true)
set_option maxHeartbeats 4000000 in
set_option maxRecDepth 100000 in
theorem c_X1_isRay {l : Launch} {dd : va_G} {t : CL4} {N : Nat} {ad : Nat → Nat} {V : Nat → va_E} {b : Nat} {y : CuC}  (hp0 : CuP N ad V t b y) (cut : Nat) (h_cut : cut < kA y) : RM l dd t N ad V yX1_isRay cX1_isRay 2 (some .boolean) rmX1_isRay [.ref (ad b), .int (nI cut)] (b01 (f_X1_isRay y cut)) := by
  refine RM.of (by decide +kernel) ⟨rfl, rfl⟩ (Nat.le_of_ble_eq_true rfl) (narB _) ?_
  intro p e s m as below meth c Q X H hP ls hl kr
  have X : WX p s m as c cX1_isRay 2 RX1 dd t := X
  have hx := X.1.1
  have hb := X.1.2.1
  have hl : lv_has ls 2 [(0, .ref (ad b)), (1, .int (nI cut))] := hl
  have hi0_0 := hp0.i0
  have hle0 := hp0.le
  refine lv_aload_n hx hb dX1_isRay_0 rfl (lv_at hl 0 rfl) ?_
  refine g_Cu_customers X hP hp0 m60 dX1_isRay_1 ?_
  refine lv_iload_n hx hb dX1_isRay_4 rfl (lv_at hl 1 rfl) ?_
  refine l_Cu_customers X hP hp0 (by omega) dX1_isRay_5 ?_
  refine lv_iconst (v := (-1)) hx hb dX1_isRay_6 (by decide) ?_
  refine lv_icmp_eq (tgt := 14) hx hb dX1_isRay_7 (by decide) (fun c1 => ?_) (fun c1 => ?_)
  · refine lv_iconst (v := nI 0) hx hb dX1_isRay_14 (by decide) ?_
    exact kr 15 ls _ (b_f (by rw [f_X1_isRay, if_pos c1] <;> rfl)) dX1_isRay_15
  · refine lv_iconst (v := nI 1) hx hb dX1_isRay_10 (by decide) ?_
    refine lv_goto (tgt := 15) hx hb dX1_isRay_11 (by decide) ?_
    exact kr 15 ls _ (b_t (by rw [f_X1_isRay, if_neg c1] <;> rfl)) dX1_isRay_15
theorem o_X1_isRay : okV yX1_isRay cX1_isRay 2 (some .boolean) 1 := ⟨m303, m304, m39, m305, by decide +kernel, by decide +kernel, by decide +kernel⟩
def rmX1_weightOf : Room := { frames := 1, cells := 0, slots := 0, locals := 21 }
def l_X1_weightOf_5 (y : CuC) (cut : Nat) (plan : Int32) : Nat → Nat → Int32 → Int32
  | 0, ix_1, a3_1 => a3_1
  | dx_1 + 1, ix_1, a3_1 => (if (f_X5_isIn plan (nI ix_1)) = true then l_X1_weightOf_5 y cut plan dx_1 (ix_1 + 1) (a3_1 + (kW y cut ix_1)) else l_X1_weightOf_5 y cut plan dx_1 (ix_1 + 1) a3_1)
def f_X1_weightOf (y : CuC) (cut : Nat) (plan : Int32) : Int32 :=
  (l_X1_weightOf_5 y cut plan 7 0 (nI 0))
set_option maxHeartbeats 4000000 in
set_option maxRecDepth 100000 in
theorem c_X1_weightOf {l : Launch} {dd : va_G} {t : CL4} {N : Nat} {ad : Nat → Nat} {V : Nat → va_E} {b : Nat} {y : CuC}  (hp0 : CuP N ad V t b y) (cut : Nat) (plan : Int32) (h_cut : cut < kA y) : RM l dd t N ad V yX1_weightOf cX1_weightOf 5 (some .int) rmX1_weightOf [.ref (ad b), .int (nI cut), .int (plan)] (f_X1_weightOf y cut plan) := by
  refine RM.of (by decide +kernel) ⟨rfl, rfl⟩ (Nat.le_of_ble_eq_true rfl) (narI _) ?_
  intro p e s m as below meth c Q X H hP ls hl kr
  have X : WX p s m as c cX1_weightOf 5 RX1 dd t := X
  have hx := X.1.1
  have hb := X.1.2.1
  have hl : lv_has ls 5 [(0, .ref (ad b)), (1, .int (nI cut)), (2, .int (plan))] := hl
  have hi0_0 := hp0.i0
  have hle0 := hp0.le
  refine lv_iconst (v := nI 0) hx hb dX1_weightOf_0 (by decide) ?_
  refine lv_istore_n (lv' := [(3, .int (nI 0)), (0, .ref (ad b)), (1, .int (nI cut)), (2, .int (plan))]) hx hb dX1_weightOf_1 rfl hl (by decide) rfl (fun ls hl => ?_)
  refine lv_iconst (v := nI 0) hx hb dX1_weightOf_2 (by decide) ?_
  refine lv_istore (lv' := [(4, .int (nI 0)), (3, .int (nI 0)), (0, .ref (ad b)), (1, .int (nI cut)), (2, .int (plan))]) hx hb dX1_weightOf_3 hl (by decide) rfl (fun ls hl => ?_)
  have L1 : ∀ (dx_1 ix_1 : Nat) (a3_1 : Int32) (ls : Array Slot), (ix_1 + dx_1 = 7) → (l_X1_weightOf_5 y cut plan dx_1 ix_1 a3_1 = l_X1_weightOf_5 y cut plan 7 0 (nI 0)) → (lv_has ls 5 [(0, .ref (ad b)), (1, .int (nI cut)), (2, .int (plan)), (3, .int (a3_1)), (4, .int (nI ix_1))]) → W p l e rmX1_weightOf s m as below meth c H [] 0 0 Q (F0 m 5 ls []) := by
    intro dx_1
    induction dx_1 with
    | zero =>
      intro ix_1 a3_1 ls hid hvx_1 hl
      have hiN : 7 = ix_1 := by omega
      subst hiN
      have hvx_1 : a3_1 = l_X1_weightOf_5 y cut plan 7 0 (nI 0) := hvx_1
      have hh0 : a3_1 = l_X1_weightOf_5 y cut plan 7 0 (nI 0) := hvx_1
      subst hh0
      refine lv_iload hx hb dX1_weightOf_5 (lv_at hl 4 rfl) ?_
      refine lv_bipush (v := nI 7) hx hb dX1_weightOf_7 (by decide) ?_
      refine q_ge (tgt := 39) hx hb (by omega) (by omega) dX1_weightOf_9 (by decide) (fun c2 => ?_) (fun h => absurd h (by omega))
      refine lv_iload_n hx hb dX1_weightOf_39 rfl (lv_at hl 3 rfl) ?_
      exact kr 40 ls _ (Eq.symm (by rw [f_X1_weightOf] <;> rfl)) dX1_weightOf_40
    | succ dx_1 ihx_1 =>
      intro ix_1 a3_1 ls hid hvx_1 hl
      refine lv_iload hx hb dX1_weightOf_5 (lv_at hl 4 rfl) ?_
      refine lv_bipush (v := nI 7) hx hb dX1_weightOf_7 (by decide) ?_
      refine q_ge (tgt := 39) hx hb (by omega) (by omega) dX1_weightOf_9 (by decide) (fun h => absurd h (by omega)) (fun c3 => ?_)
      refine lv_iload_n hx hb dX1_weightOf_12 rfl (lv_at hl 2 rfl) ?_
      refine lv_iload hx hb dX1_weightOf_13 (lv_at hl 4 rfl) ?_
      refine r_callN (As := [.int (plan), .int (nI ix_1)]) (rest := []) X hP (c_X5_isIn plan (nI ix_1)) o_X5_isIn X.2.2.2 ⟨rfl, rfl⟩ ⟨Nat.le_of_ble_eq_true rfl, Nat.le_of_ble_eq_true rfl⟩ rfl hl.1 rfl (Nat.le_of_ble_eq_true rfl) ⟨Nat.zero_le _, Nat.zero_le _⟩ dX1_weightOf_15 ?_
      refine q_eqB (tgt := 33) hx hb dX1_weightOf_18 (by decide) (fun c4 => ?_) (fun c4 => ?_)
      · refine lv_iinc (v := nI (ix_1 + 1)) (lv' := [(4, .int (nI (ix_1 + 1))), (0, .ref (ad b)), (1, .int (nI cut)), (2, .int (plan)), (3, .int (a3_1))]) hx hb dX1_weightOf_33 hl (k := 4) rfl (nI_inc _) (by decide) rfl (fun ls hl => ?_)
        refine lv_goto (tgt := 5) hx hb dX1_weightOf_36 (by decide) ?_
        exact ihx_1 (ix_1 + 1) a3_1 ls (by omega) (Eq.trans (Eq.symm (by rw [l_X1_weightOf_5, if_neg (nt c4)] <;> rfl)) hvx_1) (lv_sub hl [1, 2, 3, 4, 0] rfl)
      · refine lv_iload_n hx hb dX1_weightOf_21 rfl (lv_at hl 3 rfl) ?_
        refine lv_aload_n hx hb dX1_weightOf_22 rfl (lv_at hl 0 rfl) ?_
        refine g_Cu_weights X hP hp0 m63 dX1_weightOf_23 ?_
        refine lv_iload_n hx hb dX1_weightOf_26 rfl (lv_at hl 1 rfl) ?_
        refine l_Cu_weights X hP hp0 (by omega) dX1_weightOf_27 ?_
        refine lv_iload hx hb dX1_weightOf_28 (lv_at hl 4 rfl) ?_
        refine l_Cu_weights_row X hP hp0 (by omega) (by omega) dX1_weightOf_30 ?_
        refine lv_iadd hx hb dX1_weightOf_31 ?_
        refine lv_istore_n (lv' := [(3, .int (a3_1 + (kW y cut ix_1))), (0, .ref (ad b)), (1, .int (nI cut)), (2, .int (plan)), (4, .int (nI ix_1))]) hx hb dX1_weightOf_32 rfl hl (by decide) rfl (fun ls hl => ?_)
        refine lv_iinc (v := nI (ix_1 + 1)) (lv' := [(4, .int (nI (ix_1 + 1))), (3, .int (a3_1 + (kW y cut ix_1))), (0, .ref (ad b)), (1, .int (nI cut)), (2, .int (plan))]) hx hb dX1_weightOf_33 hl (k := 4) rfl (nI_inc _) (by decide) rfl (fun ls hl => ?_)
        refine lv_goto (tgt := 5) hx hb dX1_weightOf_36 (by decide) ?_
        exact ihx_1 (ix_1 + 1) (a3_1 + (kW y cut ix_1)) ls (by omega) (Eq.trans (Eq.symm (by rw [l_X1_weightOf_5, if_pos c4] <;> rfl)) hvx_1) (lv_sub hl [2, 3, 4, 1, 0] rfl)
  exact L1 7 0 (nI 0) ls (by omega) rfl (lv_sub hl [2, 3, 4, 1, 0] rfl)
theorem o_X1_weightOf : okV yX1_weightOf cX1_weightOf 5 (some .int) 2 := ⟨m307, m308, m39, m309, by decide +kernel, by decide +kernel, by decide +kernel⟩
def rmX1_valueOf : Room := { frames := 2, cells := 0, slots := 0, locals := 45 }
def f_X1_valueOf (y : CuC) (cut : Nat) (plan : Int32) : Int32 :=
  (kS y cut) - (f_X1_weightOf y cut plan)
set_option maxHeartbeats 4000000 in
set_option maxRecDepth 100000 in
theorem c_X1_valueOf {l : Launch} {dd : va_G} {t : CL4} {N : Nat} {ad : Nat → Nat} {V : Nat → va_E} {b : Nat} {y : CuC}  (hp0 : CuP N ad V t b y) (cut : Nat) (plan : Int32) (h_cut : cut < kA y) : RM l dd t N ad V yX1_valueOf cX1_valueOf 3 (some .int) rmX1_valueOf [.ref (ad b), .int (nI cut), .int (plan)] (f_X1_valueOf y cut plan) := by
  refine RM.of (by decide +kernel) ⟨rfl, rfl⟩ (Nat.le_of_ble_eq_true rfl) (narI _) ?_
  intro p e s m as below meth c Q X H hP ls hl kr
  have X : WX p s m as c cX1_valueOf 3 RX1 dd t := X
  have hx := X.1.1
  have hb := X.1.2.1
  have hl : lv_has ls 3 [(0, .ref (ad b)), (1, .int (nI cut)), (2, .int (plan))] := hl
  have hi0_0 := hp0.i0
  have hle0 := hp0.le
  refine lv_aload_n hx hb dX1_valueOf_0 rfl (lv_at hl 0 rfl) ?_
  refine g_Cu_starts X hP hp0 m61 dX1_valueOf_1 ?_
  refine lv_iload_n hx hb dX1_valueOf_4 rfl (lv_at hl 1 rfl) ?_
  refine l_Cu_starts X hP hp0 (by omega) dX1_valueOf_5 ?_
  refine lv_aload_n hx hb dX1_valueOf_6 rfl (lv_at hl 0 rfl) ?_
  refine lv_iload_n hx hb dX1_valueOf_7 rfl (lv_at hl 1 rfl) ?_
  refine lv_iload_n hx hb dX1_valueOf_8 rfl (lv_at hl 2 rfl) ?_
  refine r_call (As := [.int (nI cut), .int (plan)]) (rest := [.int (kS y cut)]) (ci := 1) X hP (c_X1_weightOf hp0 cut plan (by omega)) o_X1_weightOf rfl hp0.lt hp0.ob m306 ⟨rfl, rfl⟩ ⟨Nat.le_of_ble_eq_true rfl, Nat.le_of_ble_eq_true rfl⟩ rfl hl.1 rfl (Nat.le_of_ble_eq_true rfl) ⟨Nat.zero_le _, Nat.zero_le _⟩ dX1_valueOf_9 ?_
  refine lv_isub hx hb dX1_valueOf_12 ?_
  exact kr 13 ls _ (Eq.symm (by rw [f_X1_valueOf] <;> rfl)) dX1_valueOf_13
theorem o_X1_valueOf : okV yX1_valueOf cX1_valueOf 3 (some .int) 2 := ⟨m327, m328, m39, m329, by decide +kernel, by decide +kernel, by decide +kernel⟩
def rmX1_greatestValue : Room := { frames := 3, cells := 0, slots := 0, locals := 67 }
def l_X1_greatestValue_4 (y : CuC) (plan : Int32) : Nat → Nat → Int32 → Int32
  | 0, ix_1, a2_1 => a2_1
  | dx_1 + 1, ix_1, a2_1 => (if (f_X1_isRay y ix_1) = true then l_X1_greatestValue_4 y plan dx_1 (ix_1 + 1) a2_1 else l_X1_greatestValue_4 y plan dx_1 (ix_1 + 1) (if a2_1 < (f_X1_valueOf y ix_1 plan) then (f_X1_valueOf y ix_1 plan) else a2_1))
def f_X1_greatestValue (y : CuC) (plan : Int32) : Int32 :=
  (l_X1_greatestValue_4 y plan (kA y) 0 (nI 0))
set_option maxHeartbeats 4000000 in
set_option maxRecDepth 100000 in
theorem c_X1_greatestValue {l : Launch} {dd : va_G} {t : CL4} {N : Nat} {ad : Nat → Nat} {V : Nat → va_E} {b : Nat} {y : CuC}  (hp0 : CuP N ad V t b y) (plan : Int32)  : RM l dd t N ad V yX1_greatestValue cX1_greatestValue 4 (some .int) rmX1_greatestValue [.ref (ad b), .int (plan)] (f_X1_greatestValue y plan) := by
  refine RM.of (by decide +kernel) ⟨rfl, rfl⟩ (Nat.le_of_ble_eq_true rfl) (narI _) ?_
  intro p e s m as below meth c Q X H hP ls hl kr
  have X : WX p s m as c cX1_greatestValue 4 RX1 dd t := X
  have hx := X.1.1
  have hb := X.1.2.1
  have hl : lv_has ls 4 [(0, .ref (ad b)), (1, .int (plan))] := hl
  have hi0_0 := hp0.i0
  have hle0 := hp0.le
  refine lv_iconst (v := nI 0) hx hb dX1_greatestValue_0 (by decide) ?_
  refine lv_istore_n (lv' := [(2, .int (nI 0)), (0, .ref (ad b)), (1, .int (plan))]) hx hb dX1_greatestValue_1 rfl hl (by decide) rfl (fun ls hl => ?_)
  refine lv_iconst (v := nI 0) hx hb dX1_greatestValue_2 (by decide) ?_
  refine lv_istore_n (lv' := [(3, .int (nI 0)), (2, .int (nI 0)), (0, .ref (ad b)), (1, .int (plan))]) hx hb dX1_greatestValue_3 rfl hl (by decide) rfl (fun ls hl => ?_)
  have L1 : ∀ (dx_1 ix_1 : Nat) (a2_1 : Int32) (ls : Array Slot), (ix_1 + dx_1 = kA y) → (l_X1_greatestValue_4 y plan dx_1 ix_1 a2_1 = l_X1_greatestValue_4 y plan (kA y) 0 (nI 0)) → (lv_has ls 4 [(0, .ref (ad b)), (1, .int (plan)), (2, .int (a2_1)), (3, .int (nI ix_1))]) → W p l e rmX1_greatestValue s m as below meth c H [] 0 0 Q (F0 m 4 ls []) := by
    intro dx_1
    induction dx_1 with
    | zero =>
      intro ix_1 a2_1 ls hid hvx_1 hl
      have hiN : kA y = ix_1 := by omega
      subst hiN
      have hvx_1 : a2_1 = l_X1_greatestValue_4 y plan (kA y) 0 (nI 0) := hvx_1
      have hh0 : a2_1 = l_X1_greatestValue_4 y plan (kA y) 0 (nI 0) := hvx_1
      subst hh0
      refine lv_iload_n hx hb dX1_greatestValue_4 rfl (lv_at hl 3 rfl) ?_
      refine lv_aload_n hx hb dX1_greatestValue_5 rfl (lv_at hl 0 rfl) ?_
      refine g_Cu_amount X hP hp0 m59 dX1_greatestValue_6 ?_
      refine q_ge (tgt := 37) hx hb (by omega) (by omega) dX1_greatestValue_9 (by decide) (fun c2 => ?_) (fun h => absurd h (by omega))
      refine lv_iload_n hx hb dX1_greatestValue_37 rfl (lv_at hl 2 rfl) ?_
      exact kr 38 ls _ (Eq.symm (by rw [f_X1_greatestValue] <;> rfl)) dX1_greatestValue_38
    | succ dx_1 ihx_1 =>
      intro ix_1 a2_1 ls hid hvx_1 hl
      refine lv_iload_n hx hb dX1_greatestValue_4 rfl (lv_at hl 3 rfl) ?_
      refine lv_aload_n hx hb dX1_greatestValue_5 rfl (lv_at hl 0 rfl) ?_
      refine g_Cu_amount X hP hp0 m59 dX1_greatestValue_6 ?_
      refine q_ge (tgt := 37) hx hb (by omega) (by omega) dX1_greatestValue_9 (by decide) (fun h => absurd h (by omega)) (fun c3 => ?_)
      refine lv_aload_n hx hb dX1_greatestValue_12 rfl (lv_at hl 0 rfl) ?_
      refine lv_iload_n hx hb dX1_greatestValue_13 rfl (lv_at hl 3 rfl) ?_
      refine r_call (As := [.int (nI ix_1)]) (rest := []) (ci := 1) X hP (c_X1_isRay hp0 ix_1 (by omega)) o_X1_isRay rfl hp0.lt hp0.ob m302 ⟨rfl, rfl⟩ ⟨Nat.le_of_ble_eq_true rfl, Nat.le_of_ble_eq_true rfl⟩ rfl hl.1 rfl (Nat.le_of_ble_eq_true rfl) ⟨Nat.zero_le _, Nat.zero_le _⟩ dX1_greatestValue_14 ?_
      refine q_neB (tgt := 31) hx hb dX1_greatestValue_17 (by decide) (fun c4 => ?_) (fun c4 => ?_)
      · refine lv_iinc (v := nI (ix_1 + 1)) (lv' := [(3, .int (nI (ix_1 + 1))), (0, .ref (ad b)), (1, .int (plan)), (2, .int (a2_1))]) hx hb dX1_greatestValue_31 hl (k := 3) rfl (nI_inc _) (by decide) rfl (fun ls hl => ?_)
        refine lv_goto (tgt := 4) hx hb dX1_greatestValue_34 (by decide) ?_
        exact ihx_1 (ix_1 + 1) a2_1 ls (by omega) (Eq.trans (Eq.symm (by rw [l_X1_greatestValue_4, if_pos c4] <;> rfl)) hvx_1) (lv_sub hl [1, 2, 3, 0] rfl)
      · refine lv_iload_n hx hb dX1_greatestValue_20 rfl (lv_at hl 2 rfl) ?_
        refine lv_aload_n hx hb dX1_greatestValue_21 rfl (lv_at hl 0 rfl) ?_
        refine lv_iload_n hx hb dX1_greatestValue_22 rfl (lv_at hl 3 rfl) ?_
        refine lv_iload_n hx hb dX1_greatestValue_23 rfl (lv_at hl 1 rfl) ?_
        refine r_call (As := [.int (nI ix_1), .int (plan)]) (rest := [.int (a2_1)]) (ci := 1) X hP (c_X1_valueOf hp0 ix_1 plan (by omega)) o_X1_valueOf rfl hp0.lt hp0.ob m326 ⟨rfl, rfl⟩ ⟨Nat.le_of_ble_eq_true rfl, Nat.le_of_ble_eq_true rfl⟩ rfl hl.1 rfl (Nat.le_of_ble_eq_true rfl) ⟨Nat.zero_le _, Nat.zero_le _⟩ dX1_greatestValue_24 ?_
        refine va_mmax hx hb (X.1.2.2.1.trans hl.1.symm) X.1.2.2.2.1 (X.1.2.2.2.2 _ m322) (X.1.2.2.2.2 _ m323) (X.1.2.2.2.2 _ m324) (X.1.2.2.2.2 _ m325) (Nat.le_of_ble_eq_true rfl) (Nat.le_of_ble_eq_true rfl) (Nat.le_of_ble_eq_true rfl) (Nat.le_of_ble_eq_true rfl) dX1_greatestValue_27 ?_
        refine lv_istore_n (lv' := [(2, .int ((if a2_1 < (f_X1_valueOf y ix_1 plan) then (f_X1_valueOf y ix_1 plan) else a2_1))), (0, .ref (ad b)), (1, .int (plan)), (3, .int (nI ix_1))]) hx hb dX1_greatestValue_30 rfl hl (by decide) rfl (fun ls hl => ?_)
        refine lv_iinc (v := nI (ix_1 + 1)) (lv' := [(3, .int (nI (ix_1 + 1))), (2, .int ((if a2_1 < (f_X1_valueOf y ix_1 plan) then (f_X1_valueOf y ix_1 plan) else a2_1))), (0, .ref (ad b)), (1, .int (plan))]) hx hb dX1_greatestValue_31 hl (k := 3) rfl (nI_inc _) (by decide) rfl (fun ls hl => ?_)
        refine lv_goto (tgt := 4) hx hb dX1_greatestValue_34 (by decide) ?_
        exact ihx_1 (ix_1 + 1) (if a2_1 < (f_X1_valueOf y ix_1 plan) then (f_X1_valueOf y ix_1 plan) else a2_1) ls (by omega) (Eq.trans (Eq.symm (by rw [l_X1_greatestValue_4, if_neg (nt c4)] <;> rfl)) hvx_1) (lv_sub hl [2, 3, 1, 0] rfl)
  exact L1 (kA y) 0 (nI 0) ls (by omega) rfl (lv_sub hl [2, 3, 1, 0] rfl)
theorem o_X1_greatestValue : okV yX1_greatestValue cX1_greatestValue 4 (some .int) 1 := ⟨m319, m320, m39, m321, by decide +kernel, by decide +kernel, by decide +kernel⟩
def rmX1_countRays : Room := { frames := 1, cells := 0, slots := 0, locals := 21 }
def l_X1_countRays_4 (y : CuC) : Nat → Nat → Nat → Nat
  | 0, ix_1, a1_1 => a1_1
  | dx_1 + 1, ix_1, a1_1 => (if (f_X1_isRay y ix_1) = true then l_X1_countRays_4 y dx_1 (ix_1 + 1) (a1_1 + 1) else l_X1_countRays_4 y dx_1 (ix_1 + 1) a1_1)
def f_X1_countRays (y : CuC) : Int32 :=
  nI (l_X1_countRays_4 y (kA y) 0 0)
set_option maxHeartbeats 4000000 in
set_option maxRecDepth 100000 in
theorem c_X1_countRays {l : Launch} {dd : va_G} {t : CL4} {N : Nat} {ad : Nat → Nat} {V : Nat → va_E} {b : Nat} {y : CuC}  (hp0 : CuP N ad V t b y)   : RM l dd t N ad V yX1_countRays cX1_countRays 3 (some .int) rmX1_countRays [.ref (ad b)] (f_X1_countRays y) := by
  refine RM.of (by decide +kernel) ⟨rfl, rfl⟩ (Nat.le_of_ble_eq_true rfl) (narI _) ?_
  intro p e s m as below meth c Q X H hP ls hl kr
  have X : WX p s m as c cX1_countRays 3 RX1 dd t := X
  have hx := X.1.1
  have hb := X.1.2.1
  have hl : lv_has ls 3 [(0, .ref (ad b))] := hl
  have hi0_0 := hp0.i0
  have hle0 := hp0.le
  refine lv_iconst (v := nI 0) hx hb dX1_countRays_0 (by decide) ?_
  refine lv_istore_n (lv' := [(1, .int (nI 0)), (0, .ref (ad b))]) hx hb dX1_countRays_1 rfl hl (by decide) rfl (fun ls hl => ?_)
  refine lv_iconst (v := nI 0) hx hb dX1_countRays_2 (by decide) ?_
  refine lv_istore_n (lv' := [(2, .int (nI 0)), (1, .int (nI 0)), (0, .ref (ad b))]) hx hb dX1_countRays_3 rfl hl (by decide) rfl (fun ls hl => ?_)
  have L1 : ∀ (dx_1 ix_1 : Nat) (a1_1 : Nat) (ls : Array Slot), (ix_1 + dx_1 = kA y) → (l_X1_countRays_4 y dx_1 ix_1 a1_1 = l_X1_countRays_4 y (kA y) 0 0) → (lv_has ls 3 [(0, .ref (ad b)), (1, .int (nI a1_1)), (2, .int (nI ix_1))]) → W p l e rmX1_countRays s m as below meth c H [] 0 0 Q (F0 m 4 ls []) := by
    intro dx_1
    induction dx_1 with
    | zero =>
      intro ix_1 a1_1 ls hid hvx_1 hl
      have hiN : kA y = ix_1 := by omega
      subst hiN
      have hvx_1 : a1_1 = l_X1_countRays_4 y (kA y) 0 0 := hvx_1
      have hh0 : a1_1 = l_X1_countRays_4 y (kA y) 0 0 := hvx_1
      subst hh0
      refine lv_iload_n hx hb dX1_countRays_4 rfl (lv_at hl 2 rfl) ?_
      refine lv_aload_n hx hb dX1_countRays_5 rfl (lv_at hl 0 rfl) ?_
      refine g_Cu_amount X hP hp0 m59 dX1_countRays_6 ?_
      refine q_ge (tgt := 29) hx hb (by omega) (by omega) dX1_countRays_9 (by decide) (fun c2 => ?_) (fun h => absurd h (by omega))
      refine lv_iload_n hx hb dX1_countRays_29 rfl (lv_at hl 1 rfl) ?_
      exact kr 30 ls _ (Eq.symm (by rw [f_X1_countRays] <;> rfl)) dX1_countRays_30
    | succ dx_1 ihx_1 =>
      intro ix_1 a1_1 ls hid hvx_1 hl
      refine lv_iload_n hx hb dX1_countRays_4 rfl (lv_at hl 2 rfl) ?_
      refine lv_aload_n hx hb dX1_countRays_5 rfl (lv_at hl 0 rfl) ?_
      refine g_Cu_amount X hP hp0 m59 dX1_countRays_6 ?_
      refine q_ge (tgt := 29) hx hb (by omega) (by omega) dX1_countRays_9 (by decide) (fun h => absurd h (by omega)) (fun c3 => ?_)
      refine lv_aload_n hx hb dX1_countRays_12 rfl (lv_at hl 0 rfl) ?_
      refine lv_iload_n hx hb dX1_countRays_13 rfl (lv_at hl 2 rfl) ?_
      refine r_call (As := [.int (nI ix_1)]) (rest := []) (ci := 1) X hP (c_X1_isRay hp0 ix_1 (by omega)) o_X1_isRay rfl hp0.lt hp0.ob m302 ⟨rfl, rfl⟩ ⟨Nat.le_of_ble_eq_true rfl, Nat.le_of_ble_eq_true rfl⟩ rfl hl.1 rfl (Nat.le_of_ble_eq_true rfl) ⟨Nat.zero_le _, Nat.zero_le _⟩ dX1_countRays_14 ?_
      refine q_eqB (tgt := 23) hx hb dX1_countRays_17 (by decide) (fun c4 => ?_) (fun c4 => ?_)
      · refine lv_iinc (v := nI (ix_1 + 1)) (lv' := [(2, .int (nI (ix_1 + 1))), (0, .ref (ad b)), (1, .int (nI a1_1))]) hx hb dX1_countRays_23 hl (k := 2) rfl (nI_inc _) (by decide) rfl (fun ls hl => ?_)
        refine lv_goto (tgt := 4) hx hb dX1_countRays_26 (by decide) ?_
        exact ihx_1 (ix_1 + 1) a1_1 ls (by omega) (Eq.trans (Eq.symm (by rw [l_X1_countRays_4, if_neg (nt c4)] <;> rfl)) hvx_1) (lv_sub hl [1, 2, 0] rfl)
      · refine lv_iinc (v := nI (a1_1 + 1)) (lv' := [(1, .int (nI (a1_1 + 1))), (0, .ref (ad b)), (2, .int (nI ix_1))]) hx hb dX1_countRays_20 hl (k := 1) rfl (nI_inc _) (by decide) rfl (fun ls hl => ?_)
        refine lv_iinc (v := nI (ix_1 + 1)) (lv' := [(2, .int (nI (ix_1 + 1))), (1, .int (nI (a1_1 + 1))), (0, .ref (ad b))]) hx hb dX1_countRays_23 hl (k := 2) rfl (nI_inc _) (by decide) rfl (fun ls hl => ?_)
        refine lv_goto (tgt := 4) hx hb dX1_countRays_26 (by decide) ?_
        exact ihx_1 (ix_1 + 1) (a1_1 + 1) ls (by omega) (Eq.trans (Eq.symm (by rw [l_X1_countRays_4, if_pos c4] <;> rfl)) hvx_1) (lv_sub hl [2, 1, 0] rfl)
  exact L1 (kA y) 0 0 ls (by omega) rfl (lv_sub hl [2, 1, 0] rfl)
theorem o_X1_countRays : okV yX1_countRays cX1_countRays 3 (some .int) 0 := ⟨m775, m776, m39, m777, by decide +kernel, by decide +kernel, by decide +kernel⟩
def rmX1_countMissedRays : Room := { frames := 2, cells := 0, slots := 0, locals := 45 }
def l_X1_countMissedRays_4 (y : CuC) (plan : Int32) : Nat → Nat → Nat → Nat
  | 0, ix_1, a2_1 => a2_1
  | dx_1 + 1, ix_1, a2_1 => (if (f_X1_isRay y ix_1) = true then (if (f_X1_weightOf y ix_1 plan) = 0 then l_X1_countMissedRays_4 y plan dx_1 (ix_1 + 1) (a2_1 + 1) else l_X1_countMissedRays_4 y plan dx_1 (ix_1 + 1) a2_1) else l_X1_countMissedRays_4 y plan dx_1 (ix_1 + 1) a2_1)
def f_X1_countMissedRays (y : CuC) (plan : Int32) : Int32 :=
  nI (l_X1_countMissedRays_4 y plan (kA y) 0 0)
set_option maxHeartbeats 4000000 in
set_option maxRecDepth 100000 in
theorem c_X1_countMissedRays {l : Launch} {dd : va_G} {t : CL4} {N : Nat} {ad : Nat → Nat} {V : Nat → va_E} {b : Nat} {y : CuC}  (hp0 : CuP N ad V t b y) (plan : Int32)  : RM l dd t N ad V yX1_countMissedRays cX1_countMissedRays 4 (some .int) rmX1_countMissedRays [.ref (ad b), .int (plan)] (f_X1_countMissedRays y plan) := by
  refine RM.of (by decide +kernel) ⟨rfl, rfl⟩ (Nat.le_of_ble_eq_true rfl) (narI _) ?_
  intro p e s m as below meth c Q X H hP ls hl kr
  have X : WX p s m as c cX1_countMissedRays 4 RX1 dd t := X
  have hx := X.1.1
  have hb := X.1.2.1
  have hl : lv_has ls 4 [(0, .ref (ad b)), (1, .int (plan))] := hl
  have hi0_0 := hp0.i0
  have hle0 := hp0.le
  refine lv_iconst (v := nI 0) hx hb dX1_countMissedRays_0 (by decide) ?_
  refine lv_istore_n (lv' := [(2, .int (nI 0)), (0, .ref (ad b)), (1, .int (plan))]) hx hb dX1_countMissedRays_1 rfl hl (by decide) rfl (fun ls hl => ?_)
  refine lv_iconst (v := nI 0) hx hb dX1_countMissedRays_2 (by decide) ?_
  refine lv_istore_n (lv' := [(3, .int (nI 0)), (2, .int (nI 0)), (0, .ref (ad b)), (1, .int (plan))]) hx hb dX1_countMissedRays_3 rfl hl (by decide) rfl (fun ls hl => ?_)
  have L1 : ∀ (dx_1 ix_1 : Nat) (a2_1 : Nat) (ls : Array Slot), (ix_1 + dx_1 = kA y) → (l_X1_countMissedRays_4 y plan dx_1 ix_1 a2_1 = l_X1_countMissedRays_4 y plan (kA y) 0 0) → (lv_has ls 4 [(0, .ref (ad b)), (1, .int (plan)), (2, .int (nI a2_1)), (3, .int (nI ix_1))]) → W p l e rmX1_countMissedRays s m as below meth c H [] 0 0 Q (F0 m 4 ls []) := by
    intro dx_1
    induction dx_1 with
    | zero =>
      intro ix_1 a2_1 ls hid hvx_1 hl
      have hiN : kA y = ix_1 := by omega
      subst hiN
      have hvx_1 : a2_1 = l_X1_countMissedRays_4 y plan (kA y) 0 0 := hvx_1
      have hh0 : a2_1 = l_X1_countMissedRays_4 y plan (kA y) 0 0 := hvx_1
      subst hh0
      refine lv_iload_n hx hb dX1_countMissedRays_4 rfl (lv_at hl 3 rfl) ?_
      refine lv_aload_n hx hb dX1_countMissedRays_5 rfl (lv_at hl 0 rfl) ?_
      refine g_Cu_amount X hP hp0 m59 dX1_countMissedRays_6 ?_
      refine q_ge (tgt := 38) hx hb (by omega) (by omega) dX1_countMissedRays_9 (by decide) (fun c2 => ?_) (fun h => absurd h (by omega))
      refine lv_iload_n hx hb dX1_countMissedRays_38 rfl (lv_at hl 2 rfl) ?_
      exact kr 39 ls _ (Eq.symm (by rw [f_X1_countMissedRays] <;> rfl)) dX1_countMissedRays_39
    | succ dx_1 ihx_1 =>
      intro ix_1 a2_1 ls hid hvx_1 hl
      refine lv_iload_n hx hb dX1_countMissedRays_4 rfl (lv_at hl 3 rfl) ?_
      refine lv_aload_n hx hb dX1_countMissedRays_5 rfl (lv_at hl 0 rfl) ?_
      refine g_Cu_amount X hP hp0 m59 dX1_countMissedRays_6 ?_
      refine q_ge (tgt := 38) hx hb (by omega) (by omega) dX1_countMissedRays_9 (by decide) (fun h => absurd h (by omega)) (fun c3 => ?_)
      refine lv_aload_n hx hb dX1_countMissedRays_12 rfl (lv_at hl 0 rfl) ?_
      refine lv_iload_n hx hb dX1_countMissedRays_13 rfl (lv_at hl 3 rfl) ?_
      refine r_call (As := [.int (nI ix_1)]) (rest := []) (ci := 1) X hP (c_X1_isRay hp0 ix_1 (by omega)) o_X1_isRay rfl hp0.lt hp0.ob m302 ⟨rfl, rfl⟩ ⟨Nat.le_of_ble_eq_true rfl, Nat.le_of_ble_eq_true rfl⟩ rfl hl.1 rfl (Nat.le_of_ble_eq_true rfl) ⟨Nat.zero_le _, Nat.zero_le _⟩ dX1_countMissedRays_14 ?_
      refine q_eqB (tgt := 32) hx hb dX1_countMissedRays_17 (by decide) (fun c4 => ?_) (fun c4 => ?_)
      · refine lv_iinc (v := nI (ix_1 + 1)) (lv' := [(3, .int (nI (ix_1 + 1))), (0, .ref (ad b)), (1, .int (plan)), (2, .int (nI a2_1))]) hx hb dX1_countMissedRays_32 hl (k := 3) rfl (nI_inc _) (by decide) rfl (fun ls hl => ?_)
        refine lv_goto (tgt := 4) hx hb dX1_countMissedRays_35 (by decide) ?_
        exact ihx_1 (ix_1 + 1) a2_1 ls (by omega) (Eq.trans (Eq.symm (by rw [l_X1_countMissedRays_4, if_neg (nt c4)] <;> rfl)) hvx_1) (lv_sub hl [1, 2, 3, 0] rfl)
      · refine lv_aload_n hx hb dX1_countMissedRays_20 rfl (lv_at hl 0 rfl) ?_
        refine lv_iload_n hx hb dX1_countMissedRays_21 rfl (lv_at hl 3 rfl) ?_
        refine lv_iload_n hx hb dX1_countMissedRays_22 rfl (lv_at hl 1 rfl) ?_
        refine r_call (As := [.int (nI ix_1), .int (plan)]) (rest := []) (ci := 1) X hP (c_X1_weightOf hp0 ix_1 plan (by omega)) o_X1_weightOf rfl hp0.lt hp0.ob m306 ⟨rfl, rfl⟩ ⟨Nat.le_of_ble_eq_true rfl, Nat.le_of_ble_eq_true rfl⟩ rfl hl.1 rfl (Nat.le_of_ble_eq_true rfl) ⟨Nat.zero_le _, Nat.zero_le _⟩ dX1_countMissedRays_23 ?_
        refine lv_if_ne (tgt := 32) hx hb dX1_countMissedRays_26 (by decide) (fun c5 => ?_) (fun c5 => ?_)
        · refine lv_iinc (v := nI (ix_1 + 1)) (lv' := [(3, .int (nI (ix_1 + 1))), (0, .ref (ad b)), (1, .int (plan)), (2, .int (nI a2_1))]) hx hb dX1_countMissedRays_32 hl (k := 3) rfl (nI_inc _) (by decide) rfl (fun ls hl => ?_)
          refine lv_goto (tgt := 4) hx hb dX1_countMissedRays_35 (by decide) ?_
          exact ihx_1 (ix_1 + 1) a2_1 ls (by omega) (Eq.trans (Eq.symm (by rw [l_X1_countMissedRays_4, if_pos c4, if_neg c5] <;> rfl)) hvx_1) (lv_sub hl [1, 2, 3, 0] rfl)
        · refine lv_iinc (v := nI (a2_1 + 1)) (lv' := [(2, .int (nI (a2_1 + 1))), (0, .ref (ad b)), (1, .int (plan)), (3, .int (nI ix_1))]) hx hb dX1_countMissedRays_29 hl (k := 2) rfl (nI_inc _) (by decide) rfl (fun ls hl => ?_)
          refine lv_iinc (v := nI (ix_1 + 1)) (lv' := [(3, .int (nI (ix_1 + 1))), (2, .int (nI (a2_1 + 1))), (0, .ref (ad b)), (1, .int (plan))]) hx hb dX1_countMissedRays_32 hl (k := 3) rfl (nI_inc _) (by decide) rfl (fun ls hl => ?_)
          refine lv_goto (tgt := 4) hx hb dX1_countMissedRays_35 (by decide) ?_
          exact ihx_1 (ix_1 + 1) (a2_1 + 1) ls (by omega) (Eq.trans (Eq.symm (by rw [l_X1_countMissedRays_4, if_pos c4, if_pos c5] <;> rfl)) hvx_1) (lv_sub hl [2, 3, 1, 0] rfl)
  exact L1 (kA y) 0 0 ls (by omega) rfl (lv_sub hl [2, 3, 1, 0] rfl)
theorem o_X1_countMissedRays : okV yX1_countMissedRays cX1_countMissedRays 4 (some .int) 1 := ⟨m299, m300, m39, m301, by decide +kernel, by decide +kernel, by decide +kernel⟩
def rmX1_isLoose : Room := { frames := 3, cells := 0, slots := 0, locals := 67 }
def f_X1_isLoose (y : CuC) (cut : Nat) (masterPlan : Int32) (greatest : Int32) : Bool :=
  (if (f_X1_isRay y cut) = true then (if (nI 1) < (f_X1_weightOf y cut masterPlan) then true else false) else (if (f_X1_valueOf y cut masterPlan) < greatest then true else false))
set_option maxHeartbeats 4000000 in
set_option maxRecDepth 100000 in
theorem c_X1_isLoose {l : Launch} {dd : va_G} {t : CL4} {N : Nat} {ad : Nat → Nat} {V : Nat → va_E} {b : Nat} {y : CuC}  (hp0 : CuP N ad V t b y) (cut : Nat) (masterPlan : Int32) (greatest : Int32) (h_cut : cut < kA y) : RM l dd t N ad V yX1_isLoose cX1_isLoose 4 (some .boolean) rmX1_isLoose [.ref (ad b), .int (nI cut), .int (masterPlan), .int (greatest)] (b01 (f_X1_isLoose y cut masterPlan greatest)) := by
  refine RM.of (by decide +kernel) ⟨rfl, rfl⟩ (Nat.le_of_ble_eq_true rfl) (narB _) ?_
  intro p e s m as below meth c Q X H hP ls hl kr
  have X : WX p s m as c cX1_isLoose 4 RX1 dd t := X
  have hx := X.1.1
  have hb := X.1.2.1
  have hl : lv_has ls 4 [(0, .ref (ad b)), (1, .int (nI cut)), (2, .int (masterPlan)), (3, .int (greatest))] := hl
  have hi0_0 := hp0.i0
  have hle0 := hp0.le
  refine lv_aload_n hx hb dX1_isLoose_0 rfl (lv_at hl 0 rfl) ?_
  refine lv_iload_n hx hb dX1_isLoose_1 rfl (lv_at hl 1 rfl) ?_
  refine r_call (As := [.int (nI cut)]) (rest := []) (ci := 1) X hP (c_X1_isRay hp0 cut (by omega)) o_X1_isRay rfl hp0.lt hp0.ob m302 ⟨rfl, rfl⟩ ⟨Nat.le_of_ble_eq_true rfl, Nat.le_of_ble_eq_true rfl⟩ rfl hl.1 rfl (Nat.le_of_ble_eq_true rfl) ⟨Nat.zero_le _, Nat.zero_le _⟩ dX1_isLoose_2 ?_
  refine q_eqB (tgt := 24) hx hb dX1_isLoose_5 (by decide) (fun c1 => ?_) (fun c1 => ?_)
  · refine lv_aload_n hx hb dX1_isLoose_24 rfl (lv_at hl 0 rfl) ?_
    refine lv_iload_n hx hb dX1_isLoose_25 rfl (lv_at hl 1 rfl) ?_
    refine lv_iload_n hx hb dX1_isLoose_26 rfl (lv_at hl 2 rfl) ?_
    refine r_call (As := [.int (nI cut), .int (masterPlan)]) (rest := []) (ci := 1) X hP (c_X1_valueOf hp0 cut masterPlan (by omega)) o_X1_valueOf rfl hp0.lt hp0.ob m326 ⟨rfl, rfl⟩ ⟨Nat.le_of_ble_eq_true rfl, Nat.le_of_ble_eq_true rfl⟩ rfl hl.1 rfl (Nat.le_of_ble_eq_true rfl) ⟨Nat.zero_le _, Nat.zero_le _⟩ dX1_isLoose_27 ?_
    refine lv_iload_n hx hb dX1_isLoose_30 rfl (lv_at hl 3 rfl) ?_
    refine j_ge (tgt := 38) hx hb dX1_isLoose_31 (by decide) (fun c2 => ?_) (fun c2 => ?_)
    · refine lv_iconst (v := nI 0) hx hb dX1_isLoose_38 (by decide) ?_
      exact kr 39 ls _ (b_f (by rw [f_X1_isLoose, if_neg (nt c1), if_neg c2] <;> rfl)) dX1_isLoose_39
    · refine lv_iconst (v := nI 1) hx hb dX1_isLoose_34 (by decide) ?_
      refine lv_goto (tgt := 39) hx hb dX1_isLoose_35 (by decide) ?_
      exact kr 39 ls _ (b_t (by rw [f_X1_isLoose, if_neg (nt c1), if_pos c2] <;> rfl)) dX1_isLoose_39
  · refine lv_aload_n hx hb dX1_isLoose_8 rfl (lv_at hl 0 rfl) ?_
    refine lv_iload_n hx hb dX1_isLoose_9 rfl (lv_at hl 1 rfl) ?_
    refine lv_iload_n hx hb dX1_isLoose_10 rfl (lv_at hl 2 rfl) ?_
    refine r_call (As := [.int (nI cut), .int (masterPlan)]) (rest := []) (ci := 1) X hP (c_X1_weightOf hp0 cut masterPlan (by omega)) o_X1_weightOf rfl hp0.lt hp0.ob m306 ⟨rfl, rfl⟩ ⟨Nat.le_of_ble_eq_true rfl, Nat.le_of_ble_eq_true rfl⟩ rfl hl.1 rfl (Nat.le_of_ble_eq_true rfl) ⟨Nat.zero_le _, Nat.zero_le _⟩ dX1_isLoose_11 ?_
    refine lv_iconst (v := nI 1) hx hb dX1_isLoose_14 (by decide) ?_
    refine j_le (tgt := 22) hx hb dX1_isLoose_15 (by decide) (fun c3 => ?_) (fun c3 => ?_)
    · refine lv_iconst (v := nI 0) hx hb dX1_isLoose_22 (by decide) ?_
      exact kr 23 ls _ (b_f (by rw [f_X1_isLoose, if_pos c1, if_neg c3] <;> rfl)) dX1_isLoose_23
    · refine lv_iconst (v := nI 1) hx hb dX1_isLoose_18 (by decide) ?_
      refine lv_goto (tgt := 23) hx hb dX1_isLoose_19 (by decide) ?_
      exact kr 23 ls _ (b_t (by rw [f_X1_isLoose, if_pos c1, if_pos c3] <;> rfl)) dX1_isLoose_23
theorem o_X1_isLoose : okV yX1_isLoose cX1_isLoose 4 (some .boolean) 3 := ⟨m530, m531, m39, m532, by decide +kernel, by decide +kernel, by decide +kernel⟩
def rmX1_countLoose : Room := { frames := 4, cells := 0, slots := 0, locals := 90 }
def l_X1_countLoose_11 (y : CuC) (masterPlan : Int32) : Nat → Nat → Nat → Nat
  | 0, ix_1, a3_1 => a3_1
  | dx_1 + 1, ix_1, a3_1 => (if (f_X1_isLoose y ix_1 masterPlan (f_X1_greatestValue y masterPlan)) = true then l_X1_countLoose_11 y masterPlan dx_1 (ix_1 + 1) (a3_1 + 1) else l_X1_countLoose_11 y masterPlan dx_1 (ix_1 + 1) a3_1)
def f_X1_countLoose (y : CuC) (masterPlan : Int32) : Int32 :=
  nI (l_X1_countLoose_11 y masterPlan (kA y) 0 0)
set_option maxHeartbeats 4000000 in
set_option maxRecDepth 100000 in
theorem c_X1_countLoose {l : Launch} {dd : va_G} {t : CL4} {N : Nat} {ad : Nat → Nat} {V : Nat → va_E} {b : Nat} {y : CuC}  (hp0 : CuP N ad V t b y) (masterPlan : Int32)  : RM l dd t N ad V yX1_countLoose cX1_countLoose 5 (some .int) rmX1_countLoose [.ref (ad b), .int (masterPlan)] (f_X1_countLoose y masterPlan) := by
  refine RM.of (by decide +kernel) ⟨rfl, rfl⟩ (Nat.le_of_ble_eq_true rfl) (narI _) ?_
  intro p e s m as below meth c Q X H hP ls hl kr
  have X : WX p s m as c cX1_countLoose 5 RX1 dd t := X
  have hx := X.1.1
  have hb := X.1.2.1
  have hl : lv_has ls 5 [(0, .ref (ad b)), (1, .int (masterPlan))] := hl
  have hi0_0 := hp0.i0
  have hle0 := hp0.le
  refine lv_aload_n hx hb dX1_countLoose_0 rfl (lv_at hl 0 rfl) ?_
  refine lv_iload_n hx hb dX1_countLoose_1 rfl (lv_at hl 1 rfl) ?_
  refine r_call (As := [.int (masterPlan)]) (rest := []) (ci := 1) X hP (c_X1_greatestValue hp0 masterPlan) o_X1_greatestValue rfl hp0.lt hp0.ob m528 ⟨rfl, rfl⟩ ⟨Nat.le_of_ble_eq_true rfl, Nat.le_of_ble_eq_true rfl⟩ rfl hl.1 rfl (Nat.le_of_ble_eq_true rfl) ⟨Nat.zero_le _, Nat.zero_le _⟩ dX1_countLoose_2 ?_
  refine lv_istore_n (lv' := [(2, .int (f_X1_greatestValue y masterPlan)), (0, .ref (ad b)), (1, .int (masterPlan))]) hx hb dX1_countLoose_5 rfl hl (by decide) rfl (fun ls hl => ?_)
  refine lv_iconst (v := nI 0) hx hb dX1_countLoose_6 (by decide) ?_
  refine lv_istore_n (lv' := [(3, .int (nI 0)), (2, .int (f_X1_greatestValue y masterPlan)), (0, .ref (ad b)), (1, .int (masterPlan))]) hx hb dX1_countLoose_7 rfl hl (by decide) rfl (fun ls hl => ?_)
  refine lv_iconst (v := nI 0) hx hb dX1_countLoose_8 (by decide) ?_
  refine lv_istore (lv' := [(4, .int (nI 0)), (3, .int (nI 0)), (2, .int (f_X1_greatestValue y masterPlan)), (0, .ref (ad b)), (1, .int (masterPlan))]) hx hb dX1_countLoose_9 hl (by decide) rfl (fun ls hl => ?_)
  have L1 : ∀ (dx_1 ix_1 : Nat) (a3_1 : Nat) (ls : Array Slot), (ix_1 + dx_1 = kA y) → (l_X1_countLoose_11 y masterPlan dx_1 ix_1 a3_1 = l_X1_countLoose_11 y masterPlan (kA y) 0 0) → (lv_has ls 5 [(0, .ref (ad b)), (1, .int (masterPlan)), (2, .int (f_X1_greatestValue y masterPlan)), (3, .int (nI a3_1)), (4, .int (nI ix_1))]) → W p l e rmX1_countLoose s m as below meth c H [] 0 0 Q (F0 m 11 ls []) := by
    intro dx_1
    induction dx_1 with
    | zero =>
      intro ix_1 a3_1 ls hid hvx_1 hl
      have hiN : kA y = ix_1 := by omega
      subst hiN
      have hvx_1 : a3_1 = l_X1_countLoose_11 y masterPlan (kA y) 0 0 := hvx_1
      have hh0 : a3_1 = l_X1_countLoose_11 y masterPlan (kA y) 0 0 := hvx_1
      subst hh0
      refine lv_iload hx hb dX1_countLoose_11 (lv_at hl 4 rfl) ?_
      refine lv_aload_n hx hb dX1_countLoose_13 rfl (lv_at hl 0 rfl) ?_
      refine g_Cu_amount X hP hp0 m59 dX1_countLoose_14 ?_
      refine q_ge (tgt := 40) hx hb (by omega) (by omega) dX1_countLoose_17 (by decide) (fun c2 => ?_) (fun h => absurd h (by omega))
      refine lv_iload_n hx hb dX1_countLoose_40 rfl (lv_at hl 3 rfl) ?_
      exact kr 41 ls _ (Eq.symm (by rw [f_X1_countLoose] <;> rfl)) dX1_countLoose_41
    | succ dx_1 ihx_1 =>
      intro ix_1 a3_1 ls hid hvx_1 hl
      refine lv_iload hx hb dX1_countLoose_11 (lv_at hl 4 rfl) ?_
      refine lv_aload_n hx hb dX1_countLoose_13 rfl (lv_at hl 0 rfl) ?_
      refine g_Cu_amount X hP hp0 m59 dX1_countLoose_14 ?_
      refine q_ge (tgt := 40) hx hb (by omega) (by omega) dX1_countLoose_17 (by decide) (fun h => absurd h (by omega)) (fun c3 => ?_)
      refine lv_aload_n hx hb dX1_countLoose_20 rfl (lv_at hl 0 rfl) ?_
      refine lv_iload hx hb dX1_countLoose_21 (lv_at hl 4 rfl) ?_
      refine lv_iload_n hx hb dX1_countLoose_23 rfl (lv_at hl 1 rfl) ?_
      refine lv_iload_n hx hb dX1_countLoose_24 rfl (lv_at hl 2 rfl) ?_
      refine r_call (As := [.int (nI ix_1), .int (masterPlan), .int (f_X1_greatestValue y masterPlan)]) (rest := []) (ci := 1) X hP (c_X1_isLoose hp0 ix_1 masterPlan (f_X1_greatestValue y masterPlan) (by omega)) o_X1_isLoose rfl hp0.lt hp0.ob m529 ⟨rfl, rfl⟩ ⟨Nat.le_of_ble_eq_true rfl, Nat.le_of_ble_eq_true rfl⟩ rfl hl.1 rfl (Nat.le_of_ble_eq_true rfl) ⟨Nat.zero_le _, Nat.zero_le _⟩ dX1_countLoose_25 ?_
      refine q_eqB (tgt := 34) hx hb dX1_countLoose_28 (by decide) (fun c4 => ?_) (fun c4 => ?_)
      · refine lv_iinc (v := nI (ix_1 + 1)) (lv' := [(4, .int (nI (ix_1 + 1))), (0, .ref (ad b)), (1, .int (masterPlan)), (2, .int (f_X1_greatestValue y masterPlan)), (3, .int (nI a3_1))]) hx hb dX1_countLoose_34 hl (k := 4) rfl (nI_inc _) (by decide) rfl (fun ls hl => ?_)
        refine lv_goto (tgt := 11) hx hb dX1_countLoose_37 (by decide) ?_
        exact ihx_1 (ix_1 + 1) a3_1 ls (by omega) (Eq.trans (Eq.symm (by rw [l_X1_countLoose_11, if_neg (nt c4)] <;> rfl)) hvx_1) (lv_sub hl [1, 2, 3, 4, 0] rfl)
      · refine lv_iinc (v := nI (a3_1 + 1)) (lv' := [(3, .int (nI (a3_1 + 1))), (0, .ref (ad b)), (1, .int (masterPlan)), (2, .int (f_X1_greatestValue y masterPlan)), (4, .int (nI ix_1))]) hx hb dX1_countLoose_31 hl (k := 3) rfl (nI_inc _) (by decide) rfl (fun ls hl => ?_)
        refine lv_iinc (v := nI (ix_1 + 1)) (lv' := [(4, .int (nI (ix_1 + 1))), (3, .int (nI (a3_1 + 1))), (0, .ref (ad b)), (1, .int (masterPlan)), (2, .int (f_X1_greatestValue y masterPlan))]) hx hb dX1_countLoose_34 hl (k := 4) rfl (nI_inc _) (by decide) rfl (fun ls hl => ?_)
        refine lv_goto (tgt := 11) hx hb dX1_countLoose_37 (by decide) ?_
        exact ihx_1 (ix_1 + 1) (a3_1 + 1) ls (by omega) (Eq.trans (Eq.symm (by rw [l_X1_countLoose_11, if_pos c4] <;> rfl)) hvx_1) (lv_sub hl [2, 3, 4, 1, 0] rfl)
  exact L1 (kA y) 0 0 ls (by omega) rfl (lv_sub hl [3, 4, 2, 1, 0] rfl)
theorem o_X1_countLoose : okV yX1_countLoose cX1_countLoose 5 (some .int) 1 := ⟨m525, m526, m39, m527, by decide +kernel, by decide +kernel, by decide +kernel⟩
def rmX1_savedBy : Room := { frames := 1, cells := 0, slots := 0, locals := 15 }
def l_X1_savedBy_5 (x : PlC) (f : Nat → Int32) (site : Nat) : Nat → Nat → Int32 → Int32
  | 0, ix_1, a3_1 => a3_1
  | dx_1 + 1, ix_1, a3_1 => l_X1_savedBy_5 x f site dx_1 (ix_1 + 1) (a3_1 + ((pD x ix_1) * (if (nI 0) < ((f ix_1) - (pR x site ix_1)) then ((f ix_1) - (pR x site ix_1)) else (nI 0))))
def f_X1_savedBy (x : PlC) (f : Nat → Int32) (site : Nat) : Int32 :=
  (l_X1_savedBy_5 x f site (pM x) 0 (nI 0))
set_option maxHeartbeats 4000000 in
set_option maxRecDepth 100000 in
theorem c_X1_savedBy {l : Launch} {dd : va_G} {t : CL4} {N : Nat} {ad : Nat → Nat} {V : Nat → va_E} {b : Nat} {q : Nat} {x : PlC} {f : Nat → Int32}  (hp0 : PlP N ad V t b x) (hp1 : NuP N V t q f) (site : Nat) (h_site : site < pN x) : RM l dd t N ad V yX1_savedBy cX1_savedBy 6 (some .int) rmX1_savedBy [.ref (ad b), .int (nI site), .ref (ad q)] (f_X1_savedBy x f site) := by
  refine RM.of (by decide +kernel) ⟨rfl, rfl⟩ (Nat.le_of_ble_eq_true rfl) (narI _) ?_
  intro p e s m as below meth c Q X H hP ls hl kr
  have X : WX p s m as c cX1_savedBy 6 RX1 dd t := X
  have hx := X.1.1
  have hb := X.1.2.1
  have hl : lv_has ls 6 [(0, .ref (ad b)), (1, .int (nI site)), (2, .ref (ad q))] := hl
  have hi0_0 := hp0.i0
  have hi0_1 := hp0.i1
  have hle0 := hp0.le
  have hle1 := hp1.1
  refine lv_iconst (v := nI 0) hx hb dX1_savedBy_0 (by decide) ?_
  refine lv_istore_n (lv' := [(3, .int (nI 0)), (0, .ref (ad b)), (1, .int (nI site)), (2, .ref (ad q))]) hx hb dX1_savedBy_1 rfl hl (by decide) rfl (fun ls hl => ?_)
  refine lv_iconst (v := nI 0) hx hb dX1_savedBy_2 (by decide) ?_
  refine lv_istore (lv' := [(4, .int (nI 0)), (3, .int (nI 0)), (0, .ref (ad b)), (1, .int (nI site)), (2, .ref (ad q))]) hx hb dX1_savedBy_3 hl (by decide) rfl (fun ls hl => ?_)
  have L1 : ∀ (dx_1 ix_1 : Nat) (a3_1 : Int32) (ls : Array Slot), (ix_1 + dx_1 = pM x) → (l_X1_savedBy_5 x f site dx_1 ix_1 a3_1 = l_X1_savedBy_5 x f site (pM x) 0 (nI 0)) → (lv_has ls 6 [(0, .ref (ad b)), (1, .int (nI site)), (2, .ref (ad q)), (3, .int (a3_1)), (4, .int (nI ix_1))]) → W p l e rmX1_savedBy s m as below meth c H [] 0 0 Q (F0 m 5 ls []) := by
    intro dx_1
    induction dx_1 with
    | zero =>
      intro ix_1 a3_1 ls hid hvx_1 hl
      have hiN : pM x = ix_1 := by omega
      subst hiN
      have hvx_1 : a3_1 = l_X1_savedBy_5 x f site (pM x) 0 (nI 0) := hvx_1
      have hh0 : a3_1 = l_X1_savedBy_5 x f site (pM x) 0 (nI 0) := hvx_1
      subst hh0
      refine lv_iload hx hb dX1_savedBy_5 (lv_at hl 4 rfl) ?_
      refine lv_aload_n hx hb dX1_savedBy_7 rfl (lv_at hl 0 rfl) ?_
      refine g_Pl_customerCount X hP hp0 m372 dX1_savedBy_8 ?_
      refine q_ge (tgt := 53) hx hb (by omega) (by omega) dX1_savedBy_11 (by decide) (fun c2 => ?_) (fun h => absurd h (by omega))
      refine lv_iload_n hx hb dX1_savedBy_53 rfl (lv_at hl 3 rfl) ?_
      exact kr 54 ls _ (Eq.symm (by rw [f_X1_savedBy] <;> rfl)) dX1_savedBy_54
    | succ dx_1 ihx_1 =>
      intro ix_1 a3_1 ls hid hvx_1 hl
      refine lv_iload hx hb dX1_savedBy_5 (lv_at hl 4 rfl) ?_
      refine lv_aload_n hx hb dX1_savedBy_7 rfl (lv_at hl 0 rfl) ?_
      refine g_Pl_customerCount X hP hp0 m372 dX1_savedBy_8 ?_
      refine q_ge (tgt := 53) hx hb (by omega) (by omega) dX1_savedBy_11 (by decide) (fun h => absurd h (by omega)) (fun c3 => ?_)
      refine lv_aload_n hx hb dX1_savedBy_14 rfl (lv_at hl 2 rfl) ?_
      refine lv_iload hx hb dX1_savedBy_15 (lv_at hl 4 rfl) ?_
      refine a_nld X hP hp1 (by omega) dX1_savedBy_17 ?_
      refine lv_aload_n hx hb dX1_savedBy_18 rfl (lv_at hl 0 rfl) ?_
      refine g_Pl_routePrices X hP hp0 m377 dX1_savedBy_19 ?_
      refine lv_iload_n hx hb dX1_savedBy_22 rfl (lv_at hl 1 rfl) ?_
      refine l_Pl_routePrices X hP hp0 (by omega) dX1_savedBy_23 ?_
      refine lv_iload hx hb dX1_savedBy_24 (lv_at hl 4 rfl) ?_
      refine l_Pl_routePrices_row X hP hp0 (by omega) (by omega) dX1_savedBy_26 ?_
      refine lv_isub hx hb dX1_savedBy_27 ?_
      refine lv_istore (lv' := [(5, .int ((f ix_1) - (pR x site ix_1))), (0, .ref (ad b)), (1, .int (nI site)), (2, .ref (ad q)), (3, .int (a3_1)), (4, .int (nI ix_1))]) hx hb dX1_savedBy_28 hl (by decide) rfl (fun ls hl => ?_)
      refine lv_iload_n hx hb dX1_savedBy_30 rfl (lv_at hl 4 rfl) ?_
      refine lv_aload_n hx hb dX1_savedBy_31 rfl (lv_at hl 1 rfl) ?_
      refine g_Pl_demands X hP hp0 m373 dX1_savedBy_32 ?_
      refine lv_iload hx hb dX1_savedBy_35 (lv_at hl 5 rfl) ?_
      refine l_Pl_demands X hP hp0 (by omega) dX1_savedBy_37 ?_
      refine lv_iconst (v := nI 0) hx hb dX1_savedBy_38 (by decide) ?_
      refine lv_iload hx hb dX1_savedBy_39 (lv_at hl 0 rfl) ?_
      refine va_mmax hx hb (X.1.2.2.1.trans hl.1.symm) X.1.2.2.2.1 (X.1.2.2.2.2 _ m322) (X.1.2.2.2.2 _ m323) (X.1.2.2.2.2 _ m324) (X.1.2.2.2.2 _ m325) (Nat.le_of_ble_eq_true rfl) (Nat.le_of_ble_eq_true rfl) (Nat.le_of_ble_eq_true rfl) (Nat.le_of_ble_eq_true rfl) dX1_savedBy_41 ?_
      refine lv_imul hx hb dX1_savedBy_44 ?_
      refine lv_iadd hx hb dX1_savedBy_45 ?_
      refine lv_istore_n (lv' := [(3, .int (a3_1 + ((pD x ix_1) * (if (nI 0) < ((f ix_1) - (pR x site ix_1)) then ((f ix_1) - (pR x site ix_1)) else (nI 0))))), (5, .int ((f ix_1) - (pR x site ix_1))), (0, .ref (ad b)), (1, .int (nI site)), (2, .ref (ad q)), (4, .int (nI ix_1))]) hx hb dX1_savedBy_46 rfl hl (by decide) rfl (fun ls hl => ?_)
      refine lv_iinc (v := nI (ix_1 + 1)) (lv' := [(4, .int (nI (ix_1 + 1))), (3, .int (a3_1 + ((pD x ix_1) * (if (nI 0) < ((f ix_1) - (pR x site ix_1)) then ((f ix_1) - (pR x site ix_1)) else (nI 0))))), (5, .int ((f ix_1) - (pR x site ix_1))), (0, .ref (ad b)), (1, .int (nI site)), (2, .ref (ad q))]) hx hb dX1_savedBy_47 hl (k := 5) rfl (nI_inc _) (by decide) rfl (fun ls hl => ?_)
      refine lv_goto (tgt := 5) hx hb dX1_savedBy_50 (by decide) ?_
      exact ihx_1 (ix_1 + 1) (a3_1 + ((pD x ix_1) * (if (nI 0) < ((f ix_1) - (pR x site ix_1)) then ((f ix_1) - (pR x site ix_1)) else (nI 0)))) ls (by omega) (Eq.trans (Eq.symm (by rw [l_X1_savedBy_5] <;> rfl)) hvx_1) (lv_sub hl [3, 4, 5, 1, 0] rfl)
  exact L1 (pM x) 0 (nI 0) ls (by omega) rfl (lv_sub hl [2, 3, 4, 1, 0] rfl)
theorem o_X1_savedBy : okS yX1_savedBy cX1_savedBy 6 (some .int) 3 := ⟨m375, m39, m376, by decide +kernel, by decide +kernel, by decide +kernel⟩
def rmX4_guessOf : Room := { frames := 4, cells := 0, slots := 0, locals := 90 }
def f_X4_guessOf (z : SoC) (x : PlC) (y : CuC) (plan : Int32) : Int32 :=
  (f_X3_sitePricesOf x plan) + (f_X1_greatestValue y plan)
set_option maxHeartbeats 4000000 in
set_option maxRecDepth 100000 in
theorem c_X4_guessOf {l : Launch} {dd : va_G} {t : CL4} {N : Nat} {ad : Nat → Nat} {V : Nat → va_E} {b : Nat} {z : SoC} {x : PlC} {y : CuC}  (hp0 : SoP N ad V t b z) (hp1 : PlP N ad V t (b + 1) x) (hp2 : CuP N ad V t (b + 13) y) (plan : Int32)  : RM l dd t N ad V yX4_guessOf cX4_guessOf 2 (some .int) rmX4_guessOf [.ref (ad b), .int (plan)] (f_X4_guessOf z x y plan) := by
  refine RM.of (by decide +kernel) ⟨rfl, rfl⟩ (Nat.le_of_ble_eq_true rfl) (narI _) ?_
  intro p e s m as below meth c Q X H hP ls hl kr
  have X : WX p s m as c cX4_guessOf 2 RX4 dd t := X
  have hx := X.1.1
  have hb := X.1.2.1
  have hl : lv_has ls 2 [(0, .ref (ad b)), (1, .int (plan))] := hl
  have hi1_0 := hp1.i0
  have hi1_1 := hp1.i1
  have hi2_0 := hp2.i0
  have hle0 := hp0.le
  have hle1 := hp1.le
  have hle2 := hp2.le
  refine lv_aload_n hx hb dX4_guessOf_0 rfl (lv_at hl 0 rfl) ?_
  refine g_So_places X hP hp0 m36 dX4_guessOf_1 ?_
  refine lv_iload_n hx hb dX4_guessOf_4 rfl (lv_at hl 1 rfl) ?_
  refine r_call (As := [.int (plan)]) (rest := []) (ci := 3) X hP (c_X3_sitePricesOf hp1 plan) o_X3_sitePricesOf rfl hp1.lt hp1.ob m314 ⟨rfl, rfl⟩ ⟨Nat.le_of_ble_eq_true rfl, Nat.le_of_ble_eq_true rfl⟩ rfl hl.1 rfl (Nat.le_of_ble_eq_true rfl) ⟨Nat.zero_le _, Nat.zero_le _⟩ dX4_guessOf_5 ?_
  refine lv_aload_n hx hb dX4_guessOf_8 rfl (lv_at hl 0 rfl) ?_
  refine g_So_cuts X hP hp0 m40 dX4_guessOf_9 ?_
  refine lv_iload_n hx hb dX4_guessOf_12 rfl (lv_at hl 1 rfl) ?_
  refine r_call (As := [.int (plan)]) (rest := [.int (f_X3_sitePricesOf x plan)]) (ci := 1) X hP (c_X1_greatestValue hp2 plan) o_X1_greatestValue rfl hp2.lt hp2.ob m318 ⟨rfl, rfl⟩ ⟨Nat.le_of_ble_eq_true rfl, Nat.le_of_ble_eq_true rfl⟩ rfl hl.1 rfl (Nat.le_of_ble_eq_true rfl) ⟨Nat.zero_le _, Nat.zero_le _⟩ dX4_guessOf_13 ?_
  refine lv_iadd hx hb dX4_guessOf_16 ?_
  exact kr 17 ls _ (Eq.symm (by rw [f_X4_guessOf] <;> rfl)) dX4_guessOf_17
theorem o_X4_guessOf : okV yX4_guessOf cX4_guessOf 2 (some .int) 1 := ⟨m311, m312, m14, m313, by decide +kernel, by decide +kernel, by decide +kernel⟩
def rmX4_isForMaster : Room := { frames := 3, cells := 0, slots := 0, locals := 68 }
def f_X4_isForMaster (z : SoC) (x : PlC) (y : CuC) (plan : Int32) : Bool :=
  (if (f_X3_isAllowed x plan) = true then (if (f_X1_countMissedRays y plan) = 0 then true else false) else false)
set_option maxHeartbeats 4000000 in
set_option maxRecDepth 100000 in
theorem c_X4_isForMaster {l : Launch} {dd : va_G} {t : CL4} {N : Nat} {ad : Nat → Nat} {V : Nat → va_E} {b : Nat} {z : SoC} {x : PlC} {y : CuC}  (hp0 : SoP N ad V t b z) (hp1 : PlP N ad V t (b + 1) x) (hp2 : CuP N ad V t (b + 13) y) (plan : Int32)  : RM l dd t N ad V yX4_isForMaster cX4_isForMaster 2 (some .boolean) rmX4_isForMaster [.ref (ad b), .int (plan)] (b01 (f_X4_isForMaster z x y plan)) := by
  refine RM.of (by decide +kernel) ⟨rfl, rfl⟩ (Nat.le_of_ble_eq_true rfl) (narB _) ?_
  intro p e s m as below meth c Q X H hP ls hl kr
  have X : WX p s m as c cX4_isForMaster 2 RX4 dd t := X
  have hx := X.1.1
  have hb := X.1.2.1
  have hl : lv_has ls 2 [(0, .ref (ad b)), (1, .int (plan))] := hl
  have hi1_0 := hp1.i0
  have hi1_1 := hp1.i1
  have hi2_0 := hp2.i0
  have hle0 := hp0.le
  have hle1 := hp1.le
  have hle2 := hp2.le
  refine lv_aload_n hx hb dX4_isForMaster_0 rfl (lv_at hl 0 rfl) ?_
  refine g_So_places X hP hp0 m36 dX4_isForMaster_1 ?_
  refine lv_iload_n hx hb dX4_isForMaster_4 rfl (lv_at hl 1 rfl) ?_
  refine r_call (As := [.int (plan)]) (rest := []) (ci := 3) X hP (c_X3_isAllowed hp1 plan) o_X3_isAllowed rfl hp1.lt hp1.ob m289 ⟨rfl, rfl⟩ ⟨Nat.le_of_ble_eq_true rfl, Nat.le_of_ble_eq_true rfl⟩ rfl hl.1 rfl (Nat.le_of_ble_eq_true rfl) ⟨Nat.zero_le _, Nat.zero_le _⟩ dX4_isForMaster_5 ?_
  refine q_eqB (tgt := 26) hx hb dX4_isForMaster_8 (by decide) (fun c1 => ?_) (fun c1 => ?_)
  · refine lv_iconst (v := nI 0) hx hb dX4_isForMaster_26 (by decide) ?_
    exact kr 27 ls _ (b_f (by rw [f_X4_isForMaster, if_neg (nt c1)] <;> rfl)) dX4_isForMaster_27
  · refine lv_aload_n hx hb dX4_isForMaster_11 rfl (lv_at hl 0 rfl) ?_
    refine g_So_cuts X hP hp0 m40 dX4_isForMaster_12 ?_
    refine lv_iload_n hx hb dX4_isForMaster_15 rfl (lv_at hl 1 rfl) ?_
    refine r_call (As := [.int (plan)]) (rest := []) (ci := 1) X hP (c_X1_countMissedRays hp2 plan) o_X1_countMissedRays rfl hp2.lt hp2.ob m298 ⟨rfl, rfl⟩ ⟨Nat.le_of_ble_eq_true rfl, Nat.le_of_ble_eq_true rfl⟩ rfl hl.1 rfl (Nat.le_of_ble_eq_true rfl) ⟨Nat.zero_le _, Nat.zero_le _⟩ dX4_isForMaster_16 ?_
    refine lv_if_ne (tgt := 26) hx hb dX4_isForMaster_19 (by decide) (fun c2 => ?_) (fun c2 => ?_)
    · refine lv_iconst (v := nI 0) hx hb dX4_isForMaster_26 (by decide) ?_
      exact kr 27 ls _ (b_f (by rw [f_X4_isForMaster, if_pos c1, if_neg c2] <;> rfl)) dX4_isForMaster_27
    · refine lv_iconst (v := nI 1) hx hb dX4_isForMaster_22 (by decide) ?_
      refine lv_goto (tgt := 27) hx hb dX4_isForMaster_23 (by decide) ?_
      exact kr 27 ls _ (b_t (by rw [f_X4_isForMaster, if_pos c1, if_pos c2] <;> rfl)) dX4_isForMaster_27
theorem o_X4_isForMaster : okV yX4_isForMaster cX4_isForMaster 2 (some .boolean) 1 := ⟨m286, m287, m14, m288, by decide +kernel, by decide +kernel, by decide +kernel⟩
def rmX4_findMasterPlan : Room := { frames := 5, cells := 0, slots := 0, locals := 111 }
def l_X4_findMasterPlan_6 (z : SoC) (x : PlC) (y : CuC) : Nat → Nat → Int32 → Int32 → Int32 × Int32
  | 0, ix_1, a1_1, a2_1 => (a1_1, a2_1)
  | dx_1 + 1, ix_1, a1_1, a2_1 => (if (f_X4_isForMaster z x y (nI ix_1)) = true then (if a1_1 = (-1) then l_X4_findMasterPlan_6 z x y dx_1 (ix_1 + 1) (nI ix_1) (f_X4_guessOf z x y (nI ix_1)) else (if (f_X4_guessOf z x y (nI ix_1)) < a2_1 then l_X4_findMasterPlan_6 z x y dx_1 (ix_1 + 1) (nI ix_1) (f_X4_guessOf z x y (nI ix_1)) else l_X4_findMasterPlan_6 z x y dx_1 (ix_1 + 1) a1_1 a2_1)) else l_X4_findMasterPlan_6 z x y dx_1 (ix_1 + 1) a1_1 a2_1)
def f_X4_findMasterPlan (z : SoC) (x : PlC) (y : CuC) : Int32 :=
  ((l_X4_findMasterPlan_6 z x y (2 ^ pN x) 0 (-1) (nI 0)).1)
set_option maxHeartbeats 4000000 in
set_option maxRecDepth 100000 in
theorem c_X4_findMasterPlan {l : Launch} {dd : va_G} {t : CL4} {N : Nat} {ad : Nat → Nat} {V : Nat → va_E} {b : Nat} {z : SoC} {x : PlC} {y : CuC}  (hp0 : SoP N ad V t b z) (hp1 : PlP N ad V t (b + 1) x) (hp2 : CuP N ad V t (b + 13) y)   : RM l dd t N ad V yX4_findMasterPlan cX4_findMasterPlan 5 (some .int) rmX4_findMasterPlan [.ref (ad b)] (f_X4_findMasterPlan z x y) := by
  refine RM.of (by decide +kernel) ⟨rfl, rfl⟩ (Nat.le_of_ble_eq_true rfl) (narI _) ?_
  intro p e s m as below meth c Q X H hP ls hl kr
  have X : WX p s m as c cX4_findMasterPlan 5 RX4 dd t := X
  have hx := X.1.1
  have hb := X.1.2.1
  have hl : lv_has ls 5 [(0, .ref (ad b))] := hl
  have hi1_0 := hp1.i0
  have hi1_1 := hp1.i1
  have hi2_0 := hp2.i0
  have hle0 := hp0.le
  have hle1 := hp1.le
  have hle2 := hp2.le
  have hpw : 2 ^ pN x ≤ 128 := pow7 hi1_0
  refine lv_iconst (v := (-1)) hx hb dX4_findMasterPlan_0 (by decide) ?_
  refine lv_istore_n (lv' := [(1, .int ((-1))), (0, .ref (ad b))]) hx hb dX4_findMasterPlan_1 rfl hl (by decide) rfl (fun ls hl => ?_)
  refine lv_iconst (v := nI 0) hx hb dX4_findMasterPlan_2 (by decide) ?_
  refine lv_istore_n (lv' := [(2, .int (nI 0)), (1, .int ((-1))), (0, .ref (ad b))]) hx hb dX4_findMasterPlan_3 rfl hl (by decide) rfl (fun ls hl => ?_)
  refine lv_iconst (v := nI 0) hx hb dX4_findMasterPlan_4 (by decide) ?_
  refine lv_istore_n (lv' := [(3, .int (nI 0)), (2, .int (nI 0)), (1, .int ((-1))), (0, .ref (ad b))]) hx hb dX4_findMasterPlan_5 rfl hl (by decide) rfl (fun ls hl => ?_)
  have L1 : ∀ (dx_1 ix_1 : Nat) (a1_1 : Int32) (a2_1 : Int32) (ls : Array Slot), (ix_1 + dx_1 = 2 ^ pN x) → (l_X4_findMasterPlan_6 z x y dx_1 ix_1 a1_1 a2_1 = l_X4_findMasterPlan_6 z x y (2 ^ pN x) 0 (-1) (nI 0)) → (lv_has ls 5 [(0, .ref (ad b)), (1, .int (a1_1)), (2, .int (a2_1)), (3, .int (nI ix_1))]) → W p l e rmX4_findMasterPlan s m as below meth c H [] 0 0 Q (F0 m 6 ls []) := by
    intro dx_1
    induction dx_1 with
    | zero =>
      intro ix_1 a1_1 a2_1 ls hid hvx_1 hl
      have hiN : 2 ^ pN x = ix_1 := by omega
      subst hiN
      have hvx_1 : (a1_1, a2_1) = l_X4_findMasterPlan_6 z x y (2 ^ pN x) 0 (-1) (nI 0) := hvx_1
      have hh0 : a1_1 = (l_X4_findMasterPlan_6 z x y (2 ^ pN x) 0 (-1) (nI 0)).1 := congrArg (fun q => (q).1) hvx_1
      have hh1 : a2_1 = (l_X4_findMasterPlan_6 z x y (2 ^ pN x) 0 (-1) (nI 0)).2 := congrArg (fun q => (q).2) hvx_1
      subst hh0
      subst hh1
      refine lv_iload_n hx hb dX4_findMasterPlan_6 rfl (lv_at hl 3 rfl) ?_
      refine lv_aload_n hx hb dX4_findMasterPlan_7 rfl (lv_at hl 0 rfl) ?_
      refine g_So_places X hP hp0 m36 dX4_findMasterPlan_8 ?_
      refine r_call (As := []) (rest := [.int (nI (2 ^ pN x))]) (ci := 3) X hP (c_X3_planCount hp1) o_X3_planCount rfl hp1.lt hp1.ob m281 ⟨rfl, rfl⟩ ⟨Nat.le_of_ble_eq_true rfl, Nat.le_of_ble_eq_true rfl⟩ rfl hl.1 rfl (Nat.le_of_ble_eq_true rfl) ⟨Nat.zero_le _, Nat.zero_le _⟩ dX4_findMasterPlan_11 ?_
      refine q_val (show nI (f_X3_planCount x) = nI (2 ^ pN x) from rfl) ?_
      refine q_ge (tgt := 54) hx hb (by omega) (by omega) dX4_findMasterPlan_14 (by decide) (fun c2 => ?_) (fun h => absurd h (by omega))
      refine lv_iload_n hx hb dX4_findMasterPlan_54 rfl (lv_at hl 1 rfl) ?_
      exact kr 55 ls _ (Eq.symm (by rw [f_X4_findMasterPlan] <;> rfl)) dX4_findMasterPlan_55
    | succ dx_1 ihx_1 =>
      intro ix_1 a1_1 a2_1 ls hid hvx_1 hl
      refine lv_iload_n hx hb dX4_findMasterPlan_6 rfl (lv_at hl 3 rfl) ?_
      refine lv_aload_n hx hb dX4_findMasterPlan_7 rfl (lv_at hl 0 rfl) ?_
      refine g_So_places X hP hp0 m36 dX4_findMasterPlan_8 ?_
      refine r_call (As := []) (rest := [.int (nI ix_1)]) (ci := 3) X hP (c_X3_planCount hp1) o_X3_planCount rfl hp1.lt hp1.ob m281 ⟨rfl, rfl⟩ ⟨Nat.le_of_ble_eq_true rfl, Nat.le_of_ble_eq_true rfl⟩ rfl hl.1 rfl (Nat.le_of_ble_eq_true rfl) ⟨Nat.zero_le _, Nat.zero_le _⟩ dX4_findMasterPlan_11 ?_
      refine q_val (show nI (f_X3_planCount x) = nI (2 ^ pN x) from rfl) ?_
      refine q_ge (tgt := 54) hx hb (by omega) (by omega) dX4_findMasterPlan_14 (by decide) (fun h => absurd h (by omega)) (fun c3 => ?_)
      refine lv_aload_n hx hb dX4_findMasterPlan_17 rfl (lv_at hl 0 rfl) ?_
      refine lv_iload_n hx hb dX4_findMasterPlan_18 rfl (lv_at hl 3 rfl) ?_
      refine r_call (As := [.int (nI ix_1)]) (rest := []) (ci := 4) X hP (c_X4_isForMaster hp0 hp1 hp2 (nI ix_1)) o_X4_isForMaster rfl hp0.lt hp0.ob m285 ⟨rfl, rfl⟩ ⟨Nat.le_of_ble_eq_true rfl, Nat.le_of_ble_eq_true rfl⟩ rfl hl.1 rfl (Nat.le_of_ble_eq_true rfl) ⟨Nat.zero_le _, Nat.zero_le _⟩ dX4_findMasterPlan_19 ?_
      refine q_eqB (tgt := 48) hx hb dX4_findMasterPlan_22 (by decide) (fun c4 => ?_) (fun c4 => ?_)
      · refine lv_iinc (v := nI (ix_1 + 1)) (lv' := [(3, .int (nI (ix_1 + 1))), (0, .ref (ad b)), (1, .int (a1_1)), (2, .int (a2_1))]) hx hb dX4_findMasterPlan_48 hl (k := 3) rfl (nI_inc _) (by decide) rfl (fun ls hl => ?_)
        refine lv_goto (tgt := 6) hx hb dX4_findMasterPlan_51 (by decide) ?_
        exact ihx_1 (ix_1 + 1) a1_1 a2_1 ls (by omega) (Eq.trans (Eq.symm (by rw [l_X4_findMasterPlan_6, if_neg (nt c4)] <;> rfl)) hvx_1) (lv_sub hl [1, 2, 3, 0] rfl)
      · refine lv_aload_n hx hb dX4_findMasterPlan_25 rfl (lv_at hl 0 rfl) ?_
        refine lv_iload_n hx hb dX4_findMasterPlan_26 rfl (lv_at hl 3 rfl) ?_
        refine r_call (As := [.int (nI ix_1)]) (rest := []) (ci := 4) X hP (c_X4_guessOf hp0 hp1 hp2 (nI ix_1)) o_X4_guessOf rfl hp0.lt hp0.ob m310 ⟨rfl, rfl⟩ ⟨Nat.le_of_ble_eq_true rfl, Nat.le_of_ble_eq_true rfl⟩ rfl hl.1 rfl (Nat.le_of_ble_eq_true rfl) ⟨Nat.zero_le _, Nat.zero_le _⟩ dX4_findMasterPlan_27 ?_
        refine lv_istore (lv' := [(4, .int (f_X4_guessOf z x y (nI ix_1))), (0, .ref (ad b)), (1, .int (a1_1)), (2, .int (a2_1)), (3, .int (nI ix_1))]) hx hb dX4_findMasterPlan_30 hl (by decide) rfl (fun ls hl => ?_)
        refine lv_iload_n hx hb dX4_findMasterPlan_32 rfl (lv_at hl 2 rfl) ?_
        refine lv_iconst (v := (-1)) hx hb dX4_findMasterPlan_33 (by decide) ?_
        refine lv_icmp_eq (tgt := 43) hx hb dX4_findMasterPlan_34 (by decide) (fun c5 => ?_) (fun c5 => ?_)
        · refine lv_iload_n hx hb dX4_findMasterPlan_43 rfl (lv_at hl 4 rfl) ?_
          refine lv_istore_n (lv' := [(1, .int (nI ix_1)), (4, .int (f_X4_guessOf z x y (nI ix_1))), (0, .ref (ad b)), (2, .int (a2_1)), (3, .int (nI ix_1))]) hx hb dX4_findMasterPlan_44 rfl hl (by decide) rfl (fun ls hl => ?_)
          refine lv_iload hx hb dX4_findMasterPlan_45 (lv_at hl 1 rfl) ?_
          refine lv_istore_n (lv' := [(2, .int (f_X4_guessOf z x y (nI ix_1))), (1, .int (nI ix_1)), (4, .int (f_X4_guessOf z x y (nI ix_1))), (0, .ref (ad b)), (3, .int (nI ix_1))]) hx hb dX4_findMasterPlan_47 rfl hl (by decide) rfl (fun ls hl => ?_)
          refine lv_iinc (v := nI (ix_1 + 1)) (lv' := [(3, .int (nI (ix_1 + 1))), (2, .int (f_X4_guessOf z x y (nI ix_1))), (1, .int (nI ix_1)), (4, .int (f_X4_guessOf z x y (nI ix_1))), (0, .ref (ad b))]) hx hb dX4_findMasterPlan_48 hl (k := 4) rfl (nI_inc _) (by decide) rfl (fun ls hl => ?_)
          refine lv_goto (tgt := 6) hx hb dX4_findMasterPlan_51 (by decide) ?_
          exact ihx_1 (ix_1 + 1) (nI ix_1) (f_X4_guessOf z x y (nI ix_1)) ls (by omega) (Eq.trans (Eq.symm (by rw [l_X4_findMasterPlan_6, if_pos c4, if_pos c5] <;> rfl)) hvx_1) (lv_sub hl [4, 2, 1, 0] rfl)
        · refine lv_iload hx hb dX4_findMasterPlan_37 (lv_at hl 0 rfl) ?_
          refine lv_iload_n hx hb dX4_findMasterPlan_39 rfl (lv_at hl 3 rfl) ?_
          refine j_ge (tgt := 48) hx hb dX4_findMasterPlan_40 (by decide) (fun c6 => ?_) (fun c6 => ?_)
          · refine lv_iinc (v := nI (ix_1 + 1)) (lv' := [(3, .int (nI (ix_1 + 1))), (4, .int (f_X4_guessOf z x y (nI ix_1))), (0, .ref (ad b)), (1, .int (a1_1)), (2, .int (a2_1))]) hx hb dX4_findMasterPlan_48 hl (k := 4) rfl (nI_inc _) (by decide) rfl (fun ls hl => ?_)
            refine lv_goto (tgt := 6) hx hb dX4_findMasterPlan_51 (by decide) ?_
            exact ihx_1 (ix_1 + 1) a1_1 a2_1 ls (by omega) (Eq.trans (Eq.symm (by rw [l_X4_findMasterPlan_6, if_pos c4, if_neg c5, if_neg c6] <;> rfl)) hvx_1) (lv_sub hl [2, 3, 4, 0] rfl)
          · refine lv_iload_n hx hb dX4_findMasterPlan_43 rfl (lv_at hl 4 rfl) ?_
            refine lv_istore_n (lv' := [(1, .int (nI ix_1)), (4, .int (f_X4_guessOf z x y (nI ix_1))), (0, .ref (ad b)), (2, .int (a2_1)), (3, .int (nI ix_1))]) hx hb dX4_findMasterPlan_44 rfl hl (by decide) rfl (fun ls hl => ?_)
            refine lv_iload hx hb dX4_findMasterPlan_45 (lv_at hl 1 rfl) ?_
            refine lv_istore_n (lv' := [(2, .int (f_X4_guessOf z x y (nI ix_1))), (1, .int (nI ix_1)), (4, .int (f_X4_guessOf z x y (nI ix_1))), (0, .ref (ad b)), (3, .int (nI ix_1))]) hx hb dX4_findMasterPlan_47 rfl hl (by decide) rfl (fun ls hl => ?_)
            refine lv_iinc (v := nI (ix_1 + 1)) (lv' := [(3, .int (nI (ix_1 + 1))), (2, .int (f_X4_guessOf z x y (nI ix_1))), (1, .int (nI ix_1)), (4, .int (f_X4_guessOf z x y (nI ix_1))), (0, .ref (ad b))]) hx hb dX4_findMasterPlan_48 hl (k := 4) rfl (nI_inc _) (by decide) rfl (fun ls hl => ?_)
            refine lv_goto (tgt := 6) hx hb dX4_findMasterPlan_51 (by decide) ?_
            exact ihx_1 (ix_1 + 1) (nI ix_1) (f_X4_guessOf z x y (nI ix_1)) ls (by omega) (Eq.trans (Eq.symm (by rw [l_X4_findMasterPlan_6, if_pos c4, if_neg c5, if_pos c6] <;> rfl)) hvx_1) (lv_sub hl [4, 2, 1, 0] rfl)
  exact L1 (2 ^ pN x) 0 (-1) (nI 0) ls (by omega) rfl (lv_sub hl [3, 2, 1, 0] rfl)
theorem o_X4_findMasterPlan : okV yX4_findMasterPlan cX4_findMasterPlan 5 (some .int) 0 := ⟨m278, m279, m14, m280, by decide +kernel, by decide +kernel, by decide +kernel⟩
def rmX4_isBroken : Room := { frames := 3, cells := 0, slots := 0, locals := 68 }
def f_X4_isBroken (z : SoC) (x : PlC) (y : CuC) (cut : Nat) (plan : Int32) : Bool :=
  (if (f_X1_isRay y cut) = true then (if (f_X1_weightOf y cut plan) = 0 then true else false) else (if (f_X3_routeCostOf x plan) < (f_X1_valueOf y cut plan) then true else false))
set_option maxHeartbeats 4000000 in
set_option maxRecDepth 100000 in
theorem c_X4_isBroken {l : Launch} {dd : va_G} {t : CL4} {N : Nat} {ad : Nat → Nat} {V : Nat → va_E} {b : Nat} {z : SoC} {x : PlC} {y : CuC}  (hp0 : SoP N ad V t b z) (hp1 : PlP N ad V t (b + 1) x) (hp2 : CuP N ad V t (b + 13) y) (cut : Nat) (plan : Int32) (h_cut : cut < kA y) : RM l dd t N ad V yX4_isBroken cX4_isBroken 3 (some .boolean) rmX4_isBroken [.ref (ad b), .int (nI cut), .int (plan)] (b01 (f_X4_isBroken z x y cut plan)) := by
  refine RM.of (by decide +kernel) ⟨rfl, rfl⟩ (Nat.le_of_ble_eq_true rfl) (narB _) ?_
  intro p e s m as below meth c Q X H hP ls hl kr
  have X : WX p s m as c cX4_isBroken 3 RX4 dd t := X
  have hx := X.1.1
  have hb := X.1.2.1
  have hl : lv_has ls 3 [(0, .ref (ad b)), (1, .int (nI cut)), (2, .int (plan))] := hl
  have hi1_0 := hp1.i0
  have hi1_1 := hp1.i1
  have hi2_0 := hp2.i0
  have hle0 := hp0.le
  have hle1 := hp1.le
  have hle2 := hp2.le
  refine lv_aload_n hx hb dX4_isBroken_0 rfl (lv_at hl 0 rfl) ?_
  refine g_So_cuts X hP hp0 m40 dX4_isBroken_1 ?_
  refine lv_iload_n hx hb dX4_isBroken_4 rfl (lv_at hl 1 rfl) ?_
  refine r_call (As := [.int (nI cut)]) (rest := []) (ci := 1) X hP (c_X1_isRay hp2 cut (by omega)) o_X1_isRay rfl hp2.lt hp2.ob m673 ⟨rfl, rfl⟩ ⟨Nat.le_of_ble_eq_true rfl, Nat.le_of_ble_eq_true rfl⟩ rfl hl.1 rfl (Nat.le_of_ble_eq_true rfl) ⟨Nat.zero_le _, Nat.zero_le _⟩ dX4_isBroken_5 ?_
  refine q_eqB (tgt := 29) hx hb dX4_isBroken_8 (by decide) (fun c1 => ?_) (fun c1 => ?_)
  · refine lv_aload_n hx hb dX4_isBroken_29 rfl (lv_at hl 0 rfl) ?_
    refine g_So_cuts X hP hp0 m40 dX4_isBroken_30 ?_
    refine lv_iload_n hx hb dX4_isBroken_33 rfl (lv_at hl 1 rfl) ?_
    refine lv_iload_n hx hb dX4_isBroken_34 rfl (lv_at hl 2 rfl) ?_
    refine r_call (As := [.int (nI cut), .int (plan)]) (rest := []) (ci := 1) X hP (c_X1_valueOf hp2 cut plan (by omega)) o_X1_valueOf rfl hp2.lt hp2.ob m675 ⟨rfl, rfl⟩ ⟨Nat.le_of_ble_eq_true rfl, Nat.le_of_ble_eq_true rfl⟩ rfl hl.1 rfl (Nat.le_of_ble_eq_true rfl) ⟨Nat.zero_le _, Nat.zero_le _⟩ dX4_isBroken_35 ?_
    refine lv_aload_n hx hb dX4_isBroken_38 rfl (lv_at hl 0 rfl) ?_
    refine g_So_places X hP hp0 m36 dX4_isBroken_39 ?_
    refine lv_iload_n hx hb dX4_isBroken_42 rfl (lv_at hl 2 rfl) ?_
    refine r_call (As := [.int (plan)]) (rest := [.int (f_X1_valueOf y cut plan)]) (ci := 3) X hP (c_X3_routeCostOf hp1 plan) o_X3_routeCostOf rfl hp1.lt hp1.ob m676 ⟨rfl, rfl⟩ ⟨Nat.le_of_ble_eq_true rfl, Nat.le_of_ble_eq_true rfl⟩ rfl hl.1 rfl (Nat.le_of_ble_eq_true rfl) ⟨Nat.zero_le _, Nat.zero_le _⟩ dX4_isBroken_43 ?_
    refine j_le (tgt := 53) hx hb dX4_isBroken_46 (by decide) (fun c2 => ?_) (fun c2 => ?_)
    · refine lv_iconst (v := nI 0) hx hb dX4_isBroken_53 (by decide) ?_
      exact kr 54 ls _ (b_f (by rw [f_X4_isBroken, if_neg (nt c1), if_neg c2] <;> rfl)) dX4_isBroken_54
    · refine lv_iconst (v := nI 1) hx hb dX4_isBroken_49 (by decide) ?_
      refine lv_goto (tgt := 54) hx hb dX4_isBroken_50 (by decide) ?_
      exact kr 54 ls _ (b_t (by rw [f_X4_isBroken, if_neg (nt c1), if_pos c2] <;> rfl)) dX4_isBroken_54
  · refine lv_aload_n hx hb dX4_isBroken_11 rfl (lv_at hl 0 rfl) ?_
    refine g_So_cuts X hP hp0 m40 dX4_isBroken_12 ?_
    refine lv_iload_n hx hb dX4_isBroken_15 rfl (lv_at hl 1 rfl) ?_
    refine lv_iload_n hx hb dX4_isBroken_16 rfl (lv_at hl 2 rfl) ?_
    refine r_call (As := [.int (nI cut), .int (plan)]) (rest := []) (ci := 1) X hP (c_X1_weightOf hp2 cut plan (by omega)) o_X1_weightOf rfl hp2.lt hp2.ob m674 ⟨rfl, rfl⟩ ⟨Nat.le_of_ble_eq_true rfl, Nat.le_of_ble_eq_true rfl⟩ rfl hl.1 rfl (Nat.le_of_ble_eq_true rfl) ⟨Nat.zero_le _, Nat.zero_le _⟩ dX4_isBroken_17 ?_
    refine lv_if_ne (tgt := 27) hx hb dX4_isBroken_20 (by decide) (fun c3 => ?_) (fun c3 => ?_)
    · refine lv_iconst (v := nI 0) hx hb dX4_isBroken_27 (by decide) ?_
      exact kr 28 ls _ (b_f (by rw [f_X4_isBroken, if_pos c1, if_neg c3] <;> rfl)) dX4_isBroken_28
    · refine lv_iconst (v := nI 1) hx hb dX4_isBroken_23 (by decide) ?_
      refine lv_goto (tgt := 28) hx hb dX4_isBroken_24 (by decide) ?_
      exact kr 28 ls _ (b_t (by rw [f_X4_isBroken, if_pos c1, if_pos c3] <;> rfl)) dX4_isBroken_28
theorem o_X4_isBroken : okV yX4_isBroken cX4_isBroken 3 (some .boolean) 2 := ⟨m670, m671, m14, m672, by decide +kernel, by decide +kernel, by decide +kernel⟩
def rmX4_isTight : Room := { frames := 3, cells := 0, slots := 0, locals := 68 }
def f_X4_isTight (z : SoC) (x : PlC) (y : CuC) (cut : Nat) (plan : Int32) : Bool :=
  (if (f_X1_isRay y cut) = true then (if (f_X1_weightOf y cut plan) = (nI 1) then true else false) else (if (f_X1_valueOf y cut plan) = (f_X3_routeCostOf x plan) then true else false))
set_option maxHeartbeats 4000000 in
set_option maxRecDepth 100000 in
theorem c_X4_isTight {l : Launch} {dd : va_G} {t : CL4} {N : Nat} {ad : Nat → Nat} {V : Nat → va_E} {b : Nat} {z : SoC} {x : PlC} {y : CuC}  (hp0 : SoP N ad V t b z) (hp1 : PlP N ad V t (b + 1) x) (hp2 : CuP N ad V t (b + 13) y) (cut : Nat) (plan : Int32) (h_cut : cut < kA y) : RM l dd t N ad V yX4_isTight cX4_isTight 3 (some .boolean) rmX4_isTight [.ref (ad b), .int (nI cut), .int (plan)] (b01 (f_X4_isTight z x y cut plan)) := by
  refine RM.of (by decide +kernel) ⟨rfl, rfl⟩ (Nat.le_of_ble_eq_true rfl) (narB _) ?_
  intro p e s m as below meth c Q X H hP ls hl kr
  have X : WX p s m as c cX4_isTight 3 RX4 dd t := X
  have hx := X.1.1
  have hb := X.1.2.1
  have hl : lv_has ls 3 [(0, .ref (ad b)), (1, .int (nI cut)), (2, .int (plan))] := hl
  have hi1_0 := hp1.i0
  have hi1_1 := hp1.i1
  have hi2_0 := hp2.i0
  have hle0 := hp0.le
  have hle1 := hp1.le
  have hle2 := hp2.le
  refine lv_aload_n hx hb dX4_isTight_0 rfl (lv_at hl 0 rfl) ?_
  refine g_So_cuts X hP hp0 m40 dX4_isTight_1 ?_
  refine lv_iload_n hx hb dX4_isTight_4 rfl (lv_at hl 1 rfl) ?_
  refine r_call (As := [.int (nI cut)]) (rest := []) (ci := 1) X hP (c_X1_isRay hp2 cut (by omega)) o_X1_isRay rfl hp2.lt hp2.ob m673 ⟨rfl, rfl⟩ ⟨Nat.le_of_ble_eq_true rfl, Nat.le_of_ble_eq_true rfl⟩ rfl hl.1 rfl (Nat.le_of_ble_eq_true rfl) ⟨Nat.zero_le _, Nat.zero_le _⟩ dX4_isTight_5 ?_
  refine q_eqB (tgt := 30) hx hb dX4_isTight_8 (by decide) (fun c1 => ?_) (fun c1 => ?_)
  · refine lv_aload_n hx hb dX4_isTight_30 rfl (lv_at hl 0 rfl) ?_
    refine g_So_cuts X hP hp0 m40 dX4_isTight_31 ?_
    refine lv_iload_n hx hb dX4_isTight_34 rfl (lv_at hl 1 rfl) ?_
    refine lv_iload_n hx hb dX4_isTight_35 rfl (lv_at hl 2 rfl) ?_
    refine r_call (As := [.int (nI cut), .int (plan)]) (rest := []) (ci := 1) X hP (c_X1_valueOf hp2 cut plan (by omega)) o_X1_valueOf rfl hp2.lt hp2.ob m675 ⟨rfl, rfl⟩ ⟨Nat.le_of_ble_eq_true rfl, Nat.le_of_ble_eq_true rfl⟩ rfl hl.1 rfl (Nat.le_of_ble_eq_true rfl) ⟨Nat.zero_le _, Nat.zero_le _⟩ dX4_isTight_36 ?_
    refine lv_aload_n hx hb dX4_isTight_39 rfl (lv_at hl 0 rfl) ?_
    refine g_So_places X hP hp0 m36 dX4_isTight_40 ?_
    refine lv_iload_n hx hb dX4_isTight_43 rfl (lv_at hl 2 rfl) ?_
    refine r_call (As := [.int (plan)]) (rest := [.int (f_X1_valueOf y cut plan)]) (ci := 3) X hP (c_X3_routeCostOf hp1 plan) o_X3_routeCostOf rfl hp1.lt hp1.ob m676 ⟨rfl, rfl⟩ ⟨Nat.le_of_ble_eq_true rfl, Nat.le_of_ble_eq_true rfl⟩ rfl hl.1 rfl (Nat.le_of_ble_eq_true rfl) ⟨Nat.zero_le _, Nat.zero_le _⟩ dX4_isTight_44 ?_
    refine lv_icmp_ne (tgt := 54) hx hb dX4_isTight_47 (by decide) (fun c2 => ?_) (fun c2 => ?_)
    · refine lv_iconst (v := nI 0) hx hb dX4_isTight_54 (by decide) ?_
      exact kr 55 ls _ (b_f (by rw [f_X4_isTight, if_neg (nt c1), if_neg c2] <;> rfl)) dX4_isTight_55
    · refine lv_iconst (v := nI 1) hx hb dX4_isTight_50 (by decide) ?_
      refine lv_goto (tgt := 55) hx hb dX4_isTight_51 (by decide) ?_
      exact kr 55 ls _ (b_t (by rw [f_X4_isTight, if_neg (nt c1), if_pos c2] <;> rfl)) dX4_isTight_55
  · refine lv_aload_n hx hb dX4_isTight_11 rfl (lv_at hl 0 rfl) ?_
    refine g_So_cuts X hP hp0 m40 dX4_isTight_12 ?_
    refine lv_iload_n hx hb dX4_isTight_15 rfl (lv_at hl 1 rfl) ?_
    refine lv_iload_n hx hb dX4_isTight_16 rfl (lv_at hl 2 rfl) ?_
    refine r_call (As := [.int (nI cut), .int (plan)]) (rest := []) (ci := 1) X hP (c_X1_weightOf hp2 cut plan (by omega)) o_X1_weightOf rfl hp2.lt hp2.ob m674 ⟨rfl, rfl⟩ ⟨Nat.le_of_ble_eq_true rfl, Nat.le_of_ble_eq_true rfl⟩ rfl hl.1 rfl (Nat.le_of_ble_eq_true rfl) ⟨Nat.zero_le _, Nat.zero_le _⟩ dX4_isTight_17 ?_
    refine lv_iconst (v := nI 1) hx hb dX4_isTight_20 (by decide) ?_
    refine lv_icmp_ne (tgt := 28) hx hb dX4_isTight_21 (by decide) (fun c3 => ?_) (fun c3 => ?_)
    · refine lv_iconst (v := nI 0) hx hb dX4_isTight_28 (by decide) ?_
      exact kr 29 ls _ (b_f (by rw [f_X4_isTight, if_pos c1, if_neg c3] <;> rfl)) dX4_isTight_29
    · refine lv_iconst (v := nI 1) hx hb dX4_isTight_24 (by decide) ?_
      refine lv_goto (tgt := 29) hx hb dX4_isTight_25 (by decide) ?_
      exact kr 29 ls _ (b_t (by rw [f_X4_isTight, if_pos c1, if_pos c3] <;> rfl)) dX4_isTight_29
theorem o_X4_isTight : okV yX4_isTight cX4_isTight 3 (some .boolean) 2 := ⟨m682, m683, m14, m684, by decide +kernel, by decide +kernel, by decide +kernel⟩
def rmX4_countPlansThatBreak : Room := { frames := 5, cells := 0, slots := 0, locals := 109 }
def l_X4_countPlansThatBreak_4 (z : SoC) (x : PlC) (y : CuC) (cut : Nat) : Nat → Nat → Nat → Nat
  | 0, ix_1, a2_1 => a2_1
  | dx_1 + 1, ix_1, a2_1 => (if (f_X3_isFeasible x (nI ix_1)) = true then (if (f_X4_isBroken z x y cut (nI ix_1)) = true then l_X4_countPlansThatBreak_4 z x y cut dx_1 (ix_1 + 1) (a2_1 + 1) else l_X4_countPlansThatBreak_4 z x y cut dx_1 (ix_1 + 1) a2_1) else l_X4_countPlansThatBreak_4 z x y cut dx_1 (ix_1 + 1) a2_1)
def f_X4_countPlansThatBreak (z : SoC) (x : PlC) (y : CuC) (cut : Nat) : Int32 :=
  nI (l_X4_countPlansThatBreak_4 z x y cut (2 ^ pN x) 0 0)
set_option maxHeartbeats 4000000 in
set_option maxRecDepth 100000 in
theorem c_X4_countPlansThatBreak {l : Launch} {dd : va_G} {t : CL4} {N : Nat} {ad : Nat → Nat} {V : Nat → va_E} {b : Nat} {z : SoC} {x : PlC} {y : CuC}  (hp0 : SoP N ad V t b z) (hp1 : PlP N ad V t (b + 1) x) (hp2 : CuP N ad V t (b + 13) y) (cut : Nat) (h_cut : cut < kA y) : RM l dd t N ad V yX4_countPlansThatBreak cX4_countPlansThatBreak 4 (some .int) rmX4_countPlansThatBreak [.ref (ad b), .int (nI cut)] (f_X4_countPlansThatBreak z x y cut) := by
  refine RM.of (by decide +kernel) ⟨rfl, rfl⟩ (Nat.le_of_ble_eq_true rfl) (narI _) ?_
  intro p e s m as below meth c Q X H hP ls hl kr
  have X : WX p s m as c cX4_countPlansThatBreak 4 RX4 dd t := X
  have hx := X.1.1
  have hb := X.1.2.1
  have hl : lv_has ls 4 [(0, .ref (ad b)), (1, .int (nI cut))] := hl
  have hi1_0 := hp1.i0
  have hi1_1 := hp1.i1
  have hi2_0 := hp2.i0
  have hle0 := hp0.le
  have hle1 := hp1.le
  have hle2 := hp2.le
  have hpw : 2 ^ pN x ≤ 128 := pow7 hi1_0
  refine lv_iconst (v := nI 0) hx hb dX4_countPlansThatBreak_0 (by decide) ?_
  refine lv_istore_n (lv' := [(2, .int (nI 0)), (0, .ref (ad b)), (1, .int (nI cut))]) hx hb dX4_countPlansThatBreak_1 rfl hl (by decide) rfl (fun ls hl => ?_)
  refine lv_iconst (v := nI 0) hx hb dX4_countPlansThatBreak_2 (by decide) ?_
  refine lv_istore_n (lv' := [(3, .int (nI 0)), (2, .int (nI 0)), (0, .ref (ad b)), (1, .int (nI cut))]) hx hb dX4_countPlansThatBreak_3 rfl hl (by decide) rfl (fun ls hl => ?_)
  have L1 : ∀ (dx_1 ix_1 : Nat) (a2_1 : Nat) (ls : Array Slot), (ix_1 + dx_1 = 2 ^ pN x) → (l_X4_countPlansThatBreak_4 z x y cut dx_1 ix_1 a2_1 = l_X4_countPlansThatBreak_4 z x y cut (2 ^ pN x) 0 0) → (lv_has ls 4 [(0, .ref (ad b)), (1, .int (nI cut)), (2, .int (nI a2_1)), (3, .int (nI ix_1))]) → W p l e rmX4_countPlansThatBreak s m as below meth c H [] 0 0 Q (F0 m 4 ls []) := by
    intro dx_1
    induction dx_1 with
    | zero =>
      intro ix_1 a2_1 ls hid hvx_1 hl
      have hiN : 2 ^ pN x = ix_1 := by omega
      subst hiN
      have hvx_1 : a2_1 = l_X4_countPlansThatBreak_4 z x y cut (2 ^ pN x) 0 0 := hvx_1
      have hh0 : a2_1 = l_X4_countPlansThatBreak_4 z x y cut (2 ^ pN x) 0 0 := hvx_1
      subst hh0
      refine lv_iload_n hx hb dX4_countPlansThatBreak_4 rfl (lv_at hl 3 rfl) ?_
      refine lv_aload_n hx hb dX4_countPlansThatBreak_5 rfl (lv_at hl 0 rfl) ?_
      refine g_So_places X hP hp0 m36 dX4_countPlansThatBreak_6 ?_
      refine r_call (As := []) (rest := [.int (nI (2 ^ pN x))]) (ci := 3) X hP (c_X3_planCount hp1) o_X3_planCount rfl hp1.lt hp1.ob m281 ⟨rfl, rfl⟩ ⟨Nat.le_of_ble_eq_true rfl, Nat.le_of_ble_eq_true rfl⟩ rfl hl.1 rfl (Nat.le_of_ble_eq_true rfl) ⟨Nat.zero_le _, Nat.zero_le _⟩ dX4_countPlansThatBreak_9 ?_
      refine q_val (show nI (f_X3_planCount x) = nI (2 ^ pN x) from rfl) ?_
      refine q_ge (tgt := 44) hx hb (by omega) (by omega) dX4_countPlansThatBreak_12 (by decide) (fun c2 => ?_) (fun h => absurd h (by omega))
      refine lv_iload_n hx hb dX4_countPlansThatBreak_44 rfl (lv_at hl 2 rfl) ?_
      exact kr 45 ls _ (Eq.symm (by rw [f_X4_countPlansThatBreak] <;> rfl)) dX4_countPlansThatBreak_45
    | succ dx_1 ihx_1 =>
      intro ix_1 a2_1 ls hid hvx_1 hl
      refine lv_iload_n hx hb dX4_countPlansThatBreak_4 rfl (lv_at hl 3 rfl) ?_
      refine lv_aload_n hx hb dX4_countPlansThatBreak_5 rfl (lv_at hl 0 rfl) ?_
      refine g_So_places X hP hp0 m36 dX4_countPlansThatBreak_6 ?_
      refine r_call (As := []) (rest := [.int (nI ix_1)]) (ci := 3) X hP (c_X3_planCount hp1) o_X3_planCount rfl hp1.lt hp1.ob m281 ⟨rfl, rfl⟩ ⟨Nat.le_of_ble_eq_true rfl, Nat.le_of_ble_eq_true rfl⟩ rfl hl.1 rfl (Nat.le_of_ble_eq_true rfl) ⟨Nat.zero_le _, Nat.zero_le _⟩ dX4_countPlansThatBreak_9 ?_
      refine q_val (show nI (f_X3_planCount x) = nI (2 ^ pN x) from rfl) ?_
      refine q_ge (tgt := 44) hx hb (by omega) (by omega) dX4_countPlansThatBreak_12 (by decide) (fun h => absurd h (by omega)) (fun c3 => ?_)
      refine lv_aload_n hx hb dX4_countPlansThatBreak_15 rfl (lv_at hl 0 rfl) ?_
      refine g_So_places X hP hp0 m36 dX4_countPlansThatBreak_16 ?_
      refine lv_iload_n hx hb dX4_countPlansThatBreak_19 rfl (lv_at hl 3 rfl) ?_
      refine r_call (As := [.int (nI ix_1)]) (rest := []) (ci := 3) X hP (c_X3_isFeasible hp1 (nI ix_1)) o_X3_isFeasible rfl hp1.lt hp1.ob m664 ⟨rfl, rfl⟩ ⟨Nat.le_of_ble_eq_true rfl, Nat.le_of_ble_eq_true rfl⟩ rfl hl.1 rfl (Nat.le_of_ble_eq_true rfl) ⟨Nat.zero_le _, Nat.zero_le _⟩ dX4_countPlansThatBreak_20 ?_
      refine q_eqB (tgt := 38) hx hb dX4_countPlansThatBreak_23 (by decide) (fun c4 => ?_) (fun c4 => ?_)
      · refine lv_iinc (v := nI (ix_1 + 1)) (lv' := [(3, .int (nI (ix_1 + 1))), (0, .ref (ad b)), (1, .int (nI cut)), (2, .int (nI a2_1))]) hx hb dX4_countPlansThatBreak_38 hl (k := 3) rfl (nI_inc _) (by decide) rfl (fun ls hl => ?_)
        refine lv_goto (tgt := 4) hx hb dX4_countPlansThatBreak_41 (by decide) ?_
        exact ihx_1 (ix_1 + 1) a2_1 ls (by omega) (Eq.trans (Eq.symm (by rw [l_X4_countPlansThatBreak_4, if_neg (nt c4)] <;> rfl)) hvx_1) (lv_sub hl [1, 2, 3, 0] rfl)
      · refine lv_aload_n hx hb dX4_countPlansThatBreak_26 rfl (lv_at hl 0 rfl) ?_
        refine lv_iload_n hx hb dX4_countPlansThatBreak_27 rfl (lv_at hl 1 rfl) ?_
        refine lv_iload_n hx hb dX4_countPlansThatBreak_28 rfl (lv_at hl 3 rfl) ?_
        refine r_call (As := [.int (nI cut), .int (nI ix_1)]) (rest := []) (ci := 4) X hP (c_X4_isBroken hp0 hp1 hp2 cut (nI ix_1) (by omega)) o_X4_isBroken rfl hp0.lt hp0.ob m669 ⟨rfl, rfl⟩ ⟨Nat.le_of_ble_eq_true rfl, Nat.le_of_ble_eq_true rfl⟩ rfl hl.1 rfl (Nat.le_of_ble_eq_true rfl) ⟨Nat.zero_le _, Nat.zero_le _⟩ dX4_countPlansThatBreak_29 ?_
        refine q_eqB (tgt := 38) hx hb dX4_countPlansThatBreak_32 (by decide) (fun c5 => ?_) (fun c5 => ?_)
        · refine lv_iinc (v := nI (ix_1 + 1)) (lv' := [(3, .int (nI (ix_1 + 1))), (0, .ref (ad b)), (1, .int (nI cut)), (2, .int (nI a2_1))]) hx hb dX4_countPlansThatBreak_38 hl (k := 3) rfl (nI_inc _) (by decide) rfl (fun ls hl => ?_)
          refine lv_goto (tgt := 4) hx hb dX4_countPlansThatBreak_41 (by decide) ?_
          exact ihx_1 (ix_1 + 1) a2_1 ls (by omega) (Eq.trans (Eq.symm (by rw [l_X4_countPlansThatBreak_4, if_pos c4, if_neg (nt c5)] <;> rfl)) hvx_1) (lv_sub hl [1, 2, 3, 0] rfl)
        · refine lv_iinc (v := nI (a2_1 + 1)) (lv' := [(2, .int (nI (a2_1 + 1))), (0, .ref (ad b)), (1, .int (nI cut)), (3, .int (nI ix_1))]) hx hb dX4_countPlansThatBreak_35 hl (k := 2) rfl (nI_inc _) (by decide) rfl (fun ls hl => ?_)
          refine lv_iinc (v := nI (ix_1 + 1)) (lv' := [(3, .int (nI (ix_1 + 1))), (2, .int (nI (a2_1 + 1))), (0, .ref (ad b)), (1, .int (nI cut))]) hx hb dX4_countPlansThatBreak_38 hl (k := 3) rfl (nI_inc _) (by decide) rfl (fun ls hl => ?_)
          refine lv_goto (tgt := 4) hx hb dX4_countPlansThatBreak_41 (by decide) ?_
          exact ihx_1 (ix_1 + 1) (a2_1 + 1) ls (by omega) (Eq.trans (Eq.symm (by rw [l_X4_countPlansThatBreak_4, if_pos c4, if_pos c5] <;> rfl)) hvx_1) (lv_sub hl [2, 3, 1, 0] rfl)
  exact L1 (2 ^ pN x) 0 0 ls (by omega) rfl (lv_sub hl [2, 3, 1, 0] rfl)
theorem o_X4_countPlansThatBreak : okV yX4_countPlansThatBreak cX4_countPlansThatBreak 4 (some .int) 1 := ⟨m661, m662, m14, m663, by decide +kernel, by decide +kernel, by decide +kernel⟩
def rmX4_countPlansThatAreTight : Room := { frames := 5, cells := 0, slots := 0, locals := 109 }
def l_X4_countPlansThatAreTight_4 (z : SoC) (x : PlC) (y : CuC) (cut : Nat) : Nat → Nat → Nat → Nat
  | 0, ix_1, a2_1 => a2_1
  | dx_1 + 1, ix_1, a2_1 => (if (f_X3_isFeasible x (nI ix_1)) = true then (if (f_X4_isTight z x y cut (nI ix_1)) = true then l_X4_countPlansThatAreTight_4 z x y cut dx_1 (ix_1 + 1) (a2_1 + 1) else l_X4_countPlansThatAreTight_4 z x y cut dx_1 (ix_1 + 1) a2_1) else l_X4_countPlansThatAreTight_4 z x y cut dx_1 (ix_1 + 1) a2_1)
def f_X4_countPlansThatAreTight (z : SoC) (x : PlC) (y : CuC) (cut : Nat) : Int32 :=
  nI (l_X4_countPlansThatAreTight_4 z x y cut (2 ^ pN x) 0 0)
set_option maxHeartbeats 4000000 in
set_option maxRecDepth 100000 in
theorem c_X4_countPlansThatAreTight {l : Launch} {dd : va_G} {t : CL4} {N : Nat} {ad : Nat → Nat} {V : Nat → va_E} {b : Nat} {z : SoC} {x : PlC} {y : CuC}  (hp0 : SoP N ad V t b z) (hp1 : PlP N ad V t (b + 1) x) (hp2 : CuP N ad V t (b + 13) y) (cut : Nat) (h_cut : cut < kA y) : RM l dd t N ad V yX4_countPlansThatAreTight cX4_countPlansThatAreTight 4 (some .int) rmX4_countPlansThatAreTight [.ref (ad b), .int (nI cut)] (f_X4_countPlansThatAreTight z x y cut) := by
  refine RM.of (by decide +kernel) ⟨rfl, rfl⟩ (Nat.le_of_ble_eq_true rfl) (narI _) ?_
  intro p e s m as below meth c Q X H hP ls hl kr
  have X : WX p s m as c cX4_countPlansThatAreTight 4 RX4 dd t := X
  have hx := X.1.1
  have hb := X.1.2.1
  have hl : lv_has ls 4 [(0, .ref (ad b)), (1, .int (nI cut))] := hl
  have hi1_0 := hp1.i0
  have hi1_1 := hp1.i1
  have hi2_0 := hp2.i0
  have hle0 := hp0.le
  have hle1 := hp1.le
  have hle2 := hp2.le
  have hpw : 2 ^ pN x ≤ 128 := pow7 hi1_0
  refine lv_iconst (v := nI 0) hx hb dX4_countPlansThatAreTight_0 (by decide) ?_
  refine lv_istore_n (lv' := [(2, .int (nI 0)), (0, .ref (ad b)), (1, .int (nI cut))]) hx hb dX4_countPlansThatAreTight_1 rfl hl (by decide) rfl (fun ls hl => ?_)
  refine lv_iconst (v := nI 0) hx hb dX4_countPlansThatAreTight_2 (by decide) ?_
  refine lv_istore_n (lv' := [(3, .int (nI 0)), (2, .int (nI 0)), (0, .ref (ad b)), (1, .int (nI cut))]) hx hb dX4_countPlansThatAreTight_3 rfl hl (by decide) rfl (fun ls hl => ?_)
  have L1 : ∀ (dx_1 ix_1 : Nat) (a2_1 : Nat) (ls : Array Slot), (ix_1 + dx_1 = 2 ^ pN x) → (l_X4_countPlansThatAreTight_4 z x y cut dx_1 ix_1 a2_1 = l_X4_countPlansThatAreTight_4 z x y cut (2 ^ pN x) 0 0) → (lv_has ls 4 [(0, .ref (ad b)), (1, .int (nI cut)), (2, .int (nI a2_1)), (3, .int (nI ix_1))]) → W p l e rmX4_countPlansThatAreTight s m as below meth c H [] 0 0 Q (F0 m 4 ls []) := by
    intro dx_1
    induction dx_1 with
    | zero =>
      intro ix_1 a2_1 ls hid hvx_1 hl
      have hiN : 2 ^ pN x = ix_1 := by omega
      subst hiN
      have hvx_1 : a2_1 = l_X4_countPlansThatAreTight_4 z x y cut (2 ^ pN x) 0 0 := hvx_1
      have hh0 : a2_1 = l_X4_countPlansThatAreTight_4 z x y cut (2 ^ pN x) 0 0 := hvx_1
      subst hh0
      refine lv_iload_n hx hb dX4_countPlansThatAreTight_4 rfl (lv_at hl 3 rfl) ?_
      refine lv_aload_n hx hb dX4_countPlansThatAreTight_5 rfl (lv_at hl 0 rfl) ?_
      refine g_So_places X hP hp0 m36 dX4_countPlansThatAreTight_6 ?_
      refine r_call (As := []) (rest := [.int (nI (2 ^ pN x))]) (ci := 3) X hP (c_X3_planCount hp1) o_X3_planCount rfl hp1.lt hp1.ob m281 ⟨rfl, rfl⟩ ⟨Nat.le_of_ble_eq_true rfl, Nat.le_of_ble_eq_true rfl⟩ rfl hl.1 rfl (Nat.le_of_ble_eq_true rfl) ⟨Nat.zero_le _, Nat.zero_le _⟩ dX4_countPlansThatAreTight_9 ?_
      refine q_val (show nI (f_X3_planCount x) = nI (2 ^ pN x) from rfl) ?_
      refine q_ge (tgt := 44) hx hb (by omega) (by omega) dX4_countPlansThatAreTight_12 (by decide) (fun c2 => ?_) (fun h => absurd h (by omega))
      refine lv_iload_n hx hb dX4_countPlansThatAreTight_44 rfl (lv_at hl 2 rfl) ?_
      exact kr 45 ls _ (Eq.symm (by rw [f_X4_countPlansThatAreTight] <;> rfl)) dX4_countPlansThatAreTight_45
    | succ dx_1 ihx_1 =>
      intro ix_1 a2_1 ls hid hvx_1 hl
      refine lv_iload_n hx hb dX4_countPlansThatAreTight_4 rfl (lv_at hl 3 rfl) ?_
      refine lv_aload_n hx hb dX4_countPlansThatAreTight_5 rfl (lv_at hl 0 rfl) ?_
      refine g_So_places X hP hp0 m36 dX4_countPlansThatAreTight_6 ?_
      refine r_call (As := []) (rest := [.int (nI ix_1)]) (ci := 3) X hP (c_X3_planCount hp1) o_X3_planCount rfl hp1.lt hp1.ob m281 ⟨rfl, rfl⟩ ⟨Nat.le_of_ble_eq_true rfl, Nat.le_of_ble_eq_true rfl⟩ rfl hl.1 rfl (Nat.le_of_ble_eq_true rfl) ⟨Nat.zero_le _, Nat.zero_le _⟩ dX4_countPlansThatAreTight_9 ?_
      refine q_val (show nI (f_X3_planCount x) = nI (2 ^ pN x) from rfl) ?_
      refine q_ge (tgt := 44) hx hb (by omega) (by omega) dX4_countPlansThatAreTight_12 (by decide) (fun h => absurd h (by omega)) (fun c3 => ?_)
      refine lv_aload_n hx hb dX4_countPlansThatAreTight_15 rfl (lv_at hl 0 rfl) ?_
      refine g_So_places X hP hp0 m36 dX4_countPlansThatAreTight_16 ?_
      refine lv_iload_n hx hb dX4_countPlansThatAreTight_19 rfl (lv_at hl 3 rfl) ?_
      refine r_call (As := [.int (nI ix_1)]) (rest := []) (ci := 3) X hP (c_X3_isFeasible hp1 (nI ix_1)) o_X3_isFeasible rfl hp1.lt hp1.ob m664 ⟨rfl, rfl⟩ ⟨Nat.le_of_ble_eq_true rfl, Nat.le_of_ble_eq_true rfl⟩ rfl hl.1 rfl (Nat.le_of_ble_eq_true rfl) ⟨Nat.zero_le _, Nat.zero_le _⟩ dX4_countPlansThatAreTight_20 ?_
      refine q_eqB (tgt := 38) hx hb dX4_countPlansThatAreTight_23 (by decide) (fun c4 => ?_) (fun c4 => ?_)
      · refine lv_iinc (v := nI (ix_1 + 1)) (lv' := [(3, .int (nI (ix_1 + 1))), (0, .ref (ad b)), (1, .int (nI cut)), (2, .int (nI a2_1))]) hx hb dX4_countPlansThatAreTight_38 hl (k := 3) rfl (nI_inc _) (by decide) rfl (fun ls hl => ?_)
        refine lv_goto (tgt := 4) hx hb dX4_countPlansThatAreTight_41 (by decide) ?_
        exact ihx_1 (ix_1 + 1) a2_1 ls (by omega) (Eq.trans (Eq.symm (by rw [l_X4_countPlansThatAreTight_4, if_neg (nt c4)] <;> rfl)) hvx_1) (lv_sub hl [1, 2, 3, 0] rfl)
      · refine lv_aload_n hx hb dX4_countPlansThatAreTight_26 rfl (lv_at hl 0 rfl) ?_
        refine lv_iload_n hx hb dX4_countPlansThatAreTight_27 rfl (lv_at hl 1 rfl) ?_
        refine lv_iload_n hx hb dX4_countPlansThatAreTight_28 rfl (lv_at hl 3 rfl) ?_
        refine r_call (As := [.int (nI cut), .int (nI ix_1)]) (rest := []) (ci := 4) X hP (c_X4_isTight hp0 hp1 hp2 cut (nI ix_1) (by omega)) o_X4_isTight rfl hp0.lt hp0.ob m681 ⟨rfl, rfl⟩ ⟨Nat.le_of_ble_eq_true rfl, Nat.le_of_ble_eq_true rfl⟩ rfl hl.1 rfl (Nat.le_of_ble_eq_true rfl) ⟨Nat.zero_le _, Nat.zero_le _⟩ dX4_countPlansThatAreTight_29 ?_
        refine q_eqB (tgt := 38) hx hb dX4_countPlansThatAreTight_32 (by decide) (fun c5 => ?_) (fun c5 => ?_)
        · refine lv_iinc (v := nI (ix_1 + 1)) (lv' := [(3, .int (nI (ix_1 + 1))), (0, .ref (ad b)), (1, .int (nI cut)), (2, .int (nI a2_1))]) hx hb dX4_countPlansThatAreTight_38 hl (k := 3) rfl (nI_inc _) (by decide) rfl (fun ls hl => ?_)
          refine lv_goto (tgt := 4) hx hb dX4_countPlansThatAreTight_41 (by decide) ?_
          exact ihx_1 (ix_1 + 1) a2_1 ls (by omega) (Eq.trans (Eq.symm (by rw [l_X4_countPlansThatAreTight_4, if_pos c4, if_neg (nt c5)] <;> rfl)) hvx_1) (lv_sub hl [1, 2, 3, 0] rfl)
        · refine lv_iinc (v := nI (a2_1 + 1)) (lv' := [(2, .int (nI (a2_1 + 1))), (0, .ref (ad b)), (1, .int (nI cut)), (3, .int (nI ix_1))]) hx hb dX4_countPlansThatAreTight_35 hl (k := 2) rfl (nI_inc _) (by decide) rfl (fun ls hl => ?_)
          refine lv_iinc (v := nI (ix_1 + 1)) (lv' := [(3, .int (nI (ix_1 + 1))), (2, .int (nI (a2_1 + 1))), (0, .ref (ad b)), (1, .int (nI cut))]) hx hb dX4_countPlansThatAreTight_38 hl (k := 3) rfl (nI_inc _) (by decide) rfl (fun ls hl => ?_)
          refine lv_goto (tgt := 4) hx hb dX4_countPlansThatAreTight_41 (by decide) ?_
          exact ihx_1 (ix_1 + 1) (a2_1 + 1) ls (by omega) (Eq.trans (Eq.symm (by rw [l_X4_countPlansThatAreTight_4, if_pos c4, if_pos c5] <;> rfl)) hvx_1) (lv_sub hl [2, 3, 1, 0] rfl)
  exact L1 (2 ^ pN x) 0 0 ls (by omega) rfl (lv_sub hl [2, 3, 1, 0] rfl)
theorem o_X4_countPlansThatAreTight : okV yX4_countPlansThatAreTight cX4_countPlansThatAreTight 4 (some .int) 1 := ⟨m678, m679, m14, m680, by decide +kernel, by decide +kernel, by decide +kernel⟩
