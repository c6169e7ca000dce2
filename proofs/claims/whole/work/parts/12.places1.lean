/-! readers of Places, and the statics of the outer class -/
def rmX5_isIn : Room := { frames := 0, cells := 0, slots := 0, locals := 0 }
def f_X5_isIn (plan : Int32) (site : Int32) : Bool :=
  (if ((plan >>> (site &&& 31)) &&& (nI 1)) = 0 then false else true)
set_option maxHeartbeats 4000000 in
set_option maxRecDepth 100000 in
theorem c_X5_isIn {l : Launch} {dd : va_G} {t : CL4} {N : Nat} {ad : Nat → Nat} {V : Nat → va_E}     (plan : Int32) (site : Int32)  : RM l dd t N ad V yX5_isIn cX5_isIn 2 (some .boolean) rmX5_isIn [.int (plan), .int (site)] (b01 (f_X5_isIn plan site)) := by
  refine RM.of (by decide +kernel) ⟨rfl, rfl⟩ (Nat.le_of_ble_eq_true rfl) (narB _) ?_
  intro p e s m as below meth c Q X H hP ls hl kr
  have X : WX p s m as c cX5_isIn 2 RX5 dd t := X
  have hx := X.1.1
  have hb := X.1.2.1
  have hl : lv_has ls 2 [(0, .int (plan)), (1, .int (site))] := hl
  refine lv_iload_n hx hb dX5_isIn_0 rfl (lv_at hl 0 rfl) ?_
  refine lv_iload_n hx hb dX5_isIn_1 rfl (lv_at hl 1 rfl) ?_
  refine lv_ishr hx hb dX5_isIn_2 ?_
  refine lv_iconst (v := nI 1) hx hb dX5_isIn_3 (by decide) ?_
  refine lv_iand hx hb dX5_isIn_4 ?_
  refine lv_if_eq (tgt := 12) hx hb dX5_isIn_5 (by decide) (fun c1 => ?_) (fun c1 => ?_)
  · refine lv_iconst (v := nI 0) hx hb dX5_isIn_12 (by decide) ?_
    exact kr 13 ls _ (b_f (by rw [f_X5_isIn, if_pos c1] <;> rfl)) dX5_isIn_13
  · refine lv_iconst (v := nI 1) hx hb dX5_isIn_8 (by decide) ?_
    refine lv_goto (tgt := 13) hx hb dX5_isIn_9 (by decide) ?_
    exact kr 13 ls _ (b_t (by rw [f_X5_isIn, if_neg c1] <;> rfl)) dX5_isIn_13
theorem o_X5_isIn : okS yX5_isIn cX5_isIn 2 (some .boolean) 2 := ⟨m244, m2, m245, by decide +kernel, by decide +kernel, by decide +kernel⟩
def rmX5_isSitePrice : Room := { frames := 0, cells := 0, slots := 0, locals := 0 }
def f_X5_isSitePrice (price : Int32) : Bool :=
  (if price < 0 then false else (if (nI 999) < price then false else true))
set_option maxHeartbeats 4000000 in
set_option maxRecDepth 100000 in
theorem c_X5_isSitePrice {l : Launch} {dd : va_G} {t : CL4} {N : Nat} {ad : Nat → Nat} {V : Nat → va_E}     (price : Int32)  : RM l dd t N ad V yX5_isSitePrice cX5_isSitePrice 1 (some .boolean) rmX5_isSitePrice [.int (price)] (b01 (f_X5_isSitePrice price)) := by
  refine RM.of (by decide +kernel) ⟨rfl, rfl⟩ (Nat.le_of_ble_eq_true rfl) (narB _) ?_
  intro p e s m as below meth c Q X H hP ls hl kr
  have X : WX p s m as c cX5_isSitePrice 1 RX5 dd t := X
  have hx := X.1.1
  have hb := X.1.2.1
  have hl : lv_has ls 1 [(0, .int (price))] := hl
  refine lv_iload_n hx hb dX5_isSitePrice_0 rfl (lv_at hl 0 rfl) ?_
  refine u_lt (tgt := 15) hx hb dX5_isSitePrice_1 (by decide) (fun c1 => ?_) (fun c1 => ?_)
  · refine lv_iconst (v := nI 0) hx hb dX5_isSitePrice_15 (by decide) ?_
    exact kr 16 ls _ (b_f (by rw [f_X5_isSitePrice, if_pos c1] <;> rfl)) dX5_isSitePrice_16
  · refine lv_iload_n hx hb dX5_isSitePrice_4 rfl (lv_at hl 0 rfl) ?_
    refine lv_sipush (v := nI 999) hx hb dX5_isSitePrice_5 (by decide) ?_
    refine j_gt (tgt := 15) hx hb dX5_isSitePrice_8 (by decide) (fun c2 => ?_) (fun c2 => ?_)
    · refine lv_iconst (v := nI 0) hx hb dX5_isSitePrice_15 (by decide) ?_
      exact kr 16 ls _ (b_f (by rw [f_X5_isSitePrice, if_neg c1, if_pos c2] <;> rfl)) dX5_isSitePrice_16
    · refine lv_iconst (v := nI 1) hx hb dX5_isSitePrice_11 (by decide) ?_
      refine lv_goto (tgt := 16) hx hb dX5_isSitePrice_12 (by decide) ?_
      exact kr 16 ls _ (b_t (by rw [f_X5_isSitePrice, if_neg c1, if_neg c2] <;> rfl)) dX5_isSitePrice_16
theorem o_X5_isSitePrice : okS yX5_isSitePrice cX5_isSitePrice 1 (some .boolean) 1 := ⟨m96, m2, m97, by decide +kernel, by decide +kernel, by decide +kernel⟩
def rmX5_isDemand : Room := { frames := 0, cells := 0, slots := 0, locals := 0 }
def f_X5_isDemand (demand : Int32) : Bool :=
  (if demand < (nI 1) then false else (if (nI 20) < demand then false else true))
set_option maxHeartbeats 4000000 in
set_option maxRecDepth 100000 in
theorem c_X5_isDemand {l : Launch} {dd : va_G} {t : CL4} {N : Nat} {ad : Nat → Nat} {V : Nat → va_E}     (demand : Int32)  : RM l dd t N ad V yX5_isDemand cX5_isDemand 1 (some .boolean) rmX5_isDemand [.int (demand)] (b01 (f_X5_isDemand demand)) := by
  refine RM.of (by decide +kernel) ⟨rfl, rfl⟩ (Nat.le_of_ble_eq_true rfl) (narB _) ?_
  intro p e s m as below meth c Q X H hP ls hl kr
  have X : WX p s m as c cX5_isDemand 1 RX5 dd t := X
  have hx := X.1.1
  have hb := X.1.2.1
  have hl : lv_has ls 1 [(0, .int (demand))] := hl
  refine lv_iload_n hx hb dX5_isDemand_0 rfl (lv_at hl 0 rfl) ?_
  refine lv_iconst (v := nI 1) hx hb dX5_isDemand_1 (by decide) ?_
  refine j_lt (tgt := 15) hx hb dX5_isDemand_2 (by decide) (fun c1 => ?_) (fun c1 => ?_)
  · refine lv_iconst (v := nI 0) hx hb dX5_isDemand_15 (by decide) ?_
    exact kr 16 ls _ (b_f (by rw [f_X5_isDemand, if_pos c1] <;> rfl)) dX5_isDemand_16
  · refine lv_iload_n hx hb dX5_isDemand_5 rfl (lv_at hl 0 rfl) ?_
    refine lv_bipush (v := nI 20) hx hb dX5_isDemand_6 (by decide) ?_
    refine j_gt (tgt := 15) hx hb dX5_isDemand_8 (by decide) (fun c2 => ?_) (fun c2 => ?_)
    · refine lv_iconst (v := nI 0) hx hb dX5_isDemand_15 (by decide) ?_
      exact kr 16 ls _ (b_f (by rw [f_X5_isDemand, if_neg c1, if_pos c2] <;> rfl)) dX5_isDemand_16
    · refine lv_iconst (v := nI 1) hx hb dX5_isDemand_11 (by decide) ?_
      refine lv_goto (tgt := 16) hx hb dX5_isDemand_12 (by decide) ?_
      exact kr 16 ls _ (b_t (by rw [f_X5_isDemand, if_neg c1, if_neg c2] <;> rfl)) dX5_isDemand_16
theorem o_X5_isDemand : okS yX5_isDemand cX5_isDemand 1 (some .boolean) 1 := ⟨m165, m2, m166, by decide +kernel, by decide +kernel, by decide +kernel⟩
def rmX5_planOrNone : Room := { frames := 0, cells := 0, slots := 0, locals := 0 }
def f_X5_planOrNone (plan : Int32) : Int32 :=
  (if plan = (-1) then (-5) else plan)
set_option maxHeartbeats 4000000 in
set_option maxRecDepth 100000 in
theorem c_X5_planOrNone {l : Launch} {dd : va_G} {t : CL4} {N : Nat} {ad : Nat → Nat} {V : Nat → va_E}     (plan : Int32)  : RM l dd t N ad V yX5_planOrNone cX5_planOrNone 1 (some .int) rmX5_planOrNone [.int (plan)] (f_X5_planOrNone plan) := by
  refine RM.of (by decide +kernel) ⟨rfl, rfl⟩ (Nat.le_of_ble_eq_true rfl) (narI _) ?_
  intro p e s m as below meth c Q X H hP ls hl kr
  have X : WX p s m as c cX5_planOrNone 1 RX5 dd t := X
  have hx := X.1.1
  have hb := X.1.2.1
  have hl : lv_has ls 1 [(0, .int (plan))] := hl
  refine lv_iload_n hx hb dX5_planOrNone_0 rfl (lv_at hl 0 rfl) ?_
  refine lv_iconst (v := (-1)) hx hb dX5_planOrNone_1 (by decide) ?_
  refine lv_icmp_ne (tgt := 10) hx hb dX5_planOrNone_2 (by decide) (fun c1 => ?_) (fun c1 => ?_)
  · refine lv_iload_n hx hb dX5_planOrNone_10 rfl (lv_at hl 0 rfl) ?_
    exact kr 11 ls _ (Eq.symm (by rw [f_X5_planOrNone, if_neg c1] <;> rfl)) dX5_planOrNone_11
  · refine lv_bipush (v := (-5)) hx hb dX5_planOrNone_5 (by decide) ?_
    refine lv_goto (tgt := 11) hx hb dX5_planOrNone_7 (by decide) ?_
    exact kr 11 ls _ (Eq.symm (by rw [f_X5_planOrNone, if_pos c1] <;> rfl)) dX5_planOrNone_11
theorem o_X5_planOrNone : okS yX5_planOrNone cX5_planOrNone 1 (some .int) 1 := ⟨m724, m2, m725, by decide +kernel, by decide +kernel, by decide +kernel⟩
def rmX5_isCutAdded : Room := { frames := 0, cells := 0, slots := 0, locals := 0 }
def f_X5_isCutAdded (answer : Int32) : Bool :=
  (if answer = 0 then true else (if answer = (nI 1) then true else false))
set_option maxHeartbeats 4000000 in
set_option maxRecDepth 100000 in
theorem c_X5_isCutAdded {l : Launch} {dd : va_G} {t : CL4} {N : Nat} {ad : Nat → Nat} {V : Nat → va_E}     (answer : Int32)  : RM l dd t N ad V yX5_isCutAdded cX5_isCutAdded 1 (some .boolean) rmX5_isCutAdded [.int (answer)] (b01 (f_X5_isCutAdded answer)) := by
  refine RM.of (by decide +kernel) ⟨rfl, rfl⟩ (Nat.le_of_ble_eq_true rfl) (narB _) ?_
  intro p e s m as below meth c Q X H hP ls hl kr
  have X : WX p s m as c cX5_isCutAdded 1 RX5 dd t := X
  have hx := X.1.1
  have hb := X.1.2.1
  have hl : lv_has ls 1 [(0, .int (answer))] := hl
  refine lv_iload_n hx hb dX5_isCutAdded_0 rfl (lv_at hl 0 rfl) ?_
  refine lv_if_eq (tgt := 9) hx hb dX5_isCutAdded_1 (by decide) (fun c1 => ?_) (fun c1 => ?_)
  · refine lv_iconst (v := nI 1) hx hb dX5_isCutAdded_9 (by decide) ?_
    refine lv_goto (tgt := 14) hx hb dX5_isCutAdded_10 (by decide) ?_
    exact kr 14 ls _ (b_t (by rw [f_X5_isCutAdded, if_pos c1] <;> rfl)) dX5_isCutAdded_14
  · refine lv_iload_n hx hb dX5_isCutAdded_4 rfl (lv_at hl 0 rfl) ?_
    refine lv_iconst (v := nI 1) hx hb dX5_isCutAdded_5 (by decide) ?_
    refine lv_icmp_ne (tgt := 13) hx hb dX5_isCutAdded_6 (by decide) (fun c2 => ?_) (fun c2 => ?_)
    · refine lv_iconst (v := nI 0) hx hb dX5_isCutAdded_13 (by decide) ?_
      exact kr 14 ls _ (b_f (by rw [f_X5_isCutAdded, if_neg c1, if_neg c2] <;> rfl)) dX5_isCutAdded_14
    · refine lv_iconst (v := nI 1) hx hb dX5_isCutAdded_9 (by decide) ?_
      refine lv_goto (tgt := 14) hx hb dX5_isCutAdded_10 (by decide) ?_
      exact kr 14 ls _ (b_t (by rw [f_X5_isCutAdded, if_neg c1, if_pos c2] <;> rfl)) dX5_isCutAdded_14
theorem o_X5_isCutAdded : okS yX5_isCutAdded cX5_isCutAdded 1 (some .boolean) 1 := ⟨m449, m2, m450, by decide +kernel, by decide +kernel, by decide +kernel⟩
def rmX3_isSite : Room := { frames := 0, cells := 0, slots := 0, locals := 0 }
def f_X3_isSite (x : PlC) (site : Int32) : Bool :=
  (if site < 0 then false else (if site < (nI (pN x)) then true else false))
set_option maxHeartbeats 4000000 in
set_option maxRecDepth 100000 in
theorem c_X3_isSite {l : Launch} {dd : va_G} {t : CL4} {N : Nat} {ad : Nat → Nat} {V : Nat → va_E} {b : Nat} {x : PlC}  (hp0 : PlP N ad V t b x) (site : Int32)  : RM l dd t N ad V yX3_isSite cX3_isSite 2 (some .boolean) rmX3_isSite [.ref (ad b), .int (site)] (b01 (f_X3_isSite x site)) := by
  refine RM.of (by decide +kernel) ⟨rfl, rfl⟩ (Nat.le_of_ble_eq_true rfl) (narB _) ?_
  intro p e s m as below meth c Q X H hP ls hl kr
  have X : WX p s m as c cX3_isSite 2 RX3 dd t := X
  have hx := X.1.1
  have hb := X.1.2.1
  have hl : lv_has ls 2 [(0, .ref (ad b)), (1, .int (site))] := hl
  have hi0_0 := hp0.i0
  have hi0_1 := hp0.i1
  have hle0 := hp0.le
  refine lv_iload_n hx hb dX3_isSite_0 rfl (lv_at hl 1 rfl) ?_
  refine u_lt (tgt := 16) hx hb dX3_isSite_1 (by decide) (fun c1 => ?_) (fun c1 => ?_)
  · refine lv_iconst (v := nI 0) hx hb dX3_isSite_16 (by decide) ?_
    exact kr 17 ls _ (b_f (by rw [f_X3_isSite, if_pos c1] <;> rfl)) dX3_isSite_17
  · refine lv_iload_n hx hb dX3_isSite_4 rfl (lv_at hl 1 rfl) ?_
    refine lv_aload_n hx hb dX3_isSite_5 rfl (lv_at hl 0 rfl) ?_
    refine g_Pl_siteCount X hP hp0 m47 dX3_isSite_6 ?_
    refine j_ge (tgt := 16) hx hb dX3_isSite_9 (by decide) (fun c2 => ?_) (fun c2 => ?_)
    · refine lv_iconst (v := nI 0) hx hb dX3_isSite_16 (by decide) ?_
      exact kr 17 ls _ (b_f (by rw [f_X3_isSite, if_neg c1, if_neg c2] <;> rfl)) dX3_isSite_17
    · refine lv_iconst (v := nI 1) hx hb dX3_isSite_12 (by decide) ?_
      refine lv_goto (tgt := 17) hx hb dX3_isSite_13 (by decide) ?_
      exact kr 17 ls _ (b_t (by rw [f_X3_isSite, if_neg c1, if_pos c2] <;> rfl)) dX3_isSite_17
theorem o_X3_isSite : okV yX3_isSite cX3_isSite 2 (some .boolean) 1 := ⟨m181, m182, m35, m183, by decide +kernel, by decide +kernel, by decide +kernel⟩
def rmX3_isCustomer : Room := { frames := 0, cells := 0, slots := 0, locals := 0 }
def f_X3_isCustomer (x : PlC) (customer : Int32) : Bool :=
  (if customer < 0 then false else (if customer < (nI (pM x)) then true else false))
set_option maxHeartbeats 4000000 in
set_option maxRecDepth 100000 in
theorem c_X3_isCustomer {l : Launch} {dd : va_G} {t : CL4} {N : Nat} {ad : Nat → Nat} {V : Nat → va_E} {b : Nat} {x : PlC}  (hp0 : PlP N ad V t b x) (customer : Int32)  : RM l dd t N ad V yX3_isCustomer cX3_isCustomer 2 (some .boolean) rmX3_isCustomer [.ref (ad b), .int (customer)] (b01 (f_X3_isCustomer x customer)) := by
  refine RM.of (by decide +kernel) ⟨rfl, rfl⟩ (Nat.le_of_ble_eq_true rfl) (narB _) ?_
  intro p e s m as below meth c Q X H hP ls hl kr
  have X : WX p s m as c cX3_isCustomer 2 RX3 dd t := X
  have hx := X.1.1
  have hb := X.1.2.1
  have hl : lv_has ls 2 [(0, .ref (ad b)), (1, .int (customer))] := hl
  have hi0_0 := hp0.i0
  have hi0_1 := hp0.i1
  have hle0 := hp0.le
  refine lv_iload_n hx hb dX3_isCustomer_0 rfl (lv_at hl 1 rfl) ?_
  refine u_lt (tgt := 16) hx hb dX3_isCustomer_1 (by decide) (fun c1 => ?_) (fun c1 => ?_)
  · refine lv_iconst (v := nI 0) hx hb dX3_isCustomer_16 (by decide) ?_
    exact kr 17 ls _ (b_f (by rw [f_X3_isCustomer, if_pos c1] <;> rfl)) dX3_isCustomer_17
  · refine lv_iload_n hx hb dX3_isCustomer_4 rfl (lv_at hl 1 rfl) ?_
    refine lv_aload_n hx hb dX3_isCustomer_5 rfl (lv_at hl 0 rfl) ?_
    refine g_Pl_customerCount X hP hp0 m48 dX3_isCustomer_6 ?_
    refine j_ge (tgt := 16) hx hb dX3_isCustomer_9 (by decide) (fun c2 => ?_) (fun c2 => ?_)
    · refine lv_iconst (v := nI 0) hx hb dX3_isCustomer_16 (by decide) ?_
      exact kr 17 ls _ (b_f (by rw [f_X3_isCustomer, if_neg c1, if_neg c2] <;> rfl)) dX3_isCustomer_17
    · refine lv_iconst (v := nI 1) hx hb dX3_isCustomer_12 (by decide) ?_
      refine lv_goto (tgt := 17) hx hb dX3_isCustomer_13 (by decide) ?_
      exact kr 17 ls _ (b_t (by rw [f_X3_isCustomer, if_neg c1, if_pos c2] <;> rfl)) dX3_isCustomer_17
theorem o_X3_isCustomer : okV yX3_isCustomer cX3_isCustomer 2 (some .boolean) 1 := ⟨m202, m203, m35, m204, by decide +kernel, by decide +kernel, by decide +kernel⟩
def rmX3_planCount : Room := { frames := 0, cells := 0, slots := 0, locals := 0 }
def f_X3_planCount (x : PlC) : Nat :=
  2 ^ (pN x)
set_option maxHeartbeats 4000000 in
set_option maxRecDepth 100000 in
theorem c_X3_planCount {l : Launch} {dd : va_G} {t : CL4} {N : Nat} {ad : Nat → Nat} {V : Nat → va_E} {b : Nat} {x : PlC}  (hp0 : PlP N ad V t b x)   : RM l dd t N ad V yX3_planCount cX3_planCount 1 (some .int) rmX3_planCount [.ref (ad b)] (nI (f_X3_planCount x)) := by
  refine RM.of (by decide +kernel) ⟨rfl, rfl⟩ (Nat.le_of_ble_eq_true rfl) (narI _) ?_
  intro p e s m as below meth c Q X H hP ls hl kr
  have X : WX p s m as c cX3_planCount 1 RX3 dd t := X
  have hx := X.1.1
  have hb := X.1.2.1
  have hl : lv_has ls 1 [(0, .ref (ad b))] := hl
  have hi0_0 := hp0.i0
  have hi0_1 := hp0.i1
  have hle0 := hp0.le
  refine lv_iconst (v := nI 1) hx hb dX3_planCount_0 (by decide) ?_
  refine lv_aload_n hx hb dX3_planCount_1 rfl (lv_at hl 0 rfl) ?_
  refine g_Pl_siteCount X hP hp0 m47 dX3_planCount_2 ?_
  refine q_ishl hx hb (by omega) dX3_planCount_5 ?_
  exact kr 6 ls _ (congrArg nI (Eq.symm (by rw [f_X3_planCount] <;> rfl))) dX3_planCount_6
theorem o_X3_planCount : okV yX3_planCount cX3_planCount 1 (some .int) 0 := ⟨m282, m283, m35, m284, by decide +kernel, by decide +kernel, by decide +kernel⟩
def rmX3_isPlan : Room := { frames := 1, cells := 0, slots := 0, locals := 20 }
def f_X3_isPlan (x : PlC) (plan : Int32) : Bool :=
  (if plan < 0 then false else (if plan < (nI (2 ^ pN x)) then true else false))
set_option maxHeartbeats 4000000 in
set_option maxRecDepth 100000 in
theorem c_X3_isPlan {l : Launch} {dd : va_G} {t : CL4} {N : Nat} {ad : Nat → Nat} {V : Nat → va_E} {b : Nat} {x : PlC}  (hp0 : PlP N ad V t b x) (plan : Int32)  : RM l dd t N ad V yX3_isPlan cX3_isPlan 2 (some .boolean) rmX3_isPlan [.ref (ad b), .int (plan)] (b01 (f_X3_isPlan x plan)) := by
  refine RM.of (by decide +kernel) ⟨rfl, rfl⟩ (Nat.le_of_ble_eq_true rfl) (narB _) ?_
  intro p e s m as below meth c Q X H hP ls hl kr
  have X : WX p s m as c cX3_isPlan 2 RX3 dd t := X
  have hx := X.1.1
  have hb := X.1.2.1
  have hl : lv_has ls 2 [(0, .ref (ad b)), (1, .int (plan))] := hl
  have hi0_0 := hp0.i0
  have hi0_1 := hp0.i1
  have hle0 := hp0.le
  refine lv_iload_n hx hb dX3_isPlan_0 rfl (lv_at hl 1 rfl) ?_
  refine u_lt (tgt := 16) hx hb dX3_isPlan_1 (by decide) (fun c1 => ?_) (fun c1 => ?_)
  · refine lv_iconst (v := nI 0) hx hb dX3_isPlan_16 (by decide) ?_
    exact kr 17 ls _ (b_f (by rw [f_X3_isPlan, if_pos c1] <;> rfl)) dX3_isPlan_17
  · refine lv_iload_n hx hb dX3_isPlan_4 rfl (lv_at hl 1 rfl) ?_
    refine lv_aload_n hx hb dX3_isPlan_5 rfl (lv_at hl 0 rfl) ?_
    refine r_call (As := []) (rest := [.int (plan)]) (ci := 3) X hP (c_X3_planCount hp0) o_X3_planCount rfl hp0.lt hp0.ob m608 ⟨rfl, rfl⟩ ⟨Nat.le_of_ble_eq_true rfl, Nat.le_of_ble_eq_true rfl⟩ rfl hl.1 rfl (Nat.le_of_ble_eq_true rfl) ⟨Nat.zero_le _, Nat.zero_le _⟩ dX3_isPlan_6 ?_
    refine q_val (show nI (f_X3_planCount x) = nI (2 ^ pN x) from rfl) ?_
    refine j_ge (tgt := 16) hx hb dX3_isPlan_9 (by decide) (fun c2 => ?_) (fun c2 => ?_)
    · refine lv_iconst (v := nI 0) hx hb dX3_isPlan_16 (by decide) ?_
      exact kr 17 ls _ (b_f (by rw [f_X3_isPlan, if_neg c1, if_neg c2] <;> rfl)) dX3_isPlan_17
    · refine lv_iconst (v := nI 1) hx hb dX3_isPlan_12 (by decide) ?_
      refine lv_goto (tgt := 17) hx hb dX3_isPlan_13 (by decide) ?_
      exact kr 17 ls _ (b_t (by rw [f_X3_isPlan, if_neg c1, if_pos c2] <;> rfl)) dX3_isPlan_17
theorem o_X3_isPlan : okV yX3_isPlan cX3_isPlan 2 (some .boolean) 1 := ⟨m605, m606, m35, m607, by decide +kernel, by decide +kernel, by decide +kernel⟩
def rmX3_areExcluding : Room := { frames := 1, cells := 0, slots := 0, locals := 21 }
def f_X3_areExcluding (x : PlC) (site : Nat) (other : Nat) : Bool :=
  f_X5_isIn (pE x site) (nI other)
set_option maxHeartbeats 4000000 in
set_option maxRecDepth 100000 in
theorem c_X3_areExcluding {l : Launch} {dd : va_G} {t : CL4} {N : Nat} {ad : Nat → Nat} {V : Nat → va_E} {b : Nat} {x : PlC}  (hp0 : PlP N ad V t b x) (site : Nat) (other : Nat) (h_site : site < pN x) : RM l dd t N ad V yX3_areExcluding cX3_areExcluding 3 (some .boolean) rmX3_areExcluding [.ref (ad b), .int (nI site), .int (nI other)] (b01 (f_X3_areExcluding x site other)) := by
  refine RM.of (by decide +kernel) ⟨rfl, rfl⟩ (Nat.le_of_ble_eq_true rfl) (narB _) ?_
  intro p e s m as below meth c Q X H hP ls hl kr
  have X : WX p s m as c cX3_areExcluding 3 RX3 dd t := X
  have hx := X.1.1
  have hb := X.1.2.1
  have hl : lv_has ls 3 [(0, .ref (ad b)), (1, .int (nI site)), (2, .int (nI other))] := hl
  have hi0_0 := hp0.i0
  have hi0_1 := hp0.i1
  have hle0 := hp0.le
  refine lv_aload_n hx hb dX3_areExcluding_0 rfl (lv_at hl 0 rfl) ?_
  refine g_Pl_excluded X hP hp0 m54 dX3_areExcluding_1 ?_
  refine lv_iload_n hx hb dX3_areExcluding_4 rfl (lv_at hl 1 rfl) ?_
  refine l_Pl_excluded X hP hp0 (by omega) dX3_areExcluding_5 ?_
  refine lv_iload_n hx hb dX3_areExcluding_6 rfl (lv_at hl 2 rfl) ?_
  refine r_callN (As := [.int (pE x site), .int (nI other)]) (rest := []) X hP (c_X5_isIn (pE x site) (nI other)) o_X5_isIn X.2.2.1 ⟨rfl, rfl⟩ ⟨Nat.le_of_ble_eq_true rfl, Nat.le_of_ble_eq_true rfl⟩ rfl hl.1 rfl (Nat.le_of_ble_eq_true rfl) ⟨Nat.zero_le _, Nat.zero_le _⟩ dX3_areExcluding_7 ?_
  exact kr 10 ls _ (b_e (by rw [f_X3_areExcluding] <;> rfl)) dX3_areExcluding_10
theorem o_X3_areExcluding : okV yX3_areExcluding cX3_areExcluding 3 (some .boolean) 2 := ⟨m241, m242, m35, m243, by decide +kernel, by decide +kernel, by decide +kernel⟩
def rmX3_hasRoute : Room := { frames := 0, cells := 0, slots := 0, locals := 0 }
def f_X3_hasRoute (x : PlC) (site : Nat) (customer : Nat) : Bool :=
  (if (pR x site customer) = (nI 100) then false else true)
set_option maxHeartbeats 4000000 in
set_option maxRecDepth 100000 in
theorem c_X3_hasRoute {l : Launch} {dd : va_G} {t : CL4} {N : Nat} {ad : Nat → Nat} {V : Nat → va_E} {b : Nat} {x : PlC}  (hp0 : PlP N ad V t b x) (site : Nat) (customer : Nat) (h_site : site < pN x) (h_cust : customer < pM x) : RM l dd t N ad V yX3_hasRoute cX3_hasRoute 3 (some .boolean) rmX3_hasRoute [.ref (ad b), .int (nI site), .int (nI customer)] (b01 (f_X3_hasRoute x site customer)) := by
  refine RM.of (by decide +kernel) ⟨rfl, rfl⟩ (Nat.le_of_ble_eq_true rfl) (narB _) ?_
  intro p e s m as below meth c Q X H hP ls hl kr
  have X : WX p s m as c cX3_hasRoute 3 RX3 dd t := X
  have hx := X.1.1
  have hb := X.1.2.1
  have hl : lv_has ls 3 [(0, .ref (ad b)), (1, .int (nI site)), (2, .int (nI customer))] := hl
  have hi0_0 := hp0.i0
  have hi0_1 := hp0.i1
  have hle0 := hp0.le
  refine lv_aload_n hx hb dX3_hasRoute_0 rfl (lv_at hl 0 rfl) ?_
  refine g_Pl_routePrices X hP hp0 m53 dX3_hasRoute_1 ?_
  refine lv_iload_n hx hb dX3_hasRoute_4 rfl (lv_at hl 1 rfl) ?_
  refine l_Pl_routePrices X hP hp0 (by omega) dX3_hasRoute_5 ?_
  refine lv_iload_n hx hb dX3_hasRoute_6 rfl (lv_at hl 2 rfl) ?_
  refine l_Pl_routePrices_row X hP hp0 (by omega) (by omega) dX3_hasRoute_7 ?_
  refine lv_bipush (v := nI 100) hx hb dX3_hasRoute_8 (by decide) ?_
  refine lv_icmp_eq (tgt := 17) hx hb dX3_hasRoute_10 (by decide) (fun c1 => ?_) (fun c1 => ?_)
  · refine lv_iconst (v := nI 0) hx hb dX3_hasRoute_17 (by decide) ?_
    exact kr 18 ls _ (b_f (by rw [f_X3_hasRoute, if_pos c1] <;> rfl)) dX3_hasRoute_18
  · refine lv_iconst (v := nI 1) hx hb dX3_hasRoute_13 (by decide) ?_
    refine lv_goto (tgt := 18) hx hb dX3_hasRoute_14 (by decide) ?_
    exact kr 18 ls _ (b_t (by rw [f_X3_hasRoute, if_neg c1] <;> rfl)) dX3_hasRoute_18
theorem o_X3_hasRoute : okV yX3_hasRoute cX3_hasRoute 3 (some .boolean) 2 := ⟨m360, m361, m35, m362, by decide +kernel, by decide +kernel, by decide +kernel⟩
def rmX3_leastRoutePrice : Room := { frames := 1, cells := 0, slots := 0, locals := 21 }
def l_X3_leastRoutePrice_6 (x : PlC) (plan : Int32) (customer : Nat) : Nat → Nat → Int32 → Int32
  | 0, ix_1, a3_1 => a3_1
  | dx_1 + 1, ix_1, a3_1 => (if (f_X5_isIn plan (nI ix_1)) = true then l_X3_leastRoutePrice_6 x plan customer dx_1 (ix_1 + 1) (if (pR x ix_1 customer) < a3_1 then (pR x ix_1 customer) else a3_1) else l_X3_leastRoutePrice_6 x plan customer dx_1 (ix_1 + 1) a3_1)
def f_X3_leastRoutePrice (x : PlC) (plan : Int32) (customer : Nat) : Int32 :=
  (l_X3_leastRoutePrice_6 x plan customer (pN x) 0 (nI 100))
set_option maxHeartbeats 4000000 in
set_option maxRecDepth 100000 in
theorem c_X3_leastRoutePrice {l : Launch} {dd : va_G} {t : CL4} {N : Nat} {ad : Nat → Nat} {V : Nat → va_E} {b : Nat} {x : PlC}  (hp0 : PlP N ad V t b x) (plan : Int32) (customer : Nat) (h_cust : customer < pM x) : RM l dd t N ad V yX3_leastRoutePrice cX3_leastRoutePrice 5 (some .int) rmX3_leastRoutePrice [.ref (ad b), .int (plan), .int (nI customer)] (f_X3_leastRoutePrice x plan customer) := by
  refine RM.of (by decide +kernel) ⟨rfl, rfl⟩ (Nat.le_of_ble_eq_true rfl) (narI _) ?_
  intro p e s m as below meth c Q X H hP ls hl kr
  have X : WX p s m as c cX3_leastRoutePrice 5 RX3 dd t := X
  have hx := X.1.1
  have hb := X.1.2.1
  have hl : lv_has ls 5 [(0, .ref (ad b)), (1, .int (plan)), (2, .int (nI customer))] := hl
  have hi0_0 := hp0.i0
  have hi0_1 := hp0.i1
  have hle0 := hp0.le
  refine lv_bipush (v := nI 100) hx hb dX3_leastRoutePrice_0 (by decide) ?_
  refine lv_istore_n (lv' := [(3, .int (nI 100)), (0, .ref (ad b)), (1, .int (plan)), (2, .int (nI customer))]) hx hb dX3_leastRoutePrice_2 rfl hl (by decide) rfl (fun ls hl => ?_)
  refine lv_iconst (v := nI 0) hx hb dX3_leastRoutePrice_3 (by decide) ?_
  refine lv_istore (lv' := [(4, .int (nI 0)), (3, .int (nI 100)), (0, .ref (ad b)), (1, .int (plan)), (2, .int (nI customer))]) hx hb dX3_leastRoutePrice_4 hl (by decide) rfl (fun ls hl => ?_)
  have L1 : ∀ (dx_1 ix_1 : Nat) (a3_1 : Int32) (ls : Array Slot), (ix_1 + dx_1 = pN x) → (l_X3_leastRoutePrice_6 x plan customer dx_1 ix_1 a3_1 = l_X3_leastRoutePrice_6 x plan customer (pN x) 0 (nI 100)) → (lv_has ls 5 [(0, .ref (ad b)), (1, .int (plan)), (2, .int (nI customer)), (3, .int (a3_1)), (4, .int (nI ix_1))]) → W p l e rmX3_leastRoutePrice s m as below meth c H [] 0 0 Q (F0 m 6 ls []) := by
    intro dx_1
    induction dx_1 with
    | zero =>
      intro ix_1 a3_1 ls hid hvx_1 hl
      have hiN : pN x = ix_1 := by omega
      subst hiN
      have hvx_1 : a3_1 = l_X3_leastRoutePrice_6 x plan customer (pN x) 0 (nI 100) := hvx_1
      have hh0 : a3_1 = l_X3_leastRoutePrice_6 x plan customer (pN x) 0 (nI 100) := hvx_1
      subst hh0
      refine lv_iload hx hb dX3_leastRoutePrice_6 (lv_at hl 4 rfl) ?_
      refine lv_aload_n hx hb dX3_leastRoutePrice_8 rfl (lv_at hl 0 rfl) ?_
      refine g_Pl_siteCount X hP hp0 m47 dX3_leastRoutePrice_9 ?_
      refine q_ge (tgt := 44) hx hb (by omega) (by omega) dX3_leastRoutePrice_12 (by decide) (fun c2 => ?_) (fun h => absurd h (by omega))
      refine lv_iload_n hx hb dX3_leastRoutePrice_44 rfl (lv_at hl 3 rfl) ?_
      exact kr 45 ls _ (Eq.symm (by rw [f_X3_leastRoutePrice] <;> rfl)) dX3_leastRoutePrice_45
    | succ dx_1 ihx_1 =>
      intro ix_1 a3_1 ls hid hvx_1 hl
      refine lv_iload hx hb dX3_leastRoutePrice_6 (lv_at hl 4 rfl) ?_
      refine lv_aload_n hx hb dX3_leastRoutePrice_8 rfl (lv_at hl 0 rfl) ?_
      refine g_Pl_siteCount X hP hp0 m47 dX3_leastRoutePrice_9 ?_
      refine q_ge (tgt := 44) hx hb (by omega) (by omega) dX3_leastRoutePrice_12 (by decide) (fun h => absurd h (by omega)) (fun c3 => ?_)
      refine lv_iload_n hx hb dX3_leastRoutePrice_15 rfl (lv_at hl 1 rfl) ?_
      refine lv_iload hx hb dX3_leastRoutePrice_16 (lv_at hl 4 rfl) ?_
      refine r_callN (As := [.int (plan), .int (nI ix_1)]) (rest := []) X hP (c_X5_isIn plan (nI ix_1)) o_X5_isIn X.2.2.1 ⟨rfl, rfl⟩ ⟨Nat.le_of_ble_eq_true rfl, Nat.le_of_ble_eq_true rfl⟩ rfl hl.1 rfl (Nat.le_of_ble_eq_true rfl) ⟨Nat.zero_le _, Nat.zero_le _⟩ dX3_leastRoutePrice_18 ?_
      refine q_eqB (tgt := 38) hx hb dX3_leastRoutePrice_21 (by decide) (fun c4 => ?_) (fun c4 => ?_)
      · refine lv_iinc (v := nI (ix_1 + 1)) (lv' := [(4, .int (nI (ix_1 + 1))), (0, .ref (ad b)), (1, .int (plan)), (2, .int (nI customer)), (3, .int (a3_1))]) hx hb dX3_leastRoutePrice_38 hl (k := 4) rfl (nI_inc _) (by decide) rfl (fun ls hl => ?_)
        refine lv_goto (tgt := 6) hx hb dX3_leastRoutePrice_41 (by decide) ?_
        exact ihx_1 (ix_1 + 1) a3_1 ls (by omega) (Eq.trans (Eq.symm (by rw [l_X3_leastRoutePrice_6, if_neg (nt c4)] <;> rfl)) hvx_1) (lv_sub hl [1, 2, 3, 4, 0] rfl)
      · refine lv_iload_n hx hb dX3_leastRoutePrice_24 rfl (lv_at hl 3 rfl) ?_
        refine lv_aload_n hx hb dX3_leastRoutePrice_25 rfl (lv_at hl 0 rfl) ?_
        refine g_Pl_routePrices X hP hp0 m53 dX3_leastRoutePrice_26 ?_
        refine lv_iload hx hb dX3_leastRoutePrice_29 (lv_at hl 4 rfl) ?_
        refine l_Pl_routePrices X hP hp0 (by omega) dX3_leastRoutePrice_31 ?_
        refine lv_iload_n hx hb dX3_leastRoutePrice_32 rfl (lv_at hl 2 rfl) ?_
        refine l_Pl_routePrices_row X hP hp0 (by omega) (by omega) dX3_leastRoutePrice_33 ?_
        refine va_mmin hx hb (X.1.2.2.1.trans hl.1.symm) X.1.2.2.2.1 (X.1.2.2.2.2 _ m338) (X.1.2.2.2.2 _ m339) (X.1.2.2.2.2 _ m324) (X.1.2.2.2.2 _ m340) (Nat.le_of_ble_eq_true rfl) (Nat.le_of_ble_eq_true rfl) (Nat.le_of_ble_eq_true rfl) (Nat.le_of_ble_eq_true rfl) dX3_leastRoutePrice_34 ?_
        refine lv_istore_n (lv' := [(3, .int ((if (pR x ix_1 customer) < a3_1 then (pR x ix_1 customer) else a3_1))), (0, .ref (ad b)), (1, .int (plan)), (2, .int (nI customer)), (4, .int (nI ix_1))]) hx hb dX3_leastRoutePrice_37 rfl hl (by decide) rfl (fun ls hl => ?_)
        refine lv_iinc (v := nI (ix_1 + 1)) (lv' := [(4, .int (nI (ix_1 + 1))), (3, .int ((if (pR x ix_1 customer) < a3_1 then (pR x ix_1 customer) else a3_1))), (0, .ref (ad b)), (1, .int (plan)), (2, .int (nI customer))]) hx hb dX3_leastRoutePrice_38 hl (k := 4) rfl (nI_inc _) (by decide) rfl (fun ls hl => ?_)
        refine lv_goto (tgt := 6) hx hb dX3_leastRoutePrice_41 (by decide) ?_
        exact ihx_1 (ix_1 + 1) (if (pR x ix_1 customer) < a3_1 then (pR x ix_1 customer) else a3_1) ls (by omega) (Eq.trans (Eq.symm (by rw [l_X3_leastRoutePrice_6, if_pos c4] <;> rfl)) hvx_1) (lv_sub hl [2, 3, 4, 1, 0] rfl)
  exact L1 (pN x) 0 (nI 100) ls (by omega) rfl (lv_sub hl [2, 3, 4, 1, 0] rfl)
theorem o_X3_leastRoutePrice : okV yX3_leastRoutePrice cX3_leastRoutePrice 5 (some .int) 2 := ⟨m335, m336, m35, m337, by decide +kernel, by decide +kernel, by decide +kernel⟩
def rmX3_hasExcludingSites : Room := { frames := 1, cells := 0, slots := 0, locals := 21 }
def l_X3_hasExcludingSites_2 (x : PlC) (plan : Int32) : Nat → Nat → Bool
  | 0, ix_1 => false
  | dx_1 + 1, ix_1 => (if (f_X5_isIn plan (nI ix_1)) = true then (if (plan &&& (pE x ix_1)) = 0 then l_X3_hasExcludingSites_2 x plan dx_1 (ix_1 + 1) else true) else l_X3_hasExcludingSites_2 x plan dx_1 (ix_1 + 1))
def f_X3_hasExcludingSites (x : PlC) (plan : Int32) : Bool :=
  l_X3_hasExcludingSites_2 x plan (pN x) 0
set_option maxHeartbeats 4000000 in
set_option maxRecDepth 100000 in
theorem c_X3_hasExcludingSites {l : Launch} {dd : va_G} {t : CL4} {N : Nat} {ad : Nat → Nat} {V : Nat → va_E} {b : Nat} {x : PlC}  (hp0 : PlP N ad V t b x) (plan : Int32)  : RM l dd t N ad V yX3_hasExcludingSites cX3_hasExcludingSites 3 (some .boolean) rmX3_hasExcludingSites [.ref (ad b), .int (plan)] (b01 (f_X3_hasExcludingSites x plan)) := by
  refine RM.of (by decide +kernel) ⟨rfl, rfl⟩ (Nat.le_of_ble_eq_true rfl) (narB _) ?_
  intro p e s m as below meth c Q X H hP ls hl kr
  have X : WX p s m as c cX3_hasExcludingSites 3 RX3 dd t := X
  have hx := X.1.1
  have hb := X.1.2.1
  have hl : lv_has ls 3 [(0, .ref (ad b)), (1, .int (plan))] := hl
  have hi0_0 := hp0.i0
  have hi0_1 := hp0.i1
  have hle0 := hp0.le
  refine lv_iconst (v := nI 0) hx hb dX3_hasExcludingSites_0 (by decide) ?_
  refine lv_istore_n (lv' := [(2, .int (nI 0)), (0, .ref (ad b)), (1, .int (plan))]) hx hb dX3_hasExcludingSites_1 rfl hl (by decide) rfl (fun ls hl => ?_)
  have hF1 : f_X3_hasExcludingSites x plan = l_X3_hasExcludingSites_2 x plan (pN x) 0 := (by rw [f_X3_hasExcludingSites] <;> rfl)
  have L1 : ∀ (dx_1 ix_1 : Nat) (ls : Array Slot), (ix_1 + dx_1 = pN x) → (l_X3_hasExcludingSites_2 x plan dx_1 ix_1 = l_X3_hasExcludingSites_2 x plan (pN x) 0) → (lv_has ls 3 [(0, .ref (ad b)), (1, .int (plan)), (2, .int (nI ix_1))]) → W p l e rmX3_hasExcludingSites s m as below meth c H [] 0 0 Q (F0 m 2 ls []) := by
    intro dx_1
    induction dx_1 with
    | zero =>
      intro ix_1  ls hid hvx_1 hl
      have hiN : pN x = ix_1 := by omega
      subst hiN
      refine lv_iload_n hx hb dX3_hasExcludingSites_2 rfl (lv_at hl 2 rfl) ?_
      refine lv_aload_n hx hb dX3_hasExcludingSites_3 rfl (lv_at hl 0 rfl) ?_
      refine g_Pl_siteCount X hP hp0 m47 dX3_hasExcludingSites_4 ?_
      refine q_ge (tgt := 37) hx hb (by omega) (by omega) dX3_hasExcludingSites_7 (by decide) (fun c2 => ?_) (fun h => absurd h (by omega))
      refine lv_iconst (v := nI 0) hx hb dX3_hasExcludingSites_37 (by decide) ?_
      exact kr 38 ls _ (b_f ((hF1.trans hvx_1.symm).trans (by rw [l_X3_hasExcludingSites_2] <;> rfl))) dX3_hasExcludingSites_38
    | succ dx_1 ihx_1 =>
      intro ix_1  ls hid hvx_1 hl
      refine lv_iload_n hx hb dX3_hasExcludingSites_2 rfl (lv_at hl 2 rfl) ?_
      refine lv_aload_n hx hb dX3_hasExcludingSites_3 rfl (lv_at hl 0 rfl) ?_
      refine g_Pl_siteCount X hP hp0 m47 dX3_hasExcludingSites_4 ?_
      refine q_ge (tgt := 37) hx hb (by omega) (by omega) dX3_hasExcludingSites_7 (by decide) (fun h => absurd h (by omega)) (fun c3 => ?_)
      refine lv_iload_n hx hb dX3_hasExcludingSites_10 rfl (lv_at hl 1 rfl) ?_
      refine lv_iload_n hx hb dX3_hasExcludingSites_11 rfl (lv_at hl 2 rfl) ?_
      refine r_callN (As := [.int (plan), .int (nI ix_1)]) (rest := []) X hP (c_X5_isIn plan (nI ix_1)) o_X5_isIn X.2.2.1 ⟨rfl, rfl⟩ ⟨Nat.le_of_ble_eq_true rfl, Nat.le_of_ble_eq_true rfl⟩ rfl hl.1 rfl (Nat.le_of_ble_eq_true rfl) ⟨Nat.zero_le _, Nat.zero_le _⟩ dX3_hasExcludingSites_12 ?_
      refine q_eqB (tgt := 31) hx hb dX3_hasExcludingSites_15 (by decide) (fun c4 => ?_) (fun c4 => ?_)
      · refine lv_iinc (v := nI (ix_1 + 1)) (lv' := [(2, .int (nI (ix_1 + 1))), (0, .ref (ad b)), (1, .int (plan))]) hx hb dX3_hasExcludingSites_31 hl (k := 2) rfl (nI_inc _) (by decide) rfl (fun ls hl => ?_)
        refine lv_goto (tgt := 2) hx hb dX3_hasExcludingSites_34 (by decide) ?_
        exact ihx_1 (ix_1 + 1) ls (by omega) (Eq.trans (Eq.symm (by rw [l_X3_hasExcludingSites_2, if_neg (nt c4)] <;> rfl)) hvx_1) (lv_sub hl [1, 2, 0] rfl)
      · refine lv_iload_n hx hb dX3_hasExcludingSites_18 rfl (lv_at hl 1 rfl) ?_
        refine lv_aload_n hx hb dX3_hasExcludingSites_19 rfl (lv_at hl 0 rfl) ?_
        refine g_Pl_excluded X hP hp0 m54 dX3_hasExcludingSites_20 ?_
        refine lv_iload_n hx hb dX3_hasExcludingSites_23 rfl (lv_at hl 2 rfl) ?_
        refine l_Pl_excluded X hP hp0 (by omega) dX3_hasExcludingSites_24 ?_
        refine lv_iand hx hb dX3_hasExcludingSites_25 ?_
        refine lv_if_eq (tgt := 31) hx hb dX3_hasExcludingSites_26 (by decide) (fun c5 => ?_) (fun c5 => ?_)
        · refine lv_iinc (v := nI (ix_1 + 1)) (lv' := [(2, .int (nI (ix_1 + 1))), (0, .ref (ad b)), (1, .int (plan))]) hx hb dX3_hasExcludingSites_31 hl (k := 2) rfl (nI_inc _) (by decide) rfl (fun ls hl => ?_)
          refine lv_goto (tgt := 2) hx hb dX3_hasExcludingSites_34 (by decide) ?_
          exact ihx_1 (ix_1 + 1) ls (by omega) (Eq.trans (Eq.symm (by rw [l_X3_hasExcludingSites_2, if_pos c4, if_pos c5] <;> rfl)) hvx_1) (lv_sub hl [1, 2, 0] rfl)
        · refine lv_iconst (v := nI 1) hx hb dX3_hasExcludingSites_29 (by decide) ?_
          exact kr 30 ls _ (b_t ((hF1.trans hvx_1.symm).trans (by rw [l_X3_hasExcludingSites_2, if_pos c4, if_neg c5] <;> rfl))) dX3_hasExcludingSites_30
  exact L1 (pN x) 0 ls (by omega) rfl (lv_sub hl [1, 2, 0] rfl)
theorem o_X3_hasExcludingSites : okV yX3_hasExcludingSites cX3_hasExcludingSites 3 (some .boolean) 1 := ⟨m295, m296, m35, m297, by decide +kernel, by decide +kernel, by decide +kernel⟩
def rmX3_cheapestSite : Room := { frames := 2, cells := 0, slots := 0, locals := 45 }
def l_X3_cheapestSite_10 (x : PlC) (plan : Int32) (customer : Nat) : Nat → Nat → Int32
  | 0, ix_1 => (-1)
  | dx_1 + 1, ix_1 => (if (f_X5_isIn plan (nI ix_1)) = true then (if (f_X3_hasRoute x ix_1 customer) = true then (if (pR x ix_1 customer) = (f_X3_leastRoutePrice x plan customer) then nI ix_1 else l_X3_cheapestSite_10 x plan customer dx_1 (ix_1 + 1)) else l_X3_cheapestSite_10 x plan customer dx_1 (ix_1 + 1)) else l_X3_cheapestSite_10 x plan customer dx_1 (ix_1 + 1))
def f_X3_cheapestSite (x : PlC) (plan : Int32) (customer : Nat) : Int32 :=
  l_X3_cheapestSite_10 x plan customer (pN x) 0
set_option maxHeartbeats 4000000 in
set_option maxRecDepth 100000 in
theorem c_X3_cheapestSite {l : Launch} {dd : va_G} {t : CL4} {N : Nat} {ad : Nat → Nat} {V : Nat → va_E} {b : Nat} {x : PlC}  (hp0 : PlP N ad V t b x) (plan : Int32) (customer : Nat) (h_cust : customer < pM x) : RM l dd t N ad V yX3_cheapestSite cX3_cheapestSite 5 (some .int) rmX3_cheapestSite [.ref (ad b), .int (plan), .int (nI customer)] (f_X3_cheapestSite x plan customer) := by
  refine RM.of (by decide +kernel) ⟨rfl, rfl⟩ (Nat.le_of_ble_eq_true rfl) (narI _) ?_
  intro p e s m as below meth c Q X H hP ls hl kr
  have X : WX p s m as c cX3_cheapestSite 5 RX3 dd t := X
  have hx := X.1.1
  have hb := X.1.2.1
  have hl : lv_has ls 5 [(0, .ref (ad b)), (1, .int (plan)), (2, .int (nI customer))] := hl
  have hi0_0 := hp0.i0
  have hi0_1 := hp0.i1
  have hle0 := hp0.le
  refine lv_aload_n hx hb dX3_cheapestSite_0 rfl (lv_at hl 0 rfl) ?_
  refine lv_iload_n hx hb dX3_cheapestSite_1 rfl (lv_at hl 1 rfl) ?_
  refine lv_iload_n hx hb dX3_cheapestSite_2 rfl (lv_at hl 2 rfl) ?_
  refine r_call (As := [.int (plan), .int (nI customer)]) (rest := []) (ci := 3) X hP (c_X3_leastRoutePrice hp0 plan customer (by omega)) o_X3_leastRoutePrice rfl hp0.lt hp0.ob m334 ⟨rfl, rfl⟩ ⟨Nat.le_of_ble_eq_true rfl, Nat.le_of_ble_eq_true rfl⟩ rfl hl.1 rfl (Nat.le_of_ble_eq_true rfl) ⟨Nat.zero_le _, Nat.zero_le _⟩ dX3_cheapestSite_3 ?_
  refine lv_istore_n (lv' := [(3, .int (f_X3_leastRoutePrice x plan customer)), (0, .ref (ad b)), (1, .int (plan)), (2, .int (nI customer))]) hx hb dX3_cheapestSite_6 rfl hl (by decide) rfl (fun ls hl => ?_)
  refine lv_iconst (v := nI 0) hx hb dX3_cheapestSite_7 (by decide) ?_
  refine lv_istore (lv' := [(4, .int (nI 0)), (3, .int (f_X3_leastRoutePrice x plan customer)), (0, .ref (ad b)), (1, .int (plan)), (2, .int (nI customer))]) hx hb dX3_cheapestSite_8 hl (by decide) rfl (fun ls hl => ?_)
  have hF1 : f_X3_cheapestSite x plan customer = l_X3_cheapestSite_10 x plan customer (pN x) 0 := (by rw [f_X3_cheapestSite] <;> rfl)
  have L1 : ∀ (dx_1 ix_1 : Nat) (ls : Array Slot), (ix_1 + dx_1 = pN x) → (l_X3_cheapestSite_10 x plan customer dx_1 ix_1 = l_X3_cheapestSite_10 x plan customer (pN x) 0) → (lv_has ls 5 [(0, .ref (ad b)), (1, .int (plan)), (2, .int (nI customer)), (3, .int (f_X3_leastRoutePrice x plan customer)), (4, .int (nI ix_1))]) → W p l e rmX3_cheapestSite s m as below meth c H [] 0 0 Q (F0 m 10 ls []) := by
    intro dx_1
    induction dx_1 with
    | zero =>
      intro ix_1  ls hid hvx_1 hl
      have hiN : pN x = ix_1 := by omega
      subst hiN
      refine lv_iload hx hb dX3_cheapestSite_10 (lv_at hl 4 rfl) ?_
      refine lv_aload_n hx hb dX3_cheapestSite_12 rfl (lv_at hl 0 rfl) ?_
      refine g_Pl_siteCount X hP hp0 m47 dX3_cheapestSite_13 ?_
      refine q_ge (tgt := 60) hx hb (by omega) (by omega) dX3_cheapestSite_16 (by decide) (fun c2 => ?_) (fun h => absurd h (by omega))
      refine lv_iconst (v := (-1)) hx hb dX3_cheapestSite_60 (by decide) ?_
      exact kr 61 ls _ (Eq.symm ((hF1.trans hvx_1.symm).trans (by rw [l_X3_cheapestSite_10] <;> rfl))) dX3_cheapestSite_61
    | succ dx_1 ihx_1 =>
      intro ix_1  ls hid hvx_1 hl
      refine lv_iload hx hb dX3_cheapestSite_10 (lv_at hl 4 rfl) ?_
      refine lv_aload_n hx hb dX3_cheapestSite_12 rfl (lv_at hl 0 rfl) ?_
      refine g_Pl_siteCount X hP hp0 m47 dX3_cheapestSite_13 ?_
      refine q_ge (tgt := 60) hx hb (by omega) (by omega) dX3_cheapestSite_16 (by decide) (fun h => absurd h (by omega)) (fun c3 => ?_)
      refine lv_iload_n hx hb dX3_cheapestSite_19 rfl (lv_at hl 1 rfl) ?_
      refine lv_iload hx hb dX3_cheapestSite_20 (lv_at hl 4 rfl) ?_
      refine r_callN (As := [.int (plan), .int (nI ix_1)]) (rest := []) X hP (c_X5_isIn plan (nI ix_1)) o_X5_isIn X.2.2.1 ⟨rfl, rfl⟩ ⟨Nat.le_of_ble_eq_true rfl, Nat.le_of_ble_eq_true rfl⟩ rfl hl.1 rfl (Nat.le_of_ble_eq_true rfl) ⟨Nat.zero_le _, Nat.zero_le _⟩ dX3_cheapestSite_22 ?_
      refine q_eqB (tgt := 54) hx hb dX3_cheapestSite_25 (by decide) (fun c4 => ?_) (fun c4 => ?_)
      · refine lv_iinc (v := nI (ix_1 + 1)) (lv' := [(4, .int (nI (ix_1 + 1))), (0, .ref (ad b)), (1, .int (plan)), (2, .int (nI customer)), (3, .int (f_X3_leastRoutePrice x plan customer))]) hx hb dX3_cheapestSite_54 hl (k := 4) rfl (nI_inc _) (by decide) rfl (fun ls hl => ?_)
        refine lv_goto (tgt := 10) hx hb dX3_cheapestSite_57 (by decide) ?_
        exact ihx_1 (ix_1 + 1) ls (by omega) (Eq.trans (Eq.symm (by rw [l_X3_cheapestSite_10, if_neg (nt c4)] <;> rfl)) hvx_1) (lv_sub hl [1, 2, 3, 4, 0] rfl)
      · refine lv_aload_n hx hb dX3_cheapestSite_28 rfl (lv_at hl 0 rfl) ?_
        refine lv_iload hx hb dX3_cheapestSite_29 (lv_at hl 4 rfl) ?_
        refine lv_iload_n hx hb dX3_cheapestSite_31 rfl (lv_at hl 2 rfl) ?_
        refine r_call (As := [.int (nI ix_1), .int (nI customer)]) (rest := []) (ci := 3) X hP (c_X3_hasRoute hp0 ix_1 customer (by omega) (by omega)) o_X3_hasRoute rfl hp0.lt hp0.ob m648 ⟨rfl, rfl⟩ ⟨Nat.le_of_ble_eq_true rfl, Nat.le_of_ble_eq_true rfl⟩ rfl hl.1 rfl (Nat.le_of_ble_eq_true rfl) ⟨Nat.zero_le _, Nat.zero_le _⟩ dX3_cheapestSite_32 ?_
        refine q_eqB (tgt := 54) hx hb dX3_cheapestSite_35 (by decide) (fun c5 => ?_) (fun c5 => ?_)
        · refine lv_iinc (v := nI (ix_1 + 1)) (lv' := [(4, .int (nI (ix_1 + 1))), (0, .ref (ad b)), (1, .int (plan)), (2, .int (nI customer)), (3, .int (f_X3_leastRoutePrice x plan customer))]) hx hb dX3_cheapestSite_54 hl (k := 4) rfl (nI_inc _) (by decide) rfl (fun ls hl => ?_)
          refine lv_goto (tgt := 10) hx hb dX3_cheapestSite_57 (by decide) ?_
          exact ihx_1 (ix_1 + 1) ls (by omega) (Eq.trans (Eq.symm (by rw [l_X3_cheapestSite_10, if_pos c4, if_neg (nt c5)] <;> rfl)) hvx_1) (lv_sub hl [1, 2, 3, 4, 0] rfl)
        · refine lv_aload_n hx hb dX3_cheapestSite_38 rfl (lv_at hl 0 rfl) ?_
          refine g_Pl_routePrices X hP hp0 m53 dX3_cheapestSite_39 ?_
          refine lv_iload hx hb dX3_cheapestSite_42 (lv_at hl 4 rfl) ?_
          refine l_Pl_routePrices X hP hp0 (by omega) dX3_cheapestSite_44 ?_
          refine lv_iload_n hx hb dX3_cheapestSite_45 rfl (lv_at hl 2 rfl) ?_
          refine l_Pl_routePrices_row X hP hp0 (by omega) (by omega) dX3_cheapestSite_46 ?_
          refine lv_iload_n hx hb dX3_cheapestSite_47 rfl (lv_at hl 3 rfl) ?_
          refine lv_icmp_ne (tgt := 54) hx hb dX3_cheapestSite_48 (by decide) (fun c6 => ?_) (fun c6 => ?_)
          · refine lv_iinc (v := nI (ix_1 + 1)) (lv' := [(4, .int (nI (ix_1 + 1))), (0, .ref (ad b)), (1, .int (plan)), (2, .int (nI customer)), (3, .int (f_X3_leastRoutePrice x plan customer))]) hx hb dX3_cheapestSite_54 hl (k := 4) rfl (nI_inc _) (by decide) rfl (fun ls hl => ?_)
            refine lv_goto (tgt := 10) hx hb dX3_cheapestSite_57 (by decide) ?_
            exact ihx_1 (ix_1 + 1) ls (by omega) (Eq.trans (Eq.symm (by rw [l_X3_cheapestSite_10, if_pos c4, if_pos c5, if_neg c6] <;> rfl)) hvx_1) (lv_sub hl [1, 2, 3, 4, 0] rfl)
          · refine lv_iload hx hb dX3_cheapestSite_51 (lv_at hl 4 rfl) ?_
            exact kr 53 ls _ (Eq.symm ((hF1.trans hvx_1.symm).trans (by rw [l_X3_cheapestSite_10, if_pos c4, if_pos c5, if_pos c6] <;> rfl))) dX3_cheapestSite_53
  exact L1 (pN x) 0 ls (by omega) rfl (lv_sub hl [2, 3, 4, 1, 0] rfl)
theorem o_X3_cheapestSite : okV yX3_cheapestSite cX3_cheapestSite 5 (some .int) 2 := ⟨m645, m646, m35, m647, by decide +kernel, by decide +kernel, by decide +kernel⟩
def rmX3_lowestMissedCustomer : Room := { frames := 2, cells := 0, slots := 0, locals := 45 }
def l_X3_lowestMissedCustomer_2 (x : PlC) (plan : Int32) : Nat → Nat → Int32
  | 0, ix_1 => (-1)
  | dx_1 + 1, ix_1 => (if (f_X3_leastRoutePrice x plan ix_1) = (nI 100) then nI ix_1 else l_X3_lowestMissedCustomer_2 x plan dx_1 (ix_1 + 1))
def f_X3_lowestMissedCustomer (x : PlC) (plan : Int32) : Int32 :=
  l_X3_lowestMissedCustomer_2 x plan (pM x) 0
set_option maxHeartbeats 4000000 in
set_option maxRecDepth 100000 in
theorem c_X3_lowestMissedCustomer {l : Launch} {dd : va_G} {t : CL4} {N : Nat} {ad : Nat → Nat} {V : Nat → va_E} {b : Nat} {x : PlC}  (hp0 : PlP N ad V t b x) (plan : Int32)  : RM l dd t N ad V yX3_lowestMissedCustomer cX3_lowestMissedCustomer 3 (some .int) rmX3_lowestMissedCustomer [.ref (ad b), .int (plan)] (f_X3_lowestMissedCustomer x plan) := by
  refine RM.of (by decide +kernel) ⟨rfl, rfl⟩ (Nat.le_of_ble_eq_true rfl) (narI _) ?_
  intro p e s m as below meth c Q X H hP ls hl kr
  have X : WX p s m as c cX3_lowestMissedCustomer 3 RX3 dd t := X
  have hx := X.1.1
  have hb := X.1.2.1
  have hl : lv_has ls 3 [(0, .ref (ad b)), (1, .int (plan))] := hl
  have hi0_0 := hp0.i0
  have hi0_1 := hp0.i1
  have hle0 := hp0.le
  refine lv_iconst (v := nI 0) hx hb dX3_lowestMissedCustomer_0 (by decide) ?_
  refine lv_istore_n (lv' := [(2, .int (nI 0)), (0, .ref (ad b)), (1, .int (plan))]) hx hb dX3_lowestMissedCustomer_1 rfl hl (by decide) rfl (fun ls hl => ?_)
  have hF1 : f_X3_lowestMissedCustomer x plan = l_X3_lowestMissedCustomer_2 x plan (pM x) 0 := (by rw [f_X3_lowestMissedCustomer] <;> rfl)
  have L1 : ∀ (dx_1 ix_1 : Nat) (ls : Array Slot), (ix_1 + dx_1 = pM x) → (l_X3_lowestMissedCustomer_2 x plan dx_1 ix_1 = l_X3_lowestMissedCustomer_2 x plan (pM x) 0) → (lv_has ls 3 [(0, .ref (ad b)), (1, .int (plan)), (2, .int (nI ix_1))]) → W p l e rmX3_lowestMissedCustomer s m as below meth c H [] 0 0 Q (F0 m 2 ls []) := by
    intro dx_1
    induction dx_1 with
    | zero =>
      intro ix_1  ls hid hvx_1 hl
      have hiN : pM x = ix_1 := by omega
      subst hiN
      refine lv_iload_n hx hb dX3_lowestMissedCustomer_2 rfl (lv_at hl 2 rfl) ?_
      refine lv_aload_n hx hb dX3_lowestMissedCustomer_3 rfl (lv_at hl 0 rfl) ?_
      refine g_Pl_customerCount X hP hp0 m48 dX3_lowestMissedCustomer_4 ?_
      refine q_ge (tgt := 29) hx hb (by omega) (by omega) dX3_lowestMissedCustomer_7 (by decide) (fun c2 => ?_) (fun h => absurd h (by omega))
      refine lv_iconst (v := (-1)) hx hb dX3_lowestMissedCustomer_29 (by decide) ?_
      exact kr 30 ls _ (Eq.symm ((hF1.trans hvx_1.symm).trans (by rw [l_X3_lowestMissedCustomer_2] <;> rfl))) dX3_lowestMissedCustomer_30
    | succ dx_1 ihx_1 =>
      intro ix_1  ls hid hvx_1 hl
      refine lv_iload_n hx hb dX3_lowestMissedCustomer_2 rfl (lv_at hl 2 rfl) ?_
      refine lv_aload_n hx hb dX3_lowestMissedCustomer_3 rfl (lv_at hl 0 rfl) ?_
      refine g_Pl_customerCount X hP hp0 m48 dX3_lowestMissedCustomer_4 ?_
      refine q_ge (tgt := 29) hx hb (by omega) (by omega) dX3_lowestMissedCustomer_7 (by decide) (fun h => absurd h (by omega)) (fun c3 => ?_)
      refine lv_aload_n hx hb dX3_lowestMissedCustomer_10 rfl (lv_at hl 0 rfl) ?_
      refine lv_iload_n hx hb dX3_lowestMissedCustomer_11 rfl (lv_at hl 1 rfl) ?_
      refine lv_iload_n hx hb dX3_lowestMissedCustomer_12 rfl (lv_at hl 2 rfl) ?_
      refine r_call (As := [.int (plan), .int (nI ix_1)]) (rest := []) (ci := 3) X hP (c_X3_leastRoutePrice hp0 plan ix_1 (by omega)) o_X3_leastRoutePrice rfl hp0.lt hp0.ob m334 ⟨rfl, rfl⟩ ⟨Nat.le_of_ble_eq_true rfl, Nat.le_of_ble_eq_true rfl⟩ rfl hl.1 rfl (Nat.le_of_ble_eq_true rfl) ⟨Nat.zero_le _, Nat.zero_le _⟩ dX3_lowestMissedCustomer_13 ?_
      refine lv_bipush (v := nI 100) hx hb dX3_lowestMissedCustomer_16 (by decide) ?_
      refine lv_icmp_ne (tgt := 23) hx hb dX3_lowestMissedCustomer_18 (by decide) (fun c4 => ?_) (fun c4 => ?_)
      · refine lv_iinc (v := nI (ix_1 + 1)) (lv' := [(2, .int (nI (ix_1 + 1))), (0, .ref (ad b)), (1, .int (plan))]) hx hb dX3_lowestMissedCustomer_23 hl (k := 2) rfl (nI_inc _) (by decide) rfl (fun ls hl => ?_)
        refine lv_goto (tgt := 2) hx hb dX3_lowestMissedCustomer_26 (by decide) ?_
        exact ihx_1 (ix_1 + 1) ls (by omega) (Eq.trans (Eq.symm (by rw [l_X3_lowestMissedCustomer_2, if_neg c4] <;> rfl)) hvx_1) (lv_sub hl [1, 2, 0] rfl)
      · refine lv_iload_n hx hb dX3_lowestMissedCustomer_21 rfl (lv_at hl 2 rfl) ?_
        exact kr 22 ls _ (Eq.symm ((hF1.trans hvx_1.symm).trans (by rw [l_X3_lowestMissedCustomer_2, if_pos c4] <;> rfl))) dX3_lowestMissedCustomer_22
  exact L1 (pM x) 0 ls (by omega) rfl (lv_sub hl [1, 2, 0] rfl)
theorem o_X3_lowestMissedCustomer : okV yX3_lowestMissedCustomer cX3_lowestMissedCustomer 3 (some .int) 1 := ⟨m331, m332, m35, m333, by decide +kernel, by decide +kernel, by decide +kernel⟩
def rmX3_reachesAll : Room := { frames := 3, cells := 0, slots := 0, locals := 67 }
def f_X3_reachesAll (x : PlC) (plan : Int32) : Bool :=
  (if (f_X3_lowestMissedCustomer x plan) = (-1) then true else false)
set_option maxHeartbeats 4000000 in
set_option maxRecDepth 100000 in
theorem c_X3_reachesAll {l : Launch} {dd : va_G} {t : CL4} {N : Nat} {ad : Nat → Nat} {V : Nat → va_E} {b : Nat} {x : PlC}  (hp0 : PlP N ad V t b x) (plan : Int32)  : RM l dd t N ad V yX3_reachesAll cX3_reachesAll 2 (some .boolean) rmX3_reachesAll [.ref (ad b), .int (plan)] (b01 (f_X3_reachesAll x plan)) := by
  refine RM.of (by decide +kernel) ⟨rfl, rfl⟩ (Nat.le_of_ble_eq_true rfl) (narB _) ?_
  intro p e s m as below meth c Q X H hP ls hl kr
  have X : WX p s m as c cX3_reachesAll 2 RX3 dd t := X
  have hx := X.1.1
  have hb := X.1.2.1
  have hl : lv_has ls 2 [(0, .ref (ad b)), (1, .int (plan))] := hl
  have hi0_0 := hp0.i0
  have hi0_1 := hp0.i1
  have hle0 := hp0.le
  refine lv_aload_n hx hb dX3_reachesAll_0 rfl (lv_at hl 0 rfl) ?_
  refine lv_iload_n hx hb dX3_reachesAll_1 rfl (lv_at hl 1 rfl) ?_
  refine r_call (As := [.int (plan)]) (rest := []) (ci := 3) X hP (c_X3_lowestMissedCustomer hp0 plan) o_X3_lowestMissedCustomer rfl hp0.lt hp0.ob m617 ⟨rfl, rfl⟩ ⟨Nat.le_of_ble_eq_true rfl, Nat.le_of_ble_eq_true rfl⟩ rfl hl.1 rfl (Nat.le_of_ble_eq_true rfl) ⟨Nat.zero_le _, Nat.zero_le _⟩ dX3_reachesAll_2 ?_
  refine lv_iconst (v := (-1)) hx hb dX3_reachesAll_5 (by decide) ?_
  refine lv_icmp_ne (tgt := 13) hx hb dX3_reachesAll_6 (by decide) (fun c1 => ?_) (fun c1 => ?_)
  · refine lv_iconst (v := nI 0) hx hb dX3_reachesAll_13 (by decide) ?_
    exact kr 14 ls _ (b_f (by rw [f_X3_reachesAll, if_neg c1] <;> rfl)) dX3_reachesAll_14
  · refine lv_iconst (v := nI 1) hx hb dX3_reachesAll_9 (by decide) ?_
    refine lv_goto (tgt := 14) hx hb dX3_reachesAll_10 (by decide) ?_
    exact kr 14 ls _ (b_t (by rw [f_X3_reachesAll, if_pos c1] <;> rfl)) dX3_reachesAll_14
theorem o_X3_reachesAll : okV yX3_reachesAll cX3_reachesAll 2 (some .boolean) 1 := ⟨m614, m615, m35, m616, by decide +kernel, by decide +kernel, by decide +kernel⟩
def rmX3_sitePricesOf : Room := { frames := 1, cells := 0, slots := 0, locals := 21 }
def l_X3_sitePricesOf_4 (x : PlC) (plan : Int32) : Nat → Nat → Int32 → Int32
  | 0, ix_1, a2_1 => a2_1
  | dx_1 + 1, ix_1, a2_1 => (if (f_X5_isIn plan (nI ix_1)) = true then l_X3_sitePricesOf_4 x plan dx_1 (ix_1 + 1) (a2_1 + (pP x ix_1)) else l_X3_sitePricesOf_4 x plan dx_1 (ix_1 + 1) a2_1)
def f_X3_sitePricesOf (x : PlC) (plan : Int32) : Int32 :=
  (l_X3_sitePricesOf_4 x plan (pN x) 0 (nI 0))
set_option maxHeartbeats 4000000 in
set_option maxRecDepth 100000 in
theorem c_X3_sitePricesOf {l : Launch} {dd : va_G} {t : CL4} {N : Nat} {ad : Nat → Nat} {V : Nat → va_E} {b : Nat} {x : PlC}  (hp0 : PlP N ad V t b x) (plan : Int32)  : RM l dd t N ad V yX3_sitePricesOf cX3_sitePricesOf 4 (some .int) rmX3_sitePricesOf [.ref (ad b), .int (plan)] (f_X3_sitePricesOf x plan) := by
  refine RM.of (by decide +kernel) ⟨rfl, rfl⟩ (Nat.le_of_ble_eq_true rfl) (narI _) ?_
  intro p e s m as below meth c Q X H hP ls hl kr
  have X : WX p s m as c cX3_sitePricesOf 4 RX3 dd t := X
  have hx := X.1.1
  have hb := X.1.2.1
  have hl : lv_has ls 4 [(0, .ref (ad b)), (1, .int (plan))] := hl
  have hi0_0 := hp0.i0
  have hi0_1 := hp0.i1
  have hle0 := hp0.le
  refine lv_iconst (v := nI 0) hx hb dX3_sitePricesOf_0 (by decide) ?_
  refine lv_istore_n (lv' := [(2, .int (nI 0)), (0, .ref (ad b)), (1, .int (plan))]) hx hb dX3_sitePricesOf_1 rfl hl (by decide) rfl (fun ls hl => ?_)
  refine lv_iconst (v := nI 0) hx hb dX3_sitePricesOf_2 (by decide) ?_
  refine lv_istore_n (lv' := [(3, .int (nI 0)), (2, .int (nI 0)), (0, .ref (ad b)), (1, .int (plan))]) hx hb dX3_sitePricesOf_3 rfl hl (by decide) rfl (fun ls hl => ?_)
  have L1 : ∀ (dx_1 ix_1 : Nat) (a2_1 : Int32) (ls : Array Slot), (ix_1 + dx_1 = pN x) → (l_X3_sitePricesOf_4 x plan dx_1 ix_1 a2_1 = l_X3_sitePricesOf_4 x plan (pN x) 0 (nI 0)) → (lv_has ls 4 [(0, .ref (ad b)), (1, .int (plan)), (2, .int (a2_1)), (3, .int (nI ix_1))]) → W p l e rmX3_sitePricesOf s m as below meth c H [] 0 0 Q (F0 m 4 ls []) := by
    intro dx_1
    induction dx_1 with
    | zero =>
      intro ix_1 a2_1 ls hid hvx_1 hl
      have hiN : pN x = ix_1 := by omega
      subst hiN
      have hvx_1 : a2_1 = l_X3_sitePricesOf_4 x plan (pN x) 0 (nI 0) := hvx_1
      have hh0 : a2_1 = l_X3_sitePricesOf_4 x plan (pN x) 0 (nI 0) := hvx_1
      subst hh0
      refine lv_iload_n hx hb dX3_sitePricesOf_4 rfl (lv_at hl 3 rfl) ?_
      refine lv_aload_n hx hb dX3_sitePricesOf_5 rfl (lv_at hl 0 rfl) ?_
      refine g_Pl_siteCount X hP hp0 m47 dX3_sitePricesOf_6 ?_
      refine q_ge (tgt := 35) hx hb (by omega) (by omega) dX3_sitePricesOf_9 (by decide) (fun c2 => ?_) (fun h => absurd h (by omega))
      refine lv_iload_n hx hb dX3_sitePricesOf_35 rfl (lv_at hl 2 rfl) ?_
      exact kr 36 ls _ (Eq.symm (by rw [f_X3_sitePricesOf] <;> rfl)) dX3_sitePricesOf_36
    | succ dx_1 ihx_1 =>
      intro ix_1 a2_1 ls hid hvx_1 hl
      refine lv_iload_n hx hb dX3_sitePricesOf_4 rfl (lv_at hl 3 rfl) ?_
      refine lv_aload_n hx hb dX3_sitePricesOf_5 rfl (lv_at hl 0 rfl) ?_
      refine g_Pl_siteCount X hP hp0 m47 dX3_sitePricesOf_6 ?_
      refine q_ge (tgt := 35) hx hb (by omega) (by omega) dX3_sitePricesOf_9 (by decide) (fun h => absurd h (by omega)) (fun c3 => ?_)
      refine lv_iload_n hx hb dX3_sitePricesOf_12 rfl (lv_at hl 1 rfl) ?_
      refine lv_iload_n hx hb dX3_sitePricesOf_13 rfl (lv_at hl 3 rfl) ?_
      refine r_callN (As := [.int (plan), .int (nI ix_1)]) (rest := []) X hP (c_X5_isIn plan (nI ix_1)) o_X5_isIn X.2.2.1 ⟨rfl, rfl⟩ ⟨Nat.le_of_ble_eq_true rfl, Nat.le_of_ble_eq_true rfl⟩ rfl hl.1 rfl (Nat.le_of_ble_eq_true rfl) ⟨Nat.zero_le _, Nat.zero_le _⟩ dX3_sitePricesOf_14 ?_
      refine q_eqB (tgt := 29) hx hb dX3_sitePricesOf_17 (by decide) (fun c4 => ?_) (fun c4 => ?_)
      · refine lv_iinc (v := nI (ix_1 + 1)) (lv' := [(3, .int (nI (ix_1 + 1))), (0, .ref (ad b)), (1, .int (plan)), (2, .int (a2_1))]) hx hb dX3_sitePricesOf_29 hl (k := 3) rfl (nI_inc _) (by decide) rfl (fun ls hl => ?_)
        refine lv_goto (tgt := 4) hx hb dX3_sitePricesOf_32 (by decide) ?_
        exact ihx_1 (ix_1 + 1) a2_1 ls (by omega) (Eq.trans (Eq.symm (by rw [l_X3_sitePricesOf_4, if_neg (nt c4)] <;> rfl)) hvx_1) (lv_sub hl [1, 2, 3, 0] rfl)
      · refine lv_iload_n hx hb dX3_sitePricesOf_20 rfl (lv_at hl 2 rfl) ?_
        refine lv_aload_n hx hb dX3_sitePricesOf_21 rfl (lv_at hl 0 rfl) ?_
        refine g_Pl_sitePrices X hP hp0 m50 dX3_sitePricesOf_22 ?_
        refine lv_iload_n hx hb dX3_sitePricesOf_25 rfl (lv_at hl 3 rfl) ?_
        refine l_Pl_sitePrices X hP hp0 (by omega) dX3_sitePricesOf_26 ?_
        refine lv_iadd hx hb dX3_sitePricesOf_27 ?_
        refine lv_istore_n (lv' := [(2, .int (a2_1 + (pP x ix_1))), (0, .ref (ad b)), (1, .int (plan)), (3, .int (nI ix_1))]) hx hb dX3_sitePricesOf_28 rfl hl (by decide) rfl (fun ls hl => ?_)
        refine lv_iinc (v := nI (ix_1 + 1)) (lv' := [(3, .int (nI (ix_1 + 1))), (2, .int (a2_1 + (pP x ix_1))), (0, .ref (ad b)), (1, .int (plan))]) hx hb dX3_sitePricesOf_29 hl (k := 3) rfl (nI_inc _) (by decide) rfl (fun ls hl => ?_)
        refine lv_goto (tgt := 4) hx hb dX3_sitePricesOf_32 (by decide) ?_
        exact ihx_1 (ix_1 + 1) (a2_1 + (pP x ix_1)) ls (by omega) (Eq.trans (Eq.symm (by rw [l_X3_sitePricesOf_4, if_pos c4] <;> rfl)) hvx_1) (lv_sub hl [2, 3, 1, 0] rfl)
  exact L1 (pN x) 0 (nI 0) ls (by omega) rfl (lv_sub hl [2, 3, 1, 0] rfl)
theorem o_X3_sitePricesOf : okV yX3_sitePricesOf cX3_sitePricesOf 4 (some .int) 1 := ⟨m315, m316, m35, m317, by decide +kernel, by decide +kernel, by decide +kernel⟩
def rmX3_routeCostOf : Room := { frames := 2, cells := 0, slots := 0, locals := 45 }
def l_X3_routeCostOf_4 (x : PlC) (plan : Int32) : Nat → Nat → Int32 → Int32
  | 0, ix_1, a2_1 => a2_1
  | dx_1 + 1, ix_1, a2_1 => l_X3_routeCostOf_4 x plan dx_1 (ix_1 + 1) (a2_1 + ((pD x ix_1) * (f_X3_leastRoutePrice x plan ix_1)))
def f_X3_routeCostOf (x : PlC) (plan : Int32) : Int32 :=
  (l_X3_routeCostOf_4 x plan (pM x) 0 (nI 0))
set_option maxHeartbeats 4000000 in
set_option maxRecDepth 100000 in
theorem c_X3_routeCostOf {l : Launch} {dd : va_G} {t : CL4} {N : Nat} {ad : Nat → Nat} {V : Nat → va_E} {b : Nat} {x : PlC}  (hp0 : PlP N ad V t b x) (plan : Int32)  : RM l dd t N ad V yX3_routeCostOf cX3_routeCostOf 4 (some .int) rmX3_routeCostOf [.ref (ad b), .int (plan)] (f_X3_routeCostOf x plan) := by
  refine RM.of (by decide +kernel) ⟨rfl, rfl⟩ (Nat.le_of_ble_eq_true rfl) (narI _) ?_
  intro p e s m as below meth c Q X H hP ls hl kr
  have X : WX p s m as c cX3_routeCostOf 4 RX3 dd t := X
  have hx := X.1.1
  have hb := X.1.2.1
  have hl : lv_has ls 4 [(0, .ref (ad b)), (1, .int (plan))] := hl
  have hi0_0 := hp0.i0
  have hi0_1 := hp0.i1
  have hle0 := hp0.le
  refine lv_iconst (v := nI 0) hx hb dX3_routeCostOf_0 (by decide) ?_
  refine lv_istore_n (lv' := [(2, .int (nI 0)), (0, .ref (ad b)), (1, .int (plan))]) hx hb dX3_routeCostOf_1 rfl hl (by decide) rfl (fun ls hl => ?_)
  refine lv_iconst (v := nI 0) hx hb dX3_routeCostOf_2 (by decide) ?_
  refine lv_istore_n (lv' := [(3, .int (nI 0)), (2, .int (nI 0)), (0, .ref (ad b)), (1, .int (plan))]) hx hb dX3_routeCostOf_3 rfl hl (by decide) rfl (fun ls hl => ?_)
  have L1 : ∀ (dx_1 ix_1 : Nat) (a2_1 : Int32) (ls : Array Slot), (ix_1 + dx_1 = pM x) → (l_X3_routeCostOf_4 x plan dx_1 ix_1 a2_1 = l_X3_routeCostOf_4 x plan (pM x) 0 (nI 0)) → (lv_has ls 4 [(0, .ref (ad b)), (1, .int (plan)), (2, .int (a2_1)), (3, .int (nI ix_1))]) → W p l e rmX3_routeCostOf s m as below meth c H [] 0 0 Q (F0 m 4 ls []) := by
    intro dx_1
    induction dx_1 with
    | zero =>
      intro ix_1 a2_1 ls hid hvx_1 hl
      have hiN : pM x = ix_1 := by omega
      subst hiN
      have hvx_1 : a2_1 = l_X3_routeCostOf_4 x plan (pM x) 0 (nI 0) := hvx_1
      have hh0 : a2_1 = l_X3_routeCostOf_4 x plan (pM x) 0 (nI 0) := hvx_1
      subst hh0
      refine lv_iload_n hx hb dX3_routeCostOf_4 rfl (lv_at hl 3 rfl) ?_
      refine lv_aload_n hx hb dX3_routeCostOf_5 rfl (lv_at hl 0 rfl) ?_
      refine g_Pl_customerCount X hP hp0 m48 dX3_routeCostOf_6 ?_
      refine q_ge (tgt := 34) hx hb (by omega) (by omega) dX3_routeCostOf_9 (by decide) (fun c2 => ?_) (fun h => absurd h (by omega))
      refine lv_iload_n hx hb dX3_routeCostOf_34 rfl (lv_at hl 2 rfl) ?_
      exact kr 35 ls _ (Eq.symm (by rw [f_X3_routeCostOf] <;> rfl)) dX3_routeCostOf_35
    | succ dx_1 ihx_1 =>
      intro ix_1 a2_1 ls hid hvx_1 hl
      refine lv_iload_n hx hb dX3_routeCostOf_4 rfl (lv_at hl 3 rfl) ?_
      refine lv_aload_n hx hb dX3_routeCostOf_5 rfl (lv_at hl 0 rfl) ?_
      refine g_Pl_customerCount X hP hp0 m48 dX3_routeCostOf_6 ?_
      refine q_ge (tgt := 34) hx hb (by omega) (by omega) dX3_routeCostOf_9 (by decide) (fun h => absurd h (by omega)) (fun c3 => ?_)
      refine lv_iload_n hx hb dX3_routeCostOf_12 rfl (lv_at hl 2 rfl) ?_
      refine lv_aload_n hx hb dX3_routeCostOf_13 rfl (lv_at hl 0 rfl) ?_
      refine g_Pl_demands X hP hp0 m51 dX3_routeCostOf_14 ?_
      refine lv_iload_n hx hb dX3_routeCostOf_17 rfl (lv_at hl 3 rfl) ?_
      refine l_Pl_demands X hP hp0 (by omega) dX3_routeCostOf_18 ?_
      refine lv_aload_n hx hb dX3_routeCostOf_19 rfl (lv_at hl 0 rfl) ?_
      refine lv_iload_n hx hb dX3_routeCostOf_20 rfl (lv_at hl 1 rfl) ?_
      refine lv_iload_n hx hb dX3_routeCostOf_21 rfl (lv_at hl 3 rfl) ?_
      refine r_call (As := [.int (plan), .int (nI ix_1)]) (rest := [.int (pD x ix_1), .int (a2_1)]) (ci := 3) X hP (c_X3_leastRoutePrice hp0 plan ix_1 (by omega)) o_X3_leastRoutePrice rfl hp0.lt hp0.ob m334 ⟨rfl, rfl⟩ ⟨Nat.le_of_ble_eq_true rfl, Nat.le_of_ble_eq_true rfl⟩ rfl hl.1 rfl (Nat.le_of_ble_eq_true rfl) ⟨Nat.zero_le _, Nat.zero_le _⟩ dX3_routeCostOf_22 ?_
      refine lv_imul hx hb dX3_routeCostOf_25 ?_
      refine lv_iadd hx hb dX3_routeCostOf_26 ?_
      refine lv_istore_n (lv' := [(2, .int (a2_1 + ((pD x ix_1) * (f_X3_leastRoutePrice x plan ix_1)))), (0, .ref (ad b)), (1, .int (plan)), (3, .int (nI ix_1))]) hx hb dX3_routeCostOf_27 rfl hl (by decide) rfl (fun ls hl => ?_)
      refine lv_iinc (v := nI (ix_1 + 1)) (lv' := [(3, .int (nI (ix_1 + 1))), (2, .int (a2_1 + ((pD x ix_1) * (f_X3_leastRoutePrice x plan ix_1)))), (0, .ref (ad b)), (1, .int (plan))]) hx hb dX3_routeCostOf_28 hl (k := 3) rfl (nI_inc _) (by decide) rfl (fun ls hl => ?_)
      refine lv_goto (tgt := 4) hx hb dX3_routeCostOf_31 (by decide) ?_
      exact ihx_1 (ix_1 + 1) (a2_1 + ((pD x ix_1) * (f_X3_leastRoutePrice x plan ix_1))) ls (by omega) (Eq.trans (Eq.symm (by rw [l_X3_routeCostOf_4] <;> rfl)) hvx_1) (lv_sub hl [2, 3, 1, 0] rfl)
  exact L1 (pM x) 0 (nI 0) ls (by omega) rfl (lv_sub hl [2, 3, 1, 0] rfl)
theorem o_X3_routeCostOf : okV yX3_routeCostOf cX3_routeCostOf 4 (some .int) 1 := ⟨m347, m348, m35, m349, by decide +kernel, by decide +kernel, by decide +kernel⟩
def rmX3_costOf : Room := { frames := 3, cells := 0, slots := 0, locals := 68 }
def f_X3_costOf (x : PlC) (plan : Int32) : Int32 :=
  (f_X3_sitePricesOf x plan) + (f_X3_routeCostOf x plan)
set_option maxHeartbeats 4000000 in
set_option maxRecDepth 100000 in
theorem c_X3_costOf {l : Launch} {dd : va_G} {t : CL4} {N : Nat} {ad : Nat → Nat} {V : Nat → va_E} {b : Nat} {x : PlC}  (hp0 : PlP N ad V t b x) (plan : Int32)  : RM l dd t N ad V yX3_costOf cX3_costOf 2 (some .int) rmX3_costOf [.ref (ad b), .int (plan)] (f_X3_costOf x plan) := by
  refine RM.of (by decide +kernel) ⟨rfl, rfl⟩ (Nat.le_of_ble_eq_true rfl) (narI _) ?_
  intro p e s m as below meth c Q X H hP ls hl kr
  have X : WX p s m as c cX3_costOf 2 RX3 dd t := X
  have hx := X.1.1
  have hb := X.1.2.1
  have hl : lv_has ls 2 [(0, .ref (ad b)), (1, .int (plan))] := hl
  have hi0_0 := hp0.i0
  have hi0_1 := hp0.i1
  have hle0 := hp0.le
  refine lv_aload_n hx hb dX3_costOf_0 rfl (lv_at hl 0 rfl) ?_
  refine lv_iload_n hx hb dX3_costOf_1 rfl (lv_at hl 1 rfl) ?_
  refine r_call (As := [.int (plan)]) (rest := []) (ci := 3) X hP (c_X3_sitePricesOf hp0 plan) o_X3_sitePricesOf rfl hp0.lt hp0.ob m345 ⟨rfl, rfl⟩ ⟨Nat.le_of_ble_eq_true rfl, Nat.le_of_ble_eq_true rfl⟩ rfl hl.1 rfl (Nat.le_of_ble_eq_true rfl) ⟨Nat.zero_le _, Nat.zero_le _⟩ dX3_costOf_2 ?_
  refine lv_aload_n hx hb dX3_costOf_5 rfl (lv_at hl 0 rfl) ?_
  refine lv_iload_n hx hb dX3_costOf_6 rfl (lv_at hl 1 rfl) ?_
  refine r_call (As := [.int (plan)]) (rest := [.int (f_X3_sitePricesOf x plan)]) (ci := 3) X hP (c_X3_routeCostOf hp0 plan) o_X3_routeCostOf rfl hp0.lt hp0.ob m346 ⟨rfl, rfl⟩ ⟨Nat.le_of_ble_eq_true rfl, Nat.le_of_ble_eq_true rfl⟩ rfl hl.1 rfl (Nat.le_of_ble_eq_true rfl) ⟨Nat.zero_le _, Nat.zero_le _⟩ dX3_costOf_7 ?_
  refine lv_iadd hx hb dX3_costOf_10 ?_
  exact kr 11 ls _ (Eq.symm (by rw [f_X3_costOf] <;> rfl)) dX3_costOf_11
theorem o_X3_costOf : okV yX3_costOf cX3_costOf 2 (some .int) 1 := ⟨m342, m343, m35, m344, by decide +kernel, by decide +kernel, by decide +kernel⟩
