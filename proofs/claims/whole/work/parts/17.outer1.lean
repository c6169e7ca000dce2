/-! readers of the outer class and of the text -/
def rmX0_isFull : Room := { frames := 0, cells := 0, slots := 0, locals := 0 }
def f_X0_isFull (tx : TxC) : Bool :=
  (if (tL tx) < 60 then false else true)
set_option maxHeartbeats 4000000 in
set_option maxRecDepth 100000 in
theorem c_X0_isFull {l : Launch} {dd : va_G} {t : CL4} {N : Nat} {ad : Nat → Nat} {V : Nat → va_E} {b : Nat} {tx : TxC}  (hp0 : TxP N ad V t b tx)   : RM l dd t N ad V yX0_isFull cX0_isFull 1 (some .boolean) rmX0_isFull [.ref (ad b)] (b01 (f_X0_isFull tx)) := by
  refine RM.of (by decide +kernel) ⟨rfl, rfl⟩ (Nat.le_of_ble_eq_true rfl) (narB _) ?_
  intro p e s m as below meth c Q X H hP ls hl kr
  have X : WX p s m as c cX0_isFull 1 RX0 dd t := X
  have hx := X.1.1
  have hb := X.1.2.1
  have hl : lv_has ls 1 [(0, .ref (ad b))] := hl
  have hi0_0 := hp0.i0
  have hle0 := hp0.le
  refine lv_aload_n hx hb dX0_isFull_0 rfl (lv_at hl 0 rfl) ?_
  refine g_Tx_length X hP hp0 m78 dX0_isFull_1 ?_
  refine lv_bipush (v := nI 60) hx hb dX0_isFull_4 (by decide) ?_
  refine q_lt (tgt := 13) hx hb (by omega) (by omega) dX0_isFull_6 (by decide) (fun c1 => ?_) (fun c1 => ?_)
  · refine lv_iconst (v := nI 0) hx hb dX0_isFull_13 (by decide) ?_
    exact kr 14 ls _ (b_f (by rw [f_X0_isFull, if_pos c1] <;> rfl)) dX0_isFull_14
  · refine lv_iconst (v := nI 1) hx hb dX0_isFull_9 (by decide) ?_
    refine lv_goto (tgt := 14) hx hb dX0_isFull_10 (by decide) ?_
    exact kr 14 ls _ (b_t (by rw [f_X0_isFull, if_neg (Nat.not_lt.mpr c1)] <;> rfl)) dX0_isFull_14
theorem o_X0_isFull : okV yX0_isFull cX0_isFull 1 (some .boolean) 0 := ⟨m551, m552, m25, m553, by decide +kernel, by decide +kernel, by decide +kernel⟩
def rmX0_isCommaAt : Room := { frames := 0, cells := 0, slots := 0, locals := 0 }
def f_X0_isCommaAt (tx : TxC) (av : Nat) : Bool :=
  (if av < 0 then false else (if av < (tL tx) then (if (tC tx av) = (nI 44) then true else false) else false))
set_option maxHeartbeats 4000000 in
set_option maxRecDepth 100000 in
theorem c_X0_isCommaAt {l : Launch} {dd : va_G} {t : CL4} {N : Nat} {ad : Nat → Nat} {V : Nat → va_E} {b : Nat} {tx : TxC}  (hp0 : TxP N ad V t b tx) (av : Nat) (h_at : av ≤ 60) : RM l dd t N ad V yX0_isCommaAt cX0_isCommaAt 2 (some .boolean) rmX0_isCommaAt [.ref (ad b), .int (nI av)] (b01 (f_X0_isCommaAt tx av)) := by
  refine RM.of (by decide +kernel) ⟨rfl, rfl⟩ (Nat.le_of_ble_eq_true rfl) (narB _) ?_
  intro p e s m as below meth c Q X H hP ls hl kr
  have X : WX p s m as c cX0_isCommaAt 2 RX0 dd t := X
  have hx := X.1.1
  have hb := X.1.2.1
  have hl : lv_has ls 2 [(0, .ref (ad b)), (1, .int (nI av))] := hl
  have hi0_0 := hp0.i0
  have hle0 := hp0.le
  refine lv_iload_n hx hb dX0_isCommaAt_0 rfl (lv_at hl 1 rfl) ?_
  refine z_lt (tgt := 27) hx hb (by omega) dX0_isCommaAt_1 (by decide) (fun c1 => ?_) (fun c1 => ?_)
  · refine lv_iconst (v := nI 0) hx hb dX0_isCommaAt_27 (by decide) ?_
    exact kr 28 ls _ (b_f (by rw [f_X0_isCommaAt, if_pos c1] <;> rfl)) dX0_isCommaAt_28
  · refine lv_iload_n hx hb dX0_isCommaAt_4 rfl (lv_at hl 1 rfl) ?_
    refine lv_aload_n hx hb dX0_isCommaAt_5 rfl (lv_at hl 0 rfl) ?_
    refine g_Tx_length X hP hp0 m78 dX0_isCommaAt_6 ?_
    refine q_ge (tgt := 27) hx hb (by omega) (by omega) dX0_isCommaAt_9 (by decide) (fun c2 => ?_) (fun c2 => ?_)
    · refine lv_iconst (v := nI 0) hx hb dX0_isCommaAt_27 (by decide) ?_
      exact kr 28 ls _ (b_f (by rw [f_X0_isCommaAt, if_neg (Nat.not_lt.mpr c1), if_neg (Nat.not_lt.mpr c2)] <;> rfl)) dX0_isCommaAt_28
    · refine lv_aload_n hx hb dX0_isCommaAt_12 rfl (lv_at hl 0 rfl) ?_
      refine g_Tx_characters X hP hp0 m77 dX0_isCommaAt_13 ?_
      refine lv_iload_n hx hb dX0_isCommaAt_16 rfl (lv_at hl 1 rfl) ?_
      refine l_Tx_characters X hP hp0 (by omega) dX0_isCommaAt_17 ?_
      refine lv_bipush (v := nI 44) hx hb dX0_isCommaAt_18 (by decide) ?_
      refine lv_icmp_ne (tgt := 27) hx hb dX0_isCommaAt_20 (by decide) (fun c3 => ?_) (fun c3 => ?_)
      · refine lv_iconst (v := nI 0) hx hb dX0_isCommaAt_27 (by decide) ?_
        exact kr 28 ls _ (b_f (by rw [f_X0_isCommaAt, if_neg (Nat.not_lt.mpr c1), if_pos c2, if_neg c3] <;> rfl)) dX0_isCommaAt_28
      · refine lv_iconst (v := nI 1) hx hb dX0_isCommaAt_23 (by decide) ?_
        refine lv_goto (tgt := 28) hx hb dX0_isCommaAt_24 (by decide) ?_
        exact kr 28 ls _ (b_t (by rw [f_X0_isCommaAt, if_neg (Nat.not_lt.mpr c1), if_pos c2, if_pos c3] <;> rfl)) dX0_isCommaAt_28
theorem o_X0_isCommaAt : okV yX0_isCommaAt cX0_isCommaAt 2 (some .boolean) 1 := ⟨m468, m469, m25, m470, by decide +kernel, by decide +kernel, by decide +kernel⟩
def rmX0_isDigitAt : Room := { frames := 0, cells := 0, slots := 0, locals := 0 }
def f_X0_isDigitAt (tx : TxC) (av : Nat) : Bool :=
  (if av < 0 then false else (if av < (tL tx) then (if (tC tx av) < (nI 48) then false else (if (nI 57) < (tC tx av) then false else true)) else false))
set_option maxHeartbeats 4000000 in
set_option maxRecDepth 100000 in
theorem c_X0_isDigitAt {l : Launch} {dd : va_G} {t : CL4} {N : Nat} {ad : Nat → Nat} {V : Nat → va_E} {b : Nat} {tx : TxC}  (hp0 : TxP N ad V t b tx) (av : Nat) (h_at : av ≤ 60) : RM l dd t N ad V yX0_isDigitAt cX0_isDigitAt 2 (some .boolean) rmX0_isDigitAt [.ref (ad b), .int (nI av)] (b01 (f_X0_isDigitAt tx av)) := by
  refine RM.of (by decide +kernel) ⟨rfl, rfl⟩ (Nat.le_of_ble_eq_true rfl) (narB _) ?_
  intro p e s m as below meth c Q X H hP ls hl kr
  have X : WX p s m as c cX0_isDigitAt 2 RX0 dd t := X
  have hx := X.1.1
  have hb := X.1.2.1
  have hl : lv_has ls 2 [(0, .ref (ad b)), (1, .int (nI av))] := hl
  have hi0_0 := hp0.i0
  have hle0 := hp0.le
  refine lv_iload_n hx hb dX0_isDigitAt_0 rfl (lv_at hl 1 rfl) ?_
  refine z_lt (tgt := 38) hx hb (by omega) dX0_isDigitAt_1 (by decide) (fun c1 => ?_) (fun c1 => ?_)
  · refine lv_iconst (v := nI 0) hx hb dX0_isDigitAt_38 (by decide) ?_
    exact kr 39 ls _ (b_f (by rw [f_X0_isDigitAt, if_pos c1] <;> rfl)) dX0_isDigitAt_39
  · refine lv_iload_n hx hb dX0_isDigitAt_4 rfl (lv_at hl 1 rfl) ?_
    refine lv_aload_n hx hb dX0_isDigitAt_5 rfl (lv_at hl 0 rfl) ?_
    refine g_Tx_length X hP hp0 m78 dX0_isDigitAt_6 ?_
    refine q_ge (tgt := 38) hx hb (by omega) (by omega) dX0_isDigitAt_9 (by decide) (fun c2 => ?_) (fun c2 => ?_)
    · refine lv_iconst (v := nI 0) hx hb dX0_isDigitAt_38 (by decide) ?_
      exact kr 39 ls _ (b_f (by rw [f_X0_isDigitAt, if_neg (Nat.not_lt.mpr c1), if_neg (Nat.not_lt.mpr c2)] <;> rfl)) dX0_isDigitAt_39
    · refine lv_aload_n hx hb dX0_isDigitAt_12 rfl (lv_at hl 0 rfl) ?_
      refine g_Tx_characters X hP hp0 m77 dX0_isDigitAt_13 ?_
      refine lv_iload_n hx hb dX0_isDigitAt_16 rfl (lv_at hl 1 rfl) ?_
      refine l_Tx_characters X hP hp0 (by omega) dX0_isDigitAt_17 ?_
      refine lv_bipush (v := nI 48) hx hb dX0_isDigitAt_18 (by decide) ?_
      refine j_lt (tgt := 38) hx hb dX0_isDigitAt_20 (by decide) (fun c3 => ?_) (fun c3 => ?_)
      · refine lv_iconst (v := nI 0) hx hb dX0_isDigitAt_38 (by decide) ?_
        exact kr 39 ls _ (b_f (by rw [f_X0_isDigitAt, if_neg (Nat.not_lt.mpr c1), if_pos c2, if_pos c3] <;> rfl)) dX0_isDigitAt_39
      · refine lv_aload_n hx hb dX0_isDigitAt_23 rfl (lv_at hl 0 rfl) ?_
        refine g_Tx_characters X hP hp0 m77 dX0_isDigitAt_24 ?_
        refine lv_iload_n hx hb dX0_isDigitAt_27 rfl (lv_at hl 1 rfl) ?_
        refine l_Tx_characters X hP hp0 (by omega) dX0_isDigitAt_28 ?_
        refine lv_bipush (v := nI 57) hx hb dX0_isDigitAt_29 (by decide) ?_
        refine j_gt (tgt := 38) hx hb dX0_isDigitAt_31 (by decide) (fun c4 => ?_) (fun c4 => ?_)
        · refine lv_iconst (v := nI 0) hx hb dX0_isDigitAt_38 (by decide) ?_
          exact kr 39 ls _ (b_f (by rw [f_X0_isDigitAt, if_neg (Nat.not_lt.mpr c1), if_pos c2, if_neg c3, if_pos c4] <;> rfl)) dX0_isDigitAt_39
        · refine lv_iconst (v := nI 1) hx hb dX0_isDigitAt_34 (by decide) ?_
          refine lv_goto (tgt := 39) hx hb dX0_isDigitAt_35 (by decide) ?_
          exact kr 39 ls _ (b_t (by rw [f_X0_isDigitAt, if_neg (Nat.not_lt.mpr c1), if_pos c2, if_neg c3, if_neg c4] <;> rfl)) dX0_isDigitAt_39
theorem o_X0_isDigitAt : okV yX0_isDigitAt cX0_isDigitAt 2 (some .boolean) 1 := ⟨m472, m473, m25, m474, by decide +kernel, by decide +kernel, by decide +kernel⟩
theorem comma_lt {tx : TxC} {av : Nat} (h : f_X0_isCommaAt tx av = true) : av < tL tx := by
  unfold f_X0_isCommaAt at h
  by_cases c : av < tL tx
  · exact c
  · simp [c] at h
theorem digit_lt {tx : TxC} {av : Nat} (h : f_X0_isDigitAt tx av = true) : av < tL tx := by
  unfold f_X0_isDigitAt at h
  by_cases c : av < tL tx
  · exact c
  · simp [c] at h

def rmX0_digitAt : Room := { frames := 1, cells := 0, slots := 0, locals := 21 }
def f_X0_digitAt (tx : TxC) (av : Nat) : Int32 :=
  (if (f_X0_isDigitAt tx av) = true then (tC tx av) - (nI 48) else nI 0)
set_option maxHeartbeats 4000000 in
set_option maxRecDepth 100000 in
theorem c_X0_digitAt {l : Launch} {dd : va_G} {t : CL4} {N : Nat} {ad : Nat → Nat} {V : Nat → va_E} {b : Nat} {tx : TxC}  (hp0 : TxP N ad V t b tx) (av : Nat) (h_at : av ≤ 60) : RM l dd t N ad V yX0_digitAt cX0_digitAt 2 (some .int) rmX0_digitAt [.ref (ad b), .int (nI av)] (f_X0_digitAt tx av) := by
  refine RM.of (by decide +kernel) ⟨rfl, rfl⟩ (Nat.le_of_ble_eq_true rfl) (narI _) ?_
  intro p e s m as below meth c Q X H hP ls hl kr
  have X : WX p s m as c cX0_digitAt 2 RX0 dd t := X
  have hx := X.1.1
  have hb := X.1.2.1
  have hl : lv_has ls 2 [(0, .ref (ad b)), (1, .int (nI av))] := hl
  have hi0_0 := hp0.i0
  have hle0 := hp0.le
  refine lv_aload_n hx hb dX0_digitAt_0 rfl (lv_at hl 0 rfl) ?_
  refine lv_iload_n hx hb dX0_digitAt_1 rfl (lv_at hl 1 rfl) ?_
  refine r_call (As := [.int (nI av)]) (rest := []) (ci := 0) X hP (c_X0_isDigitAt hp0 av (by omega)) o_X0_isDigitAt rfl hp0.lt hp0.ob m471 ⟨rfl, rfl⟩ ⟨Nat.le_of_ble_eq_true rfl, Nat.le_of_ble_eq_true rfl⟩ rfl hl.1 rfl (Nat.le_of_ble_eq_true rfl) ⟨Nat.zero_le _, Nat.zero_le _⟩ dX0_digitAt_2 ?_
  refine q_eqB (tgt := 20) hx hb dX0_digitAt_5 (by decide) (fun c1 => ?_) (fun c1 => ?_)
  · refine lv_iconst (v := nI 0) hx hb dX0_digitAt_20 (by decide) ?_
    exact kr 21 ls _ (Eq.symm (by rw [f_X0_digitAt, if_neg (nt c1)] <;> rfl)) dX0_digitAt_21
  · have hdg := digit_lt c1
    refine lv_aload_n hx hb dX0_digitAt_8 rfl (lv_at hl 0 rfl) ?_
    refine g_Tx_characters X hP hp0 m77 dX0_digitAt_9 ?_
    refine lv_iload_n hx hb dX0_digitAt_12 rfl (lv_at hl 1 rfl) ?_
    refine l_Tx_characters X hP hp0 (by omega) dX0_digitAt_13 ?_
    refine lv_bipush (v := nI 48) hx hb dX0_digitAt_14 (by decide) ?_
    refine lv_isub hx hb dX0_digitAt_16 ?_
    refine lv_goto (tgt := 21) hx hb dX0_digitAt_17 (by decide) ?_
    exact kr 21 ls _ (Eq.symm (by rw [f_X0_digitAt, if_pos c1] <;> rfl)) dX0_digitAt_21
theorem o_X0_digitAt : okV yX0_digitAt cX0_digitAt 2 (some .int) 1 := ⟨m476, m477, m25, m478, by decide +kernel, by decide +kernel, by decide +kernel⟩
def rmX5_costOrNone : Room := { frames := 4, cells := 0, slots := 0, locals := 89 }
def f_X5_costOrNone (w : ZoC) (z : SoC) (x : PlC) (y : CuC) (plan : Int32) : Int32 :=
  (if plan = (-1) then (-5) else f_X3_costOf x plan)
set_option maxHeartbeats 4000000 in
set_option maxRecDepth 100000 in
theorem c_X5_costOrNone {l : Launch} {dd : va_G} {t : CL4} {N : Nat} {ad : Nat → Nat} {V : Nat → va_E} {b : Nat} {w : ZoC} {z : SoC} {x : PlC} {y : CuC}  (hp0 : ZoP N ad V t b w) (hp1 : SoP N ad V t (b + 1) z) (hp2 : PlP N ad V t (b + 2) x) (hp3 : CuP N ad V t (b + 14) y) (plan : Int32)  : RM l dd t N ad V yX5_costOrNone cX5_costOrNone 2 (some .int) rmX5_costOrNone [.ref (ad b), .int (plan)] (f_X5_costOrNone w z x y plan) := by
  refine RM.of (by decide +kernel) ⟨rfl, rfl⟩ (Nat.le_of_ble_eq_true rfl) (narI _) ?_
  intro p e s m as below meth c Q X H hP ls hl kr
  have X : WX p s m as c cX5_costOrNone 2 RX5 dd t := X
  have hx := X.1.1
  have hb := X.1.2.1
  have hl : lv_has ls 2 [(0, .ref (ad b)), (1, .int (plan))] := hl
  have hi2_0 := hp2.i0
  have hi2_1 := hp2.i1
  have hi3_0 := hp3.i0
  have hle0 := hp0.le
  have hle1 := hp1.le
  have hle2 := hp2.le
  have hle3 := hp3.le
  refine lv_iload_n hx hb dX5_costOrNone_0 rfl (lv_at hl 1 rfl) ?_
  refine lv_iconst (v := (-1)) hx hb dX5_costOrNone_1 (by decide) ?_
  refine lv_icmp_ne (tgt := 10) hx hb dX5_costOrNone_2 (by decide) (fun c1 => ?_) (fun c1 => ?_)
  · refine lv_aload_n hx hb dX5_costOrNone_10 rfl (lv_at hl 0 rfl) ?_
    refine g_Zo_now X hP hp0 m15 dX5_costOrNone_11 ?_
    refine g_So_places X hP hp1 m93 dX5_costOrNone_14 ?_
    refine lv_iload_n hx hb dX5_costOrNone_17 rfl (lv_at hl 1 rfl) ?_
    refine r_call (As := [.int (plan)]) (rest := []) (ci := 3) X hP (c_X3_costOf hp2 plan) o_X3_costOf rfl hp2.lt hp2.ob m631 ⟨rfl, rfl⟩ ⟨Nat.le_of_ble_eq_true rfl, Nat.le_of_ble_eq_true rfl⟩ rfl hl.1 rfl (Nat.le_of_ble_eq_true rfl) ⟨Nat.zero_le _, Nat.zero_le _⟩ dX5_costOrNone_18 ?_
    exact kr 21 ls _ (Eq.symm (by rw [f_X5_costOrNone, if_neg c1] <;> rfl)) dX5_costOrNone_21
  · refine lv_bipush (v := (-5)) hx hb dX5_costOrNone_5 (by decide) ?_
    refine lv_goto (tgt := 21) hx hb dX5_costOrNone_7 (by decide) ?_
    exact kr 21 ls _ (Eq.symm (by rw [f_X5_costOrNone, if_pos c1] <;> rfl)) dX5_costOrNone_21
theorem o_X5_costOrNone : okV yX5_costOrNone cX5_costOrNone 2 (some .int) 1 := ⟨m731, m732, m2, m733, by decide +kernel, by decide +kernel, by decide +kernel⟩
def rmX5_lowerBound : Room := { frames := 6, cells := 0, slots := 0, locals := 135 }
def f_X5_lowerBound (w : ZoC) (z : SoC) (x : PlC) (y : CuC) : Int32 :=
  (if (f_X4_findMasterPlan z x y) = (-1) then (-5) else f_X4_guessOf z x y (f_X4_findMasterPlan z x y))
set_option maxHeartbeats 4000000 in
set_option maxRecDepth 100000 in
theorem c_X5_lowerBound {l : Launch} {dd : va_G} {t : CL4} {N : Nat} {ad : Nat → Nat} {V : Nat → va_E} {b : Nat} {w : ZoC} {z : SoC} {x : PlC} {y : CuC}  (hp0 : ZoP N ad V t b w) (hp1 : SoP N ad V t (b + 1) z) (hp2 : PlP N ad V t (b + 2) x) (hp3 : CuP N ad V t (b + 14) y)   : RM l dd t N ad V yX5_lowerBound cX5_lowerBound 2 (some .int) rmX5_lowerBound [.ref (ad b)] (f_X5_lowerBound w z x y) := by
  refine RM.of (by decide +kernel) ⟨rfl, rfl⟩ (Nat.le_of_ble_eq_true rfl) (narI _) ?_
  intro p e s m as below meth c Q X H hP ls hl kr
  have X : WX p s m as c cX5_lowerBound 2 RX5 dd t := X
  have hx := X.1.1
  have hb := X.1.2.1
  have hl : lv_has ls 2 [(0, .ref (ad b))] := hl
  have hi2_0 := hp2.i0
  have hi2_1 := hp2.i1
  have hi3_0 := hp3.i0
  have hle0 := hp0.le
  have hle1 := hp1.le
  have hle2 := hp2.le
  have hle3 := hp3.le
  refine lv_aload_n hx hb dX5_lowerBound_0 rfl (lv_at hl 0 rfl) ?_
  refine g_Zo_now X hP hp0 m15 dX5_lowerBound_1 ?_
  refine r_call (As := []) (rest := []) (ci := 4) X hP (c_X4_findMasterPlan hp1 hp2 hp3) o_X4_findMasterPlan rfl hp1.lt hp1.ob m523 ⟨rfl, rfl⟩ ⟨Nat.le_of_ble_eq_true rfl, Nat.le_of_ble_eq_true rfl⟩ rfl hl.1 rfl (Nat.le_of_ble_eq_true rfl) ⟨Nat.zero_le _, Nat.zero_le _⟩ dX5_lowerBound_4 ?_
  refine lv_istore_n (lv' := [(1, .int (f_X4_findMasterPlan z x y)), (0, .ref (ad b))]) hx hb dX5_lowerBound_7 rfl hl (by decide) rfl (fun ls hl => ?_)
  refine lv_iload_n hx hb dX5_lowerBound_8 rfl (lv_at hl 0 rfl) ?_
  refine lv_iconst (v := (-1)) hx hb dX5_lowerBound_9 (by decide) ?_
  refine lv_icmp_ne (tgt := 18) hx hb dX5_lowerBound_10 (by decide) (fun c1 => ?_) (fun c1 => ?_)
  · refine lv_aload_n hx hb dX5_lowerBound_18 rfl (lv_at hl 1 rfl) ?_
    refine g_Zo_now X hP hp0 m15 dX5_lowerBound_19 ?_
    refine lv_iload_n hx hb dX5_lowerBound_22 rfl (lv_at hl 0 rfl) ?_
    refine r_call (As := [.int (f_X4_findMasterPlan z x y)]) (rest := []) (ci := 4) X hP (c_X4_guessOf hp1 hp2 hp3 (f_X4_findMasterPlan z x y)) o_X4_guessOf rfl hp1.lt hp1.ob m634 ⟨rfl, rfl⟩ ⟨Nat.le_of_ble_eq_true rfl, Nat.le_of_ble_eq_true rfl⟩ rfl hl.1 rfl (Nat.le_of_ble_eq_true rfl) ⟨Nat.zero_le _, Nat.zero_le _⟩ dX5_lowerBound_23 ?_
    exact kr 26 ls _ (Eq.symm (by rw [f_X5_lowerBound, if_neg c1] <;> rfl)) dX5_lowerBound_26
  · refine lv_bipush (v := (-5)) hx hb dX5_lowerBound_13 (by decide) ?_
    refine lv_goto (tgt := 26) hx hb dX5_lowerBound_15 (by decide) ?_
    exact kr 26 ls _ (Eq.symm (by rw [f_X5_lowerBound, if_pos c1] <;> rfl)) dX5_lowerBound_26
theorem o_X5_lowerBound : okV yX5_lowerBound cX5_lowerBound 2 (some .int) 0 := ⟨m727, m728, m2, m729, by decide +kernel, by decide +kernel, by decide +kernel⟩
def rmX5_gap : Room := { frames := 6, cells := 0, slots := 0, locals := 135 }
def f_X5_gap (w : ZoC) (z : SoC) (x : PlC) (y : CuC) : Int32 :=
  (if (f_X4_findMasterPlan z x y) = (-1) then (-5) else (if (uB z) = (-1) then (-5) else (f_X3_costOf x (uB z)) - (f_X4_guessOf z x y (f_X4_findMasterPlan z x y))))
set_option maxHeartbeats 4000000 in
set_option maxRecDepth 100000 in
theorem c_X5_gap {l : Launch} {dd : va_G} {t : CL4} {N : Nat} {ad : Nat → Nat} {V : Nat → va_E} {b : Nat} {w : ZoC} {z : SoC} {x : PlC} {y : CuC}  (hp0 : ZoP N ad V t b w) (hp1 : SoP N ad V t (b + 1) z) (hp2 : PlP N ad V t (b + 2) x) (hp3 : CuP N ad V t (b + 14) y)   : RM l dd t N ad V yX5_gap cX5_gap 2 (some .int) rmX5_gap [.ref (ad b)] (f_X5_gap w z x y) := by
  refine RM.of (by decide +kernel) ⟨rfl, rfl⟩ (Nat.le_of_ble_eq_true rfl) (narI _) ?_
  intro p e s m as below meth c Q X H hP ls hl kr
  have X : WX p s m as c cX5_gap 2 RX5 dd t := X
  have hx := X.1.1
  have hb := X.1.2.1
  have hl : lv_has ls 2 [(0, .ref (ad b))] := hl
  have hi2_0 := hp2.i0
  have hi2_1 := hp2.i1
  have hi3_0 := hp3.i0
  have hle0 := hp0.le
  have hle1 := hp1.le
  have hle2 := hp2.le
  have hle3 := hp3.le
  refine lv_aload_n hx hb dX5_gap_0 rfl (lv_at hl 0 rfl) ?_
  refine g_Zo_now X hP hp0 m15 dX5_gap_1 ?_
  refine r_call (As := []) (rest := []) (ci := 4) X hP (c_X4_findMasterPlan hp1 hp2 hp3) o_X4_findMasterPlan rfl hp1.lt hp1.ob m523 ⟨rfl, rfl⟩ ⟨Nat.le_of_ble_eq_true rfl, Nat.le_of_ble_eq_true rfl⟩ rfl hl.1 rfl (Nat.le_of_ble_eq_true rfl) ⟨Nat.zero_le _, Nat.zero_le _⟩ dX5_gap_4 ?_
  refine lv_istore_n (lv' := [(1, .int (f_X4_findMasterPlan z x y)), (0, .ref (ad b))]) hx hb dX5_gap_7 rfl hl (by decide) rfl (fun ls hl => ?_)
  refine lv_iload_n hx hb dX5_gap_8 rfl (lv_at hl 0 rfl) ?_
  refine lv_iconst (v := (-1)) hx hb dX5_gap_9 (by decide) ?_
  refine lv_icmp_eq (tgt := 24) hx hb dX5_gap_10 (by decide) (fun c1 => ?_) (fun c1 => ?_)
  · refine lv_bipush (v := (-5)) hx hb dX5_gap_24 (by decide) ?_
    exact kr 26 ls _ (Eq.symm (by rw [f_X5_gap, if_pos c1] <;> rfl)) dX5_gap_26
  · refine lv_aload_n hx hb dX5_gap_13 rfl (lv_at hl 1 rfl) ?_
    refine g_Zo_now X hP hp0 m15 dX5_gap_14 ?_
    refine g_So_best X hP hp1 m722 dX5_gap_17 ?_
    refine lv_iconst (v := (-1)) hx hb dX5_gap_20 (by decide) ?_
    refine lv_icmp_ne (tgt := 27) hx hb dX5_gap_21 (by decide) (fun c2 => ?_) (fun c2 => ?_)
    · refine lv_aload_n hx hb dX5_gap_27 rfl (lv_at hl 1 rfl) ?_
      refine g_Zo_now X hP hp0 m15 dX5_gap_28 ?_
      refine g_So_places X hP hp1 m93 dX5_gap_31 ?_
      refine lv_aload_n hx hb dX5_gap_34 rfl (lv_at hl 1 rfl) ?_
      refine g_Zo_now X hP hp0 m15 dX5_gap_35 ?_
      refine g_So_best X hP hp1 m722 dX5_gap_38 ?_
      refine r_call (As := [.int (uB z)]) (rest := []) (ci := 3) X hP (c_X3_costOf hp2 (uB z)) o_X3_costOf rfl hp2.lt hp2.ob m631 ⟨rfl, rfl⟩ ⟨Nat.le_of_ble_eq_true rfl, Nat.le_of_ble_eq_true rfl⟩ rfl hl.1 rfl (Nat.le_of_ble_eq_true rfl) ⟨Nat.zero_le _, Nat.zero_le _⟩ dX5_gap_41 ?_
      refine lv_aload_n hx hb dX5_gap_44 rfl (lv_at hl 1 rfl) ?_
      refine g_Zo_now X hP hp0 m15 dX5_gap_45 ?_
      refine lv_iload_n hx hb dX5_gap_48 rfl (lv_at hl 0 rfl) ?_
      refine r_call (As := [.int (f_X4_findMasterPlan z x y)]) (rest := [.int (f_X3_costOf x (uB z))]) (ci := 4) X hP (c_X4_guessOf hp1 hp2 hp3 (f_X4_findMasterPlan z x y)) o_X4_guessOf rfl hp1.lt hp1.ob m634 ⟨rfl, rfl⟩ ⟨Nat.le_of_ble_eq_true rfl, Nat.le_of_ble_eq_true rfl⟩ rfl hl.1 rfl (Nat.le_of_ble_eq_true rfl) ⟨Nat.zero_le _, Nat.zero_le _⟩ dX5_gap_49 ?_
      refine lv_isub hx hb dX5_gap_52 ?_
      exact kr 53 ls _ (Eq.symm (by rw [f_X5_gap, if_neg c1, if_neg c2] <;> rfl)) dX5_gap_53
    · refine lv_bipush (v := (-5)) hx hb dX5_gap_24 (by decide) ?_
      exact kr 26 ls _ (Eq.symm (by rw [f_X5_gap, if_neg c1, if_pos c2] <;> rfl)) dX5_gap_26
theorem o_X5_gap : okV yX5_gap cX5_gap 2 (some .int) 0 := ⟨m735, m736, m2, m737, by decide +kernel, by decide +kernel, by decide +kernel⟩
def rmX5_judge : Room := { frames := 5, cells := 0, slots := 0, locals := 109 }
def f_X5_judge (w : ZoC) (z : SoC) (x : PlC) (y : CuC) (plan : Int32) : Int32 :=
  (if (f_X3_isPlan x plan) = true then f_X3_verdictOf x plan else (-2))
set_option maxHeartbeats 4000000 in
set_option maxRecDepth 100000 in
theorem c_X5_judge {l : Launch} {dd : va_G} {t : CL4} {N : Nat} {ad : Nat → Nat} {V : Nat → va_E} {b : Nat} {w : ZoC} {z : SoC} {x : PlC} {y : CuC}  (hp0 : ZoP N ad V t b w) (hp1 : SoP N ad V t (b + 1) z) (hp2 : PlP N ad V t (b + 2) x) (hp3 : CuP N ad V t (b + 14) y) (plan : Int32)  : RM l dd t N ad V yX5_judge cX5_judge 2 (some .int) rmX5_judge [.ref (ad b), .int (plan)] (f_X5_judge w z x y plan) := by
  refine RM.of (by decide +kernel) ⟨rfl, rfl⟩ (Nat.le_of_ble_eq_true rfl) (narI _) ?_
  intro p e s m as below meth c Q X H hP ls hl kr
  have X : WX p s m as c cX5_judge 2 RX5 dd t := X
  have hx := X.1.1
  have hb := X.1.2.1
  have hl : lv_has ls 2 [(0, .ref (ad b)), (1, .int (plan))] := hl
  have hi2_0 := hp2.i0
  have hi2_1 := hp2.i1
  have hi3_0 := hp3.i0
  have hle0 := hp0.le
  have hle1 := hp1.le
  have hle2 := hp2.le
  have hle3 := hp3.le
  refine lv_aload_n hx hb dX5_judge_0 rfl (lv_at hl 0 rfl) ?_
  refine g_Zo_now X hP hp0 m15 dX5_judge_1 ?_
  refine g_So_places X hP hp1 m93 dX5_judge_4 ?_
  refine lv_iload_n hx hb dX5_judge_7 rfl (lv_at hl 1 rfl) ?_
  refine r_call (As := [.int (plan)]) (rest := []) (ci := 3) X hP (c_X3_isPlan hp2 plan) o_X3_isPlan rfl hp2.lt hp2.ob m604 ⟨rfl, rfl⟩ ⟨Nat.le_of_ble_eq_true rfl, Nat.le_of_ble_eq_true rfl⟩ rfl hl.1 rfl (Nat.le_of_ble_eq_true rfl) ⟨Nat.zero_le _, Nat.zero_le _⟩ dX5_judge_8 ?_
  refine q_neB (tgt := 17) hx hb dX5_judge_11 (by decide) (fun c1 => ?_) (fun c1 => ?_)
  · refine lv_aload_n hx hb dX5_judge_17 rfl (lv_at hl 0 rfl) ?_
    refine g_Zo_now X hP hp0 m15 dX5_judge_18 ?_
    refine g_So_places X hP hp1 m93 dX5_judge_21 ?_
    refine lv_iload_n hx hb dX5_judge_24 rfl (lv_at hl 1 rfl) ?_
    refine r_call (As := [.int (plan)]) (rest := []) (ci := 3) X hP (c_X3_verdictOf hp2 plan) o_X3_verdictOf rfl hp2.lt hp2.ob m609 ⟨rfl, rfl⟩ ⟨Nat.le_of_ble_eq_true rfl, Nat.le_of_ble_eq_true rfl⟩ rfl hl.1 rfl (Nat.le_of_ble_eq_true rfl) ⟨Nat.zero_le _, Nat.zero_le _⟩ dX5_judge_25 ?_
    exact kr 28 ls _ (Eq.symm (by rw [f_X5_judge, if_pos c1] <;> rfl)) dX5_judge_28
  · refine lv_bipush (v := (-2)) hx hb dX5_judge_14 (by decide) ?_
    exact kr 16 ls _ (Eq.symm (by rw [f_X5_judge, if_neg (nt c1)] <;> rfl)) dX5_judge_16
theorem o_X5_judge : okV yX5_judge cX5_judge 2 (some .int) 1 := ⟨m601, m602, m2, m603, by decide +kernel, by decide +kernel, by decide +kernel⟩
def rmX5_plan : Room := { frames := 5, cells := 0, slots := 0, locals := 111 }
def f_X5_plan (w : ZoC) (z : SoC) (x : PlC) (y : CuC) (plan : Int32) (what : Int32) : Int32 :=
  (if (f_X3_isPlan x plan) = true then (if what < 0 then (-2) else (if (nI 4) < what then (-2) else (if what = 0 then (if (f_X3_reachesAll x plan) = true then f_X3_costOf x plan else (-4)) else (if what = (nI 2) then (if (f_X3_reachesAll x plan) = true then (if what = (nI 1) then f_X3_sitePricesOf x plan else f_X3_routeCostOf x plan) else (-4)) else (if what = (nI 1) then f_X3_sitePricesOf x plan else (if what = (nI 3) then f_X4_guessOf z x y plan else f_X1_countMissedRays y plan)))))) else (-2))
set_option maxHeartbeats 4000000 in
set_option maxRecDepth 100000 in
theorem c_X5_plan {l : Launch} {dd : va_G} {t : CL4} {N : Nat} {ad : Nat → Nat} {V : Nat → va_E} {b : Nat} {w : ZoC} {z : SoC} {x : PlC} {y : CuC}  (hp0 : ZoP N ad V t b w) (hp1 : SoP N ad V t (b + 1) z) (hp2 : PlP N ad V t (b + 2) x) (hp3 : CuP N ad V t (b + 14) y) (plan : Int32) (what : Int32)  : RM l dd t N ad V yX5_plan cX5_plan 4 (some .int) rmX5_plan [.ref (ad b), .int (plan), .int (what)] (f_X5_plan w z x y plan what) := by
  refine RM.of (by decide +kernel) ⟨rfl, rfl⟩ (Nat.le_of_ble_eq_true rfl) (narI _) ?_
  intro p e s m as below meth c Q X H hP ls hl kr
  have X : WX p s m as c cX5_plan 4 RX5 dd t := X
  have hx := X.1.1
  have hb := X.1.2.1
  have hl : lv_has ls 4 [(0, .ref (ad b)), (1, .int (plan)), (2, .int (what))] := hl
  have hi2_0 := hp2.i0
  have hi2_1 := hp2.i1
  have hi3_0 := hp3.i0
  have hle0 := hp0.le
  have hle1 := hp1.le
  have hle2 := hp2.le
  have hle3 := hp3.le
  refine lv_aload_n hx hb dX5_plan_0 rfl (lv_at hl 0 rfl) ?_
  refine g_Zo_now X hP hp0 m15 dX5_plan_1 ?_
  refine g_So_places X hP hp1 m93 dX5_plan_4 ?_
  refine lv_iload_n hx hb dX5_plan_7 rfl (lv_at hl 1 rfl) ?_
  refine r_call (As := [.int (plan)]) (rest := []) (ci := 3) X hP (c_X3_isPlan hp2 plan) o_X3_isPlan rfl hp2.lt hp2.ob m604 ⟨rfl, rfl⟩ ⟨Nat.le_of_ble_eq_true rfl, Nat.le_of_ble_eq_true rfl⟩ rfl hl.1 rfl (Nat.le_of_ble_eq_true rfl) ⟨Nat.zero_le _, Nat.zero_le _⟩ dX5_plan_8 ?_
  refine q_eqB (tgt := 23) hx hb dX5_plan_11 (by decide) (fun c1 => ?_) (fun c1 => ?_)
  · refine lv_bipush (v := (-2)) hx hb dX5_plan_23 (by decide) ?_
    exact kr 25 ls _ (Eq.symm (by rw [f_X5_plan, if_neg (nt c1)] <;> rfl)) dX5_plan_25
  · refine lv_iload_n hx hb dX5_plan_14 rfl (lv_at hl 2 rfl) ?_
    refine u_lt (tgt := 23) hx hb dX5_plan_15 (by decide) (fun c2 => ?_) (fun c2 => ?_)
    · refine lv_bipush (v := (-2)) hx hb dX5_plan_23 (by decide) ?_
      exact kr 25 ls _ (Eq.symm (by rw [f_X5_plan, if_pos c1, if_pos c2] <;> rfl)) dX5_plan_25
    · refine lv_iload_n hx hb dX5_plan_18 rfl (lv_at hl 2 rfl) ?_
      refine lv_iconst (v := nI 4) hx hb dX5_plan_19 (by decide) ?_
      refine j_le (tgt := 26) hx hb dX5_plan_20 (by decide) (fun c3 => ?_) (fun c3 => ?_)
      · refine lv_iload_n hx hb dX5_plan_26 rfl (lv_at hl 2 rfl) ?_
        refine lv_if_eq (tgt := 35) hx hb dX5_plan_27 (by decide) (fun c4 => ?_) (fun c4 => ?_)
        · refine lv_iconst (v := nI 1) hx hb dX5_plan_35 (by decide) ?_
          refine lv_goto (tgt := 40) hx hb dX5_plan_36 (by decide) ?_
          refine lv_istore_n (lv' := [(3, .int (nI 1)), (0, .ref (ad b)), (1, .int (plan)), (2, .int (what))]) hx hb dX5_plan_40 rfl hl (by decide) rfl (fun ls hl => ?_)
          refine lv_iload_n hx hb dX5_plan_41 rfl (lv_at hl 0 rfl) ?_
          refine z_eq (tgt := 62) hx hb (by omega) dX5_plan_42 (by decide) (fun h => absurd h (by omega)) (fun c5 => ?_)
          refine lv_aload_n hx hb dX5_plan_45 rfl (lv_at hl 1 rfl) ?_
          refine g_Zo_now X hP hp0 m15 dX5_plan_46 ?_
          refine g_So_places X hP hp1 m93 dX5_plan_49 ?_
          refine lv_iload_n hx hb dX5_plan_52 rfl (lv_at hl 2 rfl) ?_
          refine r_call (As := [.int (plan)]) (rest := []) (ci := 3) X hP (c_X3_reachesAll hp2 plan) o_X3_reachesAll rfl hp2.lt hp2.ob m630 ⟨rfl, rfl⟩ ⟨Nat.le_of_ble_eq_true rfl, Nat.le_of_ble_eq_true rfl⟩ rfl hl.1 rfl (Nat.le_of_ble_eq_true rfl) ⟨Nat.zero_le _, Nat.zero_le _⟩ dX5_plan_53 ?_
          refine q_neB (tgt := 62) hx hb dX5_plan_56 (by decide) (fun c6 => ?_) (fun c6 => ?_)
          · refine lv_iload_n hx hb dX5_plan_62 rfl (lv_at hl 3 rfl) ?_
            refine lv_tableIn (tgt := 92) hx hb dX5_plan_63 (by rw [c4]; decide) (by rw [c4]; decide) (by rw [c4]; rfl) (by decide) ?_
            refine lv_aload_n hx hb dX5_plan_92 rfl (lv_at hl 1 rfl) ?_
            refine g_Zo_now X hP hp0 m15 dX5_plan_93 ?_
            refine g_So_places X hP hp1 m93 dX5_plan_96 ?_
            refine lv_iload_n hx hb dX5_plan_99 rfl (lv_at hl 2 rfl) ?_
            refine r_call (As := [.int (plan)]) (rest := []) (ci := 3) X hP (c_X3_costOf hp2 plan) o_X3_costOf rfl hp2.lt hp2.ob m631 ⟨rfl, rfl⟩ ⟨Nat.le_of_ble_eq_true rfl, Nat.le_of_ble_eq_true rfl⟩ rfl hl.1 rfl (Nat.le_of_ble_eq_true rfl) ⟨Nat.zero_le _, Nat.zero_le _⟩ dX5_plan_100 ?_
            exact kr 103 ls _ (Eq.symm (by rw [f_X5_plan, if_pos c1, if_neg c2, if_neg c3, if_pos c4, if_pos c6] <;> rfl)) dX5_plan_103
          · refine lv_bipush (v := (-4)) hx hb dX5_plan_59 (by decide) ?_
            exact kr 61 ls _ (Eq.symm (by rw [f_X5_plan, if_pos c1, if_neg c2, if_neg c3, if_pos c4, if_neg (nt c6)] <;> rfl)) dX5_plan_61
        · refine lv_iload_n hx hb dX5_plan_30 rfl (lv_at hl 2 rfl) ?_
          refine lv_iconst (v := nI 2) hx hb dX5_plan_31 (by decide) ?_
          refine lv_icmp_ne (tgt := 39) hx hb dX5_plan_32 (by decide) (fun c7 => ?_) (fun c7 => ?_)
          · refine lv_iconst (v := nI 0) hx hb dX5_plan_39 (by decide) ?_
            refine lv_istore_n (lv' := [(3, .int (nI 0)), (0, .ref (ad b)), (1, .int (plan)), (2, .int (what))]) hx hb dX5_plan_40 rfl hl (by decide) rfl (fun ls hl => ?_)
            refine lv_iload_n hx hb dX5_plan_41 rfl (lv_at hl 0 rfl) ?_
            refine z_eq (tgt := 62) hx hb (by omega) dX5_plan_42 (by decide) (fun c8 => ?_) (fun h => absurd h (by omega))
            refine lv_iload_n hx hb dX5_plan_62 rfl (lv_at hl 3 rfl) ?_
            by_cases c9 : what = (nI 1)
            · refine lv_tableIn (tgt := 104) hx hb dX5_plan_63 (by rw [c9]; decide) (by rw [c9]; decide) (by rw [c9]; rfl) (by decide) ?_
              refine lv_aload_n hx hb dX5_plan_104 rfl (lv_at hl 1 rfl) ?_
              refine g_Zo_now X hP hp0 m15 dX5_plan_105 ?_
              refine g_So_places X hP hp1 m93 dX5_plan_108 ?_
              refine lv_iload_n hx hb dX5_plan_111 rfl (lv_at hl 2 rfl) ?_
              refine r_call (As := [.int (plan)]) (rest := []) (ci := 3) X hP (c_X3_sitePricesOf hp2 plan) o_X3_sitePricesOf rfl hp2.lt hp2.ob m632 ⟨rfl, rfl⟩ ⟨Nat.le_of_ble_eq_true rfl, Nat.le_of_ble_eq_true rfl⟩ rfl hl.1 rfl (Nat.le_of_ble_eq_true rfl) ⟨Nat.zero_le _, Nat.zero_le _⟩ dX5_plan_112 ?_
              exact kr 115 ls _ (Eq.symm (by rw [f_X5_plan, if_pos c1, if_neg c2, if_neg c3, if_neg c4, if_neg c7, if_pos c9] <;> rfl)) dX5_plan_115
            · by_cases c10 : what = (nI 3)
              · refine lv_tableIn (tgt := 128) hx hb dX5_plan_63 (by rw [c10]; decide) (by rw [c10]; decide) (by rw [c10]; rfl) (by decide) ?_
                refine lv_aload_n hx hb dX5_plan_128 rfl (lv_at hl 1 rfl) ?_
                refine g_Zo_now X hP hp0 m15 dX5_plan_129 ?_
                refine lv_iload_n hx hb dX5_plan_132 rfl (lv_at hl 2 rfl) ?_
                refine r_call (As := [.int (plan)]) (rest := []) (ci := 4) X hP (c_X4_guessOf hp1 hp2 hp3 plan) o_X4_guessOf rfl hp1.lt hp1.ob m634 ⟨rfl, rfl⟩ ⟨Nat.le_of_ble_eq_true rfl, Nat.le_of_ble_eq_true rfl⟩ rfl hl.1 rfl (Nat.le_of_ble_eq_true rfl) ⟨Nat.zero_le _, Nat.zero_le _⟩ dX5_plan_133 ?_
                exact kr 136 ls _ (Eq.symm (by rw [f_X5_plan, if_pos c1, if_neg c2, if_neg c3, if_neg c4, if_neg c7, if_neg c9, if_pos c10] <;> rfl)) dX5_plan_136
              · refine lv_tableOut (tgt := 137) hx hb dX5_plan_63 (sw_out3 c4 c9 c7 c10) (by decide) ?_
                refine lv_aload_n hx hb dX5_plan_137 rfl (lv_at hl 1 rfl) ?_
                refine g_Zo_now X hP hp0 m15 dX5_plan_138 ?_
                refine g_So_cuts X hP hp1 m446 dX5_plan_141 ?_
                refine lv_iload_n hx hb dX5_plan_144 rfl (lv_at hl 2 rfl) ?_
                refine r_call (As := [.int (plan)]) (rest := []) (ci := 1) X hP (c_X1_countMissedRays hp3 plan) o_X1_countMissedRays rfl hp3.lt hp3.ob m635 ⟨rfl, rfl⟩ ⟨Nat.le_of_ble_eq_true rfl, Nat.le_of_ble_eq_true rfl⟩ rfl hl.1 rfl (Nat.le_of_ble_eq_true rfl) ⟨Nat.zero_le _, Nat.zero_le _⟩ dX5_plan_145 ?_
                exact kr 148 ls _ (Eq.symm (by rw [f_X5_plan, if_pos c1, if_neg c2, if_neg c3, if_neg c4, if_neg c7, if_neg c9, if_neg c10] <;> rfl)) dX5_plan_148
          · refine lv_iconst (v := nI 1) hx hb dX5_plan_35 (by decide) ?_
            refine lv_goto (tgt := 40) hx hb dX5_plan_36 (by decide) ?_
            refine lv_istore_n (lv' := [(3, .int (nI 1)), (0, .ref (ad b)), (1, .int (plan)), (2, .int (what))]) hx hb dX5_plan_40 rfl hl (by decide) rfl (fun ls hl => ?_)
            refine lv_iload_n hx hb dX5_plan_41 rfl (lv_at hl 0 rfl) ?_
            refine z_eq (tgt := 62) hx hb (by omega) dX5_plan_42 (by decide) (fun h => absurd h (by omega)) (fun c11 => ?_)
            refine lv_aload_n hx hb dX5_plan_45 rfl (lv_at hl 1 rfl) ?_
            refine g_Zo_now X hP hp0 m15 dX5_plan_46 ?_
            refine g_So_places X hP hp1 m93 dX5_plan_49 ?_
            refine lv_iload_n hx hb dX5_plan_52 rfl (lv_at hl 2 rfl) ?_
            refine r_call (As := [.int (plan)]) (rest := []) (ci := 3) X hP (c_X3_reachesAll hp2 plan) o_X3_reachesAll rfl hp2.lt hp2.ob m630 ⟨rfl, rfl⟩ ⟨Nat.le_of_ble_eq_true rfl, Nat.le_of_ble_eq_true rfl⟩ rfl hl.1 rfl (Nat.le_of_ble_eq_true rfl) ⟨Nat.zero_le _, Nat.zero_le _⟩ dX5_plan_53 ?_
            refine q_neB (tgt := 62) hx hb dX5_plan_56 (by decide) (fun c12 => ?_) (fun c12 => ?_)
            · refine lv_iload_n hx hb dX5_plan_62 rfl (lv_at hl 3 rfl) ?_
              by_cases c13 : what = (nI 1)
              · refine lv_tableIn (tgt := 104) hx hb dX5_plan_63 (by rw [c13]; decide) (by rw [c13]; decide) (by rw [c13]; rfl) (by decide) ?_
                refine lv_aload_n hx hb dX5_plan_104 rfl (lv_at hl 1 rfl) ?_
                refine g_Zo_now X hP hp0 m15 dX5_plan_105 ?_
                refine g_So_places X hP hp1 m93 dX5_plan_108 ?_
                refine lv_iload_n hx hb dX5_plan_111 rfl (lv_at hl 2 rfl) ?_
                refine r_call (As := [.int (plan)]) (rest := []) (ci := 3) X hP (c_X3_sitePricesOf hp2 plan) o_X3_sitePricesOf rfl hp2.lt hp2.ob m632 ⟨rfl, rfl⟩ ⟨Nat.le_of_ble_eq_true rfl, Nat.le_of_ble_eq_true rfl⟩ rfl hl.1 rfl (Nat.le_of_ble_eq_true rfl) ⟨Nat.zero_le _, Nat.zero_le _⟩ dX5_plan_112 ?_
                exact kr 115 ls _ (Eq.symm (by rw [f_X5_plan, if_pos c1, if_neg c2, if_neg c3, if_neg c4, if_pos c7, if_pos c12, if_pos c13] <;> rfl)) dX5_plan_115
              · refine lv_tableIn (tgt := 116) hx hb dX5_plan_63 (by rw [c7]; decide) (by rw [c7]; decide) (by rw [c7]; rfl) (by decide) ?_
                refine lv_aload_n hx hb dX5_plan_116 rfl (lv_at hl 1 rfl) ?_
                refine g_Zo_now X hP hp0 m15 dX5_plan_117 ?_
                refine g_So_places X hP hp1 m93 dX5_plan_120 ?_
                refine lv_iload_n hx hb dX5_plan_123 rfl (lv_at hl 2 rfl) ?_
                refine r_call (As := [.int (plan)]) (rest := []) (ci := 3) X hP (c_X3_routeCostOf hp2 plan) o_X3_routeCostOf rfl hp2.lt hp2.ob m633 ⟨rfl, rfl⟩ ⟨Nat.le_of_ble_eq_true rfl, Nat.le_of_ble_eq_true rfl⟩ rfl hl.1 rfl (Nat.le_of_ble_eq_true rfl) ⟨Nat.zero_le _, Nat.zero_le _⟩ dX5_plan_124 ?_
                exact kr 127 ls _ (Eq.symm (by rw [f_X5_plan, if_pos c1, if_neg c2, if_neg c3, if_neg c4, if_pos c7, if_pos c12, if_neg c13] <;> rfl)) dX5_plan_127
            · refine lv_bipush (v := (-4)) hx hb dX5_plan_59 (by decide) ?_
              exact kr 61 ls _ (Eq.symm (by rw [f_X5_plan, if_pos c1, if_neg c2, if_neg c3, if_neg c4, if_pos c7, if_neg (nt c12)] <;> rfl)) dX5_plan_61
      · refine lv_bipush (v := (-2)) hx hb dX5_plan_23 (by decide) ?_
        exact kr 25 ls _ (Eq.symm (by rw [f_X5_plan, if_pos c1, if_neg c2, if_pos c3] <;> rfl)) dX5_plan_25
theorem o_X5_plan : okV yX5_plan cX5_plan 4 (some .int) 2 := ⟨m627, m628, m2, m629, by decide +kernel, by decide +kernel, by decide +kernel⟩
def rmX5_serves : Room := { frames := 3, cells := 0, slots := 0, locals := 69 }
def f_X5_serves (w : ZoC) (z : SoC) (x : PlC) (y : CuC) (plan : Int32) (customer : Int32) : Int32 :=
  (if (f_X3_isPlan x plan) = true then (if (f_X3_isCustomer x customer) = true then (if (f_X3_cheapestSite x plan (tn customer)) = (-1) then (-5) else f_X3_cheapestSite x plan (tn customer)) else (-1)) else (-2))
set_option maxHeartbeats 4000000 in
set_option maxRecDepth 100000 in
theorem c_X5_serves {l : Launch} {dd : va_G} {t : CL4} {N : Nat} {ad : Nat → Nat} {V : Nat → va_E} {b : Nat} {w : ZoC} {z : SoC} {x : PlC} {y : CuC}  (hp0 : ZoP N ad V t b w) (hp1 : SoP N ad V t (b + 1) z) (hp2 : PlP N ad V t (b + 2) x) (hp3 : CuP N ad V t (b + 14) y) (plan : Int32) (customer : Int32)  : RM l dd t N ad V yX5_serves cX5_serves 4 (some .int) rmX5_serves [.ref (ad b), .int (plan), .int (customer)] (f_X5_serves w z x y plan customer) := by
  refine RM.of (by decide +kernel) ⟨rfl, rfl⟩ (Nat.le_of_ble_eq_true rfl) (narI _) ?_
  intro p e s m as below meth c Q X H hP ls hl kr
  have X : WX p s m as c cX5_serves 4 RX5 dd t := X
  have hx := X.1.1
  have hb := X.1.2.1
  have hl : lv_has ls 4 [(0, .ref (ad b)), (1, .int (plan)), (2, .int (customer))] := hl
  have hi2_0 := hp2.i0
  have hi2_1 := hp2.i1
  have hi3_0 := hp3.i0
  have hle0 := hp0.le
  have hle1 := hp1.le
  have hle2 := hp2.le
  have hle3 := hp3.le
  refine lv_aload_n hx hb dX5_serves_0 rfl (lv_at hl 0 rfl) ?_
  refine g_Zo_now X hP hp0 m15 dX5_serves_1 ?_
  refine g_So_places X hP hp1 m93 dX5_serves_4 ?_
  refine lv_iload_n hx hb dX5_serves_7 rfl (lv_at hl 1 rfl) ?_
  refine r_call (As := [.int (plan)]) (rest := []) (ci := 3) X hP (c_X3_isPlan hp2 plan) o_X3_isPlan rfl hp2.lt hp2.ob m604 ⟨rfl, rfl⟩ ⟨Nat.le_of_ble_eq_true rfl, Nat.le_of_ble_eq_true rfl⟩ rfl hl.1 rfl (Nat.le_of_ble_eq_true rfl) ⟨Nat.zero_le _, Nat.zero_le _⟩ dX5_serves_8 ?_
  refine q_neB (tgt := 17) hx hb dX5_serves_11 (by decide) (fun c1 => ?_) (fun c1 => ?_)
  · refine lv_aload_n hx hb dX5_serves_17 rfl (lv_at hl 0 rfl) ?_
    refine g_Zo_now X hP hp0 m15 dX5_serves_18 ?_
    refine g_So_places X hP hp1 m93 dX5_serves_21 ?_
    refine lv_iload_n hx hb dX5_serves_24 rfl (lv_at hl 2 rfl) ?_
    refine r_call (As := [.int (customer)]) (rest := []) (ci := 3) X hP (c_X3_isCustomer hp2 customer) o_X3_isCustomer rfl hp2.lt hp2.ob m201 ⟨rfl, rfl⟩ ⟨Nat.le_of_ble_eq_true rfl, Nat.le_of_ble_eq_true rfl⟩ rfl hl.1 rfl (Nat.le_of_ble_eq_true rfl) ⟨Nat.zero_le _, Nat.zero_le _⟩ dX5_serves_25 ?_
    refine q_neB (tgt := 33) hx hb dX5_serves_28 (by decide) (fun c2 => ?_) (fun c2 => ?_)
    · have hr3 := isCust_n c2 (by omega)
      have hr3b := hr3.2
      refine lv_aload_n hx hb dX5_serves_33 rfl (lv_at hl 0 rfl) ?_
      refine g_Zo_now X hP hp0 m15 dX5_serves_34 ?_
      refine g_So_places X hP hp1 m93 dX5_serves_37 ?_
      refine lv_iload_n hx hb dX5_serves_40 rfl (lv_at hl 1 rfl) ?_
      refine lv_iload_n hx hb dX5_serves_41 rfl (lv_at hl 2 rfl) ?_
      refine q_val (hr3.1 : customer = nI (tn customer)) ?_
      refine r_call (As := [.int (plan), .int (nI (tn customer))]) (rest := []) (ci := 3) X hP (c_X3_cheapestSite hp2 plan (tn customer) (by omega)) o_X3_cheapestSite rfl hp2.lt hp2.ob m644 ⟨rfl, rfl⟩ ⟨Nat.le_of_ble_eq_true rfl, Nat.le_of_ble_eq_true rfl⟩ rfl hl.1 rfl (Nat.le_of_ble_eq_true rfl) ⟨Nat.zero_le _, Nat.zero_le _⟩ dX5_serves_42 ?_
      refine lv_istore_n (lv' := [(3, .int (f_X3_cheapestSite x plan (tn customer))), (0, .ref (ad b)), (1, .int (plan)), (2, .int (customer))]) hx hb dX5_serves_45 rfl hl (by decide) rfl (fun ls hl => ?_)
      refine lv_iload_n hx hb dX5_serves_46 rfl (lv_at hl 0 rfl) ?_
      refine lv_iconst (v := (-1)) hx hb dX5_serves_47 (by decide) ?_
      refine lv_icmp_ne (tgt := 56) hx hb dX5_serves_48 (by decide) (fun c4 => ?_) (fun c4 => ?_)
      · refine lv_iload_n hx hb dX5_serves_56 rfl (lv_at hl 0 rfl) ?_
        exact kr 57 ls _ (Eq.symm (by rw [f_X5_serves, if_pos c1, if_pos c2, if_neg c4] <;> rfl)) dX5_serves_57
      · refine lv_bipush (v := (-5)) hx hb dX5_serves_51 (by decide) ?_
        refine lv_goto (tgt := 57) hx hb dX5_serves_53 (by decide) ?_
        exact kr 57 ls _ (Eq.symm (by rw [f_X5_serves, if_pos c1, if_pos c2, if_pos c4] <;> rfl)) dX5_serves_57
    · refine lv_iconst (v := (-1)) hx hb dX5_serves_31 (by decide) ?_
      exact kr 32 ls _ (Eq.symm (by rw [f_X5_serves, if_pos c1, if_neg (nt c2)] <;> rfl)) dX5_serves_32
  · refine lv_bipush (v := (-2)) hx hb dX5_serves_14 (by decide) ?_
    exact kr 16 ls _ (Eq.symm (by rw [f_X5_serves, if_neg (nt c1)] <;> rfl)) dX5_serves_16
theorem o_X5_serves : okV yX5_serves cX5_serves 4 (some .int) 2 := ⟨m641, m642, m2, m643, by decide +kernel, by decide +kernel, by decide +kernel⟩
def rmX5_cut : Room := { frames := 6, cells := 0, slots := 0, locals := 132 }
def f_X5_cut (w : ZoC) (z : SoC) (x : PlC) (y : CuC) (cut : Int32) (what : Int32) : Int32 :=
  (if (f_X1_isCut y cut) = true then (if what = 0 then (if (f_X1_isRay y (tn cut)) = true then nI 0 else nI 1) else (if what = (nI 1) then (if (f_X1_isRay y (tn cut)) = true then kC y (tn cut) else (-5)) else (if what = (nI 2) then kS y (tn cut) else (if what = (nI 3) then f_X4_countPlansThatBreak z x y (tn cut) else (if what = (nI 4) then f_X4_countPlansThatAreTight z x y (tn cut) else (-2)))))) else (-1))
set_option maxHeartbeats 4000000 in
set_option maxRecDepth 100000 in
theorem c_X5_cut {l : Launch} {dd : va_G} {t : CL4} {N : Nat} {ad : Nat → Nat} {V : Nat → va_E} {b : Nat} {w : ZoC} {z : SoC} {x : PlC} {y : CuC}  (hp0 : ZoP N ad V t b w) (hp1 : SoP N ad V t (b + 1) z) (hp2 : PlP N ad V t (b + 2) x) (hp3 : CuP N ad V t (b + 14) y) (cut : Int32) (what : Int32)  : RM l dd t N ad V yX5_cut cX5_cut 3 (some .int) rmX5_cut [.ref (ad b), .int (cut), .int (what)] (f_X5_cut w z x y cut what) := by
  refine RM.of (by decide +kernel) ⟨rfl, rfl⟩ (Nat.le_of_ble_eq_true rfl) (narI _) ?_
  intro p e s m as below meth c Q X H hP ls hl kr
  have X : WX p s m as c cX5_cut 3 RX5 dd t := X
  have hx := X.1.1
  have hb := X.1.2.1
  have hl : lv_has ls 3 [(0, .ref (ad b)), (1, .int (cut)), (2, .int (what))] := hl
  have hi2_0 := hp2.i0
  have hi2_1 := hp2.i1
  have hi3_0 := hp3.i0
  have hle0 := hp0.le
  have hle1 := hp1.le
  have hle2 := hp2.le
  have hle3 := hp3.le
  refine lv_aload_n hx hb dX5_cut_0 rfl (lv_at hl 0 rfl) ?_
  refine g_Zo_now X hP hp0 m15 dX5_cut_1 ?_
  refine g_So_cuts X hP hp1 m446 dX5_cut_4 ?_
  refine lv_iload_n hx hb dX5_cut_7 rfl (lv_at hl 1 rfl) ?_
  refine r_call (As := [.int (cut)]) (rest := []) (ci := 1) X hP (c_X1_isCut hp3 cut) o_X1_isCut rfl hp3.lt hp3.ob m499 ⟨rfl, rfl⟩ ⟨Nat.le_of_ble_eq_true rfl, Nat.le_of_ble_eq_true rfl⟩ rfl hl.1 rfl (Nat.le_of_ble_eq_true rfl) ⟨Nat.zero_le _, Nat.zero_le _⟩ dX5_cut_8 ?_
  refine q_neB (tgt := 16) hx hb dX5_cut_11 (by decide) (fun c1 => ?_) (fun c1 => ?_)
  · have hr2 := isCut_n c1 (by omega)
    have hr2b := hr2.2
    refine lv_iload_n hx hb dX5_cut_16 rfl (lv_at hl 2 rfl) ?_
    by_cases c3 : what = 0
    · refine lv_tableIn (tgt := 52) hx hb dX5_cut_17 (by rw [c3]; decide) (by rw [c3]; decide) (by rw [c3]; rfl) (by decide) ?_
      refine lv_aload_n hx hb dX5_cut_52 rfl (lv_at hl 0 rfl) ?_
      refine g_Zo_now X hP hp0 m15 dX5_cut_53 ?_
      refine g_So_cuts X hP hp1 m446 dX5_cut_56 ?_
      refine lv_iload_n hx hb dX5_cut_59 rfl (lv_at hl 1 rfl) ?_
      refine q_val (hr2.1 : cut = nI (tn cut)) ?_
      refine r_call (As := [.int (nI (tn cut))]) (rest := []) (ci := 1) X hP (c_X1_isRay hp3 (tn cut) (by omega)) o_X1_isRay rfl hp3.lt hp3.ob m659 ⟨rfl, rfl⟩ ⟨Nat.le_of_ble_eq_true rfl, Nat.le_of_ble_eq_true rfl⟩ rfl hl.1 rfl (Nat.le_of_ble_eq_true rfl) ⟨Nat.zero_le _, Nat.zero_le _⟩ dX5_cut_60 ?_
      refine q_eqB (tgt := 70) hx hb dX5_cut_63 (by decide) (fun c4 => ?_) (fun c4 => ?_)
      · refine lv_iconst (v := nI 1) hx hb dX5_cut_70 (by decide) ?_
        exact kr 71 ls _ (Eq.symm (by rw [f_X5_cut, if_pos c1, if_pos c3, if_neg (nt c4)] <;> rfl)) dX5_cut_71
      · refine lv_iconst (v := nI 0) hx hb dX5_cut_66 (by decide) ?_
        refine lv_goto (tgt := 71) hx hb dX5_cut_67 (by decide) ?_
        exact kr 71 ls _ (Eq.symm (by rw [f_X5_cut, if_pos c1, if_pos c3, if_pos c4] <;> rfl)) dX5_cut_71
    · by_cases c5 : what = (nI 1)
      · refine lv_tableIn (tgt := 72) hx hb dX5_cut_17 (by rw [c5]; decide) (by rw [c5]; decide) (by rw [c5]; rfl) (by decide) ?_
        refine lv_aload_n hx hb dX5_cut_72 rfl (lv_at hl 0 rfl) ?_
        refine g_Zo_now X hP hp0 m15 dX5_cut_73 ?_
        refine g_So_cuts X hP hp1 m446 dX5_cut_76 ?_
        refine lv_iload_n hx hb dX5_cut_79 rfl (lv_at hl 1 rfl) ?_
        refine q_val (hr2.1 : cut = nI (tn cut)) ?_
        refine r_call (As := [.int (nI (tn cut))]) (rest := []) (ci := 1) X hP (c_X1_isRay hp3 (tn cut) (by omega)) o_X1_isRay rfl hp3.lt hp3.ob m659 ⟨rfl, rfl⟩ ⟨Nat.le_of_ble_eq_true rfl, Nat.le_of_ble_eq_true rfl⟩ rfl hl.1 rfl (Nat.le_of_ble_eq_true rfl) ⟨Nat.zero_le _, Nat.zero_le _⟩ dX5_cut_80 ?_
        refine q_eqB (tgt := 101) hx hb dX5_cut_83 (by decide) (fun c6 => ?_) (fun c6 => ?_)
        · refine lv_bipush (v := (-5)) hx hb dX5_cut_101 (by decide) ?_
          exact kr 103 ls _ (Eq.symm (by rw [f_X5_cut, if_pos c1, if_neg c3, if_pos c5, if_neg (nt c6)] <;> rfl)) dX5_cut_103
        · refine lv_aload_n hx hb dX5_cut_86 rfl (lv_at hl 0 rfl) ?_
          refine g_Zo_now X hP hp0 m15 dX5_cut_87 ?_
          refine g_So_cuts X hP hp1 m446 dX5_cut_90 ?_
          refine g_Cu_customers X hP hp3 m657 dX5_cut_93 ?_
          refine lv_iload_n hx hb dX5_cut_96 rfl (lv_at hl 1 rfl) ?_
          refine q_val (hr2.1 : cut = nI (tn cut)) ?_
          refine l_Cu_customers X hP hp3 (by omega) dX5_cut_97 ?_
          refine lv_goto (tgt := 103) hx hb dX5_cut_98 (by decide) ?_
          exact kr 103 ls _ (Eq.symm (by rw [f_X5_cut, if_pos c1, if_neg c3, if_pos c5, if_pos c6] <;> rfl)) dX5_cut_103
      · by_cases c7 : what = (nI 2)
        · refine lv_tableIn (tgt := 104) hx hb dX5_cut_17 (by rw [c7]; decide) (by rw [c7]; decide) (by rw [c7]; rfl) (by decide) ?_
          refine lv_aload_n hx hb dX5_cut_104 rfl (lv_at hl 0 rfl) ?_
          refine g_Zo_now X hP hp0 m15 dX5_cut_105 ?_
          refine g_So_cuts X hP hp1 m446 dX5_cut_108 ?_
          refine g_Cu_starts X hP hp3 m658 dX5_cut_111 ?_
          refine lv_iload_n hx hb dX5_cut_114 rfl (lv_at hl 1 rfl) ?_
          refine q_val (hr2.1 : cut = nI (tn cut)) ?_
          refine l_Cu_starts X hP hp3 (by omega) dX5_cut_115 ?_
          exact kr 116 ls _ (Eq.symm (by rw [f_X5_cut, if_pos c1, if_neg c3, if_neg c5, if_pos c7] <;> rfl)) dX5_cut_116
        · by_cases c8 : what = (nI 3)
          · refine lv_tableIn (tgt := 117) hx hb dX5_cut_17 (by rw [c8]; decide) (by rw [c8]; decide) (by rw [c8]; rfl) (by decide) ?_
            refine lv_aload_n hx hb dX5_cut_117 rfl (lv_at hl 0 rfl) ?_
            refine g_Zo_now X hP hp0 m15 dX5_cut_118 ?_
            refine lv_iload_n hx hb dX5_cut_121 rfl (lv_at hl 1 rfl) ?_
            refine q_val (hr2.1 : cut = nI (tn cut)) ?_
            refine r_call (As := [.int (nI (tn cut))]) (rest := []) (ci := 4) X hP (c_X4_countPlansThatBreak hp1 hp2 hp3 (tn cut) (by omega)) o_X4_countPlansThatBreak rfl hp1.lt hp1.ob m660 ⟨rfl, rfl⟩ ⟨Nat.le_of_ble_eq_true rfl, Nat.le_of_ble_eq_true rfl⟩ rfl hl.1 rfl (Nat.le_of_ble_eq_true rfl) ⟨Nat.zero_le _, Nat.zero_le _⟩ dX5_cut_122 ?_
            exact kr 125 ls _ (Eq.symm (by rw [f_X5_cut, if_pos c1, if_neg c3, if_neg c5, if_neg c7, if_pos c8] <;> rfl)) dX5_cut_125
          · by_cases c9 : what = (nI 4)
            · refine lv_tableIn (tgt := 126) hx hb dX5_cut_17 (by rw [c9]; decide) (by rw [c9]; decide) (by rw [c9]; rfl) (by decide) ?_
              refine lv_aload_n hx hb dX5_cut_126 rfl (lv_at hl 0 rfl) ?_
              refine g_Zo_now X hP hp0 m15 dX5_cut_127 ?_
              refine lv_iload_n hx hb dX5_cut_130 rfl (lv_at hl 1 rfl) ?_
              refine q_val (hr2.1 : cut = nI (tn cut)) ?_
              refine r_call (As := [.int (nI (tn cut))]) (rest := []) (ci := 4) X hP (c_X4_countPlansThatAreTight hp1 hp2 hp3 (tn cut) (by omega)) o_X4_countPlansThatAreTight rfl hp1.lt hp1.ob m677 ⟨rfl, rfl⟩ ⟨Nat.le_of_ble_eq_true rfl, Nat.le_of_ble_eq_true rfl⟩ rfl hl.1 rfl (Nat.le_of_ble_eq_true rfl) ⟨Nat.zero_le _, Nat.zero_le _⟩ dX5_cut_131 ?_
              exact kr 134 ls _ (Eq.symm (by rw [f_X5_cut, if_pos c1, if_neg c3, if_neg c5, if_neg c7, if_neg c8, if_pos c9] <;> rfl)) dX5_cut_134
            · refine lv_tableOut (tgt := 135) hx hb dX5_cut_17 (sw_out4 c3 c5 c7 c8 c9) (by decide) ?_
              refine lv_bipush (v := (-2)) hx hb dX5_cut_135 (by decide) ?_
              exact kr 137 ls _ (Eq.symm (by rw [f_X5_cut, if_pos c1, if_neg c3, if_neg c5, if_neg c7, if_neg c8, if_neg c9] <;> rfl)) dX5_cut_137
  · refine lv_iconst (v := (-1)) hx hb dX5_cut_14 (by decide) ?_
    exact kr 15 ls _ (Eq.symm (by rw [f_X5_cut, if_neg (nt c1)] <;> rfl)) dX5_cut_15
theorem o_X5_cut : okV yX5_cut cX5_cut 3 (some .int) 2 := ⟨m654, m655, m2, m656, by decide +kernel, by decide +kernel, by decide +kernel⟩
def rmX5_weight : Room := { frames := 1, cells := 0, slots := 0, locals := 21 }
def f_X5_weight (w : ZoC) (z : SoC) (x : PlC) (y : CuC) (cut : Int32) (site : Int32) : Int32 :=
  (if (f_X1_isCut y cut) = true then (if (f_X3_isSite x site) = true then kW y (tn cut) (tn site) else (-1)) else (-1))
set_option maxHeartbeats 4000000 in
set_option maxRecDepth 100000 in
theorem c_X5_weight {l : Launch} {dd : va_G} {t : CL4} {N : Nat} {ad : Nat → Nat} {V : Nat → va_E} {b : Nat} {w : ZoC} {z : SoC} {x : PlC} {y : CuC}  (hp0 : ZoP N ad V t b w) (hp1 : SoP N ad V t (b + 1) z) (hp2 : PlP N ad V t (b + 2) x) (hp3 : CuP N ad V t (b + 14) y) (cut : Int32) (site : Int32)  : RM l dd t N ad V yX5_weight cX5_weight 3 (some .int) rmX5_weight [.ref (ad b), .int (cut), .int (site)] (f_X5_weight w z x y cut site) := by
  refine RM.of (by decide +kernel) ⟨rfl, rfl⟩ (Nat.le_of_ble_eq_true rfl) (narI _) ?_
  intro p e s m as below meth c Q X H hP ls hl kr
  have X : WX p s m as c cX5_weight 3 RX5 dd t := X
  have hx := X.1.1
  have hb := X.1.2.1
  have hl : lv_has ls 3 [(0, .ref (ad b)), (1, .int (cut)), (2, .int (site))] := hl
  have hi2_0 := hp2.i0
  have hi2_1 := hp2.i1
  have hi3_0 := hp3.i0
  have hle0 := hp0.le
  have hle1 := hp1.le
  have hle2 := hp2.le
  have hle3 := hp3.le
  refine lv_aload_n hx hb dX5_weight_0 rfl (lv_at hl 0 rfl) ?_
  refine g_Zo_now X hP hp0 m15 dX5_weight_1 ?_
  refine g_So_cuts X hP hp1 m446 dX5_weight_4 ?_
  refine lv_iload_n hx hb dX5_weight_7 rfl (lv_at hl 1 rfl) ?_
  refine r_call (As := [.int (cut)]) (rest := []) (ci := 1) X hP (c_X1_isCut hp3 cut) o_X1_isCut rfl hp3.lt hp3.ob m499 ⟨rfl, rfl⟩ ⟨Nat.le_of_ble_eq_true rfl, Nat.le_of_ble_eq_true rfl⟩ rfl hl.1 rfl (Nat.le_of_ble_eq_true rfl) ⟨Nat.zero_le _, Nat.zero_le _⟩ dX5_weight_8 ?_
  refine q_eqB (tgt := 28) hx hb dX5_weight_11 (by decide) (fun c1 => ?_) (fun c1 => ?_)
  · refine lv_iconst (v := (-1)) hx hb dX5_weight_28 (by decide) ?_
    exact kr 29 ls _ (Eq.symm (by rw [f_X5_weight, if_neg (nt c1)] <;> rfl)) dX5_weight_29
  · have hr2 := isCut_n c1 (by omega)
    have hr2b := hr2.2
    refine lv_aload_n hx hb dX5_weight_14 rfl (lv_at hl 0 rfl) ?_
    refine g_Zo_now X hP hp0 m15 dX5_weight_15 ?_
    refine g_So_places X hP hp1 m93 dX5_weight_18 ?_
    refine lv_iload_n hx hb dX5_weight_21 rfl (lv_at hl 2 rfl) ?_
    refine r_call (As := [.int (site)]) (rest := []) (ci := 3) X hP (c_X3_isSite hp2 site) o_X3_isSite rfl hp2.lt hp2.ob m180 ⟨rfl, rfl⟩ ⟨Nat.le_of_ble_eq_true rfl, Nat.le_of_ble_eq_true rfl⟩ rfl hl.1 rfl (Nat.le_of_ble_eq_true rfl) ⟨Nat.zero_le _, Nat.zero_le _⟩ dX5_weight_22 ?_
    refine q_neB (tgt := 30) hx hb dX5_weight_25 (by decide) (fun c3 => ?_) (fun c3 => ?_)
    · have hr4 := isSite_n c3 (by omega)
      have hr4b := hr4.2
      refine lv_aload_n hx hb dX5_weight_30 rfl (lv_at hl 0 rfl) ?_
      refine g_Zo_now X hP hp0 m15 dX5_weight_31 ?_
      refine g_So_cuts X hP hp1 m446 dX5_weight_34 ?_
      refine g_Cu_weights X hP hp3 m701 dX5_weight_37 ?_
      refine lv_iload_n hx hb dX5_weight_40 rfl (lv_at hl 1 rfl) ?_
      refine q_val (hr2.1 : cut = nI (tn cut)) ?_
      refine l_Cu_weights X hP hp3 (by omega) dX5_weight_41 ?_
      refine lv_iload_n hx hb dX5_weight_42 rfl (lv_at hl 2 rfl) ?_
      refine q_val (hr4.1 : site = nI (tn site)) ?_
      refine l_Cu_weights_row X hP hp3 (by omega) (by omega) dX5_weight_43 ?_
      exact kr 44 ls _ (Eq.symm (by rw [f_X5_weight, if_pos c1, if_pos c3] <;> rfl)) dX5_weight_44
    · refine lv_iconst (v := (-1)) hx hb dX5_weight_28 (by decide) ?_
      exact kr 29 ls _ (Eq.symm (by rw [f_X5_weight, if_pos c1, if_neg (nt c3)] <;> rfl)) dX5_weight_29
theorem o_X5_weight : okV yX5_weight cX5_weight 3 (some .int) 2 := ⟨m698, m699, m2, m700, by decide +kernel, by decide +kernel, by decide +kernel⟩
def rmX5_value : Room := { frames := 3, cells := 0, slots := 0, locals := 67 }
def f_X5_value (w : ZoC) (z : SoC) (x : PlC) (y : CuC) (cut : Int32) (plan : Int32) : Int32 :=
  (if (f_X1_isCut y cut) = true then (if (f_X3_isPlan x plan) = true then (if (f_X1_isRay y (tn cut)) = true then f_X1_weightOf y (tn cut) plan else (f_X1_valueOf y (tn cut) plan) + (nI 1000000)) else (-2)) else (-1))
set_option maxHeartbeats 4000000 in
set_option maxRecDepth 100000 in
theorem c_X5_value {l : Launch} {dd : va_G} {t : CL4} {N : Nat} {ad : Nat → Nat} {V : Nat → va_E} {b : Nat} {w : ZoC} {z : SoC} {x : PlC} {y : CuC}  (hp0 : ZoP N ad V t b w) (hp1 : SoP N ad V t (b + 1) z) (hp2 : PlP N ad V t (b + 2) x) (hp3 : CuP N ad V t (b + 14) y) (cut : Int32) (plan : Int32)  : RM l dd t N ad V yX5_value cX5_value 3 (some .int) rmX5_value [.ref (ad b), .int (cut), .int (plan)] (f_X5_value w z x y cut plan) := by
  refine RM.of (by decide +kernel) ⟨rfl, rfl⟩ (Nat.le_of_ble_eq_true rfl) (narI _) ?_
  intro p e s m as below meth c Q X H hP ls hl kr
  have X : WX p s m as c cX5_value 3 RX5 dd t := X
  have hx := X.1.1
  have hb := X.1.2.1
  have hl : lv_has ls 3 [(0, .ref (ad b)), (1, .int (cut)), (2, .int (plan))] := hl
  have hi2_0 := hp2.i0
  have hi2_1 := hp2.i1
  have hi3_0 := hp3.i0
  have hle0 := hp0.le
  have hle1 := hp1.le
  have hle2 := hp2.le
  have hle3 := hp3.le
  refine lv_aload_n hx hb dX5_value_0 rfl (lv_at hl 0 rfl) ?_
  refine g_Zo_now X hP hp0 m15 dX5_value_1 ?_
  refine g_So_cuts X hP hp1 m446 dX5_value_4 ?_
  refine lv_iload_n hx hb dX5_value_7 rfl (lv_at hl 1 rfl) ?_
  refine r_call (As := [.int (cut)]) (rest := []) (ci := 1) X hP (c_X1_isCut hp3 cut) o_X1_isCut rfl hp3.lt hp3.ob m499 ⟨rfl, rfl⟩ ⟨Nat.le_of_ble_eq_true rfl, Nat.le_of_ble_eq_true rfl⟩ rfl hl.1 rfl (Nat.le_of_ble_eq_true rfl) ⟨Nat.zero_le _, Nat.zero_le _⟩ dX5_value_8 ?_
  refine q_neB (tgt := 16) hx hb dX5_value_11 (by decide) (fun c1 => ?_) (fun c1 => ?_)
  · have hr2 := isCut_n c1 (by omega)
    have hr2b := hr2.2
    refine lv_aload_n hx hb dX5_value_16 rfl (lv_at hl 0 rfl) ?_
    refine g_Zo_now X hP hp0 m15 dX5_value_17 ?_
    refine g_So_places X hP hp1 m93 dX5_value_20 ?_
    refine lv_iload_n hx hb dX5_value_23 rfl (lv_at hl 2 rfl) ?_
    refine r_call (As := [.int (plan)]) (rest := []) (ci := 3) X hP (c_X3_isPlan hp2 plan) o_X3_isPlan rfl hp2.lt hp2.ob m604 ⟨rfl, rfl⟩ ⟨Nat.le_of_ble_eq_true rfl, Nat.le_of_ble_eq_true rfl⟩ rfl hl.1 rfl (Nat.le_of_ble_eq_true rfl) ⟨Nat.zero_le _, Nat.zero_le _⟩ dX5_value_24 ?_
    refine q_neB (tgt := 33) hx hb dX5_value_27 (by decide) (fun c3 => ?_) (fun c3 => ?_)
    · refine lv_aload_n hx hb dX5_value_33 rfl (lv_at hl 0 rfl) ?_
      refine g_Zo_now X hP hp0 m15 dX5_value_34 ?_
      refine g_So_cuts X hP hp1 m446 dX5_value_37 ?_
      refine lv_iload_n hx hb dX5_value_40 rfl (lv_at hl 1 rfl) ?_
      refine q_val (hr2.1 : cut = nI (tn cut)) ?_
      refine r_call (As := [.int (nI (tn cut))]) (rest := []) (ci := 1) X hP (c_X1_isRay hp3 (tn cut) (by omega)) o_X1_isRay rfl hp3.lt hp3.ob m659 ⟨rfl, rfl⟩ ⟨Nat.le_of_ble_eq_true rfl, Nat.le_of_ble_eq_true rfl⟩ rfl hl.1 rfl (Nat.le_of_ble_eq_true rfl) ⟨Nat.zero_le _, Nat.zero_le _⟩ dX5_value_41 ?_
      refine q_eqB (tgt := 60) hx hb dX5_value_44 (by decide) (fun c4 => ?_) (fun c4 => ?_)
      · refine lv_aload_n hx hb dX5_value_60 rfl (lv_at hl 0 rfl) ?_
        refine g_Zo_now X hP hp0 m15 dX5_value_61 ?_
        refine g_So_cuts X hP hp1 m446 dX5_value_64 ?_
        refine lv_iload_n hx hb dX5_value_67 rfl (lv_at hl 1 rfl) ?_
        refine q_val (hr2.1 : cut = nI (tn cut)) ?_
        refine lv_iload_n hx hb dX5_value_68 rfl (lv_at hl 2 rfl) ?_
        refine r_call (As := [.int (nI (tn cut)), .int (plan)]) (rest := []) (ci := 1) X hP (c_X1_valueOf hp3 (tn cut) plan (by omega)) o_X1_valueOf rfl hp3.lt hp3.ob m712 ⟨rfl, rfl⟩ ⟨Nat.le_of_ble_eq_true rfl, Nat.le_of_ble_eq_true rfl⟩ rfl hl.1 rfl (Nat.le_of_ble_eq_true rfl) ⟨Nat.zero_le _, Nat.zero_le _⟩ dX5_value_69 ?_
        refine lv_ldc (v := nI 1000000) hx hb X.1.2.2.2.1 (X.1.2.2.2.2 _ m710) dX5_value_72 ?_
        refine lv_iadd hx hb dX5_value_74 ?_
        exact kr 75 ls _ (Eq.symm (by rw [f_X5_value, if_pos c1, if_pos c3, if_neg (nt c4)] <;> rfl)) dX5_value_75
      · refine lv_aload_n hx hb dX5_value_47 rfl (lv_at hl 0 rfl) ?_
        refine g_Zo_now X hP hp0 m15 dX5_value_48 ?_
        refine g_So_cuts X hP hp1 m446 dX5_value_51 ?_
        refine lv_iload_n hx hb dX5_value_54 rfl (lv_at hl 1 rfl) ?_
        refine q_val (hr2.1 : cut = nI (tn cut)) ?_
        refine lv_iload_n hx hb dX5_value_55 rfl (lv_at hl 2 rfl) ?_
        refine r_call (As := [.int (nI (tn cut)), .int (plan)]) (rest := []) (ci := 1) X hP (c_X1_weightOf hp3 (tn cut) plan (by omega)) o_X1_weightOf rfl hp3.lt hp3.ob m711 ⟨rfl, rfl⟩ ⟨Nat.le_of_ble_eq_true rfl, Nat.le_of_ble_eq_true rfl⟩ rfl hl.1 rfl (Nat.le_of_ble_eq_true rfl) ⟨Nat.zero_le _, Nat.zero_le _⟩ dX5_value_56 ?_
        exact kr 59 ls _ (Eq.symm (by rw [f_X5_value, if_pos c1, if_pos c3, if_pos c4] <;> rfl)) dX5_value_59
    · refine lv_bipush (v := (-2)) hx hb dX5_value_30 (by decide) ?_
      exact kr 32 ls _ (Eq.symm (by rw [f_X5_value, if_pos c1, if_neg (nt c3)] <;> rfl)) dX5_value_32
  · refine lv_iconst (v := (-1)) hx hb dX5_value_14 (by decide) ?_
    exact kr 15 ls _ (Eq.symm (by rw [f_X5_value, if_neg (nt c1)] <;> rfl)) dX5_value_15
theorem o_X5_value : okV yX5_value cX5_value 3 (some .int) 2 := ⟨m707, m708, m2, m709, by decide +kernel, by decide +kernel, by decide +kernel⟩
def rmX5_master : Room := { frames := 7, cells := 0, slots := 0, locals := 156 }
def f_X5_master (w : ZoC) (z : SoC) (x : PlC) (y : CuC) (what : Int32) : Int32 :=
  (if what = 0 then f_X5_planOrNone (f_X4_findMasterPlan z x y) else (if what = (nI 1) then f_X5_lowerBound w z x y else (if what = (nI 2) then f_X5_planOrNone (uB z) else (if what = (nI 3) then f_X5_costOrNone w z x y (uB z) else (if what = (nI 4) then f_X5_gap w z x y else (-2))))))
set_option maxHeartbeats 4000000 in
set_option maxRecDepth 100000 in
theorem c_X5_master {l : Launch} {dd : va_G} {t : CL4} {N : Nat} {ad : Nat → Nat} {V : Nat → va_E} {b : Nat} {w : ZoC} {z : SoC} {x : PlC} {y : CuC}  (hp0 : ZoP N ad V t b w) (hp1 : SoP N ad V t (b + 1) z) (hp2 : PlP N ad V t (b + 2) x) (hp3 : CuP N ad V t (b + 14) y) (what : Int32)  : RM l dd t N ad V yX5_master cX5_master 2 (some .int) rmX5_master [.ref (ad b), .int (what)] (f_X5_master w z x y what) := by
  refine RM.of (by decide +kernel) ⟨rfl, rfl⟩ (Nat.le_of_ble_eq_true rfl) (narI _) ?_
  intro p e s m as below meth c Q X H hP ls hl kr
  have X : WX p s m as c cX5_master 2 RX5 dd t := X
  have hx := X.1.1
  have hb := X.1.2.1
  have hl : lv_has ls 2 [(0, .ref (ad b)), (1, .int (what))] := hl
  have hi2_0 := hp2.i0
  have hi2_1 := hp2.i1
  have hi3_0 := hp3.i0
  have hle0 := hp0.le
  have hle1 := hp1.le
  have hle2 := hp2.le
  have hle3 := hp3.le
  refine lv_iload_n hx hb dX5_master_0 rfl (lv_at hl 1 rfl) ?_
  by_cases c1 : what = 0
  · refine lv_tableIn (tgt := 36) hx hb dX5_master_1 (by rw [c1]; decide) (by rw [c1]; decide) (by rw [c1]; rfl) (by decide) ?_
    refine lv_aload_n hx hb dX5_master_36 rfl (lv_at hl 0 rfl) ?_
    refine g_Zo_now X hP hp0 m15 dX5_master_37 ?_
    refine r_call (As := []) (rest := []) (ci := 4) X hP (c_X4_findMasterPlan hp1 hp2 hp3) o_X4_findMasterPlan rfl hp1.lt hp1.ob m523 ⟨rfl, rfl⟩ ⟨Nat.le_of_ble_eq_true rfl, Nat.le_of_ble_eq_true rfl⟩ rfl hl.1 rfl (Nat.le_of_ble_eq_true rfl) ⟨Nat.zero_le _, Nat.zero_le _⟩ dX5_master_40 ?_
    refine r_callS (As := [.int (f_X4_findMasterPlan z x y)]) (rest := []) X hP (c_X5_planOrNone (f_X4_findMasterPlan z x y)) o_X5_planOrNone m723 ⟨rfl, rfl⟩ ⟨Nat.le_of_ble_eq_true rfl, Nat.le_of_ble_eq_true rfl⟩ rfl hl.1 rfl (Nat.le_of_ble_eq_true rfl) ⟨Nat.zero_le _, Nat.zero_le _⟩ dX5_master_43 ?_
    exact kr 46 ls _ (Eq.symm (by rw [f_X5_master, if_pos c1] <;> rfl)) dX5_master_46
  · by_cases c2 : what = (nI 1)
    · refine lv_tableIn (tgt := 47) hx hb dX5_master_1 (by rw [c2]; decide) (by rw [c2]; decide) (by rw [c2]; rfl) (by decide) ?_
      refine lv_aload_n hx hb dX5_master_47 rfl (lv_at hl 0 rfl) ?_
      refine r_call (As := []) (rest := []) (ci := 5) X hP (c_X5_lowerBound hp0 hp1 hp2 hp3) o_X5_lowerBound rfl hp0.lt hp0.ob m726 ⟨rfl, rfl⟩ ⟨Nat.le_of_ble_eq_true rfl, Nat.le_of_ble_eq_true rfl⟩ rfl hl.1 rfl (Nat.le_of_ble_eq_true rfl) ⟨Nat.zero_le _, Nat.zero_le _⟩ dX5_master_48 ?_
      exact kr 51 ls _ (Eq.symm (by rw [f_X5_master, if_neg c1, if_pos c2] <;> rfl)) dX5_master_51
    · by_cases c3 : what = (nI 2)
      · refine lv_tableIn (tgt := 52) hx hb dX5_master_1 (by rw [c3]; decide) (by rw [c3]; decide) (by rw [c3]; rfl) (by decide) ?_
        refine lv_aload_n hx hb dX5_master_52 rfl (lv_at hl 0 rfl) ?_
        refine g_Zo_now X hP hp0 m15 dX5_master_53 ?_
        refine g_So_best X hP hp1 m722 dX5_master_56 ?_
        refine r_callS (As := [.int (uB z)]) (rest := []) X hP (c_X5_planOrNone (uB z)) o_X5_planOrNone m723 ⟨rfl, rfl⟩ ⟨Nat.le_of_ble_eq_true rfl, Nat.le_of_ble_eq_true rfl⟩ rfl hl.1 rfl (Nat.le_of_ble_eq_true rfl) ⟨Nat.zero_le _, Nat.zero_le _⟩ dX5_master_59 ?_
        exact kr 62 ls _ (Eq.symm (by rw [f_X5_master, if_neg c1, if_neg c2, if_pos c3] <;> rfl)) dX5_master_62
      · by_cases c4 : what = (nI 3)
        · refine lv_tableIn (tgt := 63) hx hb dX5_master_1 (by rw [c4]; decide) (by rw [c4]; decide) (by rw [c4]; rfl) (by decide) ?_
          refine lv_aload_n hx hb dX5_master_63 rfl (lv_at hl 0 rfl) ?_
          refine lv_aload_n hx hb dX5_master_64 rfl (lv_at hl 0 rfl) ?_
          refine g_Zo_now X hP hp0 m15 dX5_master_65 ?_
          refine g_So_best X hP hp1 m722 dX5_master_68 ?_
          refine r_call (As := [.int (uB z)]) (rest := []) (ci := 5) X hP (c_X5_costOrNone hp0 hp1 hp2 hp3 (uB z)) o_X5_costOrNone rfl hp0.lt hp0.ob m730 ⟨rfl, rfl⟩ ⟨Nat.le_of_ble_eq_true rfl, Nat.le_of_ble_eq_true rfl⟩ rfl hl.1 rfl (Nat.le_of_ble_eq_true rfl) ⟨Nat.zero_le _, Nat.zero_le _⟩ dX5_master_71 ?_
          exact kr 74 ls _ (Eq.symm (by rw [f_X5_master, if_neg c1, if_neg c2, if_neg c3, if_pos c4] <;> rfl)) dX5_master_74
        · by_cases c5 : what = (nI 4)
          · refine lv_tableIn (tgt := 75) hx hb dX5_master_1 (by rw [c5]; decide) (by rw [c5]; decide) (by rw [c5]; rfl) (by decide) ?_
            refine lv_aload_n hx hb dX5_master_75 rfl (lv_at hl 0 rfl) ?_
            refine r_call (As := []) (rest := []) (ci := 5) X hP (c_X5_gap hp0 hp1 hp2 hp3) o_X5_gap rfl hp0.lt hp0.ob m734 ⟨rfl, rfl⟩ ⟨Nat.le_of_ble_eq_true rfl, Nat.le_of_ble_eq_true rfl⟩ rfl hl.1 rfl (Nat.le_of_ble_eq_true rfl) ⟨Nat.zero_le _, Nat.zero_le _⟩ dX5_master_76 ?_
            exact kr 79 ls _ (Eq.symm (by rw [f_X5_master, if_neg c1, if_neg c2, if_neg c3, if_neg c4, if_pos c5] <;> rfl)) dX5_master_79
          · refine lv_tableOut (tgt := 80) hx hb dX5_master_1 (sw_out4 c1 c2 c3 c4 c5) (by decide) ?_
            refine lv_bipush (v := (-2)) hx hb dX5_master_80 (by decide) ?_
            exact kr 82 ls _ (Eq.symm (by rw [f_X5_master, if_neg c1, if_neg c2, if_neg c3, if_neg c4, if_neg c5] <;> rfl)) dX5_master_82
theorem o_X5_master : okV yX5_master cX5_master 2 (some .int) 1 := ⟨m719, m720, m2, m721, by decide +kernel, by decide +kernel, by decide +kernel⟩
def rmX5_byAll : Room := { frames := 6, cells := 0, slots := 0, locals := 132 }
def f_X5_byAll (w : ZoC) (z : SoC) (x : PlC) (y : CuC) (what : Int32) : Int32 :=
  (if what = 0 then f_X5_planOrNone (f_X3_findBestPlan x) else (if what = (nI 1) then f_X5_costOrNone w z x y (f_X3_findBestPlan x) else (if what = (nI 2) then f_X3_countFeasiblePlans x else (-2))))
set_option maxHeartbeats 4000000 in
set_option maxRecDepth 100000 in
theorem c_X5_byAll {l : Launch} {dd : va_G} {t : CL4} {N : Nat} {ad : Nat → Nat} {V : Nat → va_E} {b : Nat} {w : ZoC} {z : SoC} {x : PlC} {y : CuC}  (hp0 : ZoP N ad V t b w) (hp1 : SoP N ad V t (b + 1) z) (hp2 : PlP N ad V t (b + 2) x) (hp3 : CuP N ad V t (b + 14) y) (what : Int32)  : RM l dd t N ad V yX5_byAll cX5_byAll 2 (some .int) rmX5_byAll [.ref (ad b), .int (what)] (f_X5_byAll w z x y what) := by
  refine RM.of (by decide +kernel) ⟨rfl, rfl⟩ (Nat.le_of_ble_eq_true rfl) (narI _) ?_
  intro p e s m as below meth c Q X H hP ls hl kr
  have X : WX p s m as c cX5_byAll 2 RX5 dd t := X
  have hx := X.1.1
  have hb := X.1.2.1
  have hl : lv_has ls 2 [(0, .ref (ad b)), (1, .int (what))] := hl
  have hi2_0 := hp2.i0
  have hi2_1 := hp2.i1
  have hi3_0 := hp3.i0
  have hle0 := hp0.le
  have hle1 := hp1.le
  have hle2 := hp2.le
  have hle3 := hp3.le
  refine lv_iload_n hx hb dX5_byAll_0 rfl (lv_at hl 1 rfl) ?_
  by_cases c1 : what = 0
  · refine lv_tableIn (tgt := 28) hx hb dX5_byAll_1 (by rw [c1]; decide) (by rw [c1]; decide) (by rw [c1]; rfl) (by decide) ?_
    refine lv_aload_n hx hb dX5_byAll_28 rfl (lv_at hl 0 rfl) ?_
    refine g_Zo_now X hP hp0 m15 dX5_byAll_29 ?_
    refine g_So_places X hP hp1 m93 dX5_byAll_32 ?_
    refine r_call (As := []) (rest := []) (ci := 3) X hP (c_X3_findBestPlan hp2) o_X3_findBestPlan rfl hp2.lt hp2.ob m746 ⟨rfl, rfl⟩ ⟨Nat.le_of_ble_eq_true rfl, Nat.le_of_ble_eq_true rfl⟩ rfl hl.1 rfl (Nat.le_of_ble_eq_true rfl) ⟨Nat.zero_le _, Nat.zero_le _⟩ dX5_byAll_35 ?_
    refine r_callS (As := [.int (f_X3_findBestPlan x)]) (rest := []) X hP (c_X5_planOrNone (f_X3_findBestPlan x)) o_X5_planOrNone m723 ⟨rfl, rfl⟩ ⟨Nat.le_of_ble_eq_true rfl, Nat.le_of_ble_eq_true rfl⟩ rfl hl.1 rfl (Nat.le_of_ble_eq_true rfl) ⟨Nat.zero_le _, Nat.zero_le _⟩ dX5_byAll_38 ?_
    exact kr 41 ls _ (Eq.symm (by rw [f_X5_byAll, if_pos c1] <;> rfl)) dX5_byAll_41
  · by_cases c2 : what = (nI 1)
    · refine lv_tableIn (tgt := 42) hx hb dX5_byAll_1 (by rw [c2]; decide) (by rw [c2]; decide) (by rw [c2]; rfl) (by decide) ?_
      refine lv_aload_n hx hb dX5_byAll_42 rfl (lv_at hl 0 rfl) ?_
      refine lv_aload_n hx hb dX5_byAll_43 rfl (lv_at hl 0 rfl) ?_
      refine g_Zo_now X hP hp0 m15 dX5_byAll_44 ?_
      refine g_So_places X hP hp1 m93 dX5_byAll_47 ?_
      refine r_call (As := []) (rest := [.ref (ad b)]) (ci := 3) X hP (c_X3_findBestPlan hp2) o_X3_findBestPlan rfl hp2.lt hp2.ob m746 ⟨rfl, rfl⟩ ⟨Nat.le_of_ble_eq_true rfl, Nat.le_of_ble_eq_true rfl⟩ rfl hl.1 rfl (Nat.le_of_ble_eq_true rfl) ⟨Nat.zero_le _, Nat.zero_le _⟩ dX5_byAll_50 ?_
      refine r_call (As := [.int (f_X3_findBestPlan x)]) (rest := []) (ci := 5) X hP (c_X5_costOrNone hp0 hp1 hp2 hp3 (f_X3_findBestPlan x)) o_X5_costOrNone rfl hp0.lt hp0.ob m730 ⟨rfl, rfl⟩ ⟨Nat.le_of_ble_eq_true rfl, Nat.le_of_ble_eq_true rfl⟩ rfl hl.1 rfl (Nat.le_of_ble_eq_true rfl) ⟨Nat.zero_le _, Nat.zero_le _⟩ dX5_byAll_53 ?_
      exact kr 56 ls _ (Eq.symm (by rw [f_X5_byAll, if_neg c1, if_pos c2] <;> rfl)) dX5_byAll_56
    · by_cases c3 : what = (nI 2)
      · refine lv_tableIn (tgt := 57) hx hb dX5_byAll_1 (by rw [c3]; decide) (by rw [c3]; decide) (by rw [c3]; rfl) (by decide) ?_
        refine lv_aload_n hx hb dX5_byAll_57 rfl (lv_at hl 0 rfl) ?_
        refine g_Zo_now X hP hp0 m15 dX5_byAll_58 ?_
        refine g_So_places X hP hp1 m93 dX5_byAll_61 ?_
        refine r_call (As := []) (rest := []) (ci := 3) X hP (c_X3_countFeasiblePlans hp2) o_X3_countFeasiblePlans rfl hp2.lt hp2.ob m752 ⟨rfl, rfl⟩ ⟨Nat.le_of_ble_eq_true rfl, Nat.le_of_ble_eq_true rfl⟩ rfl hl.1 rfl (Nat.le_of_ble_eq_true rfl) ⟨Nat.zero_le _, Nat.zero_le _⟩ dX5_byAll_64 ?_
        exact kr 67 ls _ (Eq.symm (by rw [f_X5_byAll, if_neg c1, if_neg c2, if_pos c3] <;> rfl)) dX5_byAll_67
      · refine lv_tableOut (tgt := 68) hx hb dX5_byAll_1 (sw_out2 c1 c2 c3) (by decide) ?_
        refine lv_bipush (v := (-2)) hx hb dX5_byAll_68 (by decide) ?_
        exact kr 70 ls _ (Eq.symm (by rw [f_X5_byAll, if_neg c1, if_neg c2, if_neg c3] <;> rfl)) dX5_byAll_70
theorem o_X5_byAll : okV yX5_byAll cX5_byAll 2 (some .int) 1 := ⟨m743, m744, m2, m745, by decide +kernel, by decide +kernel, by decide +kernel⟩
def rmX5_count : Room := { frames := 3, cells := 0, slots := 0, locals := 66 }
def f_X5_count (w : ZoC) (z : SoC) (x : PlC) (y : CuC) (ho : HoC) (tx : TxC) (what : Int32) : Int32 :=
  (if what = 0 then nI (pN x) else (if what = (nI 1) then nI (pM x) else (if what = (nI 2) then f_X3_countRoutes x else (if what = (nI 3) then pO x else (if what = (nI 4) then f_X3_countExcludingPairs x else (if what = (nI 5) then nI (kA y) else (if what = (nI 6) then f_X1_countRays y else (if what = (nI 7) then uT z else (if what = (nI 8) then nI (hA ho) else (if what = (nI 9) then nI (tL tx) else (-2)))))))))))
set_option maxHeartbeats 4000000 in
set_option maxRecDepth 100000 in
theorem c_X5_count {l : Launch} {dd : va_G} {t : CL4} {N : Nat} {ad : Nat → Nat} {V : Nat → va_E} {b : Nat} {w : ZoC} {z : SoC} {x : PlC} {y : CuC} {ho : HoC} {tx : TxC}  (hp0 : ZoP N ad V t b w) (hp1 : SoP N ad V t (b + 1) z) (hp2 : PlP N ad V t (b + 2) x) (hp3 : CuP N ad V t (b + 14) y) (hp4 : HoP N ad V t (b + 172) ho) (hp5 : TxP N ad V t (b + 402) tx) (what : Int32)  : RM l dd t N ad V yX5_count cX5_count 2 (some .int) rmX5_count [.ref (ad b), .int (what)] (f_X5_count w z x y ho tx what) := by
  refine RM.of (by decide +kernel) ⟨rfl, rfl⟩ (Nat.le_of_ble_eq_true rfl) (narI _) ?_
  intro p e s m as below meth c Q X H hP ls hl kr
  have X : WX p s m as c cX5_count 2 RX5 dd t := X
  have hx := X.1.1
  have hb := X.1.2.1
  have hl : lv_has ls 2 [(0, .ref (ad b)), (1, .int (what))] := hl
  have hi2_0 := hp2.i0
  have hi2_1 := hp2.i1
  have hi3_0 := hp3.i0
  have hi4_0 := hp4.i0
  have hi5_0 := hp5.i0
  have hle0 := hp0.le
  have hle1 := hp1.le
  have hle2 := hp2.le
  have hle3 := hp3.le
  have hle4 := hp4.le
  have hle5 := hp5.le
  refine lv_iload_n hx hb dX5_count_0 rfl (lv_at hl 1 rfl) ?_
  by_cases c1 : what = 0
  · refine lv_tableIn (tgt := 56) hx hb dX5_count_1 (by rw [c1]; decide) (by rw [c1]; decide) (by rw [c1]; rfl) (by decide) ?_
    refine lv_aload_n hx hb dX5_count_56 rfl (lv_at hl 0 rfl) ?_
    refine g_Zo_now X hP hp0 m15 dX5_count_57 ?_
    refine g_So_places X hP hp1 m93 dX5_count_60 ?_
    refine g_Pl_siteCount X hP hp2 m94 dX5_count_63 ?_
    exact kr 66 ls _ (Eq.symm (by rw [f_X5_count, if_pos c1] <;> rfl)) dX5_count_66
  · by_cases c2 : what = (nI 1)
    · refine lv_tableIn (tgt := 67) hx hb dX5_count_1 (by rw [c2]; decide) (by rw [c2]; decide) (by rw [c2]; rfl) (by decide) ?_
      refine lv_aload_n hx hb dX5_count_67 rfl (lv_at hl 0 rfl) ?_
      refine g_Zo_now X hP hp0 m15 dX5_count_68 ?_
      refine g_So_places X hP hp1 m93 dX5_count_71 ?_
      refine g_Pl_customerCount X hP hp2 m163 dX5_count_74 ?_
      exact kr 77 ls _ (Eq.symm (by rw [f_X5_count, if_neg c1, if_pos c2] <;> rfl)) dX5_count_77
    · by_cases c3 : what = (nI 2)
      · refine lv_tableIn (tgt := 78) hx hb dX5_count_1 (by rw [c3]; decide) (by rw [c3]; decide) (by rw [c3]; rfl) (by decide) ?_
        refine lv_aload_n hx hb dX5_count_78 rfl (lv_at hl 0 rfl) ?_
        refine g_Zo_now X hP hp0 m15 dX5_count_79 ?_
        refine g_So_places X hP hp1 m93 dX5_count_82 ?_
        refine r_call (As := []) (rest := []) (ci := 3) X hP (c_X3_countRoutes hp2) o_X3_countRoutes rfl hp2.lt hp2.ob m765 ⟨rfl, rfl⟩ ⟨Nat.le_of_ble_eq_true rfl, Nat.le_of_ble_eq_true rfl⟩ rfl hl.1 rfl (Nat.le_of_ble_eq_true rfl) ⟨Nat.zero_le _, Nat.zero_le _⟩ dX5_count_85 ?_
        exact kr 88 ls _ (Eq.symm (by rw [f_X5_count, if_neg c1, if_neg c2, if_pos c3] <;> rfl)) dX5_count_88
      · by_cases c4 : what = (nI 3)
        · refine lv_tableIn (tgt := 89) hx hb dX5_count_1 (by rw [c4]; decide) (by rw [c4]; decide) (by rw [c4]; rfl) (by decide) ?_
          refine lv_aload_n hx hb dX5_count_89 rfl (lv_at hl 0 rfl) ?_
          refine g_Zo_now X hP hp0 m15 dX5_count_90 ?_
          refine g_So_places X hP hp1 m93 dX5_count_93 ?_
          refine g_Pl_most X hP hp2 m229 dX5_count_96 ?_
          exact kr 99 ls _ (Eq.symm (by rw [f_X5_count, if_neg c1, if_neg c2, if_neg c3, if_pos c4] <;> rfl)) dX5_count_99
        · by_cases c5 : what = (nI 4)
          · refine lv_tableIn (tgt := 100) hx hb dX5_count_1 (by rw [c5]; decide) (by rw [c5]; decide) (by rw [c5]; rfl) (by decide) ?_
            refine lv_aload_n hx hb dX5_count_100 rfl (lv_at hl 0 rfl) ?_
            refine g_Zo_now X hP hp0 m15 dX5_count_101 ?_
            refine g_So_places X hP hp1 m93 dX5_count_104 ?_
            refine r_call (As := []) (rest := []) (ci := 3) X hP (c_X3_countExcludingPairs hp2) o_X3_countExcludingPairs rfl hp2.lt hp2.ob m769 ⟨rfl, rfl⟩ ⟨Nat.le_of_ble_eq_true rfl, Nat.le_of_ble_eq_true rfl⟩ rfl hl.1 rfl (Nat.le_of_ble_eq_true rfl) ⟨Nat.zero_le _, Nat.zero_le _⟩ dX5_count_107 ?_
            exact kr 110 ls _ (Eq.symm (by rw [f_X5_count, if_neg c1, if_neg c2, if_neg c3, if_neg c4, if_pos c5] <;> rfl)) dX5_count_110
          · by_cases c6 : what = (nI 5)
            · refine lv_tableIn (tgt := 111) hx hb dX5_count_1 (by rw [c6]; decide) (by rw [c6]; decide) (by rw [c6]; rfl) (by decide) ?_
              refine lv_aload_n hx hb dX5_count_111 rfl (lv_at hl 0 rfl) ?_
              refine g_Zo_now X hP hp0 m15 dX5_count_112 ?_
              refine g_So_cuts X hP hp1 m446 dX5_count_115 ?_
              refine g_Cu_amount X hP hp3 m447 dX5_count_118 ?_
              exact kr 121 ls _ (Eq.symm (by rw [f_X5_count, if_neg c1, if_neg c2, if_neg c3, if_neg c4, if_neg c5, if_pos c6] <;> rfl)) dX5_count_121
            · by_cases c7 : what = (nI 6)
              · refine lv_tableIn (tgt := 122) hx hb dX5_count_1 (by rw [c7]; decide) (by rw [c7]; decide) (by rw [c7]; rfl) (by decide) ?_
                refine lv_aload_n hx hb dX5_count_122 rfl (lv_at hl 0 rfl) ?_
                refine g_Zo_now X hP hp0 m15 dX5_count_123 ?_
                refine g_So_cuts X hP hp1 m446 dX5_count_126 ?_
                refine r_call (As := []) (rest := []) (ci := 1) X hP (c_X1_countRays hp3) o_X1_countRays rfl hp3.lt hp3.ob m774 ⟨rfl, rfl⟩ ⟨Nat.le_of_ble_eq_true rfl, Nat.le_of_ble_eq_true rfl⟩ rfl hl.1 rfl (Nat.le_of_ble_eq_true rfl) ⟨Nat.zero_le _, Nat.zero_le _⟩ dX5_count_129 ?_
                exact kr 132 ls _ (Eq.symm (by rw [f_X5_count, if_neg c1, if_neg c2, if_neg c3, if_neg c4, if_neg c5, if_neg c6, if_pos c7] <;> rfl)) dX5_count_132
              · by_cases c8 : what = (nI 7)
                · refine lv_tableIn (tgt := 133) hx hb dX5_count_1 (by rw [c8]; decide) (by rw [c8]; decide) (by rw [c8]; rfl) (by decide) ?_
                  refine lv_aload_n hx hb dX5_count_133 rfl (lv_at hl 0 rfl) ?_
                  refine g_Zo_now X hP hp0 m15 dX5_count_134 ?_
                  refine g_So_steps X hP hp1 m764 dX5_count_137 ?_
                  exact kr 140 ls _ (Eq.symm (by rw [f_X5_count, if_neg c1, if_neg c2, if_neg c3, if_neg c4, if_neg c5, if_neg c6, if_neg c7, if_pos c8] <;> rfl)) dX5_count_140
                · by_cases c9 : what = (nI 8)
                  · refine lv_tableIn (tgt := 141) hx hb dX5_count_1 (by rw [c9]; decide) (by rw [c9]; decide) (by rw [c9]; rfl) (by decide) ?_
                    refine lv_aload_n hx hb dX5_count_141 rfl (lv_at hl 0 rfl) ?_
                    refine g_Zo_history X hP hp0 m22 dX5_count_142 ?_
                    refine g_Ho_amount X hP hp4 m574 dX5_count_145 ?_
                    exact kr 148 ls _ (Eq.symm (by rw [f_X5_count, if_neg c1, if_neg c2, if_neg c3, if_neg c4, if_neg c5, if_neg c6, if_neg c7, if_neg c8, if_pos c9] <;> rfl)) dX5_count_148
                  · by_cases c10 : what = (nI 9)
                    · refine lv_tableIn (tgt := 149) hx hb dX5_count_1 (by rw [c10]; decide) (by rw [c10]; decide) (by rw [c10]; rfl) (by decide) ?_
                      refine lv_aload_n hx hb dX5_count_149 rfl (lv_at hl 0 rfl) ?_
                      refine g_Zo_text X hP hp0 m26 dX5_count_150 ?_
                      refine g_Tx_length X hP hp5 m549 dX5_count_153 ?_
                      exact kr 156 ls _ (Eq.symm (by rw [f_X5_count, if_neg c1, if_neg c2, if_neg c3, if_neg c4, if_neg c5, if_neg c6, if_neg c7, if_neg c8, if_neg c9, if_pos c10] <;> rfl)) dX5_count_156
                    · refine lv_tableOut (tgt := 157) hx hb dX5_count_1 (sw_out9 c1 c2 c3 c4 c5 c6 c7 c8 c9 c10) (by decide) ?_
                      refine lv_bipush (v := (-2)) hx hb dX5_count_157 (by decide) ?_
                      exact kr 159 ls _ (Eq.symm (by rw [f_X5_count, if_neg c1, if_neg c2, if_neg c3, if_neg c4, if_neg c5, if_neg c6, if_neg c7, if_neg c8, if_neg c9, if_neg c10] <;> rfl)) dX5_count_159
theorem o_X5_count : okV yX5_count cX5_count 2 (some .int) 1 := ⟨m761, m762, m2, m763, by decide +kernel, by decide +kernel, by decide +kernel⟩
