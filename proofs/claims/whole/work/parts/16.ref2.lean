/-! the other readers of the reference -/
theorem sw_out3 {x : Int32} (h0 : ¬ x = nI 0) (h1 : ¬ x = nI 1) (h2 : ¬ x = nI 2) (h3 : ¬ x = nI 3) : x.toInt < 0 ∨ 3 < x.toInt := by
  by_cases h : x.toInt < 0 ∨ 3 < x.toInt
  · exact h
  · exfalso
    have key : ∀ k : Nat, k < 100 → x.toInt = (k : Int) → x = nI k := fun k hk e => Int32.toInt_inj.mp (e.trans (nI_toInt (by omega)).symm)
    have h9 : ∃ k : Nat, k ≤ 3 ∧ x.toInt = (k : Int) := ⟨x.toInt.toNat, by omega, by omega⟩
    obtain ⟨k, hk, e⟩ := h9
    have e2 := key k (by omega) e
    have hc : k = 0 ∨ k = 1 ∨ k = 2 ∨ k = 3 := by omega
    rcases hc with rfl | rfl | rfl | rfl
    · exact h0 e2
    · exact h1 e2
    · exact h2 e2
    · exact h3 e2
def RaysOk (x : MoC) (mm kk : Nat) : Prop := ∀ k, k < kk → ¬ oR x (84 + 9 * k) < 0 → (oR x (84 + 9 * k) = nI (tn (oR x (84 + 9 * k))) ∧ tn (oR x (84 + 9 * k)) < mm)
theorem in_n {v : Int32} {n : Nat} (hn : n < 2 ^ 31) (h : f_X6_in v (nI 0) (nI n - nI 1) = true) : v = nI (tn v) ∧ tn v < n := by
  unfold f_X6_in at h
  have e0 : nI 0 = 0 := rfl
  rw [e0] at h
  by_cases c1 : v < 0
  · simp [c1] at h
  · by_cases c2 : nI n - nI 1 < v
    · simp [c1, c2] at h
    · obtain ⟨j, hj, rfl⟩ := nI_of c1
      have h3 : j < n := by
        rcases Nat.eq_zero_or_pos n with rfl | hp
        · exfalso
          apply c2
          rw [Int32.lt_iff_toInt_lt, nI_toInt hj]
          have : (nI 0 - nI 1).toInt = -1 := by decide
          omega
        · rw [pk_sub (by omega)] at c2
          have := Nat.not_lt.mp (fun q => c2 ((nI_ltI (by omega) hj).mpr q))
          omega
      exact nI_inv h3 hn
theorem noSite_n {x : MoC} {nn mm kk : Nat} {v : Int32} (h : f_X6_noSite x nn mm kk v = false) (hn : nn < 2 ^ 31) : v = nI (tn v) ∧ tn v < nn := by
  unfold f_X6_noSite at h
  by_cases c : f_X6_in v (nI 0) ((nI nn) - (nI 1)) = true
  · exact in_n hn c
  · rw [if_neg c] at h; cases h
theorem noCust_n {x : MoC} {nn mm kk : Nat} {v : Int32} (h : f_X6_noCustomer x nn mm kk v = false) (hn : mm < 2 ^ 31) : v = nI (tn v) ∧ tn v < mm := by
  unfold f_X6_noCustomer at h
  by_cases c : f_X6_in v (nI 0) ((nI mm) - (nI 1)) = true
  · exact in_n hn c
  · rw [if_neg c] at h; cases h
theorem noCut_n {x : MoC} {nn mm kk : Nat} {v : Int32} (h : f_X6_noCut x nn mm kk v = false) (hn : kk < 2 ^ 31) : v = nI (tn v) ∧ tn v < kk := by
  unfold f_X6_noCut at h
  by_cases c : f_X6_in v (nI 0) ((nI kk) - (nI 1)) = true
  · exact in_n hn c
  · rw [if_neg c] at h; cases h

def rmX6_routes : Room := { frames := 2, cells := 0, slots := 0, locals := 46 }
def l_X6_routes_4 (x : MoC) (nn : Nat) (mm : Nat) (kk : Nat) (plan : Int32) : Nat → Nat → Int32 → Int32
  | 0, ix_1, a2_1 => a2_1
  | dx_1 + 1, ix_1, a2_1 => l_X6_routes_4 x nn mm kk plan dx_1 (ix_1 + 1) (a2_1 + ((oR x (13 + ix_1)) * (oR x (21 + 8 * (tn (f_X6_server x nn mm kk plan ix_1)) + ix_1))))
def f_X6_routes (x : MoC) (nn : Nat) (mm : Nat) (kk : Nat) (plan : Int32) : Int32 :=
  (l_X6_routes_4 x nn mm kk plan mm 0 (nI 0))
set_option maxHeartbeats 4000000 in
set_option maxRecDepth 100000 in
theorem c_X6_routes {l : Launch} {dd : va_G} {t : CL4} {N : Nat} {ad : Nat → Nat} {V : Nat → va_E} {b : Nat} {x : MoC} {nn : Nat} {mm : Nat} {kk : Nat} (hp0 : MoP N ad V t b x) (plan : Int32) (h0 : oR x 0 = nI nn) (h1 : oR x 1 = nI mm) (h3 : oR x 3 = nI kk) (hn : nn ≤ 7) (hm : mm ≤ 8) (hk : kk ≤ 40) (hre : ∀ cn, cn < mm → ¬ f_X6_server x nn mm kk plan cn < 0) : RM l dd t N ad V yX6_routes cX6_routes 4 (some .int) rmX6_routes [.ref (ad b), .int (plan)] (f_X6_routes x nn mm kk plan) := by
  refine RM.of (by decide +kernel) ⟨rfl, rfl⟩ (Nat.le_of_ble_eq_true rfl) (narI _) ?_
  intro p e s m as below meth c Q X H hP ls hl kr
  have X : WX p s m as c cX6_routes 4 RX6 dd t := X
  have hx := X.1.1
  have hb := X.1.2.1
  have hl : lv_has ls 4 [(0, .ref (ad b)), (1, .int (plan))] := hl
  have hle0 := hp0.le
  refine lv_iconst (v := nI 0) hx hb dX6_routes_0 (by decide) ?_
  refine lv_istore_n (lv' := [(2, .int (nI 0)), (0, .ref (ad b)), (1, .int (plan))]) hx hb dX6_routes_1 rfl hl (by decide) rfl (fun ls hl => ?_)
  refine lv_iconst (v := nI 0) hx hb dX6_routes_2 (by decide) ?_
  refine lv_istore_n (lv' := [(3, .int (nI 0)), (2, .int (nI 0)), (0, .ref (ad b)), (1, .int (plan))]) hx hb dX6_routes_3 rfl hl (by decide) rfl (fun ls hl => ?_)
  have L1 : ∀ (dx_1 ix_1 : Nat) (a2_1 : Int32) (ls : Array Slot), (ix_1 + dx_1 = mm) → (l_X6_routes_4 x nn mm kk plan dx_1 ix_1 a2_1 = l_X6_routes_4 x nn mm kk plan mm 0 (nI 0)) → (lv_has ls 4 [(0, .ref (ad b)), (1, .int (plan)), (2, .int (a2_1)), (3, .int (nI ix_1))]) → W p l e rmX6_routes s m as below meth c H [] 0 0 Q (F0 m 4 ls []) := by
    intro dx_1
    induction dx_1 with
    | zero =>
      intro ix_1 a2_1 ls hid hvx_1 hl
      have hiN : mm = ix_1 := by omega
      subst hiN
      have hvx_1 : a2_1 = l_X6_routes_4 x nn mm kk plan mm 0 (nI 0) := hvx_1
      have hh0 : a2_1 = l_X6_routes_4 x nn mm kk plan mm 0 (nI 0) := hvx_1
      subst hh0
      refine lv_iload_n hx hb dX6_routes_4 rfl (lv_at hl 3 rfl) ?_
      refine lv_aload_n hx hb dX6_routes_5 rfl (lv_at hl 0 rfl) ?_
      refine g_Mo_row X hP hp0 m83 dX6_routes_6 ?_
      refine lv_iconst (v := nI 1) hx hb dX6_routes_9 (by decide) ?_
      refine l_Mo_row X hP hp0 (by decide) dX6_routes_10 ?_
      refine q_val (h1 : oR x 1 = nI mm) ?_
      refine q_ge (tgt := 48) hx hb (by omega) (by omega) dX6_routes_11 (by decide) (fun c2 => ?_) (fun h => absurd h (by omega))
      refine lv_iload_n hx hb dX6_routes_48 rfl (lv_at hl 2 rfl) ?_
      exact kr 49 ls _ (Eq.symm (by rw [f_X6_routes] <;> rfl)) dX6_routes_49
    | succ dx_1 ihx_1 =>
      intro ix_1 a2_1 ls hid hvx_1 hl
      refine lv_iload_n hx hb dX6_routes_4 rfl (lv_at hl 3 rfl) ?_
      refine lv_aload_n hx hb dX6_routes_5 rfl (lv_at hl 0 rfl) ?_
      refine g_Mo_row X hP hp0 m83 dX6_routes_6 ?_
      refine lv_iconst (v := nI 1) hx hb dX6_routes_9 (by decide) ?_
      refine l_Mo_row X hP hp0 (by decide) dX6_routes_10 ?_
      refine q_val (h1 : oR x 1 = nI mm) ?_
      refine q_ge (tgt := 48) hx hb (by omega) (by omega) dX6_routes_11 (by decide) (fun h => absurd h (by omega)) (fun c3 => ?_)
      refine lv_iload_n hx hb dX6_routes_14 rfl (lv_at hl 2 rfl) ?_
      refine lv_aload_n hx hb dX6_routes_15 rfl (lv_at hl 0 rfl) ?_
      refine g_Mo_row X hP hp0 m83 dX6_routes_16 ?_
      refine lv_bipush (v := nI 13) hx hb dX6_routes_19 (by decide) ?_
      refine lv_iload_n hx hb dX6_routes_21 rfl (lv_at hl 3 rfl) ?_
      refine q_iadd hx hb dX6_routes_22 ?_
      refine l_Mo_row X hP hp0 (by omega) dX6_routes_23 ?_
      refine lv_aload_n hx hb dX6_routes_24 rfl (lv_at hl 0 rfl) ?_
      refine g_Mo_row X hP hp0 m83 dX6_routes_25 ?_
      refine lv_aload_n hx hb dX6_routes_28 rfl (lv_at hl 0 rfl) ?_
      refine lv_iload_n hx hb dX6_routes_29 rfl (lv_at hl 1 rfl) ?_
      refine lv_iload_n hx hb dX6_routes_30 rfl (lv_at hl 3 rfl) ?_
      refine r_call (As := [.int (plan), .int (nI ix_1)]) (rest := [.ref (ad (b + 1)), .int (oR x (13 + ix_1)), .int (a2_1)]) (ci := 6) X hP (c_X6_server (nn := nn) (mm := mm) (kk := kk) hp0 plan ix_1 h0 h1 h3 hn hm hk (by omega)) o_X6_server rfl hp0.lt hp0.ob m438 ⟨rfl, rfl⟩ ⟨Nat.le_of_ble_eq_true rfl, Nat.le_of_ble_eq_true rfl⟩ rfl hl.1 rfl (Nat.le_of_ble_eq_true rfl) ⟨Nat.zero_le _, Nat.zero_le _⟩ dX6_routes_31 ?_
      have hsv4 := server_n (mm := mm) (kk := kk) hn (hre ix_1 (by omega))
      have hsv4b := hsv4.2
      refine q_val hsv4.1 ?_
      refine lv_iload_n hx hb dX6_routes_34 rfl (lv_at hl 3 rfl) ?_
      refine r_callS (As := [.int (nI (tn (f_X6_server x nn mm kk plan ix_1))), .int (nI ix_1)]) (rest := [.ref (ad (b + 1)), .int (oR x (13 + ix_1)), .int (a2_1)]) X hP (c_X6_route (tn (f_X6_server x nn mm kk plan ix_1)) ix_1) o_X6_route m222 ⟨rfl, rfl⟩ ⟨Nat.le_of_ble_eq_true rfl, Nat.le_of_ble_eq_true rfl⟩ rfl hl.1 rfl (Nat.le_of_ble_eq_true rfl) ⟨Nat.zero_le _, Nat.zero_le _⟩ dX6_routes_35 ?_
      refine q_val (show nI (f_X6_route (tn (f_X6_server x nn mm kk plan ix_1)) ix_1) = nI (21 + 8 * (tn (f_X6_server x nn mm kk plan ix_1)) + ix_1) from rfl) ?_
      refine l_Mo_row X hP hp0 (by omega) dX6_routes_38 ?_
      refine lv_imul hx hb dX6_routes_39 ?_
      refine lv_iadd hx hb dX6_routes_40 ?_
      refine lv_istore_n (lv' := [(2, .int (a2_1 + ((oR x (13 + ix_1)) * (oR x (21 + 8 * (tn (f_X6_server x nn mm kk plan ix_1)) + ix_1))))), (0, .ref (ad b)), (1, .int (plan)), (3, .int (nI ix_1))]) hx hb dX6_routes_41 rfl hl (by decide) rfl (fun ls hl => ?_)
      refine lv_iinc (v := nI (ix_1 + 1)) (lv' := [(3, .int (nI (ix_1 + 1))), (2, .int (a2_1 + ((oR x (13 + ix_1)) * (oR x (21 + 8 * (tn (f_X6_server x nn mm kk plan ix_1)) + ix_1))))), (0, .ref (ad b)), (1, .int (plan))]) hx hb dX6_routes_42 hl (k := 3) rfl (nI_inc _) (by decide) rfl (fun ls hl => ?_)
      refine lv_goto (tgt := 4) hx hb dX6_routes_45 (by decide) ?_
      exact ihx_1 (ix_1 + 1) (a2_1 + ((oR x (13 + ix_1)) * (oR x (21 + 8 * (tn (f_X6_server x nn mm kk plan ix_1)) + ix_1)))) ls (by omega) (Eq.trans (Eq.symm (by rw [l_X6_routes_4] <;> rfl)) hvx_1) (lv_sub hl [2, 3, 1, 0] rfl)
  exact L1 mm 0 (nI 0) ls (by omega) rfl (lv_sub hl [2, 3, 1, 0] rfl)
theorem o_X6_routes : okV yX6_routes cX6_routes 4 (some .int) 1 := ⟨m435, m436, m5, m437, by decide +kernel, by decide +kernel, by decide +kernel⟩
def rmX6_isFeasible : Room := { frames := 3, cells := 0, slots := 0, locals := 66 }
def f_X6_isFeasible (x : MoC) (nn : Nat) (mm : Nat) (kk : Nat) (plan : Int32) : Bool :=
  (if (f_X6_isAllowed x nn mm kk plan) = true then (if (f_X6_missed x nn mm kk plan) < 0 then true else false) else false)
set_option maxHeartbeats 4000000 in
set_option maxRecDepth 100000 in
theorem c_X6_isFeasible {l : Launch} {dd : va_G} {t : CL4} {N : Nat} {ad : Nat → Nat} {V : Nat → va_E} {b : Nat} {x : MoC} {nn : Nat} {mm : Nat} {kk : Nat} (hp0 : MoP N ad V t b x) (plan : Int32) (h0 : oR x 0 = nI nn) (h1 : oR x 1 = nI mm) (h3 : oR x 3 = nI kk) (hn : nn ≤ 7) (hm : mm ≤ 8) (hk : kk ≤ 40) : RM l dd t N ad V yX6_isFeasible cX6_isFeasible 2 (some .boolean) rmX6_isFeasible [.ref (ad b), .int (plan)] (b01 (f_X6_isFeasible x nn mm kk plan)) := by
  refine RM.of (by decide +kernel) ⟨rfl, rfl⟩ (Nat.le_of_ble_eq_true rfl) (narB _) ?_
  intro p e s m as below meth c Q X H hP ls hl kr
  have X : WX p s m as c cX6_isFeasible 2 RX6 dd t := X
  have hx := X.1.1
  have hb := X.1.2.1
  have hl : lv_has ls 2 [(0, .ref (ad b)), (1, .int (plan))] := hl
  have hle0 := hp0.le
  refine lv_aload_n hx hb dX6_isFeasible_0 rfl (lv_at hl 0 rfl) ?_
  refine lv_iload_n hx hb dX6_isFeasible_1 rfl (lv_at hl 1 rfl) ?_
  refine r_call (As := [.int (plan)]) (rest := []) (ci := 6) X hP (c_X6_isAllowed (nn := nn) (mm := mm) (kk := kk) hp0 plan h0 h1 h3 hn hm hk) o_X6_isAllowed rfl hp0.lt hp0.ob m390 ⟨rfl, rfl⟩ ⟨Nat.le_of_ble_eq_true rfl, Nat.le_of_ble_eq_true rfl⟩ rfl hl.1 rfl (Nat.le_of_ble_eq_true rfl) ⟨Nat.zero_le _, Nat.zero_le _⟩ dX6_isFeasible_2 ?_
  refine q_eqB (tgt := 20) hx hb dX6_isFeasible_5 (by decide) (fun c1 => ?_) (fun c1 => ?_)
  · refine lv_iconst (v := nI 0) hx hb dX6_isFeasible_20 (by decide) ?_
    exact kr 21 ls _ (b_f (by rw [f_X6_isFeasible, if_neg (nt c1)] <;> rfl)) dX6_isFeasible_21
  · refine lv_aload_n hx hb dX6_isFeasible_8 rfl (lv_at hl 0 rfl) ?_
    refine lv_iload_n hx hb dX6_isFeasible_9 rfl (lv_at hl 1 rfl) ?_
    refine r_call (As := [.int (plan)]) (rest := []) (ci := 6) X hP (c_X6_missed (nn := nn) (mm := mm) (kk := kk) hp0 plan h0 h1 h3 hn hm hk) o_X6_missed rfl hp0.lt hp0.ob m430 ⟨rfl, rfl⟩ ⟨Nat.le_of_ble_eq_true rfl, Nat.le_of_ble_eq_true rfl⟩ rfl hl.1 rfl (Nat.le_of_ble_eq_true rfl) ⟨Nat.zero_le _, Nat.zero_le _⟩ dX6_isFeasible_10 ?_
    refine u_ge (tgt := 20) hx hb dX6_isFeasible_13 (by decide) (fun c2 => ?_) (fun c2 => ?_)
    · refine lv_iconst (v := nI 0) hx hb dX6_isFeasible_20 (by decide) ?_
      exact kr 21 ls _ (b_f (by rw [f_X6_isFeasible, if_pos c1, if_neg c2] <;> rfl)) dX6_isFeasible_21
    · refine lv_iconst (v := nI 1) hx hb dX6_isFeasible_16 (by decide) ?_
      refine lv_goto (tgt := 21) hx hb dX6_isFeasible_17 (by decide) ?_
      exact kr 21 ls _ (b_t (by rw [f_X6_isFeasible, if_pos c1, if_pos c2] <;> rfl)) dX6_isFeasible_21
theorem o_X6_isFeasible : okV yX6_isFeasible cX6_isFeasible 2 (some .boolean) 1 := ⟨m694, m695, m5, m696, by decide +kernel, by decide +kernel, by decide +kernel⟩
theorem feas_missed {x : MoC} {nn mm kk : Nat} {plan : Int32} (h : f_X6_isFeasible x nn mm kk plan = true) : f_X6_missed x nn mm kk plan < 0 := by
  unfold f_X6_isFeasible at h
  by_cases c1 : f_X6_isAllowed x nn mm kk plan = true
  · rw [if_pos c1] at h
    by_cases c2 : f_X6_missed x nn mm kk plan < 0
    · exact c2
    · rw [if_neg c2] at h; cases h
  · rw [if_neg c1] at h; cases h

def rmX6_isRay : Room := { frames := 0, cells := 0, slots := 0, locals := 0 }
def f_X6_isRay (x : MoC) (nn : Nat) (mm : Nat) (kk : Nat) (kc : Nat) : Bool :=
  (if (oR x (84 + 9 * kc)) < 0 then false else true)
set_option maxHeartbeats 4000000 in
set_option maxRecDepth 100000 in
theorem c_X6_isRay {l : Launch} {dd : va_G} {t : CL4} {N : Nat} {ad : Nat → Nat} {V : Nat → va_E} {b : Nat} {x : MoC} {nn : Nat} {mm : Nat} {kk : Nat} (hp0 : MoP N ad V t b x) (kc : Nat) (h0 : oR x 0 = nI nn) (h1 : oR x 1 = nI mm) (h3 : oR x 3 = nI kk) (hn : nn ≤ 7) (hm : mm ≤ 8) (hk : kk ≤ 40) (h_cut : kc < kk) : RM l dd t N ad V yX6_isRay cX6_isRay 2 (some .boolean) rmX6_isRay [.ref (ad b), .int (nI kc)] (b01 (f_X6_isRay x nn mm kk kc)) := by
  refine RM.of (by decide +kernel) ⟨rfl, rfl⟩ (Nat.le_of_ble_eq_true rfl) (narB _) ?_
  intro p e s m as below meth c Q X H hP ls hl kr
  have X : WX p s m as c cX6_isRay 2 RX6 dd t := X
  have hx := X.1.1
  have hb := X.1.2.1
  have hl : lv_has ls 2 [(0, .ref (ad b)), (1, .int (nI kc))] := hl
  have hle0 := hp0.le
  refine lv_aload_n hx hb dX6_isRay_0 rfl (lv_at hl 0 rfl) ?_
  refine g_Mo_row X hP hp0 m83 dX6_isRay_1 ?_
  refine lv_bipush (v := nI 84) hx hb dX6_isRay_4 (by decide) ?_
  refine lv_bipush (v := nI 9) hx hb dX6_isRay_6 (by decide) ?_
  refine lv_iload_n hx hb dX6_isRay_8 rfl (lv_at hl 1 rfl) ?_
  refine q_imul hx hb dX6_isRay_9 ?_
  refine q_iadd hx hb dX6_isRay_10 ?_
  refine W.eq (g2 := F0 m 11 ls [.int (nI (84 + 9 * kc)), .ref (ad (b + 1))]) rfl ?_
  refine l_Mo_row X hP hp0 (by omega) dX6_isRay_11 ?_
  refine u_lt (tgt := 19) hx hb dX6_isRay_12 (by decide) (fun c1 => ?_) (fun c1 => ?_)
  · refine lv_iconst (v := nI 0) hx hb dX6_isRay_19 (by decide) ?_
    exact kr 20 ls _ (b_f (by rw [f_X6_isRay, if_pos c1] <;> rfl)) dX6_isRay_20
  · refine lv_iconst (v := nI 1) hx hb dX6_isRay_15 (by decide) ?_
    refine lv_goto (tgt := 20) hx hb dX6_isRay_16 (by decide) ?_
    exact kr 20 ls _ (b_t (by rw [f_X6_isRay, if_neg c1] <;> rfl)) dX6_isRay_20
theorem o_X6_isRay : okV yX6_isRay cX6_isRay 2 (some .boolean) 1 := ⟨m403, m404, m5, m405, by decide +kernel, by decide +kernel, by decide +kernel⟩
theorem isRay_t {x : MoC} {nn mm kk k : Nat} (h : f_X6_isRay x nn mm kk k = true) : ¬ oR x (84 + 9 * k) < 0 := by
  unfold f_X6_isRay at h
  intro c
  rw [if_pos c] at h; cases h

def rmX6_weightOf : Room := { frames := 1, cells := 0, slots := 0, locals := 21 }
def l_X6_weightOf_5 (x : MoC) (nn : Nat) (mm : Nat) (kk : Nat) (kc : Nat) (sn : Nat) : Nat → Nat → Int32 → Int32
  | 0, ix_1, a3_1 => a3_1
  | dx_1 + 1, ix_1, a3_1 => (if 0 < ((oR x (84 + 9 * kc + 1 + ix_1)) - (oR x (21 + 8 * sn + ix_1))) then l_X6_weightOf_5 x nn mm kk kc sn dx_1 (ix_1 + 1) (a3_1 + ((oR x (13 + ix_1)) * ((oR x (84 + 9 * kc + 1 + ix_1)) - (oR x (21 + 8 * sn + ix_1))))) else l_X6_weightOf_5 x nn mm kk kc sn dx_1 (ix_1 + 1) (a3_1 + (nI 0)))
def f_X6_weightOf (x : MoC) (nn : Nat) (mm : Nat) (kk : Nat) (kc : Nat) (sn : Nat) : Int32 :=
  (l_X6_weightOf_5 x nn mm kk kc sn mm 0 (nI 0))
set_option maxHeartbeats 4000000 in
set_option maxRecDepth 100000 in
theorem c_X6_weightOf {l : Launch} {dd : va_G} {t : CL4} {N : Nat} {ad : Nat → Nat} {V : Nat → va_E} {b : Nat} {x : MoC} {nn : Nat} {mm : Nat} {kk : Nat} (hp0 : MoP N ad V t b x) (kc : Nat) (sn : Nat) (h0 : oR x 0 = nI nn) (h1 : oR x 1 = nI mm) (h3 : oR x 3 = nI kk) (hn : nn ≤ 7) (hm : mm ≤ 8) (hk : kk ≤ 40) (h_cut : kc < kk) (h_site : sn < nn) : RM l dd t N ad V yX6_weightOf cX6_weightOf 6 (some .int) rmX6_weightOf [.ref (ad b), .int (nI kc), .int (nI sn)] (f_X6_weightOf x nn mm kk kc sn) := by
  refine RM.of (by decide +kernel) ⟨rfl, rfl⟩ (Nat.le_of_ble_eq_true rfl) (narI _) ?_
  intro p e s m as below meth c Q X H hP ls hl kr
  have X : WX p s m as c cX6_weightOf 6 RX6 dd t := X
  have hx := X.1.1
  have hb := X.1.2.1
  have hl : lv_has ls 6 [(0, .ref (ad b)), (1, .int (nI kc)), (2, .int (nI sn))] := hl
  have hle0 := hp0.le
  refine lv_iconst (v := nI 0) hx hb dX6_weightOf_0 (by decide) ?_
  refine lv_istore_n (lv' := [(3, .int (nI 0)), (0, .ref (ad b)), (1, .int (nI kc)), (2, .int (nI sn))]) hx hb dX6_weightOf_1 rfl hl (by decide) rfl (fun ls hl => ?_)
  refine lv_iconst (v := nI 0) hx hb dX6_weightOf_2 (by decide) ?_
  refine lv_istore (lv' := [(4, .int (nI 0)), (3, .int (nI 0)), (0, .ref (ad b)), (1, .int (nI kc)), (2, .int (nI sn))]) hx hb dX6_weightOf_3 hl (by decide) rfl (fun ls hl => ?_)
  have L1 : ∀ (dx_1 ix_1 : Nat) (a3_1 : Int32) (ls : Array Slot), (ix_1 + dx_1 = mm) → (l_X6_weightOf_5 x nn mm kk kc sn dx_1 ix_1 a3_1 = l_X6_weightOf_5 x nn mm kk kc sn mm 0 (nI 0)) → (lv_has ls 6 [(0, .ref (ad b)), (1, .int (nI kc)), (2, .int (nI sn)), (3, .int (a3_1)), (4, .int (nI ix_1))]) → W p l e rmX6_weightOf s m as below meth c H [] 0 0 Q (F0 m 5 ls []) := by
    intro dx_1
    induction dx_1 with
    | zero =>
      intro ix_1 a3_1 ls hid hvx_1 hl
      have hiN : mm = ix_1 := by omega
      subst hiN
      have hvx_1 : a3_1 = l_X6_weightOf_5 x nn mm kk kc sn mm 0 (nI 0) := hvx_1
      have hh0 : a3_1 = l_X6_weightOf_5 x nn mm kk kc sn mm 0 (nI 0) := hvx_1
      subst hh0
      refine lv_iload hx hb dX6_weightOf_5 (lv_at hl 4 rfl) ?_
      refine lv_aload_n hx hb dX6_weightOf_7 rfl (lv_at hl 0 rfl) ?_
      refine g_Mo_row X hP hp0 m83 dX6_weightOf_8 ?_
      refine lv_iconst (v := nI 1) hx hb dX6_weightOf_11 (by decide) ?_
      refine l_Mo_row X hP hp0 (by decide) dX6_weightOf_12 ?_
      refine q_val (h1 : oR x 1 = nI mm) ?_
      refine q_ge (tgt := 78) hx hb (by omega) (by omega) dX6_weightOf_13 (by decide) (fun c2 => ?_) (fun h => absurd h (by omega))
      refine lv_iload_n hx hb dX6_weightOf_78 rfl (lv_at hl 3 rfl) ?_
      exact kr 79 ls _ (Eq.symm (by rw [f_X6_weightOf] <;> rfl)) dX6_weightOf_79
    | succ dx_1 ihx_1 =>
      intro ix_1 a3_1 ls hid hvx_1 hl
      refine lv_iload hx hb dX6_weightOf_5 (lv_at hl 4 rfl) ?_
      refine lv_aload_n hx hb dX6_weightOf_7 rfl (lv_at hl 0 rfl) ?_
      refine g_Mo_row X hP hp0 m83 dX6_weightOf_8 ?_
      refine lv_iconst (v := nI 1) hx hb dX6_weightOf_11 (by decide) ?_
      refine l_Mo_row X hP hp0 (by decide) dX6_weightOf_12 ?_
      refine q_val (h1 : oR x 1 = nI mm) ?_
      refine q_ge (tgt := 78) hx hb (by omega) (by omega) dX6_weightOf_13 (by decide) (fun h => absurd h (by omega)) (fun c3 => ?_)
      refine lv_aload_n hx hb dX6_weightOf_16 rfl (lv_at hl 0 rfl) ?_
      refine g_Mo_row X hP hp0 m83 dX6_weightOf_17 ?_
      refine lv_bipush (v := nI 84) hx hb dX6_weightOf_20 (by decide) ?_
      refine lv_bipush (v := nI 9) hx hb dX6_weightOf_22 (by decide) ?_
      refine lv_iload_n hx hb dX6_weightOf_24 rfl (lv_at hl 1 rfl) ?_
      refine q_imul hx hb dX6_weightOf_25 ?_
      refine q_iadd hx hb dX6_weightOf_26 ?_
      refine W.eq (g2 := F0 m 27 ls [.int (nI (84 + 9 * kc)), .ref (ad (b + 1))]) rfl ?_
      refine lv_iconst (v := nI 1) hx hb dX6_weightOf_27 (by decide) ?_
      refine q_iadd hx hb dX6_weightOf_28 ?_
      refine W.eq (g2 := F0 m 29 ls [.int (nI (84 + 9 * kc + 1)), .ref (ad (b + 1))]) rfl ?_
      refine lv_iload hx hb dX6_weightOf_29 (lv_at hl 4 rfl) ?_
      refine q_iadd hx hb dX6_weightOf_31 ?_
      refine W.eq (g2 := F0 m 32 ls [.int (nI (84 + 9 * kc + 1 + ix_1)), .ref (ad (b + 1))]) rfl ?_
      refine l_Mo_row X hP hp0 (by omega) dX6_weightOf_32 ?_
      refine lv_aload_n hx hb dX6_weightOf_33 rfl (lv_at hl 0 rfl) ?_
      refine g_Mo_row X hP hp0 m83 dX6_weightOf_34 ?_
      refine lv_iload_n hx hb dX6_weightOf_37 rfl (lv_at hl 2 rfl) ?_
      refine lv_iload hx hb dX6_weightOf_38 (lv_at hl 4 rfl) ?_
      refine r_callS (As := [.int (nI sn), .int (nI ix_1)]) (rest := [.ref (ad (b + 1)), .int (oR x (84 + 9 * kc + 1 + ix_1))]) X hP (c_X6_route sn ix_1) o_X6_route m222 ⟨rfl, rfl⟩ ⟨Nat.le_of_ble_eq_true rfl, Nat.le_of_ble_eq_true rfl⟩ rfl hl.1 rfl (Nat.le_of_ble_eq_true rfl) ⟨Nat.zero_le _, Nat.zero_le _⟩ dX6_weightOf_40 ?_
      refine q_val (show nI (f_X6_route sn ix_1) = nI (21 + 8 * sn + ix_1) from rfl) ?_
      refine l_Mo_row X hP hp0 (by omega) dX6_weightOf_43 ?_
      refine lv_isub hx hb dX6_weightOf_44 ?_
      refine lv_istore (lv' := [(5, .int ((oR x (84 + 9 * kc + 1 + ix_1)) - (oR x (21 + 8 * sn + ix_1)))), (0, .ref (ad b)), (1, .int (nI kc)), (2, .int (nI sn)), (3, .int (a3_1)), (4, .int (nI ix_1))]) hx hb dX6_weightOf_45 hl (by decide) rfl (fun ls hl => ?_)
      refine lv_iload_n hx hb dX6_weightOf_47 rfl (lv_at hl 4 rfl) ?_
      refine lv_iload hx hb dX6_weightOf_48 (lv_at hl 0 rfl) ?_
      refine u_le (tgt := 69) hx hb dX6_weightOf_50 (by decide) (fun c4 => ?_) (fun c4 => ?_)
      · refine lv_iconst (v := nI 0) hx hb dX6_weightOf_69 (by decide) ?_
        refine lv_iadd hx hb dX6_weightOf_70 ?_
        refine lv_istore_n (lv' := [(3, .int (a3_1 + (nI 0))), (5, .int ((oR x (84 + 9 * kc + 1 + ix_1)) - (oR x (21 + 8 * sn + ix_1)))), (0, .ref (ad b)), (1, .int (nI kc)), (2, .int (nI sn)), (4, .int (nI ix_1))]) hx hb dX6_weightOf_71 rfl hl (by decide) rfl (fun ls hl => ?_)
        refine lv_iinc (v := nI (ix_1 + 1)) (lv' := [(4, .int (nI (ix_1 + 1))), (3, .int (a3_1 + (nI 0))), (5, .int ((oR x (84 + 9 * kc + 1 + ix_1)) - (oR x (21 + 8 * sn + ix_1)))), (0, .ref (ad b)), (1, .int (nI kc)), (2, .int (nI sn))]) hx hb dX6_weightOf_72 hl (k := 5) rfl (nI_inc _) (by decide) rfl (fun ls hl => ?_)
        refine lv_goto (tgt := 5) hx hb dX6_weightOf_75 (by decide) ?_
        exact ihx_1 (ix_1 + 1) (a3_1 + (nI 0)) ls (by omega) (Eq.trans (Eq.symm (by rw [l_X6_weightOf_5, if_neg c4] <;> rfl)) hvx_1) (lv_sub hl [3, 4, 5, 1, 0] rfl)
      · refine lv_aload_n hx hb dX6_weightOf_53 rfl (lv_at hl 1 rfl) ?_
        refine g_Mo_row X hP hp0 m83 dX6_weightOf_54 ?_
        refine lv_bipush (v := nI 13) hx hb dX6_weightOf_57 (by decide) ?_
        refine lv_iload hx hb dX6_weightOf_59 (lv_at hl 5 rfl) ?_
        refine q_iadd hx hb dX6_weightOf_61 ?_
        refine l_Mo_row X hP hp0 (by omega) dX6_weightOf_62 ?_
        refine lv_iload hx hb dX6_weightOf_63 (lv_at hl 0 rfl) ?_
        refine lv_imul hx hb dX6_weightOf_65 ?_
        refine lv_goto (tgt := 70) hx hb dX6_weightOf_66 (by decide) ?_
        refine lv_iadd hx hb dX6_weightOf_70 ?_
        refine lv_istore_n (lv' := [(3, .int (a3_1 + ((oR x (13 + ix_1)) * ((oR x (84 + 9 * kc + 1 + ix_1)) - (oR x (21 + 8 * sn + ix_1)))))), (5, .int ((oR x (84 + 9 * kc + 1 + ix_1)) - (oR x (21 + 8 * sn + ix_1)))), (0, .ref (ad b)), (1, .int (nI kc)), (2, .int (nI sn)), (4, .int (nI ix_1))]) hx hb dX6_weightOf_71 rfl hl (by decide) rfl (fun ls hl => ?_)
        refine lv_iinc (v := nI (ix_1 + 1)) (lv' := [(4, .int (nI (ix_1 + 1))), (3, .int (a3_1 + ((oR x (13 + ix_1)) * ((oR x (84 + 9 * kc + 1 + ix_1)) - (oR x (21 + 8 * sn + ix_1)))))), (5, .int ((oR x (84 + 9 * kc + 1 + ix_1)) - (oR x (21 + 8 * sn + ix_1)))), (0, .ref (ad b)), (1, .int (nI kc)), (2, .int (nI sn))]) hx hb dX6_weightOf_72 hl (k := 5) rfl (nI_inc _) (by decide) rfl (fun ls hl => ?_)
        refine lv_goto (tgt := 5) hx hb dX6_weightOf_75 (by decide) ?_
        exact ihx_1 (ix_1 + 1) (a3_1 + ((oR x (13 + ix_1)) * ((oR x (84 + 9 * kc + 1 + ix_1)) - (oR x (21 + 8 * sn + ix_1))))) ls (by omega) (Eq.trans (Eq.symm (by rw [l_X6_weightOf_5, if_pos c4] <;> rfl)) hvx_1) (lv_sub hl [3, 4, 5, 1, 0] rfl)
  exact L1 mm 0 (nI 0) ls (by omega) rfl (lv_sub hl [2, 3, 4, 1, 0] rfl)
theorem o_X6_weightOf : okV yX6_weightOf cX6_weightOf 6 (some .int) 2 := ⟨m423, m424, m5, m425, by decide +kernel, by decide +kernel, by decide +kernel⟩
def rmX6_valueOf : Room := { frames := 2, cells := 0, slots := 0, locals := 46 }
def l_X6_valueOf_56 (x : MoC) (nn : Nat) (mm : Nat) (kk : Nat) (kc : Nat) (plan : Int32) : Nat → Nat → Int32 → Int32
  | 0, ix_3, a3_3 => a3_3
  | dx_3 + 1, ix_3, a3_3 => (if (f_X6_isIn plan (nI ix_3)) = true then l_X6_valueOf_56 x nn mm kk kc plan dx_3 (ix_3 + 1) (a3_3 - (f_X6_weightOf x nn mm kk kc ix_3)) else l_X6_valueOf_56 x nn mm kk kc plan dx_3 (ix_3 + 1) (a3_3 - (nI 0)))
def l_X6_valueOf_5 (x : MoC) (nn : Nat) (mm : Nat) (kk : Nat) (kc : Nat) (plan : Int32) : Nat → Nat → Int32 → Int32
  | 0, ix_1, a3_1 => a3_1
  | dx_1 + 1, ix_1, a3_1 => l_X6_valueOf_5 x nn mm kk kc plan dx_1 (ix_1 + 1) (a3_1 + ((oR x (13 + ix_1)) * (oR x (84 + 9 * kc + 1 + ix_1))))
def f_X6_valueOf (x : MoC) (nn : Nat) (mm : Nat) (kk : Nat) (kc : Nat) (plan : Int32) : Int32 :=
  (l_X6_valueOf_56 x nn mm kk kc plan nn 0 (l_X6_valueOf_5 x nn mm kk kc plan mm 0 (nI 0)))
set_option maxHeartbeats 4000000 in
set_option maxRecDepth 100000 in
theorem c_X6_valueOf {l : Launch} {dd : va_G} {t : CL4} {N : Nat} {ad : Nat → Nat} {V : Nat → va_E} {b : Nat} {x : MoC} {nn : Nat} {mm : Nat} {kk : Nat} (hp0 : MoP N ad V t b x) (kc : Nat) (plan : Int32) (h0 : oR x 0 = nI nn) (h1 : oR x 1 = nI mm) (h3 : oR x 3 = nI kk) (hn : nn ≤ 7) (hm : mm ≤ 8) (hk : kk ≤ 40) (h_cut : kc < kk) : RM l dd t N ad V yX6_valueOf cX6_valueOf 5 (some .int) rmX6_valueOf [.ref (ad b), .int (nI kc), .int (plan)] (f_X6_valueOf x nn mm kk kc plan) := by
  refine RM.of (by decide +kernel) ⟨rfl, rfl⟩ (Nat.le_of_ble_eq_true rfl) (narI _) ?_
  intro p e s m as below meth c Q X H hP ls hl kr
  have X : WX p s m as c cX6_valueOf 5 RX6 dd t := X
  have hx := X.1.1
  have hb := X.1.2.1
  have hl : lv_has ls 5 [(0, .ref (ad b)), (1, .int (nI kc)), (2, .int (plan))] := hl
  have hle0 := hp0.le
  refine lv_iconst (v := nI 0) hx hb dX6_valueOf_0 (by decide) ?_
  refine lv_istore_n (lv' := [(3, .int (nI 0)), (0, .ref (ad b)), (1, .int (nI kc)), (2, .int (plan))]) hx hb dX6_valueOf_1 rfl hl (by decide) rfl (fun ls hl => ?_)
  refine lv_iconst (v := nI 0) hx hb dX6_valueOf_2 (by decide) ?_
  refine lv_istore (lv' := [(4, .int (nI 0)), (3, .int (nI 0)), (0, .ref (ad b)), (1, .int (nI kc)), (2, .int (plan))]) hx hb dX6_valueOf_3 hl (by decide) rfl (fun ls hl => ?_)
  have L1 : ∀ (dx_1 ix_1 : Nat) (a3_1 : Int32) (ls : Array Slot), (ix_1 + dx_1 = mm) → (l_X6_valueOf_5 x nn mm kk kc plan dx_1 ix_1 a3_1 = l_X6_valueOf_5 x nn mm kk kc plan mm 0 (nI 0)) → (lv_has ls 5 [(0, .ref (ad b)), (1, .int (nI kc)), (2, .int (plan)), (3, .int (a3_1)), (4, .int (nI ix_1))]) → W p l e rmX6_valueOf s m as below meth c H [] 0 0 Q (F0 m 5 ls []) := by
    intro dx_1
    induction dx_1 with
    | zero =>
      intro ix_1 a3_1 ls hid hvx_1 hl
      have hiN : mm = ix_1 := by omega
      subst hiN
      have hvx_1 : a3_1 = l_X6_valueOf_5 x nn mm kk kc plan mm 0 (nI 0) := hvx_1
      have hh0 : a3_1 = l_X6_valueOf_5 x nn mm kk kc plan mm 0 (nI 0) := hvx_1
      subst hh0
      refine lv_iload hx hb dX6_valueOf_5 (lv_at hl 4 rfl) ?_
      refine lv_aload_n hx hb dX6_valueOf_7 rfl (lv_at hl 0 rfl) ?_
      refine g_Mo_row X hP hp0 m83 dX6_valueOf_8 ?_
      refine lv_iconst (v := nI 1) hx hb dX6_valueOf_11 (by decide) ?_
      refine l_Mo_row X hP hp0 (by decide) dX6_valueOf_12 ?_
      refine q_val (h1 : oR x 1 = nI mm) ?_
      refine q_ge (tgt := 53) hx hb (by omega) (by omega) dX6_valueOf_13 (by decide) (fun c2 => ?_) (fun h => absurd h (by omega))
      refine lv_iconst (v := nI 0) hx hb dX6_valueOf_53 (by decide) ?_
      refine lv_istore (lv' := [(4, .int (nI 0)), (0, .ref (ad b)), (1, .int (nI kc)), (2, .int (plan)), (3, .int ((l_X6_valueOf_5 x nn mm kk kc plan mm 0 (nI 0))))]) hx hb dX6_valueOf_54 hl (by decide) rfl (fun ls hl => ?_)
      have L3 : ∀ (dx_3 ix_3 : Nat) (a3_3 : Int32) (ls : Array Slot), (ix_3 + dx_3 = nn) → (l_X6_valueOf_56 x nn mm kk kc plan dx_3 ix_3 a3_3 = l_X6_valueOf_56 x nn mm kk kc plan nn 0 (l_X6_valueOf_5 x nn mm kk kc plan mm 0 (nI 0))) → (lv_has ls 5 [(0, .ref (ad b)), (1, .int (nI kc)), (2, .int (plan)), (3, .int (a3_3)), (4, .int (nI ix_3))]) → W p l e rmX6_valueOf s m as below meth c H [] 0 0 Q (F0 m 56 ls []) := by
        intro dx_3
        induction dx_3 with
        | zero =>
          intro ix_3 a3_3 ls hid hvx_3 hl
          have hiN : nn = ix_3 := by omega
          subst hiN
          have hvx_3 : a3_3 = l_X6_valueOf_56 x nn mm kk kc plan nn 0 (l_X6_valueOf_5 x nn mm kk kc plan mm 0 (nI 0)) := hvx_3
          have hh0 : a3_3 = l_X6_valueOf_56 x nn mm kk kc plan nn 0 (l_X6_valueOf_5 x nn mm kk kc plan mm 0 (nI 0)) := hvx_3
          subst hh0
          refine lv_iload hx hb dX6_valueOf_56 (lv_at hl 4 rfl) ?_
          refine lv_aload_n hx hb dX6_valueOf_58 rfl (lv_at hl 0 rfl) ?_
          refine g_Mo_row X hP hp0 m83 dX6_valueOf_59 ?_
          refine lv_iconst (v := nI 0) hx hb dX6_valueOf_62 (by decide) ?_
          refine l_Mo_row X hP hp0 (by decide) dX6_valueOf_63 ?_
          refine q_val (h0 : oR x 0 = nI nn) ?_
          refine q_ge (tgt := 96) hx hb (by omega) (by omega) dX6_valueOf_64 (by decide) (fun c4 => ?_) (fun h => absurd h (by omega))
          refine lv_iload_n hx hb dX6_valueOf_96 rfl (lv_at hl 3 rfl) ?_
          exact kr 97 ls _ (Eq.symm (by rw [f_X6_valueOf] <;> rfl)) dX6_valueOf_97
        | succ dx_3 ihx_3 =>
          intro ix_3 a3_3 ls hid hvx_3 hl
          refine lv_iload hx hb dX6_valueOf_56 (lv_at hl 4 rfl) ?_
          refine lv_aload_n hx hb dX6_valueOf_58 rfl (lv_at hl 0 rfl) ?_
          refine g_Mo_row X hP hp0 m83 dX6_valueOf_59 ?_
          refine lv_iconst (v := nI 0) hx hb dX6_valueOf_62 (by decide) ?_
          refine l_Mo_row X hP hp0 (by decide) dX6_valueOf_63 ?_
          refine q_val (h0 : oR x 0 = nI nn) ?_
          refine q_ge (tgt := 96) hx hb (by omega) (by omega) dX6_valueOf_64 (by decide) (fun h => absurd h (by omega)) (fun c5 => ?_)
          refine lv_iload_n hx hb dX6_valueOf_67 rfl (lv_at hl 3 rfl) ?_
          refine lv_iload_n hx hb dX6_valueOf_68 rfl (lv_at hl 2 rfl) ?_
          refine lv_iload hx hb dX6_valueOf_69 (lv_at hl 4 rfl) ?_
          refine r_callS (As := [.int (plan), .int (nI ix_3)]) (rest := [.int (a3_3)]) X hP (c_X6_isIn plan (nI ix_3)) o_X6_isIn m261 ⟨rfl, rfl⟩ ⟨Nat.le_of_ble_eq_true rfl, Nat.le_of_ble_eq_true rfl⟩ rfl hl.1 rfl (Nat.le_of_ble_eq_true rfl) ⟨Nat.zero_le _, Nat.zero_le _⟩ dX6_valueOf_71 ?_
          refine q_eqB (tgt := 87) hx hb dX6_valueOf_74 (by decide) (fun c6 => ?_) (fun c6 => ?_)
          · refine lv_iconst (v := nI 0) hx hb dX6_valueOf_87 (by decide) ?_
            refine lv_isub hx hb dX6_valueOf_88 ?_
            refine lv_istore_n (lv' := [(3, .int (a3_3 - (nI 0))), (0, .ref (ad b)), (1, .int (nI kc)), (2, .int (plan)), (4, .int (nI ix_3))]) hx hb dX6_valueOf_89 rfl hl (by decide) rfl (fun ls hl => ?_)
            refine lv_iinc (v := nI (ix_3 + 1)) (lv' := [(4, .int (nI (ix_3 + 1))), (3, .int (a3_3 - (nI 0))), (0, .ref (ad b)), (1, .int (nI kc)), (2, .int (plan))]) hx hb dX6_valueOf_90 hl (k := 4) rfl (nI_inc _) (by decide) rfl (fun ls hl => ?_)
            refine lv_goto (tgt := 56) hx hb dX6_valueOf_93 (by decide) ?_
            exact ihx_3 (ix_3 + 1) (a3_3 - (nI 0)) ls (by omega) (Eq.trans (Eq.symm (by rw [l_X6_valueOf_56, if_neg (nt c6)] <;> rfl)) hvx_3) (lv_sub hl [2, 3, 4, 1, 0] rfl)
          · refine lv_aload_n hx hb dX6_valueOf_77 rfl (lv_at hl 0 rfl) ?_
            refine lv_iload_n hx hb dX6_valueOf_78 rfl (lv_at hl 1 rfl) ?_
            refine lv_iload hx hb dX6_valueOf_79 (lv_at hl 4 rfl) ?_
            refine r_call (As := [.int (nI kc), .int (nI ix_3)]) (rest := [.int (a3_3)]) (ci := 6) X hP (c_X6_weightOf (nn := nn) (mm := mm) (kk := kk) hp0 kc ix_3 h0 h1 h3 hn hm hk (by omega) (by omega)) o_X6_weightOf rfl hp0.lt hp0.ob m422 ⟨rfl, rfl⟩ ⟨Nat.le_of_ble_eq_true rfl, Nat.le_of_ble_eq_true rfl⟩ rfl hl.1 rfl (Nat.le_of_ble_eq_true rfl) ⟨Nat.zero_le _, Nat.zero_le _⟩ dX6_valueOf_81 ?_
            refine lv_goto (tgt := 88) hx hb dX6_valueOf_84 (by decide) ?_
            refine lv_isub hx hb dX6_valueOf_88 ?_
            refine lv_istore_n (lv' := [(3, .int (a3_3 - (f_X6_weightOf x nn mm kk kc ix_3))), (0, .ref (ad b)), (1, .int (nI kc)), (2, .int (plan)), (4, .int (nI ix_3))]) hx hb dX6_valueOf_89 rfl hl (by decide) rfl (fun ls hl => ?_)
            refine lv_iinc (v := nI (ix_3 + 1)) (lv' := [(4, .int (nI (ix_3 + 1))), (3, .int (a3_3 - (f_X6_weightOf x nn mm kk kc ix_3))), (0, .ref (ad b)), (1, .int (nI kc)), (2, .int (plan))]) hx hb dX6_valueOf_90 hl (k := 4) rfl (nI_inc _) (by decide) rfl (fun ls hl => ?_)
            refine lv_goto (tgt := 56) hx hb dX6_valueOf_93 (by decide) ?_
            exact ihx_3 (ix_3 + 1) (a3_3 - (f_X6_weightOf x nn mm kk kc ix_3)) ls (by omega) (Eq.trans (Eq.symm (by rw [l_X6_valueOf_56, if_pos c6] <;> rfl)) hvx_3) (lv_sub hl [2, 3, 4, 1, 0] rfl)
      exact L3 nn 0 (l_X6_valueOf_5 x nn mm kk kc plan mm 0 (nI 0)) ls (by omega) rfl (lv_sub hl [1, 2, 3, 4, 0] rfl)
    | succ dx_1 ihx_1 =>
      intro ix_1 a3_1 ls hid hvx_1 hl
      refine lv_iload hx hb dX6_valueOf_5 (lv_at hl 4 rfl) ?_
      refine lv_aload_n hx hb dX6_valueOf_7 rfl (lv_at hl 0 rfl) ?_
      refine g_Mo_row X hP hp0 m83 dX6_valueOf_8 ?_
      refine lv_iconst (v := nI 1) hx hb dX6_valueOf_11 (by decide) ?_
      refine l_Mo_row X hP hp0 (by decide) dX6_valueOf_12 ?_
      refine q_val (h1 : oR x 1 = nI mm) ?_
      refine q_ge (tgt := 53) hx hb (by omega) (by omega) dX6_valueOf_13 (by decide) (fun h => absurd h (by omega)) (fun c7 => ?_)
      refine lv_iload_n hx hb dX6_valueOf_16 rfl (lv_at hl 3 rfl) ?_
      refine lv_aload_n hx hb dX6_valueOf_17 rfl (lv_at hl 0 rfl) ?_
      refine g_Mo_row X hP hp0 m83 dX6_valueOf_18 ?_
      refine lv_bipush (v := nI 13) hx hb dX6_valueOf_21 (by decide) ?_
      refine lv_iload hx hb dX6_valueOf_23 (lv_at hl 4 rfl) ?_
      refine q_iadd hx hb dX6_valueOf_25 ?_
      refine l_Mo_row X hP hp0 (by omega) dX6_valueOf_26 ?_
      refine lv_aload_n hx hb dX6_valueOf_27 rfl (lv_at hl 0 rfl) ?_
      refine g_Mo_row X hP hp0 m83 dX6_valueOf_28 ?_
      refine lv_bipush (v := nI 84) hx hb dX6_valueOf_31 (by decide) ?_
      refine lv_bipush (v := nI 9) hx hb dX6_valueOf_33 (by decide) ?_
      refine lv_iload_n hx hb dX6_valueOf_35 rfl (lv_at hl 1 rfl) ?_
      refine q_imul hx hb dX6_valueOf_36 ?_
      refine q_iadd hx hb dX6_valueOf_37 ?_
      refine W.eq (g2 := F0 m 38 ls [.int (nI (84 + 9 * kc)), .ref (ad (b + 1)), .int (oR x (13 + ix_1)), .int (a3_1)]) rfl ?_
      refine lv_iconst (v := nI 1) hx hb dX6_valueOf_38 (by decide) ?_
      refine q_iadd hx hb dX6_valueOf_39 ?_
      refine W.eq (g2 := F0 m 40 ls [.int (nI (84 + 9 * kc + 1)), .ref (ad (b + 1)), .int (oR x (13 + ix_1)), .int (a3_1)]) rfl ?_
      refine lv_iload hx hb dX6_valueOf_40 (lv_at hl 4 rfl) ?_
      refine q_iadd hx hb dX6_valueOf_42 ?_
      refine W.eq (g2 := F0 m 43 ls [.int (nI (84 + 9 * kc + 1 + ix_1)), .ref (ad (b + 1)), .int (oR x (13 + ix_1)), .int (a3_1)]) rfl ?_
      refine l_Mo_row X hP hp0 (by omega) dX6_valueOf_43 ?_
      refine lv_imul hx hb dX6_valueOf_44 ?_
      refine lv_iadd hx hb dX6_valueOf_45 ?_
      refine lv_istore_n (lv' := [(3, .int (a3_1 + ((oR x (13 + ix_1)) * (oR x (84 + 9 * kc + 1 + ix_1))))), (0, .ref (ad b)), (1, .int (nI kc)), (2, .int (plan)), (4, .int (nI ix_1))]) hx hb dX6_valueOf_46 rfl hl (by decide) rfl (fun ls hl => ?_)
      refine lv_iinc (v := nI (ix_1 + 1)) (lv' := [(4, .int (nI (ix_1 + 1))), (3, .int (a3_1 + ((oR x (13 + ix_1)) * (oR x (84 + 9 * kc + 1 + ix_1))))), (0, .ref (ad b)), (1, .int (nI kc)), (2, .int (plan))]) hx hb dX6_valueOf_47 hl (k := 4) rfl (nI_inc _) (by decide) rfl (fun ls hl => ?_)
      refine lv_goto (tgt := 5) hx hb dX6_valueOf_50 (by decide) ?_
      exact ihx_1 (ix_1 + 1) (a3_1 + ((oR x (13 + ix_1)) * (oR x (84 + 9 * kc + 1 + ix_1)))) ls (by omega) (Eq.trans (Eq.symm (by rw [l_X6_valueOf_5] <;> rfl)) hvx_1) (lv_sub hl [2, 3, 4, 1, 0] rfl)
  exact L1 mm 0 (nI 0) ls (by omega) rfl (lv_sub hl [2, 3, 4, 1, 0] rfl)
theorem o_X6_valueOf : okV yX6_valueOf cX6_valueOf 5 (some .int) 2 := ⟨m419, m420, m5, m421, by decide +kernel, by decide +kernel, by decide +kernel⟩
def rmX6_asked : Room := { frames := 2, cells := 0, slots := 0, locals := 44 }
def f_X6_asked (x : MoC) (nn : Nat) (mm : Nat) (kk : Nat) (kc : Nat) (plan : Int32) : Int32 :=
  f_X6_many (plan &&& (f_X6_reachedFrom x nn mm kk (tn (oR x (84 + 9 * kc)))))
set_option maxHeartbeats 4000000 in
set_option maxRecDepth 100000 in
theorem c_X6_asked {l : Launch} {dd : va_G} {t : CL4} {N : Nat} {ad : Nat → Nat} {V : Nat → va_E} {b : Nat} {x : MoC} {nn : Nat} {mm : Nat} {kk : Nat} (hp0 : MoP N ad V t b x) (kc : Nat) (plan : Int32) (h0 : oR x 0 = nI nn) (h1 : oR x 1 = nI mm) (h3 : oR x 3 = nI kk) (hn : nn ≤ 7) (hm : mm ≤ 8) (hk : kk ≤ 40) (h_cut : kc < kk) (hray : oR x (84 + 9 * kc) = nI (tn (oR x (84 + 9 * kc))) ∧ tn (oR x (84 + 9 * kc)) < mm) : RM l dd t N ad V yX6_asked cX6_asked 3 (some .int) rmX6_asked [.ref (ad b), .int (nI kc), .int (plan)] (f_X6_asked x nn mm kk kc plan) := by
  refine RM.of (by decide +kernel) ⟨rfl, rfl⟩ (Nat.le_of_ble_eq_true rfl) (narI _) ?_
  intro p e s m as below meth c Q X H hP ls hl kr
  have X : WX p s m as c cX6_asked 3 RX6 dd t := X
  have hx := X.1.1
  have hb := X.1.2.1
  have hl : lv_has ls 3 [(0, .ref (ad b)), (1, .int (nI kc)), (2, .int (plan))] := hl
  have hle0 := hp0.le
  have hrayb := hray.2
  refine lv_iload_n hx hb dX6_asked_0 rfl (lv_at hl 2 rfl) ?_
  refine lv_aload_n hx hb dX6_asked_1 rfl (lv_at hl 0 rfl) ?_
  refine lv_aload_n hx hb dX6_asked_2 rfl (lv_at hl 0 rfl) ?_
  refine g_Mo_row X hP hp0 m83 dX6_asked_3 ?_
  refine lv_bipush (v := nI 84) hx hb dX6_asked_6 (by decide) ?_
  refine lv_bipush (v := nI 9) hx hb dX6_asked_8 (by decide) ?_
  refine lv_iload_n hx hb dX6_asked_10 rfl (lv_at hl 1 rfl) ?_
  refine q_imul hx hb dX6_asked_11 ?_
  refine q_iadd hx hb dX6_asked_12 ?_
  refine W.eq (g2 := F0 m 13 ls [.int (nI (84 + 9 * kc)), .ref (ad (b + 1)), .ref (ad b), .int (plan)]) rfl ?_
  refine l_Mo_row X hP hp0 (by omega) dX6_asked_13 ?_
  refine q_val (hray.1 : oR x (84 + 9 * kc) = nI (tn (oR x (84 + 9 * kc)))) ?_
  refine r_call (As := [.int (nI (tn (oR x (84 + 9 * kc))))]) (rest := [.int (plan)]) (ci := 6) X hP (c_X6_reachedFrom (nn := nn) (mm := mm) (kk := kk) hp0 (tn (oR x (84 + 9 * kc))) h0 h1 h3 hn hm hk (by omega)) o_X6_reachedFrom rfl hp0.lt hp0.ob m410 ⟨rfl, rfl⟩ ⟨Nat.le_of_ble_eq_true rfl, Nat.le_of_ble_eq_true rfl⟩ rfl hl.1 rfl (Nat.le_of_ble_eq_true rfl) ⟨Nat.zero_le _, Nat.zero_le _⟩ dX6_asked_14 ?_
  refine lv_iand hx hb dX6_asked_17 ?_
  refine r_callS (As := [.int (plan &&& (f_X6_reachedFrom x nn mm kk (tn (oR x (84 + 9 * kc)))))]) (rest := []) X hP (c_X6_many (plan &&& (f_X6_reachedFrom x nn mm kk (tn (oR x (84 + 9 * kc)))))) o_X6_many m264 ⟨rfl, rfl⟩ ⟨Nat.le_of_ble_eq_true rfl, Nat.le_of_ble_eq_true rfl⟩ rfl hl.1 rfl (Nat.le_of_ble_eq_true rfl) ⟨Nat.zero_le _, Nat.zero_le _⟩ dX6_asked_18 ?_
  exact kr 21 ls _ (Eq.symm (by rw [f_X6_asked] <;> rfl)) dX6_asked_21
theorem o_X6_asked : okV yX6_asked cX6_asked 3 (some .int) 2 := ⟨m407, m408, m5, m409, by decide +kernel, by decide +kernel, by decide +kernel⟩
def rmX6_raysMissed : Room := { frames := 3, cells := 0, slots := 0, locals := 66 }
def l_X6_raysMissed_4 (x : MoC) (nn : Nat) (mm : Nat) (kk : Nat) (plan : Int32) : Nat → Nat → Nat → Nat
  | 0, ix_1, a2_1 => a2_1
  | dx_1 + 1, ix_1, a2_1 => (if (f_X6_isRay x nn mm kk ix_1) = true then (if (f_X6_asked x nn mm kk ix_1 plan) = 0 then l_X6_raysMissed_4 x nn mm kk plan dx_1 (ix_1 + 1) (a2_1 + 1) else l_X6_raysMissed_4 x nn mm kk plan dx_1 (ix_1 + 1) a2_1) else l_X6_raysMissed_4 x nn mm kk plan dx_1 (ix_1 + 1) a2_1)
def f_X6_raysMissed (x : MoC) (nn : Nat) (mm : Nat) (kk : Nat) (plan : Int32) : Int32 :=
  nI (l_X6_raysMissed_4 x nn mm kk plan kk 0 0)
set_option maxHeartbeats 4000000 in
set_option maxRecDepth 100000 in
theorem c_X6_raysMissed {l : Launch} {dd : va_G} {t : CL4} {N : Nat} {ad : Nat → Nat} {V : Nat → va_E} {b : Nat} {x : MoC} {nn : Nat} {mm : Nat} {kk : Nat} (hp0 : MoP N ad V t b x) (plan : Int32) (h0 : oR x 0 = nI nn) (h1 : oR x 1 = nI mm) (h3 : oR x 3 = nI kk) (hn : nn ≤ 7) (hm : mm ≤ 8) (hk : kk ≤ 40) (hc : RaysOk x mm kk) : RM l dd t N ad V yX6_raysMissed cX6_raysMissed 4 (some .int) rmX6_raysMissed [.ref (ad b), .int (plan)] (f_X6_raysMissed x nn mm kk plan) := by
  refine RM.of (by decide +kernel) ⟨rfl, rfl⟩ (Nat.le_of_ble_eq_true rfl) (narI _) ?_
  intro p e s m as below meth c Q X H hP ls hl kr
  have X : WX p s m as c cX6_raysMissed 4 RX6 dd t := X
  have hx := X.1.1
  have hb := X.1.2.1
  have hl : lv_has ls 4 [(0, .ref (ad b)), (1, .int (plan))] := hl
  have hle0 := hp0.le
  refine lv_iconst (v := nI 0) hx hb dX6_raysMissed_0 (by decide) ?_
  refine lv_istore_n (lv' := [(2, .int (nI 0)), (0, .ref (ad b)), (1, .int (plan))]) hx hb dX6_raysMissed_1 rfl hl (by decide) rfl (fun ls hl => ?_)
  refine lv_iconst (v := nI 0) hx hb dX6_raysMissed_2 (by decide) ?_
  refine lv_istore_n (lv' := [(3, .int (nI 0)), (2, .int (nI 0)), (0, .ref (ad b)), (1, .int (plan))]) hx hb dX6_raysMissed_3 rfl hl (by decide) rfl (fun ls hl => ?_)
  have L1 : ∀ (dx_1 ix_1 : Nat) (a2_1 : Nat) (ls : Array Slot), (ix_1 + dx_1 = kk) → (l_X6_raysMissed_4 x nn mm kk plan dx_1 ix_1 a2_1 = l_X6_raysMissed_4 x nn mm kk plan kk 0 0) → (lv_has ls 4 [(0, .ref (ad b)), (1, .int (plan)), (2, .int (nI a2_1)), (3, .int (nI ix_1))]) → W p l e rmX6_raysMissed s m as below meth c H [] 0 0 Q (F0 m 4 ls []) := by
    intro dx_1
    induction dx_1 with
    | zero =>
      intro ix_1 a2_1 ls hid hvx_1 hl
      have hiN : kk = ix_1 := by omega
      subst hiN
      have hvx_1 : a2_1 = l_X6_raysMissed_4 x nn mm kk plan kk 0 0 := hvx_1
      have hh0 : a2_1 = l_X6_raysMissed_4 x nn mm kk plan kk 0 0 := hvx_1
      subst hh0
      refine lv_iload_n hx hb dX6_raysMissed_4 rfl (lv_at hl 3 rfl) ?_
      refine lv_aload_n hx hb dX6_raysMissed_5 rfl (lv_at hl 0 rfl) ?_
      refine g_Mo_row X hP hp0 m83 dX6_raysMissed_6 ?_
      refine lv_iconst (v := nI 3) hx hb dX6_raysMissed_9 (by decide) ?_
      refine l_Mo_row X hP hp0 (by decide) dX6_raysMissed_10 ?_
      refine q_val (h3 : oR x 3 = nI kk) ?_
      refine q_ge (tgt := 45) hx hb (by omega) (by omega) dX6_raysMissed_11 (by decide) (fun c2 => ?_) (fun h => absurd h (by omega))
      refine lv_iload_n hx hb dX6_raysMissed_45 rfl (lv_at hl 2 rfl) ?_
      exact kr 46 ls _ (Eq.symm (by rw [f_X6_raysMissed] <;> rfl)) dX6_raysMissed_46
    | succ dx_1 ihx_1 =>
      intro ix_1 a2_1 ls hid hvx_1 hl
      refine lv_iload_n hx hb dX6_raysMissed_4 rfl (lv_at hl 3 rfl) ?_
      refine lv_aload_n hx hb dX6_raysMissed_5 rfl (lv_at hl 0 rfl) ?_
      refine g_Mo_row X hP hp0 m83 dX6_raysMissed_6 ?_
      refine lv_iconst (v := nI 3) hx hb dX6_raysMissed_9 (by decide) ?_
      refine l_Mo_row X hP hp0 (by decide) dX6_raysMissed_10 ?_
      refine q_val (h3 : oR x 3 = nI kk) ?_
      refine q_ge (tgt := 45) hx hb (by omega) (by omega) dX6_raysMissed_11 (by decide) (fun h => absurd h (by omega)) (fun c3 => ?_)
      refine lv_iload_n hx hb dX6_raysMissed_14 rfl (lv_at hl 2 rfl) ?_
      refine lv_aload_n hx hb dX6_raysMissed_15 rfl (lv_at hl 0 rfl) ?_
      refine lv_iload_n hx hb dX6_raysMissed_16 rfl (lv_at hl 3 rfl) ?_
      refine r_call (As := [.int (nI ix_1)]) (rest := [.int (nI a2_1)]) (ci := 6) X hP (c_X6_isRay (nn := nn) (mm := mm) (kk := kk) hp0 ix_1 h0 h1 h3 hn hm hk (by omega)) o_X6_isRay rfl hp0.lt hp0.ob m402 ⟨rfl, rfl⟩ ⟨Nat.le_of_ble_eq_true rfl, Nat.le_of_ble_eq_true rfl⟩ rfl hl.1 rfl (Nat.le_of_ble_eq_true rfl) ⟨Nat.zero_le _, Nat.zero_le _⟩ dX6_raysMissed_17 ?_
      refine q_eqB (tgt := 36) hx hb dX6_raysMissed_20 (by decide) (fun c4 => ?_) (fun c4 => ?_)
      · refine lv_iconst (v := nI 0) hx hb dX6_raysMissed_36 (by decide) ?_
        refine q_iadd hx hb dX6_raysMissed_37 ?_
        refine W.eq (g2 := F0 m 38 ls [.int (nI a2_1)]) rfl ?_
        refine lv_istore_n (lv' := [(2, .int (nI a2_1)), (0, .ref (ad b)), (1, .int (plan)), (3, .int (nI ix_1))]) hx hb dX6_raysMissed_38 rfl hl (by decide) rfl (fun ls hl => ?_)
        refine lv_iinc (v := nI (ix_1 + 1)) (lv' := [(3, .int (nI (ix_1 + 1))), (2, .int (nI a2_1)), (0, .ref (ad b)), (1, .int (plan))]) hx hb dX6_raysMissed_39 hl (k := 3) rfl (nI_inc _) (by decide) rfl (fun ls hl => ?_)
        refine lv_goto (tgt := 4) hx hb dX6_raysMissed_42 (by decide) ?_
        exact ihx_1 (ix_1 + 1) a2_1 ls (by omega) (Eq.trans (Eq.symm (by rw [l_X6_raysMissed_4, if_neg (nt c4)] <;> rfl)) hvx_1) (lv_sub hl [2, 3, 1, 0] rfl)
      · refine lv_aload_n hx hb dX6_raysMissed_23 rfl (lv_at hl 0 rfl) ?_
        refine lv_iload_n hx hb dX6_raysMissed_24 rfl (lv_at hl 3 rfl) ?_
        refine lv_iload_n hx hb dX6_raysMissed_25 rfl (lv_at hl 1 rfl) ?_
        refine r_call (As := [.int (nI ix_1), .int (plan)]) (rest := [.int (nI a2_1)]) (ci := 6) X hP (c_X6_asked (nn := nn) (mm := mm) (kk := kk) hp0 ix_1 plan h0 h1 h3 hn hm hk (by omega) (hc _ (by omega) (isRay_t c4))) o_X6_asked rfl hp0.lt hp0.ob m406 ⟨rfl, rfl⟩ ⟨Nat.le_of_ble_eq_true rfl, Nat.le_of_ble_eq_true rfl⟩ rfl hl.1 rfl (Nat.le_of_ble_eq_true rfl) ⟨Nat.zero_le _, Nat.zero_le _⟩ dX6_raysMissed_26 ?_
        refine lv_if_ne (tgt := 36) hx hb dX6_raysMissed_29 (by decide) (fun c5 => ?_) (fun c5 => ?_)
        · refine lv_iconst (v := nI 0) hx hb dX6_raysMissed_36 (by decide) ?_
          refine q_iadd hx hb dX6_raysMissed_37 ?_
          refine W.eq (g2 := F0 m 38 ls [.int (nI a2_1)]) rfl ?_
          refine lv_istore_n (lv' := [(2, .int (nI a2_1)), (0, .ref (ad b)), (1, .int (plan)), (3, .int (nI ix_1))]) hx hb dX6_raysMissed_38 rfl hl (by decide) rfl (fun ls hl => ?_)
          refine lv_iinc (v := nI (ix_1 + 1)) (lv' := [(3, .int (nI (ix_1 + 1))), (2, .int (nI a2_1)), (0, .ref (ad b)), (1, .int (plan))]) hx hb dX6_raysMissed_39 hl (k := 3) rfl (nI_inc _) (by decide) rfl (fun ls hl => ?_)
          refine lv_goto (tgt := 4) hx hb dX6_raysMissed_42 (by decide) ?_
          exact ihx_1 (ix_1 + 1) a2_1 ls (by omega) (Eq.trans (Eq.symm (by rw [l_X6_raysMissed_4, if_pos c4, if_neg c5] <;> rfl)) hvx_1) (lv_sub hl [2, 3, 1, 0] rfl)
        · refine lv_iconst (v := nI 1) hx hb dX6_raysMissed_32 (by decide) ?_
          refine lv_goto (tgt := 37) hx hb dX6_raysMissed_33 (by decide) ?_
          refine q_iadd hx hb dX6_raysMissed_37 ?_
          refine lv_istore_n (lv' := [(2, .int (nI (a2_1 + 1))), (0, .ref (ad b)), (1, .int (plan)), (3, .int (nI ix_1))]) hx hb dX6_raysMissed_38 rfl hl (by decide) rfl (fun ls hl => ?_)
          refine lv_iinc (v := nI (ix_1 + 1)) (lv' := [(3, .int (nI (ix_1 + 1))), (2, .int (nI (a2_1 + 1))), (0, .ref (ad b)), (1, .int (plan))]) hx hb dX6_raysMissed_39 hl (k := 3) rfl (nI_inc _) (by decide) rfl (fun ls hl => ?_)
          refine lv_goto (tgt := 4) hx hb dX6_raysMissed_42 (by decide) ?_
          exact ihx_1 (ix_1 + 1) (a2_1 + 1) ls (by omega) (Eq.trans (Eq.symm (by rw [l_X6_raysMissed_4, if_pos c4, if_pos c5] <;> rfl)) hvx_1) (lv_sub hl [2, 3, 1, 0] rfl)
  exact L1 kk 0 0 ls (by omega) rfl (lv_sub hl [2, 3, 1, 0] rfl)
theorem o_X6_raysMissed : okV yX6_raysMissed cX6_raysMissed 4 (some .int) 1 := ⟨m399, m400, m5, m401, by decide +kernel, by decide +kernel, by decide +kernel⟩
def rmX6_guess : Room := { frames := 3, cells := 0, slots := 0, locals := 70 }
def l_X6_guess_4 (x : MoC) (nn : Nat) (mm : Nat) (kk : Nat) (plan : Int32) : Nat → Nat → Int32 → Int32
  | 0, ix_1, a2_1 => a2_1
  | dx_1 + 1, ix_1, a2_1 => (if (f_X6_isRay x nn mm kk ix_1) = true then (if a2_1 < (nI 0) then l_X6_guess_4 x nn mm kk plan dx_1 (ix_1 + 1) (nI 0) else l_X6_guess_4 x nn mm kk plan dx_1 (ix_1 + 1) a2_1) else (if a2_1 < (f_X6_valueOf x nn mm kk ix_1 plan) then l_X6_guess_4 x nn mm kk plan dx_1 (ix_1 + 1) (f_X6_valueOf x nn mm kk ix_1 plan) else l_X6_guess_4 x nn mm kk plan dx_1 (ix_1 + 1) a2_1))
def f_X6_guess (x : MoC) (nn : Nat) (mm : Nat) (kk : Nat) (plan : Int32) : Int32 :=
  (f_X6_prices x nn mm kk plan) + (l_X6_guess_4 x nn mm kk plan kk 0 (nI 0))
set_option maxHeartbeats 4000000 in
set_option maxRecDepth 100000 in
theorem c_X6_guess {l : Launch} {dd : va_G} {t : CL4} {N : Nat} {ad : Nat → Nat} {V : Nat → va_E} {b : Nat} {x : MoC} {nn : Nat} {mm : Nat} {kk : Nat} (hp0 : MoP N ad V t b x) (plan : Int32) (h0 : oR x 0 = nI nn) (h1 : oR x 1 = nI mm) (h3 : oR x 3 = nI kk) (hn : nn ≤ 7) (hm : mm ≤ 8) (hk : kk ≤ 40) : RM l dd t N ad V yX6_guess cX6_guess 5 (some .int) rmX6_guess [.ref (ad b), .int (plan)] (f_X6_guess x nn mm kk plan) := by
  refine RM.of (by decide +kernel) ⟨rfl, rfl⟩ (Nat.le_of_ble_eq_true rfl) (narI _) ?_
  intro p e s m as below meth c Q X H hP ls hl kr
  have X : WX p s m as c cX6_guess 5 RX6 dd t := X
  have hx := X.1.1
  have hb := X.1.2.1
  have hl : lv_has ls 5 [(0, .ref (ad b)), (1, .int (plan))] := hl
  have hle0 := hp0.le
  refine lv_iconst (v := nI 0) hx hb dX6_guess_0 (by decide) ?_
  refine lv_istore_n (lv' := [(2, .int (nI 0)), (0, .ref (ad b)), (1, .int (plan))]) hx hb dX6_guess_1 rfl hl (by decide) rfl (fun ls hl => ?_)
  refine lv_iconst (v := nI 0) hx hb dX6_guess_2 (by decide) ?_
  refine lv_istore_n (lv' := [(3, .int (nI 0)), (2, .int (nI 0)), (0, .ref (ad b)), (1, .int (plan))]) hx hb dX6_guess_3 rfl hl (by decide) rfl (fun ls hl => ?_)
  have L1 : ∀ (dx_1 ix_1 : Nat) (a2_1 : Int32) (ls : Array Slot), (ix_1 + dx_1 = kk) → (l_X6_guess_4 x nn mm kk plan dx_1 ix_1 a2_1 = l_X6_guess_4 x nn mm kk plan kk 0 (nI 0)) → (lv_has ls 5 [(0, .ref (ad b)), (1, .int (plan)), (2, .int (a2_1)), (3, .int (nI ix_1))]) → W p l e rmX6_guess s m as below meth c H [] 0 0 Q (F0 m 4 ls []) := by
    intro dx_1
    induction dx_1 with
    | zero =>
      intro ix_1 a2_1 ls hid hvx_1 hl
      have hiN : kk = ix_1 := by omega
      subst hiN
      have hvx_1 : a2_1 = l_X6_guess_4 x nn mm kk plan kk 0 (nI 0) := hvx_1
      have hh0 : a2_1 = l_X6_guess_4 x nn mm kk plan kk 0 (nI 0) := hvx_1
      subst hh0
      refine lv_iload_n hx hb dX6_guess_4 rfl (lv_at hl 3 rfl) ?_
      refine lv_aload_n hx hb dX6_guess_5 rfl (lv_at hl 0 rfl) ?_
      refine g_Mo_row X hP hp0 m83 dX6_guess_6 ?_
      refine lv_iconst (v := nI 3) hx hb dX6_guess_9 (by decide) ?_
      refine l_Mo_row X hP hp0 (by decide) dX6_guess_10 ?_
      refine q_val (h3 : oR x 3 = nI kk) ?_
      refine q_ge (tgt := 53) hx hb (by omega) (by omega) dX6_guess_11 (by decide) (fun c2 => ?_) (fun h => absurd h (by omega))
      refine lv_aload_n hx hb dX6_guess_53 rfl (lv_at hl 0 rfl) ?_
      refine lv_iload_n hx hb dX6_guess_54 rfl (lv_at hl 1 rfl) ?_
      refine r_call (As := [.int (plan)]) (rest := []) (ci := 6) X hP (c_X6_prices (nn := nn) (mm := mm) (kk := kk) hp0 plan h0 h1 h3 hn hm hk) o_X6_prices rfl hp0.lt hp0.ob m426 ⟨rfl, rfl⟩ ⟨Nat.le_of_ble_eq_true rfl, Nat.le_of_ble_eq_true rfl⟩ rfl hl.1 rfl (Nat.le_of_ble_eq_true rfl) ⟨Nat.zero_le _, Nat.zero_le _⟩ dX6_guess_55 ?_
      refine lv_iload_n hx hb dX6_guess_58 rfl (lv_at hl 2 rfl) ?_
      refine lv_iadd hx hb dX6_guess_59 ?_
      exact kr 60 ls _ (Eq.symm (by rw [f_X6_guess] <;> rfl)) dX6_guess_60
    | succ dx_1 ihx_1 =>
      intro ix_1 a2_1 ls hid hvx_1 hl
      refine lv_iload_n hx hb dX6_guess_4 rfl (lv_at hl 3 rfl) ?_
      refine lv_aload_n hx hb dX6_guess_5 rfl (lv_at hl 0 rfl) ?_
      refine g_Mo_row X hP hp0 m83 dX6_guess_6 ?_
      refine lv_iconst (v := nI 3) hx hb dX6_guess_9 (by decide) ?_
      refine l_Mo_row X hP hp0 (by decide) dX6_guess_10 ?_
      refine q_val (h3 : oR x 3 = nI kk) ?_
      refine q_ge (tgt := 53) hx hb (by omega) (by omega) dX6_guess_11 (by decide) (fun h => absurd h (by omega)) (fun c3 => ?_)
      refine lv_aload_n hx hb dX6_guess_14 rfl (lv_at hl 0 rfl) ?_
      refine lv_iload_n hx hb dX6_guess_15 rfl (lv_at hl 3 rfl) ?_
      refine r_call (As := [.int (nI ix_1)]) (rest := []) (ci := 6) X hP (c_X6_isRay (nn := nn) (mm := mm) (kk := kk) hp0 ix_1 h0 h1 h3 hn hm hk (by omega)) o_X6_isRay rfl hp0.lt hp0.ob m402 ⟨rfl, rfl⟩ ⟨Nat.le_of_ble_eq_true rfl, Nat.le_of_ble_eq_true rfl⟩ rfl hl.1 rfl (Nat.le_of_ble_eq_true rfl) ⟨Nat.zero_le _, Nat.zero_le _⟩ dX6_guess_16 ?_
      refine q_eqB (tgt := 26) hx hb dX6_guess_19 (by decide) (fun c4 => ?_) (fun c4 => ?_)
      · refine lv_aload_n hx hb dX6_guess_26 rfl (lv_at hl 0 rfl) ?_
        refine lv_iload_n hx hb dX6_guess_27 rfl (lv_at hl 3 rfl) ?_
        refine lv_iload_n hx hb dX6_guess_28 rfl (lv_at hl 1 rfl) ?_
        refine r_call (As := [.int (nI ix_1), .int (plan)]) (rest := []) (ci := 6) X hP (c_X6_valueOf (nn := nn) (mm := mm) (kk := kk) hp0 ix_1 plan h0 h1 h3 hn hm hk (by omega)) o_X6_valueOf rfl hp0.lt hp0.ob m418 ⟨rfl, rfl⟩ ⟨Nat.le_of_ble_eq_true rfl, Nat.le_of_ble_eq_true rfl⟩ rfl hl.1 rfl (Nat.le_of_ble_eq_true rfl) ⟨Nat.zero_le _, Nat.zero_le _⟩ dX6_guess_29 ?_
        refine lv_istore (lv' := [(4, .int (f_X6_valueOf x nn mm kk ix_1 plan)), (0, .ref (ad b)), (1, .int (plan)), (2, .int (a2_1)), (3, .int (nI ix_1))]) hx hb dX6_guess_32 hl (by decide) rfl (fun ls hl => ?_)
        refine lv_iload hx hb dX6_guess_34 (lv_at hl 0 rfl) ?_
        refine lv_iload_n hx hb dX6_guess_36 rfl (lv_at hl 3 rfl) ?_
        refine j_le (tgt := 45) hx hb dX6_guess_37 (by decide) (fun c5 => ?_) (fun c5 => ?_)
        · refine lv_iload_n hx hb dX6_guess_45 rfl (lv_at hl 3 rfl) ?_
          refine lv_istore_n (lv' := [(2, .int (a2_1)), (4, .int (f_X6_valueOf x nn mm kk ix_1 plan)), (0, .ref (ad b)), (1, .int (plan)), (3, .int (nI ix_1))]) hx hb dX6_guess_46 rfl hl (by decide) rfl (fun ls hl => ?_)
          refine lv_iinc (v := nI (ix_1 + 1)) (lv' := [(3, .int (nI (ix_1 + 1))), (2, .int (a2_1)), (4, .int (f_X6_valueOf x nn mm kk ix_1 plan)), (0, .ref (ad b)), (1, .int (plan))]) hx hb dX6_guess_47 hl (k := 4) rfl (nI_inc _) (by decide) rfl (fun ls hl => ?_)
          refine lv_goto (tgt := 4) hx hb dX6_guess_50 (by decide) ?_
          exact ihx_1 (ix_1 + 1) a2_1 ls (by omega) (Eq.trans (Eq.symm (by rw [l_X6_guess_4, if_neg (nt c4), if_neg c5] <;> rfl)) hvx_1) (lv_sub hl [3, 4, 1, 0] rfl)
        · refine lv_iload hx hb dX6_guess_40 (lv_at hl 0 rfl) ?_
          refine lv_goto (tgt := 46) hx hb dX6_guess_42 (by decide) ?_
          refine lv_istore_n (lv' := [(2, .int (f_X6_valueOf x nn mm kk ix_1 plan)), (4, .int (f_X6_valueOf x nn mm kk ix_1 plan)), (0, .ref (ad b)), (1, .int (plan)), (3, .int (nI ix_1))]) hx hb dX6_guess_46 rfl hl (by decide) rfl (fun ls hl => ?_)
          refine lv_iinc (v := nI (ix_1 + 1)) (lv' := [(3, .int (nI (ix_1 + 1))), (2, .int (f_X6_valueOf x nn mm kk ix_1 plan)), (4, .int (f_X6_valueOf x nn mm kk ix_1 plan)), (0, .ref (ad b)), (1, .int (plan))]) hx hb dX6_guess_47 hl (k := 4) rfl (nI_inc _) (by decide) rfl (fun ls hl => ?_)
          refine lv_goto (tgt := 4) hx hb dX6_guess_50 (by decide) ?_
          exact ihx_1 (ix_1 + 1) (f_X6_valueOf x nn mm kk ix_1 plan) ls (by omega) (Eq.trans (Eq.symm (by rw [l_X6_guess_4, if_neg (nt c4), if_pos c5] <;> rfl)) hvx_1) (lv_sub hl [3, 4, 1, 0] rfl)
      · refine lv_iconst (v := nI 0) hx hb dX6_guess_22 (by decide) ?_
        refine lv_goto (tgt := 32) hx hb dX6_guess_23 (by decide) ?_
        refine lv_istore (lv' := [(4, .int (nI 0)), (0, .ref (ad b)), (1, .int (plan)), (2, .int (a2_1)), (3, .int (nI ix_1))]) hx hb dX6_guess_32 hl (by decide) rfl (fun ls hl => ?_)
        refine lv_iload hx hb dX6_guess_34 (lv_at hl 0 rfl) ?_
        refine lv_iload_n hx hb dX6_guess_36 rfl (lv_at hl 3 rfl) ?_
        refine j_le (tgt := 45) hx hb dX6_guess_37 (by decide) (fun c6 => ?_) (fun c6 => ?_)
        · refine lv_iload_n hx hb dX6_guess_45 rfl (lv_at hl 3 rfl) ?_
          refine lv_istore_n (lv' := [(2, .int (a2_1)), (4, .int (nI 0)), (0, .ref (ad b)), (1, .int (plan)), (3, .int (nI ix_1))]) hx hb dX6_guess_46 rfl hl (by decide) rfl (fun ls hl => ?_)
          refine lv_iinc (v := nI (ix_1 + 1)) (lv' := [(3, .int (nI (ix_1 + 1))), (2, .int (a2_1)), (4, .int (nI 0)), (0, .ref (ad b)), (1, .int (plan))]) hx hb dX6_guess_47 hl (k := 4) rfl (nI_inc _) (by decide) rfl (fun ls hl => ?_)
          refine lv_goto (tgt := 4) hx hb dX6_guess_50 (by decide) ?_
          exact ihx_1 (ix_1 + 1) a2_1 ls (by omega) (Eq.trans (Eq.symm (by rw [l_X6_guess_4, if_pos c4, if_neg c6] <;> rfl)) hvx_1) (lv_sub hl [3, 4, 1, 0] rfl)
        · refine lv_iload hx hb dX6_guess_40 (lv_at hl 0 rfl) ?_
          refine lv_goto (tgt := 46) hx hb dX6_guess_42 (by decide) ?_
          refine lv_istore_n (lv' := [(2, .int (nI 0)), (4, .int (nI 0)), (0, .ref (ad b)), (1, .int (plan)), (3, .int (nI ix_1))]) hx hb dX6_guess_46 rfl hl (by decide) rfl (fun ls hl => ?_)
          refine lv_iinc (v := nI (ix_1 + 1)) (lv' := [(3, .int (nI (ix_1 + 1))), (2, .int (nI 0)), (4, .int (nI 0)), (0, .ref (ad b)), (1, .int (plan))]) hx hb dX6_guess_47 hl (k := 4) rfl (nI_inc _) (by decide) rfl (fun ls hl => ?_)
          refine lv_goto (tgt := 4) hx hb dX6_guess_50 (by decide) ?_
          exact ihx_1 (ix_1 + 1) (nI 0) ls (by omega) (Eq.trans (Eq.symm (by rw [l_X6_guess_4, if_pos c4, if_pos c6] <;> rfl)) hvx_1) (lv_sub hl [3, 4, 1, 0] rfl)
  exact L1 kk 0 (nI 0) ls (by omega) rfl (lv_sub hl [2, 3, 1, 0] rfl)
theorem o_X6_guess : okV yX6_guess cX6_guess 5 (some .int) 1 := ⟨m415, m416, m5, m417, by decide +kernel, by decide +kernel, by decide +kernel⟩
def rmX6_masterPlan : Room := { frames := 4, cells := 0, slots := 0, locals := 94 }
def l_X6_masterPlan_7 (x : MoC) (nn : Nat) (mm : Nat) (kk : Nat) : Nat → Nat → Int32 → Int32 → Int32 × Int32
  | 0, ix_1, a1_1, a2_1 => (a1_1, a2_1)
  | dx_1 + 1, ix_1, a1_1, a2_1 => (if (f_X6_isAllowed x nn mm kk (nI ix_1)) = true then (if (f_X6_raysMissed x nn mm kk (nI ix_1)) = 0 then (if a1_1 < 0 then l_X6_masterPlan_7 x nn mm kk dx_1 (ix_1 + 1) (nI ix_1) (f_X6_guess x nn mm kk (nI ix_1)) else (if (f_X6_guess x nn mm kk (nI ix_1)) < a2_1 then l_X6_masterPlan_7 x nn mm kk dx_1 (ix_1 + 1) (nI ix_1) (f_X6_guess x nn mm kk (nI ix_1)) else l_X6_masterPlan_7 x nn mm kk dx_1 (ix_1 + 1) a1_1 a2_1)) else l_X6_masterPlan_7 x nn mm kk dx_1 (ix_1 + 1) a1_1 a2_1) else l_X6_masterPlan_7 x nn mm kk dx_1 (ix_1 + 1) a1_1 a2_1)
def f_X6_masterPlan (x : MoC) (nn : Nat) (mm : Nat) (kk : Nat) : Int32 :=
  ((l_X6_masterPlan_7 x nn mm kk (2 ^ nn) 0 (-5) (nI 0)).1)
set_option maxHeartbeats 4000000 in
set_option maxRecDepth 100000 in
theorem c_X6_masterPlan {l : Launch} {dd : va_G} {t : CL4} {N : Nat} {ad : Nat → Nat} {V : Nat → va_E} {b : Nat} {x : MoC} {nn : Nat} {mm : Nat} {kk : Nat} (hp0 : MoP N ad V t b x)  (h0 : oR x 0 = nI nn) (h1 : oR x 1 = nI mm) (h3 : oR x 3 = nI kk) (hn : nn ≤ 7) (hm : mm ≤ 8) (hk : kk ≤ 40) (hc : RaysOk x mm kk) : RM l dd t N ad V yX6_masterPlan cX6_masterPlan 5 (some .int) rmX6_masterPlan [.ref (ad b)] (f_X6_masterPlan x nn mm kk) := by
  refine RM.of (by decide +kernel) ⟨rfl, rfl⟩ (Nat.le_of_ble_eq_true rfl) (narI _) ?_
  intro p e s m as below meth c Q X H hP ls hl kr
  have X : WX p s m as c cX6_masterPlan 5 RX6 dd t := X
  have hx := X.1.1
  have hb := X.1.2.1
  have hl : lv_has ls 5 [(0, .ref (ad b))] := hl
  have hle0 := hp0.le
  have hpw : 2 ^ nn ≤ 128 := pow7 hn
  refine lv_bipush (v := (-5)) hx hb dX6_masterPlan_0 (by decide) ?_
  refine lv_istore_n (lv' := [(1, .int ((-5))), (0, .ref (ad b))]) hx hb dX6_masterPlan_2 rfl hl (by decide) rfl (fun ls hl => ?_)
  refine lv_iconst (v := nI 0) hx hb dX6_masterPlan_3 (by decide) ?_
  refine lv_istore_n (lv' := [(2, .int (nI 0)), (1, .int ((-5))), (0, .ref (ad b))]) hx hb dX6_masterPlan_4 rfl hl (by decide) rfl (fun ls hl => ?_)
  refine lv_iconst (v := nI 0) hx hb dX6_masterPlan_5 (by decide) ?_
  refine lv_istore_n (lv' := [(3, .int (nI 0)), (2, .int (nI 0)), (1, .int ((-5))), (0, .ref (ad b))]) hx hb dX6_masterPlan_6 rfl hl (by decide) rfl (fun ls hl => ?_)
  have L1 : ∀ (dx_1 ix_1 : Nat) (a1_1 : Int32) (a2_1 : Int32) (ls : Array Slot), (ix_1 + dx_1 = 2 ^ nn) → (l_X6_masterPlan_7 x nn mm kk dx_1 ix_1 a1_1 a2_1 = l_X6_masterPlan_7 x nn mm kk (2 ^ nn) 0 (-5) (nI 0)) → (lv_has ls 5 [(0, .ref (ad b)), (1, .int (a1_1)), (2, .int (a2_1)), (3, .int (nI ix_1))]) → W p l e rmX6_masterPlan s m as below meth c H [] 0 0 Q (F0 m 7 ls []) := by
    intro dx_1
    induction dx_1 with
    | zero =>
      intro ix_1 a1_1 a2_1 ls hid hvx_1 hl
      have hiN : 2 ^ nn = ix_1 := by omega
      subst hiN
      have hvx_1 : (a1_1, a2_1) = l_X6_masterPlan_7 x nn mm kk (2 ^ nn) 0 (-5) (nI 0) := hvx_1
      have hh0 : a1_1 = (l_X6_masterPlan_7 x nn mm kk (2 ^ nn) 0 (-5) (nI 0)).1 := congrArg (fun q => (q).1) hvx_1
      have hh1 : a2_1 = (l_X6_masterPlan_7 x nn mm kk (2 ^ nn) 0 (-5) (nI 0)).2 := congrArg (fun q => (q).2) hvx_1
      subst hh0
      subst hh1
      refine lv_iload_n hx hb dX6_masterPlan_7 rfl (lv_at hl 3 rfl) ?_
      refine lv_iconst (v := nI 1) hx hb dX6_masterPlan_8 (by decide) ?_
      refine lv_aload_n hx hb dX6_masterPlan_9 rfl (lv_at hl 0 rfl) ?_
      refine g_Mo_row X hP hp0 m83 dX6_masterPlan_10 ?_
      refine lv_iconst (v := nI 0) hx hb dX6_masterPlan_13 (by decide) ?_
      refine l_Mo_row X hP hp0 (by decide) dX6_masterPlan_14 ?_
      refine q_val (h0 : oR x 0 = nI nn) ?_
      refine q_ishl hx hb (by omega) dX6_masterPlan_15 ?_
      refine q_ge (tgt := 63) hx hb (by omega) (by omega) dX6_masterPlan_16 (by decide) (fun c2 => ?_) (fun h => absurd h (by omega))
      refine lv_iload_n hx hb dX6_masterPlan_63 rfl (lv_at hl 1 rfl) ?_
      exact kr 64 ls _ (Eq.symm (by rw [f_X6_masterPlan] <;> rfl)) dX6_masterPlan_64
    | succ dx_1 ihx_1 =>
      intro ix_1 a1_1 a2_1 ls hid hvx_1 hl
      refine lv_iload_n hx hb dX6_masterPlan_7 rfl (lv_at hl 3 rfl) ?_
      refine lv_iconst (v := nI 1) hx hb dX6_masterPlan_8 (by decide) ?_
      refine lv_aload_n hx hb dX6_masterPlan_9 rfl (lv_at hl 0 rfl) ?_
      refine g_Mo_row X hP hp0 m83 dX6_masterPlan_10 ?_
      refine lv_iconst (v := nI 0) hx hb dX6_masterPlan_13 (by decide) ?_
      refine l_Mo_row X hP hp0 (by decide) dX6_masterPlan_14 ?_
      refine q_val (h0 : oR x 0 = nI nn) ?_
      refine q_ishl hx hb (by omega) dX6_masterPlan_15 ?_
      refine q_ge (tgt := 63) hx hb (by omega) (by omega) dX6_masterPlan_16 (by decide) (fun h => absurd h (by omega)) (fun c3 => ?_)
      refine lv_aload_n hx hb dX6_masterPlan_19 rfl (lv_at hl 0 rfl) ?_
      refine lv_iload_n hx hb dX6_masterPlan_20 rfl (lv_at hl 3 rfl) ?_
      refine r_call (As := [.int (nI ix_1)]) (rest := []) (ci := 6) X hP (c_X6_isAllowed (nn := nn) (mm := mm) (kk := kk) hp0 (nI ix_1) h0 h1 h3 hn hm hk) o_X6_isAllowed rfl hp0.lt hp0.ob m390 ⟨rfl, rfl⟩ ⟨Nat.le_of_ble_eq_true rfl, Nat.le_of_ble_eq_true rfl⟩ rfl hl.1 rfl (Nat.le_of_ble_eq_true rfl) ⟨Nat.zero_le _, Nat.zero_le _⟩ dX6_masterPlan_21 ?_
      refine q_eqB (tgt := 57) hx hb dX6_masterPlan_24 (by decide) (fun c4 => ?_) (fun c4 => ?_)
      · refine lv_iinc (v := nI (ix_1 + 1)) (lv' := [(3, .int (nI (ix_1 + 1))), (0, .ref (ad b)), (1, .int (a1_1)), (2, .int (a2_1))]) hx hb dX6_masterPlan_57 hl (k := 3) rfl (nI_inc _) (by decide) rfl (fun ls hl => ?_)
        refine lv_goto (tgt := 7) hx hb dX6_masterPlan_60 (by decide) ?_
        exact ihx_1 (ix_1 + 1) a1_1 a2_1 ls (by omega) (Eq.trans (Eq.symm (by rw [l_X6_masterPlan_7, if_neg (nt c4)] <;> rfl)) hvx_1) (lv_sub hl [1, 2, 3, 0] rfl)
      · refine lv_aload_n hx hb dX6_masterPlan_27 rfl (lv_at hl 0 rfl) ?_
        refine lv_iload_n hx hb dX6_masterPlan_28 rfl (lv_at hl 3 rfl) ?_
        refine r_call (As := [.int (nI ix_1)]) (rest := []) (ci := 6) X hP (c_X6_raysMissed (nn := nn) (mm := mm) (kk := kk) hp0 (nI ix_1) h0 h1 h3 hn hm hk hc) o_X6_raysMissed rfl hp0.lt hp0.ob m398 ⟨rfl, rfl⟩ ⟨Nat.le_of_ble_eq_true rfl, Nat.le_of_ble_eq_true rfl⟩ rfl hl.1 rfl (Nat.le_of_ble_eq_true rfl) ⟨Nat.zero_le _, Nat.zero_le _⟩ dX6_masterPlan_29 ?_
        refine lv_if_ne (tgt := 57) hx hb dX6_masterPlan_32 (by decide) (fun c5 => ?_) (fun c5 => ?_)
        · refine lv_iinc (v := nI (ix_1 + 1)) (lv' := [(3, .int (nI (ix_1 + 1))), (0, .ref (ad b)), (1, .int (a1_1)), (2, .int (a2_1))]) hx hb dX6_masterPlan_57 hl (k := 3) rfl (nI_inc _) (by decide) rfl (fun ls hl => ?_)
          refine lv_goto (tgt := 7) hx hb dX6_masterPlan_60 (by decide) ?_
          exact ihx_1 (ix_1 + 1) a1_1 a2_1 ls (by omega) (Eq.trans (Eq.symm (by rw [l_X6_masterPlan_7, if_pos c4, if_neg c5] <;> rfl)) hvx_1) (lv_sub hl [1, 2, 3, 0] rfl)
        · refine lv_aload_n hx hb dX6_masterPlan_35 rfl (lv_at hl 0 rfl) ?_
          refine lv_iload_n hx hb dX6_masterPlan_36 rfl (lv_at hl 3 rfl) ?_
          refine r_call (As := [.int (nI ix_1)]) (rest := []) (ci := 6) X hP (c_X6_guess (nn := nn) (mm := mm) (kk := kk) hp0 (nI ix_1) h0 h1 h3 hn hm hk) o_X6_guess rfl hp0.lt hp0.ob m414 ⟨rfl, rfl⟩ ⟨Nat.le_of_ble_eq_true rfl, Nat.le_of_ble_eq_true rfl⟩ rfl hl.1 rfl (Nat.le_of_ble_eq_true rfl) ⟨Nat.zero_le _, Nat.zero_le _⟩ dX6_masterPlan_37 ?_
          refine lv_istore (lv' := [(4, .int (f_X6_guess x nn mm kk (nI ix_1))), (0, .ref (ad b)), (1, .int (a1_1)), (2, .int (a2_1)), (3, .int (nI ix_1))]) hx hb dX6_masterPlan_40 hl (by decide) rfl (fun ls hl => ?_)
          refine lv_iload_n hx hb dX6_masterPlan_42 rfl (lv_at hl 2 rfl) ?_
          refine u_lt (tgt := 52) hx hb dX6_masterPlan_43 (by decide) (fun c6 => ?_) (fun c6 => ?_)
          · refine lv_iload_n hx hb dX6_masterPlan_52 rfl (lv_at hl 4 rfl) ?_
            refine lv_istore_n (lv' := [(1, .int (nI ix_1)), (4, .int (f_X6_guess x nn mm kk (nI ix_1))), (0, .ref (ad b)), (2, .int (a2_1)), (3, .int (nI ix_1))]) hx hb dX6_masterPlan_53 rfl hl (by decide) rfl (fun ls hl => ?_)
            refine lv_iload hx hb dX6_masterPlan_54 (lv_at hl 1 rfl) ?_
            refine lv_istore_n (lv' := [(2, .int (f_X6_guess x nn mm kk (nI ix_1))), (1, .int (nI ix_1)), (4, .int (f_X6_guess x nn mm kk (nI ix_1))), (0, .ref (ad b)), (3, .int (nI ix_1))]) hx hb dX6_masterPlan_56 rfl hl (by decide) rfl (fun ls hl => ?_)
            refine lv_iinc (v := nI (ix_1 + 1)) (lv' := [(3, .int (nI (ix_1 + 1))), (2, .int (f_X6_guess x nn mm kk (nI ix_1))), (1, .int (nI ix_1)), (4, .int (f_X6_guess x nn mm kk (nI ix_1))), (0, .ref (ad b))]) hx hb dX6_masterPlan_57 hl (k := 4) rfl (nI_inc _) (by decide) rfl (fun ls hl => ?_)
            refine lv_goto (tgt := 7) hx hb dX6_masterPlan_60 (by decide) ?_
            exact ihx_1 (ix_1 + 1) (nI ix_1) (f_X6_guess x nn mm kk (nI ix_1)) ls (by omega) (Eq.trans (Eq.symm (by rw [l_X6_masterPlan_7, if_pos c4, if_pos c5, if_pos c6] <;> rfl)) hvx_1) (lv_sub hl [4, 2, 1, 0] rfl)
          · refine lv_iload hx hb dX6_masterPlan_46 (lv_at hl 0 rfl) ?_
            refine lv_iload_n hx hb dX6_masterPlan_48 rfl (lv_at hl 3 rfl) ?_
            refine j_ge (tgt := 57) hx hb dX6_masterPlan_49 (by decide) (fun c7 => ?_) (fun c7 => ?_)
            · refine lv_iinc (v := nI (ix_1 + 1)) (lv' := [(3, .int (nI (ix_1 + 1))), (4, .int (f_X6_guess x nn mm kk (nI ix_1))), (0, .ref (ad b)), (1, .int (a1_1)), (2, .int (a2_1))]) hx hb dX6_masterPlan_57 hl (k := 4) rfl (nI_inc _) (by decide) rfl (fun ls hl => ?_)
              refine lv_goto (tgt := 7) hx hb dX6_masterPlan_60 (by decide) ?_
              exact ihx_1 (ix_1 + 1) a1_1 a2_1 ls (by omega) (Eq.trans (Eq.symm (by rw [l_X6_masterPlan_7, if_pos c4, if_pos c5, if_neg c6, if_neg c7] <;> rfl)) hvx_1) (lv_sub hl [2, 3, 4, 0] rfl)
            · refine lv_iload_n hx hb dX6_masterPlan_52 rfl (lv_at hl 4 rfl) ?_
              refine lv_istore_n (lv' := [(1, .int (nI ix_1)), (4, .int (f_X6_guess x nn mm kk (nI ix_1))), (0, .ref (ad b)), (2, .int (a2_1)), (3, .int (nI ix_1))]) hx hb dX6_masterPlan_53 rfl hl (by decide) rfl (fun ls hl => ?_)
              refine lv_iload hx hb dX6_masterPlan_54 (lv_at hl 1 rfl) ?_
              refine lv_istore_n (lv' := [(2, .int (f_X6_guess x nn mm kk (nI ix_1))), (1, .int (nI ix_1)), (4, .int (f_X6_guess x nn mm kk (nI ix_1))), (0, .ref (ad b)), (3, .int (nI ix_1))]) hx hb dX6_masterPlan_56 rfl hl (by decide) rfl (fun ls hl => ?_)
              refine lv_iinc (v := nI (ix_1 + 1)) (lv' := [(3, .int (nI (ix_1 + 1))), (2, .int (f_X6_guess x nn mm kk (nI ix_1))), (1, .int (nI ix_1)), (4, .int (f_X6_guess x nn mm kk (nI ix_1))), (0, .ref (ad b))]) hx hb dX6_masterPlan_57 hl (k := 4) rfl (nI_inc _) (by decide) rfl (fun ls hl => ?_)
              refine lv_goto (tgt := 7) hx hb dX6_masterPlan_60 (by decide) ?_
              exact ihx_1 (ix_1 + 1) (nI ix_1) (f_X6_guess x nn mm kk (nI ix_1)) ls (by omega) (Eq.trans (Eq.symm (by rw [l_X6_masterPlan_7, if_pos c4, if_pos c5, if_neg c6, if_pos c7] <;> rfl)) hvx_1) (lv_sub hl [4, 2, 1, 0] rfl)
  exact L1 (2 ^ nn) 0 (-5) (nI 0) ls (by omega) rfl (lv_sub hl [3, 2, 1, 0] rfl)
theorem o_X6_masterPlan : okV yX6_masterPlan cX6_masterPlan 5 (some .int) 0 := ⟨m387, m388, m5, m389, by decide +kernel, by decide +kernel, by decide +kernel⟩
def rmX6_isLoose : Room := { frames := 3, cells := 0, slots := 0, locals := 70 }
def f_X6_isLoose (x : MoC) (nn : Nat) (mm : Nat) (kk : Nat) (kc : Nat) (plan : Int32) (above : Int32) : Bool :=
  (if (f_X6_isRay x nn mm kk kc) = true then (if (nI 1) < (f_X6_asked x nn mm kk kc plan) then true else false) else (if (f_X6_valueOf x nn mm kk kc plan) < above then true else false))
set_option maxHeartbeats 4000000 in
set_option maxRecDepth 100000 in
theorem c_X6_isLoose {l : Launch} {dd : va_G} {t : CL4} {N : Nat} {ad : Nat → Nat} {V : Nat → va_E} {b : Nat} {x : MoC} {nn : Nat} {mm : Nat} {kk : Nat} (hp0 : MoP N ad V t b x) (kc : Nat) (plan : Int32) (above : Int32) (h0 : oR x 0 = nI nn) (h1 : oR x 1 = nI mm) (h3 : oR x 3 = nI kk) (hn : nn ≤ 7) (hm : mm ≤ 8) (hk : kk ≤ 40) (h_cut : kc < kk) (hc : RaysOk x mm kk) : RM l dd t N ad V yX6_isLoose cX6_isLoose 4 (some .boolean) rmX6_isLoose [.ref (ad b), .int (nI kc), .int (plan), .int (above)] (b01 (f_X6_isLoose x nn mm kk kc plan above)) := by
  refine RM.of (by decide +kernel) ⟨rfl, rfl⟩ (Nat.le_of_ble_eq_true rfl) (narB _) ?_
  intro p e s m as below meth c Q X H hP ls hl kr
  have X : WX p s m as c cX6_isLoose 4 RX6 dd t := X
  have hx := X.1.1
  have hb := X.1.2.1
  have hl : lv_has ls 4 [(0, .ref (ad b)), (1, .int (nI kc)), (2, .int (plan)), (3, .int (above))] := hl
  have hle0 := hp0.le
  refine lv_aload_n hx hb dX6_isLoose_0 rfl (lv_at hl 0 rfl) ?_
  refine lv_iload_n hx hb dX6_isLoose_1 rfl (lv_at hl 1 rfl) ?_
  refine r_call (As := [.int (nI kc)]) (rest := []) (ci := 6) X hP (c_X6_isRay (nn := nn) (mm := mm) (kk := kk) hp0 kc h0 h1 h3 hn hm hk (by omega)) o_X6_isRay rfl hp0.lt hp0.ob m402 ⟨rfl, rfl⟩ ⟨Nat.le_of_ble_eq_true rfl, Nat.le_of_ble_eq_true rfl⟩ rfl hl.1 rfl (Nat.le_of_ble_eq_true rfl) ⟨Nat.zero_le _, Nat.zero_le _⟩ dX6_isLoose_2 ?_
  refine q_eqB (tgt := 26) hx hb dX6_isLoose_5 (by decide) (fun c1 => ?_) (fun c1 => ?_)
  · refine lv_aload_n hx hb dX6_isLoose_26 rfl (lv_at hl 0 rfl) ?_
    refine lv_iload_n hx hb dX6_isLoose_27 rfl (lv_at hl 1 rfl) ?_
    refine lv_iload_n hx hb dX6_isLoose_28 rfl (lv_at hl 2 rfl) ?_
    refine r_call (As := [.int (nI kc), .int (plan)]) (rest := []) (ci := 6) X hP (c_X6_valueOf (nn := nn) (mm := mm) (kk := kk) hp0 kc plan h0 h1 h3 hn hm hk (by omega)) o_X6_valueOf rfl hp0.lt hp0.ob m418 ⟨rfl, rfl⟩ ⟨Nat.le_of_ble_eq_true rfl, Nat.le_of_ble_eq_true rfl⟩ rfl hl.1 rfl (Nat.le_of_ble_eq_true rfl) ⟨Nat.zero_le _, Nat.zero_le _⟩ dX6_isLoose_29 ?_
    refine lv_iload_n hx hb dX6_isLoose_32 rfl (lv_at hl 3 rfl) ?_
    refine j_ge (tgt := 40) hx hb dX6_isLoose_33 (by decide) (fun c2 => ?_) (fun c2 => ?_)
    · refine lv_iconst (v := nI 0) hx hb dX6_isLoose_40 (by decide) ?_
      exact kr 41 ls _ (b_f (by rw [f_X6_isLoose, if_neg (nt c1), if_neg c2] <;> rfl)) dX6_isLoose_41
    · refine lv_iconst (v := nI 1) hx hb dX6_isLoose_36 (by decide) ?_
      refine lv_goto (tgt := 41) hx hb dX6_isLoose_37 (by decide) ?_
      exact kr 41 ls _ (b_t (by rw [f_X6_isLoose, if_neg (nt c1), if_pos c2] <;> rfl)) dX6_isLoose_41
  · refine lv_aload_n hx hb dX6_isLoose_8 rfl (lv_at hl 0 rfl) ?_
    refine lv_iload_n hx hb dX6_isLoose_9 rfl (lv_at hl 1 rfl) ?_
    refine lv_iload_n hx hb dX6_isLoose_10 rfl (lv_at hl 2 rfl) ?_
    refine r_call (As := [.int (nI kc), .int (plan)]) (rest := []) (ci := 6) X hP (c_X6_asked (nn := nn) (mm := mm) (kk := kk) hp0 kc plan h0 h1 h3 hn hm hk (by omega) (hc _ (by omega) (isRay_t c1))) o_X6_asked rfl hp0.lt hp0.ob m406 ⟨rfl, rfl⟩ ⟨Nat.le_of_ble_eq_true rfl, Nat.le_of_ble_eq_true rfl⟩ rfl hl.1 rfl (Nat.le_of_ble_eq_true rfl) ⟨Nat.zero_le _, Nat.zero_le _⟩ dX6_isLoose_11 ?_
    refine lv_iconst (v := nI 1) hx hb dX6_isLoose_14 (by decide) ?_
    refine j_le (tgt := 22) hx hb dX6_isLoose_15 (by decide) (fun c3 => ?_) (fun c3 => ?_)
    · refine lv_iconst (v := nI 0) hx hb dX6_isLoose_22 (by decide) ?_
      refine lv_goto (tgt := 41) hx hb dX6_isLoose_23 (by decide) ?_
      exact kr 41 ls _ (b_f (by rw [f_X6_isLoose, if_pos c1, if_neg c3] <;> rfl)) dX6_isLoose_41
    · refine lv_iconst (v := nI 1) hx hb dX6_isLoose_18 (by decide) ?_
      refine lv_goto (tgt := 41) hx hb dX6_isLoose_19 (by decide) ?_
      exact kr 41 ls _ (b_t (by rw [f_X6_isLoose, if_pos c1, if_pos c3] <;> rfl)) dX6_isLoose_41
theorem o_X6_isLoose : okV yX6_isLoose cX6_isLoose 4 (some .boolean) 3 := ⟨m542, m543, m5, m544, by decide +kernel, by decide +kernel, by decide +kernel⟩
def rmX6_judge : Room := { frames := 3, cells := 0, slots := 0, locals := 66 }
def f_X6_judge (x : MoC) (nn : Nat) (mm : Nat) (kk : Nat) (plan : Int32) : Int32 :=
  (if (f_X6_noPlan x nn mm kk plan) = true then (-2) else (if (oR x 2) < (f_X6_many plan) then nI 1 else (if (f_X6_excludes x nn mm kk plan) = true then nI 2 else (if (f_X6_missed x nn mm kk plan) < 0 then nI 0 else nI 3))))
set_option maxHeartbeats 4000000 in
set_option maxRecDepth 100000 in
theorem c_X6_judge {l : Launch} {dd : va_G} {t : CL4} {N : Nat} {ad : Nat → Nat} {V : Nat → va_E} {b : Nat} {x : MoC} {nn : Nat} {mm : Nat} {kk : Nat} (hp0 : MoP N ad V t b x) (plan : Int32) (h0 : oR x 0 = nI nn) (h1 : oR x 1 = nI mm) (h3 : oR x 3 = nI kk) (hn : nn ≤ 7) (hm : mm ≤ 8) (hk : kk ≤ 40) : RM l dd t N ad V yX6_judge cX6_judge 2 (some .int) rmX6_judge [.ref (ad b), .int (plan)] (f_X6_judge x nn mm kk plan) := by
  refine RM.of (by decide +kernel) ⟨rfl, rfl⟩ (Nat.le_of_ble_eq_true rfl) (narI _) ?_
  intro p e s m as below meth c Q X H hP ls hl kr
  have X : WX p s m as c cX6_judge 2 RX6 dd t := X
  have hx := X.1.1
  have hb := X.1.2.1
  have hl : lv_has ls 2 [(0, .ref (ad b)), (1, .int (plan))] := hl
  have hle0 := hp0.le
  refine lv_aload_n hx hb dX6_judge_0 rfl (lv_at hl 0 rfl) ?_
  refine lv_iload_n hx hb dX6_judge_1 rfl (lv_at hl 1 rfl) ?_
  refine r_call (As := [.int (plan)]) (rest := []) (ci := 6) X hP (c_X6_noPlan (nn := nn) (mm := mm) (kk := kk) hp0 plan h0 h1 h3 hn hm hk) o_X6_noPlan rfl hp0.lt hp0.ob m622 ⟨rfl, rfl⟩ ⟨Nat.le_of_ble_eq_true rfl, Nat.le_of_ble_eq_true rfl⟩ rfl hl.1 rfl (Nat.le_of_ble_eq_true rfl) ⟨Nat.zero_le _, Nat.zero_le _⟩ dX6_judge_2 ?_
  refine q_eqB (tgt := 11) hx hb dX6_judge_5 (by decide) (fun c1 => ?_) (fun c1 => ?_)
  · refine lv_iload_n hx hb dX6_judge_11 rfl (lv_at hl 1 rfl) ?_
    refine r_callS (As := [.int (plan)]) (rest := []) X hP (c_X6_many plan) o_X6_many m264 ⟨rfl, rfl⟩ ⟨Nat.le_of_ble_eq_true rfl, Nat.le_of_ble_eq_true rfl⟩ rfl hl.1 rfl (Nat.le_of_ble_eq_true rfl) ⟨Nat.zero_le _, Nat.zero_le _⟩ dX6_judge_12 ?_
    refine lv_aload_n hx hb dX6_judge_15 rfl (lv_at hl 0 rfl) ?_
    refine g_Mo_row X hP hp0 m83 dX6_judge_16 ?_
    refine lv_iconst (v := nI 2) hx hb dX6_judge_19 (by decide) ?_
    refine l_Mo_row X hP hp0 (by decide) dX6_judge_20 ?_
    refine j_le (tgt := 28) hx hb dX6_judge_21 (by decide) (fun c2 => ?_) (fun c2 => ?_)
    · refine lv_aload_n hx hb dX6_judge_28 rfl (lv_at hl 0 rfl) ?_
      refine lv_iload_n hx hb dX6_judge_29 rfl (lv_at hl 1 rfl) ?_
      refine r_call (As := [.int (plan)]) (rest := []) (ci := 6) X hP (c_X6_excludes (nn := nn) (mm := mm) (kk := kk) hp0 plan h0 h1 h3 hn hm hk) o_X6_excludes rfl hp0.lt hp0.ob m394 ⟨rfl, rfl⟩ ⟨Nat.le_of_ble_eq_true rfl, Nat.le_of_ble_eq_true rfl⟩ rfl hl.1 rfl (Nat.le_of_ble_eq_true rfl) ⟨Nat.zero_le _, Nat.zero_le _⟩ dX6_judge_30 ?_
      refine q_eqB (tgt := 40) hx hb dX6_judge_33 (by decide) (fun c3 => ?_) (fun c3 => ?_)
      · refine lv_aload_n hx hb dX6_judge_40 rfl (lv_at hl 0 rfl) ?_
        refine lv_iload_n hx hb dX6_judge_41 rfl (lv_at hl 1 rfl) ?_
        refine r_call (As := [.int (plan)]) (rest := []) (ci := 6) X hP (c_X6_missed (nn := nn) (mm := mm) (kk := kk) hp0 plan h0 h1 h3 hn hm hk) o_X6_missed rfl hp0.lt hp0.ob m430 ⟨rfl, rfl⟩ ⟨Nat.le_of_ble_eq_true rfl, Nat.le_of_ble_eq_true rfl⟩ rfl hl.1 rfl (Nat.le_of_ble_eq_true rfl) ⟨Nat.zero_le _, Nat.zero_le _⟩ dX6_judge_42 ?_
        refine u_lt (tgt := 52) hx hb dX6_judge_45 (by decide) (fun c4 => ?_) (fun c4 => ?_)
        · refine lv_iconst (v := nI 0) hx hb dX6_judge_52 (by decide) ?_
          exact kr 53 ls _ (Eq.symm (by rw [f_X6_judge, if_neg (nt c1), if_neg c2, if_neg (nt c3), if_pos c4] <;> rfl)) dX6_judge_53
        · refine lv_iconst (v := nI 3) hx hb dX6_judge_48 (by decide) ?_
          refine lv_goto (tgt := 53) hx hb dX6_judge_49 (by decide) ?_
          exact kr 53 ls _ (Eq.symm (by rw [f_X6_judge, if_neg (nt c1), if_neg c2, if_neg (nt c3), if_neg c4] <;> rfl)) dX6_judge_53
      · refine lv_iconst (v := nI 2) hx hb dX6_judge_36 (by decide) ?_
        refine lv_goto (tgt := 53) hx hb dX6_judge_37 (by decide) ?_
        exact kr 53 ls _ (Eq.symm (by rw [f_X6_judge, if_neg (nt c1), if_neg c2, if_pos c3] <;> rfl)) dX6_judge_53
    · refine lv_iconst (v := nI 1) hx hb dX6_judge_24 (by decide) ?_
      refine lv_goto (tgt := 53) hx hb dX6_judge_25 (by decide) ?_
      exact kr 53 ls _ (Eq.symm (by rw [f_X6_judge, if_neg (nt c1), if_pos c2] <;> rfl)) dX6_judge_53
  · refine lv_bipush (v := (-2)) hx hb dX6_judge_8 (by decide) ?_
    exact kr 10 ls _ (Eq.symm (by rw [f_X6_judge, if_pos c1] <;> rfl)) dX6_judge_10
theorem o_X6_judge : okV yX6_judge cX6_judge 2 (some .int) 1 := ⟨m619, m620, m5, m621, by decide +kernel, by decide +kernel, by decide +kernel⟩
def rmX6_plan : Room := { frames := 4, cells := 0, slots := 0, locals := 94 }
def f_X6_plan (x : MoC) (nn : Nat) (mm : Nat) (kk : Nat) (plan : Int32) (what : Int32) : Int32 :=
  (if (f_X6_noPlan x nn mm kk plan) = true then (-2) else (if (f_X6_in what (nI 0) (nI 4)) = true then (if what = 0 then (if (f_X6_missed x nn mm kk plan) < 0 then (f_X6_prices x nn mm kk plan) + (f_X6_routes x nn mm kk plan) else (-4)) else (if what = (nI 2) then (if (f_X6_missed x nn mm kk plan) < 0 then (if what = (nI 1) then f_X6_prices x nn mm kk plan else f_X6_routes x nn mm kk plan) else (-4)) else (if what = (nI 1) then f_X6_prices x nn mm kk plan else (if what = (nI 3) then f_X6_guess x nn mm kk plan else f_X6_raysMissed x nn mm kk plan)))) else (-2)))
set_option maxHeartbeats 4000000 in
set_option maxRecDepth 100000 in
theorem c_X6_plan {l : Launch} {dd : va_G} {t : CL4} {N : Nat} {ad : Nat → Nat} {V : Nat → va_E} {b : Nat} {x : MoC} {nn : Nat} {mm : Nat} {kk : Nat} (hp0 : MoP N ad V t b x) (plan : Int32) (what : Int32) (h0 : oR x 0 = nI nn) (h1 : oR x 1 = nI mm) (h3 : oR x 3 = nI kk) (hn : nn ≤ 7) (hm : mm ≤ 8) (hk : kk ≤ 40) (hc : RaysOk x mm kk) : RM l dd t N ad V yX6_plan cX6_plan 3 (some .int) rmX6_plan [.ref (ad b), .int (plan), .int (what)] (f_X6_plan x nn mm kk plan what) := by
  refine RM.of (by decide +kernel) ⟨rfl, rfl⟩ (Nat.le_of_ble_eq_true rfl) (narI _) ?_
  intro p e s m as below meth c Q X H hP ls hl kr
  have X : WX p s m as c cX6_plan 3 RX6 dd t := X
  have hx := X.1.1
  have hb := X.1.2.1
  have hl : lv_has ls 3 [(0, .ref (ad b)), (1, .int (plan)), (2, .int (what))] := hl
  have hle0 := hp0.le
  refine lv_aload_n hx hb dX6_plan_0 rfl (lv_at hl 0 rfl) ?_
  refine lv_iload_n hx hb dX6_plan_1 rfl (lv_at hl 1 rfl) ?_
  refine r_call (As := [.int (plan)]) (rest := []) (ci := 6) X hP (c_X6_noPlan (nn := nn) (mm := mm) (kk := kk) hp0 plan h0 h1 h3 hn hm hk) o_X6_noPlan rfl hp0.lt hp0.ob m622 ⟨rfl, rfl⟩ ⟨Nat.le_of_ble_eq_true rfl, Nat.le_of_ble_eq_true rfl⟩ rfl hl.1 rfl (Nat.le_of_ble_eq_true rfl) ⟨Nat.zero_le _, Nat.zero_le _⟩ dX6_plan_2 ?_
  refine q_neB (tgt := 17) hx hb dX6_plan_5 (by decide) (fun c1 => ?_) (fun c1 => ?_)
  · refine lv_bipush (v := (-2)) hx hb dX6_plan_17 (by decide) ?_
    exact kr 19 ls _ (Eq.symm (by rw [f_X6_plan, if_pos c1] <;> rfl)) dX6_plan_19
  · refine lv_iload_n hx hb dX6_plan_8 rfl (lv_at hl 2 rfl) ?_
    refine lv_iconst (v := nI 0) hx hb dX6_plan_9 (by decide) ?_
    refine lv_iconst (v := nI 4) hx hb dX6_plan_10 (by decide) ?_
    refine r_callS (As := [.int (what), .int (nI 0), .int (nI 4)]) (rest := []) X hP (c_X6_in what (nI 0) (nI 4)) o_X6_in m139 ⟨rfl, rfl⟩ ⟨Nat.le_of_ble_eq_true rfl, Nat.le_of_ble_eq_true rfl⟩ rfl hl.1 rfl (Nat.le_of_ble_eq_true rfl) ⟨Nat.zero_le _, Nat.zero_le _⟩ dX6_plan_11 ?_
    refine q_neB (tgt := 20) hx hb dX6_plan_14 (by decide) (fun c2 => ?_) (fun c2 => ?_)
    · refine lv_iload_n hx hb dX6_plan_20 rfl (lv_at hl 2 rfl) ?_
      refine lv_if_eq (tgt := 29) hx hb dX6_plan_21 (by decide) (fun c3 => ?_) (fun c3 => ?_)
      · refine lv_aload_n hx hb dX6_plan_29 rfl (lv_at hl 0 rfl) ?_
        refine lv_iload_n hx hb dX6_plan_30 rfl (lv_at hl 1 rfl) ?_
        refine r_call (As := [.int (plan)]) (rest := []) (ci := 6) X hP (c_X6_missed (nn := nn) (mm := mm) (kk := kk) hp0 plan h0 h1 h3 hn hm hk) o_X6_missed rfl hp0.lt hp0.ob m430 ⟨rfl, rfl⟩ ⟨Nat.le_of_ble_eq_true rfl, Nat.le_of_ble_eq_true rfl⟩ rfl hl.1 rfl (Nat.le_of_ble_eq_true rfl) ⟨Nat.zero_le _, Nat.zero_le _⟩ dX6_plan_31 ?_
        refine u_lt (tgt := 40) hx hb dX6_plan_34 (by decide) (fun c4 => ?_) (fun c4 => ?_)
        · refine lv_iload_n hx hb dX6_plan_40 rfl (lv_at hl 2 rfl) ?_
          refine lv_tableIn (tgt := 72) hx hb dX6_plan_41 (by rw [c3]; decide) (by rw [c3]; decide) (by rw [c3]; rfl) (by decide) ?_
          refine lv_aload_n hx hb dX6_plan_72 rfl (lv_at hl 0 rfl) ?_
          refine lv_iload_n hx hb dX6_plan_73 rfl (lv_at hl 1 rfl) ?_
          refine r_call (As := [.int (plan)]) (rest := []) (ci := 6) X hP (c_X6_prices (nn := nn) (mm := mm) (kk := kk) hp0 plan h0 h1 h3 hn hm hk) o_X6_prices rfl hp0.lt hp0.ob m426 ⟨rfl, rfl⟩ ⟨Nat.le_of_ble_eq_true rfl, Nat.le_of_ble_eq_true rfl⟩ rfl hl.1 rfl (Nat.le_of_ble_eq_true rfl) ⟨Nat.zero_le _, Nat.zero_le _⟩ dX6_plan_74 ?_
          refine lv_aload_n hx hb dX6_plan_77 rfl (lv_at hl 0 rfl) ?_
          refine lv_iload_n hx hb dX6_plan_78 rfl (lv_at hl 1 rfl) ?_
          refine r_call (As := [.int (plan)]) (rest := [.int (f_X6_prices x nn mm kk plan)]) (ci := 6) X hP (c_X6_routes (nn := nn) (mm := mm) (kk := kk) hp0 plan h0 h1 h3 hn hm hk (missed_server hn hm c4)) o_X6_routes rfl hp0.lt hp0.ob m434 ⟨rfl, rfl⟩ ⟨Nat.le_of_ble_eq_true rfl, Nat.le_of_ble_eq_true rfl⟩ rfl hl.1 rfl (Nat.le_of_ble_eq_true rfl) ⟨Nat.zero_le _, Nat.zero_le _⟩ dX6_plan_79 ?_
          refine lv_iadd hx hb dX6_plan_82 ?_
          exact kr 83 ls _ (Eq.symm (by rw [f_X6_plan, if_neg (nt c1), if_pos c2, if_pos c3, if_pos c4] <;> rfl)) dX6_plan_83
        · refine lv_bipush (v := (-4)) hx hb dX6_plan_37 (by decide) ?_
          exact kr 39 ls _ (Eq.symm (by rw [f_X6_plan, if_neg (nt c1), if_pos c2, if_pos c3, if_neg c4] <;> rfl)) dX6_plan_39
      · refine lv_iload_n hx hb dX6_plan_24 rfl (lv_at hl 2 rfl) ?_
        refine lv_iconst (v := nI 2) hx hb dX6_plan_25 (by decide) ?_
        refine lv_icmp_ne (tgt := 40) hx hb dX6_plan_26 (by decide) (fun c5 => ?_) (fun c5 => ?_)
        · refine lv_iload_n hx hb dX6_plan_40 rfl (lv_at hl 2 rfl) ?_
          by_cases c6 : what = (nI 1)
          · refine lv_tableIn (tgt := 84) hx hb dX6_plan_41 (by rw [c6]; decide) (by rw [c6]; decide) (by rw [c6]; rfl) (by decide) ?_
            refine lv_aload_n hx hb dX6_plan_84 rfl (lv_at hl 0 rfl) ?_
            refine lv_iload_n hx hb dX6_plan_85 rfl (lv_at hl 1 rfl) ?_
            refine r_call (As := [.int (plan)]) (rest := []) (ci := 6) X hP (c_X6_prices (nn := nn) (mm := mm) (kk := kk) hp0 plan h0 h1 h3 hn hm hk) o_X6_prices rfl hp0.lt hp0.ob m426 ⟨rfl, rfl⟩ ⟨Nat.le_of_ble_eq_true rfl, Nat.le_of_ble_eq_true rfl⟩ rfl hl.1 rfl (Nat.le_of_ble_eq_true rfl) ⟨Nat.zero_le _, Nat.zero_le _⟩ dX6_plan_86 ?_
            exact kr 89 ls _ (Eq.symm (by rw [f_X6_plan, if_neg (nt c1), if_pos c2, if_neg c3, if_neg c5, if_pos c6] <;> rfl)) dX6_plan_89
          · by_cases c7 : what = (nI 3)
            · refine lv_tableIn (tgt := 96) hx hb dX6_plan_41 (by rw [c7]; decide) (by rw [c7]; decide) (by rw [c7]; rfl) (by decide) ?_
              refine lv_aload_n hx hb dX6_plan_96 rfl (lv_at hl 0 rfl) ?_
              refine lv_iload_n hx hb dX6_plan_97 rfl (lv_at hl 1 rfl) ?_
              refine r_call (As := [.int (plan)]) (rest := []) (ci := 6) X hP (c_X6_guess (nn := nn) (mm := mm) (kk := kk) hp0 plan h0 h1 h3 hn hm hk) o_X6_guess rfl hp0.lt hp0.ob m414 ⟨rfl, rfl⟩ ⟨Nat.le_of_ble_eq_true rfl, Nat.le_of_ble_eq_true rfl⟩ rfl hl.1 rfl (Nat.le_of_ble_eq_true rfl) ⟨Nat.zero_le _, Nat.zero_le _⟩ dX6_plan_98 ?_
              exact kr 101 ls _ (Eq.symm (by rw [f_X6_plan, if_neg (nt c1), if_pos c2, if_neg c3, if_neg c5, if_neg c6, if_pos c7] <;> rfl)) dX6_plan_101
            · refine lv_tableOut (tgt := 102) hx hb dX6_plan_41 (sw_out3 c3 c6 c5 c7) (by decide) ?_
              refine lv_aload_n hx hb dX6_plan_102 rfl (lv_at hl 0 rfl) ?_
              refine lv_iload_n hx hb dX6_plan_103 rfl (lv_at hl 1 rfl) ?_
              refine r_call (As := [.int (plan)]) (rest := []) (ci := 6) X hP (c_X6_raysMissed (nn := nn) (mm := mm) (kk := kk) hp0 plan h0 h1 h3 hn hm hk hc) o_X6_raysMissed rfl hp0.lt hp0.ob m398 ⟨rfl, rfl⟩ ⟨Nat.le_of_ble_eq_true rfl, Nat.le_of_ble_eq_true rfl⟩ rfl hl.1 rfl (Nat.le_of_ble_eq_true rfl) ⟨Nat.zero_le _, Nat.zero_le _⟩ dX6_plan_104 ?_
              exact kr 107 ls _ (Eq.symm (by rw [f_X6_plan, if_neg (nt c1), if_pos c2, if_neg c3, if_neg c5, if_neg c6, if_neg c7] <;> rfl)) dX6_plan_107
        · refine lv_aload_n hx hb dX6_plan_29 rfl (lv_at hl 0 rfl) ?_
          refine lv_iload_n hx hb dX6_plan_30 rfl (lv_at hl 1 rfl) ?_
          refine r_call (As := [.int (plan)]) (rest := []) (ci := 6) X hP (c_X6_missed (nn := nn) (mm := mm) (kk := kk) hp0 plan h0 h1 h3 hn hm hk) o_X6_missed rfl hp0.lt hp0.ob m430 ⟨rfl, rfl⟩ ⟨Nat.le_of_ble_eq_true rfl, Nat.le_of_ble_eq_true rfl⟩ rfl hl.1 rfl (Nat.le_of_ble_eq_true rfl) ⟨Nat.zero_le _, Nat.zero_le _⟩ dX6_plan_31 ?_
          refine u_lt (tgt := 40) hx hb dX6_plan_34 (by decide) (fun c8 => ?_) (fun c8 => ?_)
          · refine lv_iload_n hx hb dX6_plan_40 rfl (lv_at hl 2 rfl) ?_
            by_cases c9 : what = (nI 1)
            · refine lv_tableIn (tgt := 84) hx hb dX6_plan_41 (by rw [c9]; decide) (by rw [c9]; decide) (by rw [c9]; rfl) (by decide) ?_
              refine lv_aload_n hx hb dX6_plan_84 rfl (lv_at hl 0 rfl) ?_
              refine lv_iload_n hx hb dX6_plan_85 rfl (lv_at hl 1 rfl) ?_
              refine r_call (As := [.int (plan)]) (rest := []) (ci := 6) X hP (c_X6_prices (nn := nn) (mm := mm) (kk := kk) hp0 plan h0 h1 h3 hn hm hk) o_X6_prices rfl hp0.lt hp0.ob m426 ⟨rfl, rfl⟩ ⟨Nat.le_of_ble_eq_true rfl, Nat.le_of_ble_eq_true rfl⟩ rfl hl.1 rfl (Nat.le_of_ble_eq_true rfl) ⟨Nat.zero_le _, Nat.zero_le _⟩ dX6_plan_86 ?_
              exact kr 89 ls _ (Eq.symm (by rw [f_X6_plan, if_neg (nt c1), if_pos c2, if_neg c3, if_pos c5, if_pos c8, if_pos c9] <;> rfl)) dX6_plan_89
            · refine lv_tableIn (tgt := 90) hx hb dX6_plan_41 (by rw [c5]; decide) (by rw [c5]; decide) (by rw [c5]; rfl) (by decide) ?_
              refine lv_aload_n hx hb dX6_plan_90 rfl (lv_at hl 0 rfl) ?_
              refine lv_iload_n hx hb dX6_plan_91 rfl (lv_at hl 1 rfl) ?_
              refine r_call (As := [.int (plan)]) (rest := []) (ci := 6) X hP (c_X6_routes (nn := nn) (mm := mm) (kk := kk) hp0 plan h0 h1 h3 hn hm hk (missed_server hn hm c8)) o_X6_routes rfl hp0.lt hp0.ob m434 ⟨rfl, rfl⟩ ⟨Nat.le_of_ble_eq_true rfl, Nat.le_of_ble_eq_true rfl⟩ rfl hl.1 rfl (Nat.le_of_ble_eq_true rfl) ⟨Nat.zero_le _, Nat.zero_le _⟩ dX6_plan_92 ?_
              exact kr 95 ls _ (Eq.symm (by rw [f_X6_plan, if_neg (nt c1), if_pos c2, if_neg c3, if_pos c5, if_pos c8, if_neg c9] <;> rfl)) dX6_plan_95
          · refine lv_bipush (v := (-4)) hx hb dX6_plan_37 (by decide) ?_
            exact kr 39 ls _ (Eq.symm (by rw [f_X6_plan, if_neg (nt c1), if_pos c2, if_neg c3, if_pos c5, if_neg c8] <;> rfl)) dX6_plan_39
    · refine lv_bipush (v := (-2)) hx hb dX6_plan_17 (by decide) ?_
      exact kr 19 ls _ (Eq.symm (by rw [f_X6_plan, if_neg (nt c1), if_neg (nt c2)] <;> rfl)) dX6_plan_19
theorem o_X6_plan : okV yX6_plan cX6_plan 3 (some .int) 2 := ⟨m637, m638, m5, m639, by decide +kernel, by decide +kernel, by decide +kernel⟩
def rmX6_serves : Room := { frames := 2, cells := 0, slots := 0, locals := 46 }
def f_X6_serves (x : MoC) (nn : Nat) (mm : Nat) (kk : Nat) (plan : Int32) (customer : Int32) : Int32 :=
  (if (f_X6_noPlan x nn mm kk plan) = true then (-2) else (if (f_X6_noCustomer x nn mm kk customer) = true then (-1) else f_X6_server x nn mm kk plan (tn customer)))
set_option maxHeartbeats 4000000 in
set_option maxRecDepth 100000 in
theorem c_X6_serves {l : Launch} {dd : va_G} {t : CL4} {N : Nat} {ad : Nat → Nat} {V : Nat → va_E} {b : Nat} {x : MoC} {nn : Nat} {mm : Nat} {kk : Nat} (hp0 : MoP N ad V t b x) (plan : Int32) (customer : Int32) (h0 : oR x 0 = nI nn) (h1 : oR x 1 = nI mm) (h3 : oR x 3 = nI kk) (hn : nn ≤ 7) (hm : mm ≤ 8) (hk : kk ≤ 40) : RM l dd t N ad V yX6_serves cX6_serves 3 (some .int) rmX6_serves [.ref (ad b), .int (plan), .int (customer)] (f_X6_serves x nn mm kk plan customer) := by
  refine RM.of (by decide +kernel) ⟨rfl, rfl⟩ (Nat.le_of_ble_eq_true rfl) (narI _) ?_
  intro p e s m as below meth c Q X H hP ls hl kr
  have X : WX p s m as c cX6_serves 3 RX6 dd t := X
  have hx := X.1.1
  have hb := X.1.2.1
  have hl : lv_has ls 3 [(0, .ref (ad b)), (1, .int (plan)), (2, .int (customer))] := hl
  have hle0 := hp0.le
  refine lv_aload_n hx hb dX6_serves_0 rfl (lv_at hl 0 rfl) ?_
  refine lv_iload_n hx hb dX6_serves_1 rfl (lv_at hl 1 rfl) ?_
  refine r_call (As := [.int (plan)]) (rest := []) (ci := 6) X hP (c_X6_noPlan (nn := nn) (mm := mm) (kk := kk) hp0 plan h0 h1 h3 hn hm hk) o_X6_noPlan rfl hp0.lt hp0.ob m622 ⟨rfl, rfl⟩ ⟨Nat.le_of_ble_eq_true rfl, Nat.le_of_ble_eq_true rfl⟩ rfl hl.1 rfl (Nat.le_of_ble_eq_true rfl) ⟨Nat.zero_le _, Nat.zero_le _⟩ dX6_serves_2 ?_
  refine q_eqB (tgt := 11) hx hb dX6_serves_5 (by decide) (fun c1 => ?_) (fun c1 => ?_)
  · refine lv_aload_n hx hb dX6_serves_11 rfl (lv_at hl 0 rfl) ?_
    refine lv_iload_n hx hb dX6_serves_12 rfl (lv_at hl 2 rfl) ?_
    refine r_call (As := [.int (customer)]) (rest := []) (ci := 6) X hP (c_X6_noCustomer (nn := nn) (mm := mm) (kk := kk) hp0 customer h0 h1 h3 hn hm hk) o_X6_noCustomer rfl hp0.lt hp0.ob m209 ⟨rfl, rfl⟩ ⟨Nat.le_of_ble_eq_true rfl, Nat.le_of_ble_eq_true rfl⟩ rfl hl.1 rfl (Nat.le_of_ble_eq_true rfl) ⟨Nat.zero_le _, Nat.zero_le _⟩ dX6_serves_13 ?_
    refine q_eqB (tgt := 23) hx hb dX6_serves_16 (by decide) (fun c2 => ?_) (fun c2 => ?_)
    · have hr3 := noCust_n c2 (by omega)
      have hr3b := hr3.2
      refine lv_aload_n hx hb dX6_serves_23 rfl (lv_at hl 0 rfl) ?_
      refine lv_iload_n hx hb dX6_serves_24 rfl (lv_at hl 1 rfl) ?_
      refine lv_iload_n hx hb dX6_serves_25 rfl (lv_at hl 2 rfl) ?_
      refine q_val (hr3.1 : customer = nI (tn customer)) ?_
      refine r_call (As := [.int (plan), .int (nI (tn customer))]) (rest := []) (ci := 6) X hP (c_X6_server (nn := nn) (mm := mm) (kk := kk) hp0 plan (tn customer) h0 h1 h3 hn hm hk (by omega)) o_X6_server rfl hp0.lt hp0.ob m438 ⟨rfl, rfl⟩ ⟨Nat.le_of_ble_eq_true rfl, Nat.le_of_ble_eq_true rfl⟩ rfl hl.1 rfl (Nat.le_of_ble_eq_true rfl) ⟨Nat.zero_le _, Nat.zero_le _⟩ dX6_serves_26 ?_
      exact kr 29 ls _ (Eq.symm (by rw [f_X6_serves, if_neg (nt c1), if_neg (nt c2)] <;> rfl)) dX6_serves_29
    · refine lv_iconst (v := (-1)) hx hb dX6_serves_19 (by decide) ?_
      refine lv_goto (tgt := 29) hx hb dX6_serves_20 (by decide) ?_
      exact kr 29 ls _ (Eq.symm (by rw [f_X6_serves, if_neg (nt c1), if_pos c2] <;> rfl)) dX6_serves_29
  · refine lv_bipush (v := (-2)) hx hb dX6_serves_8 (by decide) ?_
    exact kr 10 ls _ (Eq.symm (by rw [f_X6_serves, if_pos c1] <;> rfl)) dX6_serves_10
theorem o_X6_serves : okV yX6_serves cX6_serves 3 (some .int) 2 := ⟨m650, m651, m5, m652, by decide +kernel, by decide +kernel, by decide +kernel⟩
def rmX6_plansBy : Room := { frames := 4, cells := 0, slots := 0, locals := 87 }
def l_X6_plansBy_5 (x : MoC) (nn : Nat) (mm : Nat) (kk : Nat) (kc : Nat) (areTight : Bool) : Nat → Nat → Nat → Nat
  | 0, ix_1, a3_1 => a3_1
  | dx_1 + 1, ix_1, a3_1 => (if (f_X6_isFeasible x nn mm kk (nI ix_1)) = true then (if (f_X6_isRay x nn mm kk kc) = true then (if areTight = true then (if (f_X6_asked x nn mm kk kc (nI ix_1)) = (nI 1) then l_X6_plansBy_5 x nn mm kk kc areTight dx_1 (ix_1 + 1) (a3_1 + 1) else l_X6_plansBy_5 x nn mm kk kc areTight dx_1 (ix_1 + 1) a3_1) else (if (f_X6_asked x nn mm kk kc (nI ix_1)) = (nI 0) then l_X6_plansBy_5 x nn mm kk kc areTight dx_1 (ix_1 + 1) (a3_1 + 1) else l_X6_plansBy_5 x nn mm kk kc areTight dx_1 (ix_1 + 1) a3_1)) else (if areTight = true then (if ((f_X6_valueOf x nn mm kk kc (nI ix_1)) - (f_X6_routes x nn mm kk (nI ix_1))) = 0 then l_X6_plansBy_5 x nn mm kk kc areTight dx_1 (ix_1 + 1) (a3_1 + 1) else l_X6_plansBy_5 x nn mm kk kc areTight dx_1 (ix_1 + 1) a3_1) else (if 0 < ((f_X6_valueOf x nn mm kk kc (nI ix_1)) - (f_X6_routes x nn mm kk (nI ix_1))) then l_X6_plansBy_5 x nn mm kk kc areTight dx_1 (ix_1 + 1) (a3_1 + 1) else l_X6_plansBy_5 x nn mm kk kc areTight dx_1 (ix_1 + 1) a3_1))) else l_X6_plansBy_5 x nn mm kk kc areTight dx_1 (ix_1 + 1) a3_1)
def f_X6_plansBy (x : MoC) (nn : Nat) (mm : Nat) (kk : Nat) (kc : Nat) (areTight : Bool) : Int32 :=
  nI (l_X6_plansBy_5 x nn mm kk kc areTight (2 ^ nn) 0 0)
set_option maxHeartbeats 4000000 in
set_option maxRecDepth 100000 in
theorem c_X6_plansBy {l : Launch} {dd : va_G} {t : CL4} {N : Nat} {ad : Nat → Nat} {V : Nat → va_E} {b : Nat} {x : MoC} {nn : Nat} {mm : Nat} {kk : Nat} (hp0 : MoP N ad V t b x) (kc : Nat) (areTight : Bool) (h0 : oR x 0 = nI nn) (h1 : oR x 1 = nI mm) (h3 : oR x 3 = nI kk) (hn : nn ≤ 7) (hm : mm ≤ 8) (hk : kk ≤ 40) (h_cut : kc < kk) (hc : RaysOk x mm kk) : RM l dd t N ad V yX6_plansBy cX6_plansBy 7 (some .int) rmX6_plansBy [.ref (ad b), .int (nI kc), .int (b01 areTight)] (f_X6_plansBy x nn mm kk kc areTight) := by
  refine RM.of (by decide +kernel) ⟨rfl, rfl⟩ (Nat.le_of_ble_eq_true rfl) (narI _) ?_
  intro p e s m as below meth c Q X H hP ls hl kr
  have X : WX p s m as c cX6_plansBy 7 RX6 dd t := X
  have hx := X.1.1
  have hb := X.1.2.1
  have hl : lv_has ls 7 [(0, .ref (ad b)), (1, .int (nI kc)), (2, .int (b01 areTight))] := hl
  have hle0 := hp0.le
  have hpw : 2 ^ nn ≤ 128 := pow7 hn
  refine lv_iconst (v := nI 0) hx hb dX6_plansBy_0 (by decide) ?_
  refine lv_istore_n (lv' := [(3, .int (nI 0)), (0, .ref (ad b)), (1, .int (nI kc)), (2, .int (b01 areTight))]) hx hb dX6_plansBy_1 rfl hl (by decide) rfl (fun ls hl => ?_)
  refine lv_iconst (v := nI 0) hx hb dX6_plansBy_2 (by decide) ?_
  refine lv_istore (lv' := [(4, .int (nI 0)), (3, .int (nI 0)), (0, .ref (ad b)), (1, .int (nI kc)), (2, .int (b01 areTight))]) hx hb dX6_plansBy_3 hl (by decide) rfl (fun ls hl => ?_)
  have L1 : ∀ (dx_1 ix_1 : Nat) (a3_1 : Nat) (ls : Array Slot), (ix_1 + dx_1 = 2 ^ nn) → (l_X6_plansBy_5 x nn mm kk kc areTight dx_1 ix_1 a3_1 = l_X6_plansBy_5 x nn mm kk kc areTight (2 ^ nn) 0 0) → (lv_has ls 7 [(0, .ref (ad b)), (1, .int (nI kc)), (2, .int (b01 areTight)), (3, .int (nI a3_1)), (4, .int (nI ix_1))]) → W p l e rmX6_plansBy s m as below meth c H [] 0 0 Q (F0 m 5 ls []) := by
    intro dx_1
    induction dx_1 with
    | zero =>
      intro ix_1 a3_1 ls hid hvx_1 hl
      have hiN : 2 ^ nn = ix_1 := by omega
      subst hiN
      have hvx_1 : a3_1 = l_X6_plansBy_5 x nn mm kk kc areTight (2 ^ nn) 0 0 := hvx_1
      have hh0 : a3_1 = l_X6_plansBy_5 x nn mm kk kc areTight (2 ^ nn) 0 0 := hvx_1
      subst hh0
      refine lv_iload hx hb dX6_plansBy_5 (lv_at hl 4 rfl) ?_
      refine lv_iconst (v := nI 1) hx hb dX6_plansBy_7 (by decide) ?_
      refine lv_aload_n hx hb dX6_plansBy_8 rfl (lv_at hl 0 rfl) ?_
      refine g_Mo_row X hP hp0 m83 dX6_plansBy_9 ?_
      refine lv_iconst (v := nI 0) hx hb dX6_plansBy_12 (by decide) ?_
      refine l_Mo_row X hP hp0 (by decide) dX6_plansBy_13 ?_
      refine q_val (h0 : oR x 0 = nI nn) ?_
      refine q_ishl hx hb (by omega) dX6_plansBy_14 ?_
      refine q_ge (tgt := 139) hx hb (by omega) (by omega) dX6_plansBy_15 (by decide) (fun c2 => ?_) (fun h => absurd h (by omega))
      refine lv_iload_n hx hb dX6_plansBy_139 rfl (lv_at hl 3 rfl) ?_
      exact kr 140 ls _ (Eq.symm (by rw [f_X6_plansBy] <;> rfl)) dX6_plansBy_140
    | succ dx_1 ihx_1 =>
      intro ix_1 a3_1 ls hid hvx_1 hl
      refine lv_iload hx hb dX6_plansBy_5 (lv_at hl 4 rfl) ?_
      refine lv_iconst (v := nI 1) hx hb dX6_plansBy_7 (by decide) ?_
      refine lv_aload_n hx hb dX6_plansBy_8 rfl (lv_at hl 0 rfl) ?_
      refine g_Mo_row X hP hp0 m83 dX6_plansBy_9 ?_
      refine lv_iconst (v := nI 0) hx hb dX6_plansBy_12 (by decide) ?_
      refine l_Mo_row X hP hp0 (by decide) dX6_plansBy_13 ?_
      refine q_val (h0 : oR x 0 = nI nn) ?_
      refine q_ishl hx hb (by omega) dX6_plansBy_14 ?_
      refine q_ge (tgt := 139) hx hb (by omega) (by omega) dX6_plansBy_15 (by decide) (fun h => absurd h (by omega)) (fun c3 => ?_)
      refine lv_aload_n hx hb dX6_plansBy_18 rfl (lv_at hl 0 rfl) ?_
      refine lv_iload hx hb dX6_plansBy_19 (lv_at hl 4 rfl) ?_
      refine r_call (As := [.int (nI ix_1)]) (rest := []) (ci := 6) X hP (c_X6_isFeasible (nn := nn) (mm := mm) (kk := kk) hp0 (nI ix_1) h0 h1 h3 hn hm hk) o_X6_isFeasible rfl hp0.lt hp0.ob m693 ⟨rfl, rfl⟩ ⟨Nat.le_of_ble_eq_true rfl, Nat.le_of_ble_eq_true rfl⟩ rfl hl.1 rfl (Nat.le_of_ble_eq_true rfl) ⟨Nat.zero_le _, Nat.zero_le _⟩ dX6_plansBy_21 ?_
      refine q_eqB (tgt := 133) hx hb dX6_plansBy_24 (by decide) (fun c4 => ?_) (fun c4 => ?_)
      · refine lv_iinc (v := nI (ix_1 + 1)) (lv' := [(4, .int (nI (ix_1 + 1))), (0, .ref (ad b)), (1, .int (nI kc)), (2, .int (b01 areTight)), (3, .int (nI a3_1))]) hx hb dX6_plansBy_133 hl (k := 4) rfl (nI_inc _) (by decide) rfl (fun ls hl => ?_)
        refine lv_goto (tgt := 5) hx hb dX6_plansBy_136 (by decide) ?_
        exact ihx_1 (ix_1 + 1) a3_1 ls (by omega) (Eq.trans (Eq.symm (by rw [l_X6_plansBy_5, if_neg (nt c4)] <;> rfl)) hvx_1) (lv_sub hl [1, 2, 3, 4, 0] rfl)
      · refine lv_aload_n hx hb dX6_plansBy_27 rfl (lv_at hl 0 rfl) ?_
        refine lv_iload_n hx hb dX6_plansBy_28 rfl (lv_at hl 1 rfl) ?_
        refine r_call (As := [.int (nI kc)]) (rest := []) (ci := 6) X hP (c_X6_isRay (nn := nn) (mm := mm) (kk := kk) hp0 kc h0 h1 h3 hn hm hk (by omega)) o_X6_isRay rfl hp0.lt hp0.ob m402 ⟨rfl, rfl⟩ ⟨Nat.le_of_ble_eq_true rfl, Nat.le_of_ble_eq_true rfl⟩ rfl hl.1 rfl (Nat.le_of_ble_eq_true rfl) ⟨Nat.zero_le _, Nat.zero_le _⟩ dX6_plansBy_29 ?_
        refine q_eqB (tgt := 45) hx hb dX6_plansBy_32 (by decide) (fun c5 => ?_) (fun c5 => ?_)
        · refine lv_aload_n hx hb dX6_plansBy_45 rfl (lv_at hl 0 rfl) ?_
          refine lv_iload_n hx hb dX6_plansBy_46 rfl (lv_at hl 1 rfl) ?_
          refine lv_iload hx hb dX6_plansBy_47 (lv_at hl 4 rfl) ?_
          refine r_call (As := [.int (nI kc), .int (nI ix_1)]) (rest := []) (ci := 6) X hP (c_X6_valueOf (nn := nn) (mm := mm) (kk := kk) hp0 kc (nI ix_1) h0 h1 h3 hn hm hk (by omega)) o_X6_valueOf rfl hp0.lt hp0.ob m418 ⟨rfl, rfl⟩ ⟨Nat.le_of_ble_eq_true rfl, Nat.le_of_ble_eq_true rfl⟩ rfl hl.1 rfl (Nat.le_of_ble_eq_true rfl) ⟨Nat.zero_le _, Nat.zero_le _⟩ dX6_plansBy_49 ?_
          refine lv_aload_n hx hb dX6_plansBy_52 rfl (lv_at hl 0 rfl) ?_
          refine lv_iload hx hb dX6_plansBy_53 (lv_at hl 4 rfl) ?_
          refine r_call (As := [.int (nI ix_1)]) (rest := [.int (f_X6_valueOf x nn mm kk kc (nI ix_1))]) (ci := 6) X hP (c_X6_routes (nn := nn) (mm := mm) (kk := kk) hp0 (nI ix_1) h0 h1 h3 hn hm hk (missed_server hn hm (feas_missed c4))) o_X6_routes rfl hp0.lt hp0.ob m434 ⟨rfl, rfl⟩ ⟨Nat.le_of_ble_eq_true rfl, Nat.le_of_ble_eq_true rfl⟩ rfl hl.1 rfl (Nat.le_of_ble_eq_true rfl) ⟨Nat.zero_le _, Nat.zero_le _⟩ dX6_plansBy_55 ?_
          refine lv_isub hx hb dX6_plansBy_58 ?_
          refine lv_istore (lv' := [(5, .int ((f_X6_valueOf x nn mm kk kc (nI ix_1)) - (f_X6_routes x nn mm kk (nI ix_1)))), (0, .ref (ad b)), (1, .int (nI kc)), (2, .int (b01 areTight)), (3, .int (nI a3_1)), (4, .int (nI ix_1))]) hx hb dX6_plansBy_59 hl (by decide) rfl (fun ls hl => ?_)
          refine lv_aload_n hx hb dX6_plansBy_61 rfl (lv_at hl 1 rfl) ?_
          refine lv_iload_n hx hb dX6_plansBy_62 rfl (lv_at hl 2 rfl) ?_
          refine r_call (As := [.int (nI kc)]) (rest := []) (ci := 6) X hP (c_X6_isRay (nn := nn) (mm := mm) (kk := kk) hp0 kc h0 h1 h3 hn hm hk (by omega)) o_X6_isRay rfl hp0.lt hp0.ob m402 ⟨rfl, rfl⟩ ⟨Nat.le_of_ble_eq_true rfl, Nat.le_of_ble_eq_true rfl⟩ rfl hl.1 rfl (Nat.le_of_ble_eq_true rfl) ⟨Nat.zero_le _, Nat.zero_le _⟩ dX6_plansBy_63 ?_
          refine q_eqB (tgt := 91) hx hb dX6_plansBy_66 (by decide) (fun c6 => ?_) (fun h => absurd (h.symm.trans c5) (by decide))
          refine lv_iload_n hx hb dX6_plansBy_91 rfl (lv_at hl 3 rfl) ?_
          refine q_eqB (tgt := 108) hx hb dX6_plansBy_92 (by decide) (fun c7 => ?_) (fun c7 => ?_)
          · refine lv_iload hx hb dX6_plansBy_108 (lv_at hl 0 rfl) ?_
            refine u_le (tgt := 117) hx hb dX6_plansBy_110 (by decide) (fun c8 => ?_) (fun c8 => ?_)
            · refine lv_iconst (v := nI 0) hx hb dX6_plansBy_117 (by decide) ?_
              refine lv_istore (lv' := [(6, .int (nI 0)), (5, .int ((f_X6_valueOf x nn mm kk kc (nI ix_1)) - (f_X6_routes x nn mm kk (nI ix_1)))), (0, .ref (ad b)), (1, .int (nI kc)), (2, .int (b01 areTight)), (3, .int (nI a3_1)), (4, .int (nI ix_1))]) hx hb dX6_plansBy_118 hl (by decide) rfl (fun ls hl => ?_)
              refine lv_iload_n hx hb dX6_plansBy_120 rfl (lv_at hl 5 rfl) ?_
              refine lv_iload hx hb dX6_plansBy_121 (lv_at hl 0 rfl) ?_
              refine z_eq (tgt := 130) hx hb (by omega) dX6_plansBy_123 (by decide) (fun c9 => ?_) (fun h => absurd h (by omega))
              refine lv_iconst (v := nI 0) hx hb dX6_plansBy_130 (by decide) ?_
              refine q_iadd hx hb dX6_plansBy_131 ?_
              refine W.eq (g2 := F0 m 132 ls [.int (nI a3_1)]) rfl ?_
              refine lv_istore_n (lv' := [(3, .int (nI a3_1)), (6, .int (nI 0)), (5, .int ((f_X6_valueOf x nn mm kk kc (nI ix_1)) - (f_X6_routes x nn mm kk (nI ix_1)))), (0, .ref (ad b)), (1, .int (nI kc)), (2, .int (b01 areTight)), (4, .int (nI ix_1))]) hx hb dX6_plansBy_132 rfl hl (by decide) rfl (fun ls hl => ?_)
              refine lv_iinc (v := nI (ix_1 + 1)) (lv' := [(4, .int (nI (ix_1 + 1))), (3, .int (nI a3_1)), (6, .int (nI 0)), (5, .int ((f_X6_valueOf x nn mm kk kc (nI ix_1)) - (f_X6_routes x nn mm kk (nI ix_1)))), (0, .ref (ad b)), (1, .int (nI kc)), (2, .int (b01 areTight))]) hx hb dX6_plansBy_133 hl (k := 6) rfl (nI_inc _) (by decide) rfl (fun ls hl => ?_)
              refine lv_goto (tgt := 5) hx hb dX6_plansBy_136 (by decide) ?_
              exact ihx_1 (ix_1 + 1) a3_1 ls (by omega) (Eq.trans (Eq.symm (by rw [l_X6_plansBy_5, if_pos c4, if_neg (nt c5), if_neg (nt c7), if_neg c8] <;> rfl)) hvx_1) (lv_sub hl [4, 5, 6, 1, 0] rfl)
            · refine lv_iconst (v := nI 1) hx hb dX6_plansBy_113 (by decide) ?_
              refine lv_goto (tgt := 118) hx hb dX6_plansBy_114 (by decide) ?_
              refine lv_istore (lv' := [(6, .int (nI 1)), (5, .int ((f_X6_valueOf x nn mm kk kc (nI ix_1)) - (f_X6_routes x nn mm kk (nI ix_1)))), (0, .ref (ad b)), (1, .int (nI kc)), (2, .int (b01 areTight)), (3, .int (nI a3_1)), (4, .int (nI ix_1))]) hx hb dX6_plansBy_118 hl (by decide) rfl (fun ls hl => ?_)
              refine lv_iload_n hx hb dX6_plansBy_120 rfl (lv_at hl 5 rfl) ?_
              refine lv_iload hx hb dX6_plansBy_121 (lv_at hl 0 rfl) ?_
              refine z_eq (tgt := 130) hx hb (by omega) dX6_plansBy_123 (by decide) (fun h => absurd h (by omega)) (fun c10 => ?_)
              refine lv_iconst (v := nI 1) hx hb dX6_plansBy_126 (by decide) ?_
              refine lv_goto (tgt := 131) hx hb dX6_plansBy_127 (by decide) ?_
              refine q_iadd hx hb dX6_plansBy_131 ?_
              refine lv_istore_n (lv' := [(3, .int (nI (a3_1 + 1))), (6, .int (nI 1)), (5, .int ((f_X6_valueOf x nn mm kk kc (nI ix_1)) - (f_X6_routes x nn mm kk (nI ix_1)))), (0, .ref (ad b)), (1, .int (nI kc)), (2, .int (b01 areTight)), (4, .int (nI ix_1))]) hx hb dX6_plansBy_132 rfl hl (by decide) rfl (fun ls hl => ?_)
              refine lv_iinc (v := nI (ix_1 + 1)) (lv' := [(4, .int (nI (ix_1 + 1))), (3, .int (nI (a3_1 + 1))), (6, .int (nI 1)), (5, .int ((f_X6_valueOf x nn mm kk kc (nI ix_1)) - (f_X6_routes x nn mm kk (nI ix_1)))), (0, .ref (ad b)), (1, .int (nI kc)), (2, .int (b01 areTight))]) hx hb dX6_plansBy_133 hl (k := 6) rfl (nI_inc _) (by decide) rfl (fun ls hl => ?_)
              refine lv_goto (tgt := 5) hx hb dX6_plansBy_136 (by decide) ?_
              exact ihx_1 (ix_1 + 1) (a3_1 + 1) ls (by omega) (Eq.trans (Eq.symm (by rw [l_X6_plansBy_5, if_pos c4, if_neg (nt c5), if_neg (nt c7), if_pos c8] <;> rfl)) hvx_1) (lv_sub hl [4, 5, 6, 1, 0] rfl)
          · refine lv_iload hx hb dX6_plansBy_95 (lv_at hl 0 rfl) ?_
            refine lv_if_ne (tgt := 104) hx hb dX6_plansBy_97 (by decide) (fun c11 => ?_) (fun c11 => ?_)
            · refine lv_iconst (v := nI 0) hx hb dX6_plansBy_104 (by decide) ?_
              refine lv_goto (tgt := 118) hx hb dX6_plansBy_105 (by decide) ?_
              refine lv_istore (lv' := [(6, .int (nI 0)), (5, .int ((f_X6_valueOf x nn mm kk kc (nI ix_1)) - (f_X6_routes x nn mm kk (nI ix_1)))), (0, .ref (ad b)), (1, .int (nI kc)), (2, .int (b01 areTight)), (3, .int (nI a3_1)), (4, .int (nI ix_1))]) hx hb dX6_plansBy_118 hl (by decide) rfl (fun ls hl => ?_)
              refine lv_iload_n hx hb dX6_plansBy_120 rfl (lv_at hl 5 rfl) ?_
              refine lv_iload hx hb dX6_plansBy_121 (lv_at hl 0 rfl) ?_
              refine z_eq (tgt := 130) hx hb (by omega) dX6_plansBy_123 (by decide) (fun c12 => ?_) (fun h => absurd h (by omega))
              refine lv_iconst (v := nI 0) hx hb dX6_plansBy_130 (by decide) ?_
              refine q_iadd hx hb dX6_plansBy_131 ?_
              refine W.eq (g2 := F0 m 132 ls [.int (nI a3_1)]) rfl ?_
              refine lv_istore_n (lv' := [(3, .int (nI a3_1)), (6, .int (nI 0)), (5, .int ((f_X6_valueOf x nn mm kk kc (nI ix_1)) - (f_X6_routes x nn mm kk (nI ix_1)))), (0, .ref (ad b)), (1, .int (nI kc)), (2, .int (b01 areTight)), (4, .int (nI ix_1))]) hx hb dX6_plansBy_132 rfl hl (by decide) rfl (fun ls hl => ?_)
              refine lv_iinc (v := nI (ix_1 + 1)) (lv' := [(4, .int (nI (ix_1 + 1))), (3, .int (nI a3_1)), (6, .int (nI 0)), (5, .int ((f_X6_valueOf x nn mm kk kc (nI ix_1)) - (f_X6_routes x nn mm kk (nI ix_1)))), (0, .ref (ad b)), (1, .int (nI kc)), (2, .int (b01 areTight))]) hx hb dX6_plansBy_133 hl (k := 6) rfl (nI_inc _) (by decide) rfl (fun ls hl => ?_)
              refine lv_goto (tgt := 5) hx hb dX6_plansBy_136 (by decide) ?_
              exact ihx_1 (ix_1 + 1) a3_1 ls (by omega) (Eq.trans (Eq.symm (by rw [l_X6_plansBy_5, if_pos c4, if_neg (nt c5), if_pos c7, if_neg c11] <;> rfl)) hvx_1) (lv_sub hl [4, 5, 6, 1, 0] rfl)
            · refine lv_iconst (v := nI 1) hx hb dX6_plansBy_100 (by decide) ?_
              refine lv_goto (tgt := 118) hx hb dX6_plansBy_101 (by decide) ?_
              refine lv_istore (lv' := [(6, .int (nI 1)), (5, .int ((f_X6_valueOf x nn mm kk kc (nI ix_1)) - (f_X6_routes x nn mm kk (nI ix_1)))), (0, .ref (ad b)), (1, .int (nI kc)), (2, .int (b01 areTight)), (3, .int (nI a3_1)), (4, .int (nI ix_1))]) hx hb dX6_plansBy_118 hl (by decide) rfl (fun ls hl => ?_)
              refine lv_iload_n hx hb dX6_plansBy_120 rfl (lv_at hl 5 rfl) ?_
              refine lv_iload hx hb dX6_plansBy_121 (lv_at hl 0 rfl) ?_
              refine z_eq (tgt := 130) hx hb (by omega) dX6_plansBy_123 (by decide) (fun h => absurd h (by omega)) (fun c13 => ?_)
              refine lv_iconst (v := nI 1) hx hb dX6_plansBy_126 (by decide) ?_
              refine lv_goto (tgt := 131) hx hb dX6_plansBy_127 (by decide) ?_
              refine q_iadd hx hb dX6_plansBy_131 ?_
              refine lv_istore_n (lv' := [(3, .int (nI (a3_1 + 1))), (6, .int (nI 1)), (5, .int ((f_X6_valueOf x nn mm kk kc (nI ix_1)) - (f_X6_routes x nn mm kk (nI ix_1)))), (0, .ref (ad b)), (1, .int (nI kc)), (2, .int (b01 areTight)), (4, .int (nI ix_1))]) hx hb dX6_plansBy_132 rfl hl (by decide) rfl (fun ls hl => ?_)
              refine lv_iinc (v := nI (ix_1 + 1)) (lv' := [(4, .int (nI (ix_1 + 1))), (3, .int (nI (a3_1 + 1))), (6, .int (nI 1)), (5, .int ((f_X6_valueOf x nn mm kk kc (nI ix_1)) - (f_X6_routes x nn mm kk (nI ix_1)))), (0, .ref (ad b)), (1, .int (nI kc)), (2, .int (b01 areTight))]) hx hb dX6_plansBy_133 hl (k := 6) rfl (nI_inc _) (by decide) rfl (fun ls hl => ?_)
              refine lv_goto (tgt := 5) hx hb dX6_plansBy_136 (by decide) ?_
              exact ihx_1 (ix_1 + 1) (a3_1 + 1) ls (by omega) (Eq.trans (Eq.symm (by rw [l_X6_plansBy_5, if_pos c4, if_neg (nt c5), if_pos c7, if_pos c11] <;> rfl)) hvx_1) (lv_sub hl [4, 5, 6, 1, 0] rfl)
        · refine lv_aload_n hx hb dX6_plansBy_35 rfl (lv_at hl 0 rfl) ?_
          refine lv_iload_n hx hb dX6_plansBy_36 rfl (lv_at hl 1 rfl) ?_
          refine lv_iload hx hb dX6_plansBy_37 (lv_at hl 4 rfl) ?_
          refine r_call (As := [.int (nI kc), .int (nI ix_1)]) (rest := []) (ci := 6) X hP (c_X6_asked (nn := nn) (mm := mm) (kk := kk) hp0 kc (nI ix_1) h0 h1 h3 hn hm hk (by omega) (hc _ (by omega) (isRay_t c5))) o_X6_asked rfl hp0.lt hp0.ob m406 ⟨rfl, rfl⟩ ⟨Nat.le_of_ble_eq_true rfl, Nat.le_of_ble_eq_true rfl⟩ rfl hl.1 rfl (Nat.le_of_ble_eq_true rfl) ⟨Nat.zero_le _, Nat.zero_le _⟩ dX6_plansBy_39 ?_
          refine lv_goto (tgt := 59) hx hb dX6_plansBy_42 (by decide) ?_
          refine lv_istore (lv' := [(5, .int (f_X6_asked x nn mm kk kc (nI ix_1))), (0, .ref (ad b)), (1, .int (nI kc)), (2, .int (b01 areTight)), (3, .int (nI a3_1)), (4, .int (nI ix_1))]) hx hb dX6_plansBy_59 hl (by decide) rfl (fun ls hl => ?_)
          refine lv_aload_n hx hb dX6_plansBy_61 rfl (lv_at hl 1 rfl) ?_
          refine lv_iload_n hx hb dX6_plansBy_62 rfl (lv_at hl 2 rfl) ?_
          refine r_call (As := [.int (nI kc)]) (rest := []) (ci := 6) X hP (c_X6_isRay (nn := nn) (mm := mm) (kk := kk) hp0 kc h0 h1 h3 hn hm hk (by omega)) o_X6_isRay rfl hp0.lt hp0.ob m402 ⟨rfl, rfl⟩ ⟨Nat.le_of_ble_eq_true rfl, Nat.le_of_ble_eq_true rfl⟩ rfl hl.1 rfl (Nat.le_of_ble_eq_true rfl) ⟨Nat.zero_le _, Nat.zero_le _⟩ dX6_plansBy_63 ?_
          refine q_eqB (tgt := 91) hx hb dX6_plansBy_66 (by decide) (fun h => absurd (h.symm.trans c5) (by decide)) (fun c14 => ?_)
          refine lv_iload hx hb dX6_plansBy_69 (lv_at hl 0 rfl) ?_
          refine lv_iload_n hx hb dX6_plansBy_71 rfl (lv_at hl 3 rfl) ?_
          refine q_eqB (tgt := 79) hx hb dX6_plansBy_72 (by decide) (fun c15 => ?_) (fun c15 => ?_)
          · refine lv_iconst (v := nI 0) hx hb dX6_plansBy_79 (by decide) ?_
            refine lv_icmp_ne (tgt := 87) hx hb dX6_plansBy_80 (by decide) (fun c16 => ?_) (fun c16 => ?_)
            · refine lv_iconst (v := nI 0) hx hb dX6_plansBy_87 (by decide) ?_
              refine lv_goto (tgt := 118) hx hb dX6_plansBy_88 (by decide) ?_
              refine lv_istore (lv' := [(6, .int (nI 0)), (5, .int (f_X6_asked x nn mm kk kc (nI ix_1))), (0, .ref (ad b)), (1, .int (nI kc)), (2, .int (b01 areTight)), (3, .int (nI a3_1)), (4, .int (nI ix_1))]) hx hb dX6_plansBy_118 hl (by decide) rfl (fun ls hl => ?_)
              refine lv_iload_n hx hb dX6_plansBy_120 rfl (lv_at hl 5 rfl) ?_
              refine lv_iload hx hb dX6_plansBy_121 (lv_at hl 0 rfl) ?_
              refine z_eq (tgt := 130) hx hb (by omega) dX6_plansBy_123 (by decide) (fun c17 => ?_) (fun h => absurd h (by omega))
              refine lv_iconst (v := nI 0) hx hb dX6_plansBy_130 (by decide) ?_
              refine q_iadd hx hb dX6_plansBy_131 ?_
              refine W.eq (g2 := F0 m 132 ls [.int (nI a3_1)]) rfl ?_
              refine lv_istore_n (lv' := [(3, .int (nI a3_1)), (6, .int (nI 0)), (5, .int (f_X6_asked x nn mm kk kc (nI ix_1))), (0, .ref (ad b)), (1, .int (nI kc)), (2, .int (b01 areTight)), (4, .int (nI ix_1))]) hx hb dX6_plansBy_132 rfl hl (by decide) rfl (fun ls hl => ?_)
              refine lv_iinc (v := nI (ix_1 + 1)) (lv' := [(4, .int (nI (ix_1 + 1))), (3, .int (nI a3_1)), (6, .int (nI 0)), (5, .int (f_X6_asked x nn mm kk kc (nI ix_1))), (0, .ref (ad b)), (1, .int (nI kc)), (2, .int (b01 areTight))]) hx hb dX6_plansBy_133 hl (k := 6) rfl (nI_inc _) (by decide) rfl (fun ls hl => ?_)
              refine lv_goto (tgt := 5) hx hb dX6_plansBy_136 (by decide) ?_
              exact ihx_1 (ix_1 + 1) a3_1 ls (by omega) (Eq.trans (Eq.symm (by rw [l_X6_plansBy_5, if_pos c4, if_pos c5, if_neg (nt c15), if_neg c16] <;> rfl)) hvx_1) (lv_sub hl [4, 5, 6, 1, 0] rfl)
            · refine lv_iconst (v := nI 1) hx hb dX6_plansBy_83 (by decide) ?_
              refine lv_goto (tgt := 118) hx hb dX6_plansBy_84 (by decide) ?_
              refine lv_istore (lv' := [(6, .int (nI 1)), (5, .int (f_X6_asked x nn mm kk kc (nI ix_1))), (0, .ref (ad b)), (1, .int (nI kc)), (2, .int (b01 areTight)), (3, .int (nI a3_1)), (4, .int (nI ix_1))]) hx hb dX6_plansBy_118 hl (by decide) rfl (fun ls hl => ?_)
              refine lv_iload_n hx hb dX6_plansBy_120 rfl (lv_at hl 5 rfl) ?_
              refine lv_iload hx hb dX6_plansBy_121 (lv_at hl 0 rfl) ?_
              refine z_eq (tgt := 130) hx hb (by omega) dX6_plansBy_123 (by decide) (fun h => absurd h (by omega)) (fun c18 => ?_)
              refine lv_iconst (v := nI 1) hx hb dX6_plansBy_126 (by decide) ?_
              refine lv_goto (tgt := 131) hx hb dX6_plansBy_127 (by decide) ?_
              refine q_iadd hx hb dX6_plansBy_131 ?_
              refine lv_istore_n (lv' := [(3, .int (nI (a3_1 + 1))), (6, .int (nI 1)), (5, .int (f_X6_asked x nn mm kk kc (nI ix_1))), (0, .ref (ad b)), (1, .int (nI kc)), (2, .int (b01 areTight)), (4, .int (nI ix_1))]) hx hb dX6_plansBy_132 rfl hl (by decide) rfl (fun ls hl => ?_)
              refine lv_iinc (v := nI (ix_1 + 1)) (lv' := [(4, .int (nI (ix_1 + 1))), (3, .int (nI (a3_1 + 1))), (6, .int (nI 1)), (5, .int (f_X6_asked x nn mm kk kc (nI ix_1))), (0, .ref (ad b)), (1, .int (nI kc)), (2, .int (b01 areTight))]) hx hb dX6_plansBy_133 hl (k := 6) rfl (nI_inc _) (by decide) rfl (fun ls hl => ?_)
              refine lv_goto (tgt := 5) hx hb dX6_plansBy_136 (by decide) ?_
              exact ihx_1 (ix_1 + 1) (a3_1 + 1) ls (by omega) (Eq.trans (Eq.symm (by rw [l_X6_plansBy_5, if_pos c4, if_pos c5, if_neg (nt c15), if_pos c16] <;> rfl)) hvx_1) (lv_sub hl [4, 5, 6, 1, 0] rfl)
          · refine lv_iconst (v := nI 1) hx hb dX6_plansBy_75 (by decide) ?_
            refine lv_goto (tgt := 80) hx hb dX6_plansBy_76 (by decide) ?_
            refine lv_icmp_ne (tgt := 87) hx hb dX6_plansBy_80 (by decide) (fun c19 => ?_) (fun c19 => ?_)
            · refine lv_iconst (v := nI 0) hx hb dX6_plansBy_87 (by decide) ?_
              refine lv_goto (tgt := 118) hx hb dX6_plansBy_88 (by decide) ?_
              refine lv_istore (lv' := [(6, .int (nI 0)), (5, .int (f_X6_asked x nn mm kk kc (nI ix_1))), (0, .ref (ad b)), (1, .int (nI kc)), (2, .int (b01 areTight)), (3, .int (nI a3_1)), (4, .int (nI ix_1))]) hx hb dX6_plansBy_118 hl (by decide) rfl (fun ls hl => ?_)
              refine lv_iload_n hx hb dX6_plansBy_120 rfl (lv_at hl 5 rfl) ?_
              refine lv_iload hx hb dX6_plansBy_121 (lv_at hl 0 rfl) ?_
              refine z_eq (tgt := 130) hx hb (by omega) dX6_plansBy_123 (by decide) (fun c20 => ?_) (fun h => absurd h (by omega))
              refine lv_iconst (v := nI 0) hx hb dX6_plansBy_130 (by decide) ?_
              refine q_iadd hx hb dX6_plansBy_131 ?_
              refine W.eq (g2 := F0 m 132 ls [.int (nI a3_1)]) rfl ?_
              refine lv_istore_n (lv' := [(3, .int (nI a3_1)), (6, .int (nI 0)), (5, .int (f_X6_asked x nn mm kk kc (nI ix_1))), (0, .ref (ad b)), (1, .int (nI kc)), (2, .int (b01 areTight)), (4, .int (nI ix_1))]) hx hb dX6_plansBy_132 rfl hl (by decide) rfl (fun ls hl => ?_)
              refine lv_iinc (v := nI (ix_1 + 1)) (lv' := [(4, .int (nI (ix_1 + 1))), (3, .int (nI a3_1)), (6, .int (nI 0)), (5, .int (f_X6_asked x nn mm kk kc (nI ix_1))), (0, .ref (ad b)), (1, .int (nI kc)), (2, .int (b01 areTight))]) hx hb dX6_plansBy_133 hl (k := 6) rfl (nI_inc _) (by decide) rfl (fun ls hl => ?_)
              refine lv_goto (tgt := 5) hx hb dX6_plansBy_136 (by decide) ?_
              exact ihx_1 (ix_1 + 1) a3_1 ls (by omega) (Eq.trans (Eq.symm (by rw [l_X6_plansBy_5, if_pos c4, if_pos c5, if_pos c15, if_neg c19] <;> rfl)) hvx_1) (lv_sub hl [4, 5, 6, 1, 0] rfl)
            · refine lv_iconst (v := nI 1) hx hb dX6_plansBy_83 (by decide) ?_
              refine lv_goto (tgt := 118) hx hb dX6_plansBy_84 (by decide) ?_
              refine lv_istore (lv' := [(6, .int (nI 1)), (5, .int (f_X6_asked x nn mm kk kc (nI ix_1))), (0, .ref (ad b)), (1, .int (nI kc)), (2, .int (b01 areTight)), (3, .int (nI a3_1)), (4, .int (nI ix_1))]) hx hb dX6_plansBy_118 hl (by decide) rfl (fun ls hl => ?_)
              refine lv_iload_n hx hb dX6_plansBy_120 rfl (lv_at hl 5 rfl) ?_
              refine lv_iload hx hb dX6_plansBy_121 (lv_at hl 0 rfl) ?_
              refine z_eq (tgt := 130) hx hb (by omega) dX6_plansBy_123 (by decide) (fun h => absurd h (by omega)) (fun c21 => ?_)
              refine lv_iconst (v := nI 1) hx hb dX6_plansBy_126 (by decide) ?_
              refine lv_goto (tgt := 131) hx hb dX6_plansBy_127 (by decide) ?_
              refine q_iadd hx hb dX6_plansBy_131 ?_
              refine lv_istore_n (lv' := [(3, .int (nI (a3_1 + 1))), (6, .int (nI 1)), (5, .int (f_X6_asked x nn mm kk kc (nI ix_1))), (0, .ref (ad b)), (1, .int (nI kc)), (2, .int (b01 areTight)), (4, .int (nI ix_1))]) hx hb dX6_plansBy_132 rfl hl (by decide) rfl (fun ls hl => ?_)
              refine lv_iinc (v := nI (ix_1 + 1)) (lv' := [(4, .int (nI (ix_1 + 1))), (3, .int (nI (a3_1 + 1))), (6, .int (nI 1)), (5, .int (f_X6_asked x nn mm kk kc (nI ix_1))), (0, .ref (ad b)), (1, .int (nI kc)), (2, .int (b01 areTight))]) hx hb dX6_plansBy_133 hl (k := 6) rfl (nI_inc _) (by decide) rfl (fun ls hl => ?_)
              refine lv_goto (tgt := 5) hx hb dX6_plansBy_136 (by decide) ?_
              exact ihx_1 (ix_1 + 1) (a3_1 + 1) ls (by omega) (Eq.trans (Eq.symm (by rw [l_X6_plansBy_5, if_pos c4, if_pos c5, if_pos c15, if_pos c19] <;> rfl)) hvx_1) (lv_sub hl [4, 5, 6, 1, 0] rfl)
  exact L1 (2 ^ nn) 0 0 ls (by omega) rfl (lv_sub hl [2, 3, 4, 1, 0] rfl)
theorem o_X6_plansBy : okV yX6_plansBy cX6_plansBy 7 (some .int) 2 := ⟨m690, m691, m5, m692, by decide +kernel, by decide +kernel, by decide +kernel⟩
def rmX6_cut : Room := { frames := 5, cells := 0, slots := 0, locals := 113 }
def f_X6_cut (x : MoC) (nn : Nat) (mm : Nat) (kk : Nat) (cut : Int32) (what : Int32) : Int32 :=
  (if (f_X6_noCut x nn mm kk cut) = true then (-1) else (if what = 0 then (if (f_X6_isRay x nn mm kk (tn cut)) = true then nI 0 else nI 1) else (if what = (nI 1) then (if (f_X6_isRay x nn mm kk (tn cut)) = true then oR x (84 + (9 * (tn cut))) else (-5)) else (if what = (nI 2) then (if (f_X6_isRay x nn mm kk (tn cut)) = true then nI 1 else f_X6_valueOf x nn mm kk (tn cut) (nI 0)) else (if what = (nI 3) then f_X6_plansBy x nn mm kk (tn cut) false else (if what = (nI 4) then f_X6_plansBy x nn mm kk (tn cut) true else (-2)))))))
set_option maxHeartbeats 4000000 in
set_option maxRecDepth 100000 in
theorem c_X6_cut {l : Launch} {dd : va_G} {t : CL4} {N : Nat} {ad : Nat → Nat} {V : Nat → va_E} {b : Nat} {x : MoC} {nn : Nat} {mm : Nat} {kk : Nat} (hp0 : MoP N ad V t b x) (cut : Int32) (what : Int32) (h0 : oR x 0 = nI nn) (h1 : oR x 1 = nI mm) (h3 : oR x 3 = nI kk) (hn : nn ≤ 7) (hm : mm ≤ 8) (hk : kk ≤ 40) (hc : RaysOk x mm kk) : RM l dd t N ad V yX6_cut cX6_cut 3 (some .int) rmX6_cut [.ref (ad b), .int (cut), .int (what)] (f_X6_cut x nn mm kk cut what) := by
  refine RM.of (by decide +kernel) ⟨rfl, rfl⟩ (Nat.le_of_ble_eq_true rfl) (narI _) ?_
  intro p e s m as below meth c Q X H hP ls hl kr
  have X : WX p s m as c cX6_cut 3 RX6 dd t := X
  have hx := X.1.1
  have hb := X.1.2.1
  have hl : lv_has ls 3 [(0, .ref (ad b)), (1, .int (cut)), (2, .int (what))] := hl
  have hle0 := hp0.le
  refine lv_aload_n hx hb dX6_cut_0 rfl (lv_at hl 0 rfl) ?_
  refine lv_iload_n hx hb dX6_cut_1 rfl (lv_at hl 1 rfl) ?_
  refine r_call (As := [.int (cut)]) (rest := []) (ci := 6) X hP (c_X6_noCut (nn := nn) (mm := mm) (kk := kk) hp0 cut h0 h1 h3 hn hm hk) o_X6_noCut rfl hp0.lt hp0.ob m511 ⟨rfl, rfl⟩ ⟨Nat.le_of_ble_eq_true rfl, Nat.le_of_ble_eq_true rfl⟩ rfl hl.1 rfl (Nat.le_of_ble_eq_true rfl) ⟨Nat.zero_le _, Nat.zero_le _⟩ dX6_cut_2 ?_
  refine q_eqB (tgt := 10) hx hb dX6_cut_5 (by decide) (fun c1 => ?_) (fun c1 => ?_)
  · have hr2 := noCut_n c1 (by omega)
    have hr2b := hr2.2
    refine lv_iload_n hx hb dX6_cut_10 rfl (lv_at hl 2 rfl) ?_
    by_cases c3 : what = 0
    · refine lv_tableIn (tgt := 44) hx hb dX6_cut_11 (by rw [c3]; decide) (by rw [c3]; decide) (by rw [c3]; rfl) (by decide) ?_
      refine lv_aload_n hx hb dX6_cut_44 rfl (lv_at hl 0 rfl) ?_
      refine lv_iload_n hx hb dX6_cut_45 rfl (lv_at hl 1 rfl) ?_
      refine q_val (hr2.1 : cut = nI (tn cut)) ?_
      refine r_call (As := [.int (nI (tn cut))]) (rest := []) (ci := 6) X hP (c_X6_isRay (nn := nn) (mm := mm) (kk := kk) hp0 (tn cut) h0 h1 h3 hn hm hk (by omega)) o_X6_isRay rfl hp0.lt hp0.ob m402 ⟨rfl, rfl⟩ ⟨Nat.le_of_ble_eq_true rfl, Nat.le_of_ble_eq_true rfl⟩ rfl hl.1 rfl (Nat.le_of_ble_eq_true rfl) ⟨Nat.zero_le _, Nat.zero_le _⟩ dX6_cut_46 ?_
      refine q_eqB (tgt := 56) hx hb dX6_cut_49 (by decide) (fun c4 => ?_) (fun c4 => ?_)
      · refine lv_iconst (v := nI 1) hx hb dX6_cut_56 (by decide) ?_
        exact kr 57 ls _ (Eq.symm (by rw [f_X6_cut, if_neg (nt c1), if_pos c3, if_neg (nt c4)] <;> rfl)) dX6_cut_57
      · refine lv_iconst (v := nI 0) hx hb dX6_cut_52 (by decide) ?_
        refine lv_goto (tgt := 57) hx hb dX6_cut_53 (by decide) ?_
        exact kr 57 ls _ (Eq.symm (by rw [f_X6_cut, if_neg (nt c1), if_pos c3, if_pos c4] <;> rfl)) dX6_cut_57
    · by_cases c5 : what = (nI 1)
      · refine lv_tableIn (tgt := 58) hx hb dX6_cut_11 (by rw [c5]; decide) (by rw [c5]; decide) (by rw [c5]; rfl) (by decide) ?_
        refine lv_aload_n hx hb dX6_cut_58 rfl (lv_at hl 0 rfl) ?_
        refine lv_iload_n hx hb dX6_cut_59 rfl (lv_at hl 1 rfl) ?_
        refine q_val (hr2.1 : cut = nI (tn cut)) ?_
        refine r_call (As := [.int (nI (tn cut))]) (rest := []) (ci := 6) X hP (c_X6_isRay (nn := nn) (mm := mm) (kk := kk) hp0 (tn cut) h0 h1 h3 hn hm hk (by omega)) o_X6_isRay rfl hp0.lt hp0.ob m402 ⟨rfl, rfl⟩ ⟨Nat.le_of_ble_eq_true rfl, Nat.le_of_ble_eq_true rfl⟩ rfl hl.1 rfl (Nat.le_of_ble_eq_true rfl) ⟨Nat.zero_le _, Nat.zero_le _⟩ dX6_cut_60 ?_
        refine q_eqB (tgt := 81) hx hb dX6_cut_63 (by decide) (fun c6 => ?_) (fun c6 => ?_)
        · refine lv_bipush (v := (-5)) hx hb dX6_cut_81 (by decide) ?_
          exact kr 83 ls _ (Eq.symm (by rw [f_X6_cut, if_neg (nt c1), if_neg c3, if_pos c5, if_neg (nt c6)] <;> rfl)) dX6_cut_83
        · refine lv_aload_n hx hb dX6_cut_66 rfl (lv_at hl 0 rfl) ?_
          refine g_Mo_row X hP hp0 m83 dX6_cut_67 ?_
          refine lv_bipush (v := nI 84) hx hb dX6_cut_70 (by decide) ?_
          refine lv_bipush (v := nI 9) hx hb dX6_cut_72 (by decide) ?_
          refine lv_iload_n hx hb dX6_cut_74 rfl (lv_at hl 1 rfl) ?_
          refine q_val (hr2.1 : cut = nI (tn cut)) ?_
          refine q_imul hx hb dX6_cut_75 ?_
          refine q_iadd hx hb dX6_cut_76 ?_
          refine l_Mo_row X hP hp0 (by omega) dX6_cut_77 ?_
          refine lv_goto (tgt := 83) hx hb dX6_cut_78 (by decide) ?_
          exact kr 83 ls _ (Eq.symm (by rw [f_X6_cut, if_neg (nt c1), if_neg c3, if_pos c5, if_pos c6] <;> rfl)) dX6_cut_83
      · by_cases c7 : what = (nI 2)
        · refine lv_tableIn (tgt := 84) hx hb dX6_cut_11 (by rw [c7]; decide) (by rw [c7]; decide) (by rw [c7]; rfl) (by decide) ?_
          refine lv_aload_n hx hb dX6_cut_84 rfl (lv_at hl 0 rfl) ?_
          refine lv_iload_n hx hb dX6_cut_85 rfl (lv_at hl 1 rfl) ?_
          refine q_val (hr2.1 : cut = nI (tn cut)) ?_
          refine r_call (As := [.int (nI (tn cut))]) (rest := []) (ci := 6) X hP (c_X6_isRay (nn := nn) (mm := mm) (kk := kk) hp0 (tn cut) h0 h1 h3 hn hm hk (by omega)) o_X6_isRay rfl hp0.lt hp0.ob m402 ⟨rfl, rfl⟩ ⟨Nat.le_of_ble_eq_true rfl, Nat.le_of_ble_eq_true rfl⟩ rfl hl.1 rfl (Nat.le_of_ble_eq_true rfl) ⟨Nat.zero_le _, Nat.zero_le _⟩ dX6_cut_86 ?_
          refine q_eqB (tgt := 96) hx hb dX6_cut_89 (by decide) (fun c8 => ?_) (fun c8 => ?_)
          · refine lv_aload_n hx hb dX6_cut_96 rfl (lv_at hl 0 rfl) ?_
            refine lv_iload_n hx hb dX6_cut_97 rfl (lv_at hl 1 rfl) ?_
            refine q_val (hr2.1 : cut = nI (tn cut)) ?_
            refine lv_iconst (v := nI 0) hx hb dX6_cut_98 (by decide) ?_
            refine r_call (As := [.int (nI (tn cut)), .int (nI 0)]) (rest := []) (ci := 6) X hP (c_X6_valueOf (nn := nn) (mm := mm) (kk := kk) hp0 (tn cut) (nI 0) h0 h1 h3 hn hm hk (by omega)) o_X6_valueOf rfl hp0.lt hp0.ob m418 ⟨rfl, rfl⟩ ⟨Nat.le_of_ble_eq_true rfl, Nat.le_of_ble_eq_true rfl⟩ rfl hl.1 rfl (Nat.le_of_ble_eq_true rfl) ⟨Nat.zero_le _, Nat.zero_le _⟩ dX6_cut_99 ?_
            exact kr 102 ls _ (Eq.symm (by rw [f_X6_cut, if_neg (nt c1), if_neg c3, if_neg c5, if_pos c7, if_neg (nt c8)] <;> rfl)) dX6_cut_102
          · refine lv_iconst (v := nI 1) hx hb dX6_cut_92 (by decide) ?_
            refine lv_goto (tgt := 102) hx hb dX6_cut_93 (by decide) ?_
            exact kr 102 ls _ (Eq.symm (by rw [f_X6_cut, if_neg (nt c1), if_neg c3, if_neg c5, if_pos c7, if_pos c8] <;> rfl)) dX6_cut_102
        · by_cases c9 : what = (nI 3)
          · refine lv_tableIn (tgt := 103) hx hb dX6_cut_11 (by rw [c9]; decide) (by rw [c9]; decide) (by rw [c9]; rfl) (by decide) ?_
            refine lv_aload_n hx hb dX6_cut_103 rfl (lv_at hl 0 rfl) ?_
            refine lv_iload_n hx hb dX6_cut_104 rfl (lv_at hl 1 rfl) ?_
            refine q_val (hr2.1 : cut = nI (tn cut)) ?_
            refine lv_iconst (v := nI 0) hx hb dX6_cut_105 (by decide) ?_
            refine r_call (As := [.int (nI (tn cut)), .int (nI 0)]) (rest := []) (ci := 6) X hP (c_X6_plansBy (nn := nn) (mm := mm) (kk := kk) hp0 (tn cut) false h0 h1 h3 hn hm hk (by omega) hc) o_X6_plansBy rfl hp0.lt hp0.ob m689 ⟨rfl, rfl⟩ ⟨Nat.le_of_ble_eq_true rfl, Nat.le_of_ble_eq_true rfl⟩ rfl hl.1 rfl (Nat.le_of_ble_eq_true rfl) ⟨Nat.zero_le _, Nat.zero_le _⟩ dX6_cut_106 ?_
            exact kr 109 ls _ (Eq.symm (by rw [f_X6_cut, if_neg (nt c1), if_neg c3, if_neg c5, if_neg c7, if_pos c9] <;> rfl)) dX6_cut_109
          · by_cases c10 : what = (nI 4)
            · refine lv_tableIn (tgt := 110) hx hb dX6_cut_11 (by rw [c10]; decide) (by rw [c10]; decide) (by rw [c10]; rfl) (by decide) ?_
              refine lv_aload_n hx hb dX6_cut_110 rfl (lv_at hl 0 rfl) ?_
              refine lv_iload_n hx hb dX6_cut_111 rfl (lv_at hl 1 rfl) ?_
              refine q_val (hr2.1 : cut = nI (tn cut)) ?_
              refine lv_iconst (v := nI 1) hx hb dX6_cut_112 (by decide) ?_
              refine r_call (As := [.int (nI (tn cut)), .int (nI 1)]) (rest := []) (ci := 6) X hP (c_X6_plansBy (nn := nn) (mm := mm) (kk := kk) hp0 (tn cut) true h0 h1 h3 hn hm hk (by omega) hc) o_X6_plansBy rfl hp0.lt hp0.ob m689 ⟨rfl, rfl⟩ ⟨Nat.le_of_ble_eq_true rfl, Nat.le_of_ble_eq_true rfl⟩ rfl hl.1 rfl (Nat.le_of_ble_eq_true rfl) ⟨Nat.zero_le _, Nat.zero_le _⟩ dX6_cut_113 ?_
              exact kr 116 ls _ (Eq.symm (by rw [f_X6_cut, if_neg (nt c1), if_neg c3, if_neg c5, if_neg c7, if_neg c9, if_pos c10] <;> rfl)) dX6_cut_116
            · refine lv_tableOut (tgt := 117) hx hb dX6_cut_11 (sw_out4 c3 c5 c7 c9 c10) (by decide) ?_
              refine lv_bipush (v := (-2)) hx hb dX6_cut_117 (by decide) ?_
              exact kr 119 ls _ (Eq.symm (by rw [f_X6_cut, if_neg (nt c1), if_neg c3, if_neg c5, if_neg c7, if_neg c9, if_neg c10] <;> rfl)) dX6_cut_119
  · refine lv_iconst (v := (-1)) hx hb dX6_cut_8 (by decide) ?_
    exact kr 9 ls _ (Eq.symm (by rw [f_X6_cut, if_pos c1] <;> rfl)) dX6_cut_9
theorem o_X6_cut : okV yX6_cut cX6_cut 3 (some .int) 2 := ⟨m686, m687, m5, m688, by decide +kernel, by decide +kernel, by decide +kernel⟩
def rmX6_weight : Room := { frames := 3, cells := 0, slots := 0, locals := 66 }
def f_X6_weight (x : MoC) (nn : Nat) (mm : Nat) (kk : Nat) (cut : Int32) (site : Int32) : Int32 :=
  (if (f_X6_noCut x nn mm kk cut) = true then (-1) else (if (f_X6_noSite x nn mm kk site) = true then (-1) else (if (f_X6_isRay x nn mm kk (tn cut)) = true then f_X6_asked x nn mm kk (tn cut) (nI (2 ^ (tn site))) else f_X6_weightOf x nn mm kk (tn cut) (tn site))))
set_option maxHeartbeats 4000000 in
set_option maxRecDepth 100000 in
theorem c_X6_weight {l : Launch} {dd : va_G} {t : CL4} {N : Nat} {ad : Nat → Nat} {V : Nat → va_E} {b : Nat} {x : MoC} {nn : Nat} {mm : Nat} {kk : Nat} (hp0 : MoP N ad V t b x) (cut : Int32) (site : Int32) (h0 : oR x 0 = nI nn) (h1 : oR x 1 = nI mm) (h3 : oR x 3 = nI kk) (hn : nn ≤ 7) (hm : mm ≤ 8) (hk : kk ≤ 40) (hc : RaysOk x mm kk) : RM l dd t N ad V yX6_weight cX6_weight 3 (some .int) rmX6_weight [.ref (ad b), .int (cut), .int (site)] (f_X6_weight x nn mm kk cut site) := by
  refine RM.of (by decide +kernel) ⟨rfl, rfl⟩ (Nat.le_of_ble_eq_true rfl) (narI _) ?_
  intro p e s m as below meth c Q X H hP ls hl kr
  have X : WX p s m as c cX6_weight 3 RX6 dd t := X
  have hx := X.1.1
  have hb := X.1.2.1
  have hl : lv_has ls 3 [(0, .ref (ad b)), (1, .int (cut)), (2, .int (site))] := hl
  have hle0 := hp0.le
  refine lv_aload_n hx hb dX6_weight_0 rfl (lv_at hl 0 rfl) ?_
  refine lv_iload_n hx hb dX6_weight_1 rfl (lv_at hl 1 rfl) ?_
  refine r_call (As := [.int (cut)]) (rest := []) (ci := 6) X hP (c_X6_noCut (nn := nn) (mm := mm) (kk := kk) hp0 cut h0 h1 h3 hn hm hk) o_X6_noCut rfl hp0.lt hp0.ob m511 ⟨rfl, rfl⟩ ⟨Nat.le_of_ble_eq_true rfl, Nat.le_of_ble_eq_true rfl⟩ rfl hl.1 rfl (Nat.le_of_ble_eq_true rfl) ⟨Nat.zero_le _, Nat.zero_le _⟩ dX6_weight_2 ?_
  refine q_neB (tgt := 16) hx hb dX6_weight_5 (by decide) (fun c1 => ?_) (fun c1 => ?_)
  · refine lv_iconst (v := (-1)) hx hb dX6_weight_16 (by decide) ?_
    exact kr 17 ls _ (Eq.symm (by rw [f_X6_weight, if_pos c1] <;> rfl)) dX6_weight_17
  · have hr2 := noCut_n c1 (by omega)
    have hr2b := hr2.2
    refine lv_aload_n hx hb dX6_weight_8 rfl (lv_at hl 0 rfl) ?_
    refine lv_iload_n hx hb dX6_weight_9 rfl (lv_at hl 2 rfl) ?_
    refine r_call (As := [.int (site)]) (rest := []) (ci := 6) X hP (c_X6_noSite (nn := nn) (mm := mm) (kk := kk) hp0 site h0 h1 h3 hn hm hk) o_X6_noSite rfl hp0.lt hp0.ob m188 ⟨rfl, rfl⟩ ⟨Nat.le_of_ble_eq_true rfl, Nat.le_of_ble_eq_true rfl⟩ rfl hl.1 rfl (Nat.le_of_ble_eq_true rfl) ⟨Nat.zero_le _, Nat.zero_le _⟩ dX6_weight_10 ?_
    refine q_eqB (tgt := 18) hx hb dX6_weight_13 (by decide) (fun c3 => ?_) (fun c3 => ?_)
    · have hr4 := noSite_n c3 (by omega)
      have hr4b := hr4.2
      refine lv_aload_n hx hb dX6_weight_18 rfl (lv_at hl 0 rfl) ?_
      refine lv_iload_n hx hb dX6_weight_19 rfl (lv_at hl 1 rfl) ?_
      refine q_val (hr2.1 : cut = nI (tn cut)) ?_
      refine r_call (As := [.int (nI (tn cut))]) (rest := []) (ci := 6) X hP (c_X6_isRay (nn := nn) (mm := mm) (kk := kk) hp0 (tn cut) h0 h1 h3 hn hm hk (by omega)) o_X6_isRay rfl hp0.lt hp0.ob m402 ⟨rfl, rfl⟩ ⟨Nat.le_of_ble_eq_true rfl, Nat.le_of_ble_eq_true rfl⟩ rfl hl.1 rfl (Nat.le_of_ble_eq_true rfl) ⟨Nat.zero_le _, Nat.zero_le _⟩ dX6_weight_20 ?_
      refine q_eqB (tgt := 37) hx hb dX6_weight_23 (by decide) (fun c5 => ?_) (fun c5 => ?_)
      · refine lv_aload_n hx hb dX6_weight_37 rfl (lv_at hl 0 rfl) ?_
        refine lv_iload_n hx hb dX6_weight_38 rfl (lv_at hl 1 rfl) ?_
        refine q_val (hr2.1 : cut = nI (tn cut)) ?_
        refine lv_iload_n hx hb dX6_weight_39 rfl (lv_at hl 2 rfl) ?_
        refine q_val (hr4.1 : site = nI (tn site)) ?_
        refine r_call (As := [.int (nI (tn cut)), .int (nI (tn site))]) (rest := []) (ci := 6) X hP (c_X6_weightOf (nn := nn) (mm := mm) (kk := kk) hp0 (tn cut) (tn site) h0 h1 h3 hn hm hk (by omega) (by omega)) o_X6_weightOf rfl hp0.lt hp0.ob m422 ⟨rfl, rfl⟩ ⟨Nat.le_of_ble_eq_true rfl, Nat.le_of_ble_eq_true rfl⟩ rfl hl.1 rfl (Nat.le_of_ble_eq_true rfl) ⟨Nat.zero_le _, Nat.zero_le _⟩ dX6_weight_40 ?_
        exact kr 43 ls _ (Eq.symm (by rw [f_X6_weight, if_neg (nt c1), if_neg (nt c3), if_neg (nt c5)] <;> rfl)) dX6_weight_43
      · refine lv_aload_n hx hb dX6_weight_26 rfl (lv_at hl 0 rfl) ?_
        refine lv_iload_n hx hb dX6_weight_27 rfl (lv_at hl 1 rfl) ?_
        refine q_val (hr2.1 : cut = nI (tn cut)) ?_
        refine lv_iconst (v := nI 1) hx hb dX6_weight_28 (by decide) ?_
        refine lv_iload_n hx hb dX6_weight_29 rfl (lv_at hl 2 rfl) ?_
        refine q_val (hr4.1 : site = nI (tn site)) ?_
        refine q_ishl hx hb (by omega) dX6_weight_30 ?_
        refine r_call (As := [.int (nI (tn cut)), .int (nI (2 ^ (tn site)))]) (rest := []) (ci := 6) X hP (c_X6_asked (nn := nn) (mm := mm) (kk := kk) hp0 (tn cut) (nI (2 ^ (tn site))) h0 h1 h3 hn hm hk (by omega) (hc _ (by omega) (isRay_t c5))) o_X6_asked rfl hp0.lt hp0.ob m406 ⟨rfl, rfl⟩ ⟨Nat.le_of_ble_eq_true rfl, Nat.le_of_ble_eq_true rfl⟩ rfl hl.1 rfl (Nat.le_of_ble_eq_true rfl) ⟨Nat.zero_le _, Nat.zero_le _⟩ dX6_weight_31 ?_
        refine lv_goto (tgt := 43) hx hb dX6_weight_34 (by decide) ?_
        exact kr 43 ls _ (Eq.symm (by rw [f_X6_weight, if_neg (nt c1), if_neg (nt c3), if_pos c5] <;> rfl)) dX6_weight_43
    · refine lv_iconst (v := (-1)) hx hb dX6_weight_16 (by decide) ?_
      exact kr 17 ls _ (Eq.symm (by rw [f_X6_weight, if_neg (nt c1), if_pos c3] <;> rfl)) dX6_weight_17
theorem o_X6_weight : okV yX6_weight cX6_weight 3 (some .int) 2 := ⟨m703, m704, m5, m705, by decide +kernel, by decide +kernel, by decide +kernel⟩
def rmX6_value : Room := { frames := 3, cells := 0, slots := 0, locals := 70 }
def f_X6_value (x : MoC) (nn : Nat) (mm : Nat) (kk : Nat) (cut : Int32) (plan : Int32) : Int32 :=
  (if (f_X6_noCut x nn mm kk cut) = true then (-1) else (if (f_X6_noPlan x nn mm kk plan) = true then (-2) else (if (f_X6_isRay x nn mm kk (tn cut)) = true then f_X6_asked x nn mm kk (tn cut) plan else (nI 1000000) + (f_X6_valueOf x nn mm kk (tn cut) plan))))
set_option maxHeartbeats 4000000 in
set_option maxRecDepth 100000 in
theorem c_X6_value {l : Launch} {dd : va_G} {t : CL4} {N : Nat} {ad : Nat → Nat} {V : Nat → va_E} {b : Nat} {x : MoC} {nn : Nat} {mm : Nat} {kk : Nat} (hp0 : MoP N ad V t b x) (cut : Int32) (plan : Int32) (h0 : oR x 0 = nI nn) (h1 : oR x 1 = nI mm) (h3 : oR x 3 = nI kk) (hn : nn ≤ 7) (hm : mm ≤ 8) (hk : kk ≤ 40) (hc : RaysOk x mm kk) : RM l dd t N ad V yX6_value cX6_value 3 (some .int) rmX6_value [.ref (ad b), .int (cut), .int (plan)] (f_X6_value x nn mm kk cut plan) := by
  refine RM.of (by decide +kernel) ⟨rfl, rfl⟩ (Nat.le_of_ble_eq_true rfl) (narI _) ?_
  intro p e s m as below meth c Q X H hP ls hl kr
  have X : WX p s m as c cX6_value 3 RX6 dd t := X
  have hx := X.1.1
  have hb := X.1.2.1
  have hl : lv_has ls 3 [(0, .ref (ad b)), (1, .int (cut)), (2, .int (plan))] := hl
  have hle0 := hp0.le
  refine lv_aload_n hx hb dX6_value_0 rfl (lv_at hl 0 rfl) ?_
  refine lv_iload_n hx hb dX6_value_1 rfl (lv_at hl 1 rfl) ?_
  refine r_call (As := [.int (cut)]) (rest := []) (ci := 6) X hP (c_X6_noCut (nn := nn) (mm := mm) (kk := kk) hp0 cut h0 h1 h3 hn hm hk) o_X6_noCut rfl hp0.lt hp0.ob m511 ⟨rfl, rfl⟩ ⟨Nat.le_of_ble_eq_true rfl, Nat.le_of_ble_eq_true rfl⟩ rfl hl.1 rfl (Nat.le_of_ble_eq_true rfl) ⟨Nat.zero_le _, Nat.zero_le _⟩ dX6_value_2 ?_
  refine q_eqB (tgt := 10) hx hb dX6_value_5 (by decide) (fun c1 => ?_) (fun c1 => ?_)
  · have hr2 := noCut_n c1 (by omega)
    have hr2b := hr2.2
    refine lv_aload_n hx hb dX6_value_10 rfl (lv_at hl 0 rfl) ?_
    refine lv_iload_n hx hb dX6_value_11 rfl (lv_at hl 2 rfl) ?_
    refine r_call (As := [.int (plan)]) (rest := []) (ci := 6) X hP (c_X6_noPlan (nn := nn) (mm := mm) (kk := kk) hp0 plan h0 h1 h3 hn hm hk) o_X6_noPlan rfl hp0.lt hp0.ob m622 ⟨rfl, rfl⟩ ⟨Nat.le_of_ble_eq_true rfl, Nat.le_of_ble_eq_true rfl⟩ rfl hl.1 rfl (Nat.le_of_ble_eq_true rfl) ⟨Nat.zero_le _, Nat.zero_le _⟩ dX6_value_12 ?_
    refine q_eqB (tgt := 21) hx hb dX6_value_15 (by decide) (fun c3 => ?_) (fun c3 => ?_)
    · refine lv_aload_n hx hb dX6_value_21 rfl (lv_at hl 0 rfl) ?_
      refine lv_iload_n hx hb dX6_value_22 rfl (lv_at hl 1 rfl) ?_
      refine q_val (hr2.1 : cut = nI (tn cut)) ?_
      refine r_call (As := [.int (nI (tn cut))]) (rest := []) (ci := 6) X hP (c_X6_isRay (nn := nn) (mm := mm) (kk := kk) hp0 (tn cut) h0 h1 h3 hn hm hk (by omega)) o_X6_isRay rfl hp0.lt hp0.ob m402 ⟨rfl, rfl⟩ ⟨Nat.le_of_ble_eq_true rfl, Nat.le_of_ble_eq_true rfl⟩ rfl hl.1 rfl (Nat.le_of_ble_eq_true rfl) ⟨Nat.zero_le _, Nat.zero_le _⟩ dX6_value_23 ?_
      refine q_eqB (tgt := 38) hx hb dX6_value_26 (by decide) (fun c4 => ?_) (fun c4 => ?_)
      · refine lv_ldc (v := nI 1000000) hx hb X.1.2.2.2.1 (X.1.2.2.2.2 _ m717) dX6_value_38 ?_
        refine lv_aload_n hx hb dX6_value_40 rfl (lv_at hl 0 rfl) ?_
        refine lv_iload_n hx hb dX6_value_41 rfl (lv_at hl 1 rfl) ?_
        refine q_val (hr2.1 : cut = nI (tn cut)) ?_
        refine lv_iload_n hx hb dX6_value_42 rfl (lv_at hl 2 rfl) ?_
        refine r_call (As := [.int (nI (tn cut)), .int (plan)]) (rest := [.int (nI 1000000)]) (ci := 6) X hP (c_X6_valueOf (nn := nn) (mm := mm) (kk := kk) hp0 (tn cut) plan h0 h1 h3 hn hm hk (by omega)) o_X6_valueOf rfl hp0.lt hp0.ob m418 ⟨rfl, rfl⟩ ⟨Nat.le_of_ble_eq_true rfl, Nat.le_of_ble_eq_true rfl⟩ rfl hl.1 rfl (Nat.le_of_ble_eq_true rfl) ⟨Nat.zero_le _, Nat.zero_le _⟩ dX6_value_43 ?_
        refine lv_iadd hx hb dX6_value_46 ?_
        exact kr 47 ls _ (Eq.symm (by rw [f_X6_value, if_neg (nt c1), if_neg (nt c3), if_neg (nt c4)] <;> rfl)) dX6_value_47
      · refine lv_aload_n hx hb dX6_value_29 rfl (lv_at hl 0 rfl) ?_
        refine lv_iload_n hx hb dX6_value_30 rfl (lv_at hl 1 rfl) ?_
        refine q_val (hr2.1 : cut = nI (tn cut)) ?_
        refine lv_iload_n hx hb dX6_value_31 rfl (lv_at hl 2 rfl) ?_
        refine r_call (As := [.int (nI (tn cut)), .int (plan)]) (rest := []) (ci := 6) X hP (c_X6_asked (nn := nn) (mm := mm) (kk := kk) hp0 (tn cut) plan h0 h1 h3 hn hm hk (by omega) (hc _ (by omega) (isRay_t c4))) o_X6_asked rfl hp0.lt hp0.ob m406 ⟨rfl, rfl⟩ ⟨Nat.le_of_ble_eq_true rfl, Nat.le_of_ble_eq_true rfl⟩ rfl hl.1 rfl (Nat.le_of_ble_eq_true rfl) ⟨Nat.zero_le _, Nat.zero_le _⟩ dX6_value_32 ?_
        refine lv_goto (tgt := 47) hx hb dX6_value_35 (by decide) ?_
        exact kr 47 ls _ (Eq.symm (by rw [f_X6_value, if_neg (nt c1), if_neg (nt c3), if_pos c4] <;> rfl)) dX6_value_47
    · refine lv_bipush (v := (-2)) hx hb dX6_value_18 (by decide) ?_
      exact kr 20 ls _ (Eq.symm (by rw [f_X6_value, if_neg (nt c1), if_pos c3] <;> rfl)) dX6_value_20
  · refine lv_iconst (v := (-1)) hx hb dX6_value_8 (by decide) ?_
    exact kr 9 ls _ (Eq.symm (by rw [f_X6_value, if_pos c1] <;> rfl)) dX6_value_9
theorem o_X6_value : okV yX6_value cX6_value 3 (some .int) 2 := ⟨m714, m715, m5, m716, by decide +kernel, by decide +kernel, by decide +kernel⟩
def rmX6_master : Room := { frames := 5, cells := 0, slots := 0, locals := 118 }
def f_X6_master (x : MoC) (nn : Nat) (mm : Nat) (kk : Nat) (what : Int32) : Int32 :=
  (if (f_X6_in what (nI 0) (nI 4)) = true then (if what = (nI 2) then (if (nI 1) < what then (if (oR x 4) < 0 then (-5) else (if what = 0 then nI 0 else (if what = (nI 1) then f_X6_guess x nn mm kk (nI 0) else oR x 4))) else (if what = 0 then nI 0 else (if what = (nI 1) then f_X6_guess x nn mm kk (nI 0) else oR x 4))) else (if what = (nI 3) then (if (nI 1) < what then (if (oR x 4) < 0 then (-5) else (if what = 0 then nI 0 else (if what = (nI 1) then f_X6_guess x nn mm kk (nI 0) else (f_X6_prices x nn mm kk (oR x 4)) + (f_X6_routes x nn mm kk (oR x 4))))) else (if what = 0 then nI 0 else (if what = (nI 1) then f_X6_guess x nn mm kk (nI 0) else nI 0))) else (if (f_X6_masterPlan x nn mm kk) < 0 then (-5) else (if (nI 1) < what then (if (oR x 4) < 0 then (-5) else (if what = 0 then f_X6_masterPlan x nn mm kk else (if what = (nI 1) then f_X6_guess x nn mm kk (f_X6_masterPlan x nn mm kk) else ((f_X6_prices x nn mm kk (oR x 4)) + (f_X6_routes x nn mm kk (oR x 4))) - (f_X6_guess x nn mm kk (f_X6_masterPlan x nn mm kk))))) else (if what = 0 then f_X6_masterPlan x nn mm kk else (if what = (nI 1) then f_X6_guess x nn mm kk (f_X6_masterPlan x nn mm kk) else (nI 0) - (f_X6_guess x nn mm kk (f_X6_masterPlan x nn mm kk)))))))) else (-2))
set_option maxHeartbeats 4000000 in
set_option maxRecDepth 100000 in
theorem c_X6_master {l : Launch} {dd : va_G} {t : CL4} {N : Nat} {ad : Nat → Nat} {V : Nat → va_E} {b : Nat} {x : MoC} {nn : Nat} {mm : Nat} {kk : Nat} (hp0 : MoP N ad V t b x) (what : Int32) (h0 : oR x 0 = nI nn) (h1 : oR x 1 = nI mm) (h3 : oR x 3 = nI kk) (hn : nn ≤ 7) (hm : mm ≤ 8) (hk : kk ≤ 40) (hc : RaysOk x mm kk) (hbest : ¬ oR x 4 < 0 → ∀ cn, cn < mm → ¬ f_X6_server x nn mm kk (oR x 4) cn < 0) : RM l dd t N ad V yX6_master cX6_master 6 (some .int) rmX6_master [.ref (ad b), .int (what)] (f_X6_master x nn mm kk what) := by
  refine RM.of (by decide +kernel) ⟨rfl, rfl⟩ (Nat.le_of_ble_eq_true rfl) (narI _) ?_
  intro p e s m as below meth c Q X H hP ls hl kr
  have X : WX p s m as c cX6_master 6 RX6 dd t := X
  have hx := X.1.1
  have hb := X.1.2.1
  have hl : lv_has ls 6 [(0, .ref (ad b)), (1, .int (what))] := hl
  have hle0 := hp0.le
  refine lv_iload_n hx hb dX6_master_0 rfl (lv_at hl 1 rfl) ?_
  refine lv_iconst (v := nI 0) hx hb dX6_master_1 (by decide) ?_
  refine lv_iconst (v := nI 4) hx hb dX6_master_2 (by decide) ?_
  refine r_callS (As := [.int (what), .int (nI 0), .int (nI 4)]) (rest := []) X hP (c_X6_in what (nI 0) (nI 4)) o_X6_in m139 ⟨rfl, rfl⟩ ⟨Nat.le_of_ble_eq_true rfl, Nat.le_of_ble_eq_true rfl⟩ rfl hl.1 rfl (Nat.le_of_ble_eq_true rfl) ⟨Nat.zero_le _, Nat.zero_le _⟩ dX6_master_3 ?_
  refine q_neB (tgt := 12) hx hb dX6_master_6 (by decide) (fun c1 => ?_) (fun c1 => ?_)
  · refine lv_iload_n hx hb dX6_master_12 rfl (lv_at hl 1 rfl) ?_
    refine lv_iconst (v := nI 2) hx hb dX6_master_13 (by decide) ?_
    refine lv_icmp_eq (tgt := 22) hx hb dX6_master_14 (by decide) (fun c2 => ?_) (fun c2 => ?_)
    · refine lv_iconst (v := nI 0) hx hb dX6_master_22 (by decide) ?_
      refine lv_goto (tgt := 30) hx hb dX6_master_23 (by decide) ?_
      refine lv_istore_n (lv' := [(2, .int (nI 0)), (0, .ref (ad b)), (1, .int (what))]) hx hb dX6_master_30 rfl hl (by decide) rfl (fun ls hl => ?_)
      refine lv_aload_n hx hb dX6_master_31 rfl (lv_at hl 1 rfl) ?_
      refine g_Mo_row X hP hp0 m83 dX6_master_32 ?_
      refine lv_iconst (v := nI 4) hx hb dX6_master_35 (by decide) ?_
      refine l_Mo_row X hP hp0 (by decide) dX6_master_36 ?_
      refine lv_istore_n (lv' := [(3, .int (oR x 4)), (2, .int (nI 0)), (0, .ref (ad b)), (1, .int (what))]) hx hb dX6_master_37 rfl hl (by decide) rfl (fun ls hl => ?_)
      refine lv_iload_n hx hb dX6_master_38 rfl (lv_at hl 1 rfl) ?_
      refine z_lt (tgt := 51) hx hb (by omega) dX6_master_39 (by decide) (fun h => absurd h (by omega)) (fun c3 => ?_)
      refine lv_iload_n hx hb dX6_master_42 rfl (lv_at hl 3 rfl) ?_
      refine lv_iconst (v := nI 1) hx hb dX6_master_43 (by decide) ?_
      refine j_le (tgt := 54) hx hb dX6_master_44 (by decide) (fun c4 => ?_) (fun c4 => ?_)
      · refine lv_aload_n hx hb dX6_master_54 rfl (lv_at hl 2 rfl) ?_
        refine lv_iload_n hx hb dX6_master_55 rfl (lv_at hl 1 rfl) ?_
        refine r_call (As := [.int (nI 0)]) (rest := []) (ci := 6) X hP (c_X6_guess (nn := nn) (mm := mm) (kk := kk) hp0 (nI 0) h0 h1 h3 hn hm hk) o_X6_guess rfl hp0.lt hp0.ob m414 ⟨rfl, rfl⟩ ⟨Nat.le_of_ble_eq_true rfl, Nat.le_of_ble_eq_true rfl⟩ rfl hl.1 rfl (Nat.le_of_ble_eq_true rfl) ⟨Nat.zero_le _, Nat.zero_le _⟩ dX6_master_56 ?_
        refine lv_istore (lv' := [(4, .int (f_X6_guess x nn mm kk (nI 0))), (3, .int (oR x 4)), (2, .int (nI 0)), (0, .ref (ad b)), (1, .int (what))]) hx hb dX6_master_59 hl (by decide) rfl (fun ls hl => ?_)
        refine lv_iload_n hx hb dX6_master_61 rfl (lv_at hl 4 rfl) ?_
        refine lv_iconst (v := nI 1) hx hb dX6_master_62 (by decide) ?_
        refine j_le (tgt := 80) hx hb dX6_master_63 (by decide) (fun c5 => ?_) (fun h => by first | exact absurd h c4 | exact absurd c4 h)
        refine lv_iconst (v := nI 0) hx hb dX6_master_80 (by decide) ?_
        refine lv_istore (lv' := [(5, .int (nI 0)), (4, .int (f_X6_guess x nn mm kk (nI 0))), (3, .int (oR x 4)), (2, .int (nI 0)), (0, .ref (ad b)), (1, .int (what))]) hx hb dX6_master_81 hl (by decide) rfl (fun ls hl => ?_)
        refine lv_iload_n hx hb dX6_master_83 rfl (lv_at hl 5 rfl) ?_
        refine lv_if_ne (tgt := 91) hx hb dX6_master_84 (by decide) (fun c6 => ?_) (fun c6 => ?_)
        · refine lv_iload_n hx hb dX6_master_91 rfl (lv_at hl 5 rfl) ?_
          refine lv_iconst (v := nI 1) hx hb dX6_master_92 (by decide) ?_
          refine lv_icmp_ne (tgt := 101) hx hb dX6_master_93 (by decide) (fun c7 => ?_) (fun c7 => ?_)
          · refine lv_iload_n hx hb dX6_master_101 rfl (lv_at hl 5 rfl) ?_
            refine lv_iconst (v := nI 2) hx hb dX6_master_102 (by decide) ?_
            refine lv_icmp_ne (tgt := 110) hx hb dX6_master_103 (by decide) (fun h => by first | exact absurd h c2 | exact absurd c2 h) (fun c8 => ?_)
            refine lv_iload_n hx hb dX6_master_106 rfl (lv_at hl 2 rfl) ?_
            refine lv_goto (tgt := 125) hx hb dX6_master_107 (by decide) ?_
            exact kr 125 ls _ (Eq.symm (by rw [f_X6_master, if_pos c1, if_pos c2, if_neg c4, if_neg c6, if_neg c7] <;> rfl)) dX6_master_125
          · refine lv_iload hx hb dX6_master_96 (lv_at hl 1 rfl) ?_
            refine lv_goto (tgt := 125) hx hb dX6_master_98 (by decide) ?_
            exact kr 125 ls _ (Eq.symm (by rw [f_X6_master, if_pos c1, if_pos c2, if_neg c4, if_neg c6, if_pos c7] <;> rfl)) dX6_master_125
        · refine lv_iload_n hx hb dX6_master_87 rfl (lv_at hl 3 rfl) ?_
          refine lv_goto (tgt := 125) hx hb dX6_master_88 (by decide) ?_
          exact kr 125 ls _ (Eq.symm (by rw [f_X6_master, if_pos c1, if_pos c2, if_neg c4, if_pos c6] <;> rfl)) dX6_master_125
      · refine lv_iload_n hx hb dX6_master_47 rfl (lv_at hl 0 rfl) ?_
        refine u_ge (tgt := 54) hx hb dX6_master_48 (by decide) (fun c9 => ?_) (fun c9 => ?_)
        · refine lv_aload_n hx hb dX6_master_54 rfl (lv_at hl 2 rfl) ?_
          refine lv_iload_n hx hb dX6_master_55 rfl (lv_at hl 1 rfl) ?_
          refine r_call (As := [.int (nI 0)]) (rest := []) (ci := 6) X hP (c_X6_guess (nn := nn) (mm := mm) (kk := kk) hp0 (nI 0) h0 h1 h3 hn hm hk) o_X6_guess rfl hp0.lt hp0.ob m414 ⟨rfl, rfl⟩ ⟨Nat.le_of_ble_eq_true rfl, Nat.le_of_ble_eq_true rfl⟩ rfl hl.1 rfl (Nat.le_of_ble_eq_true rfl) ⟨Nat.zero_le _, Nat.zero_le _⟩ dX6_master_56 ?_
          refine lv_istore (lv' := [(4, .int (f_X6_guess x nn mm kk (nI 0))), (3, .int (oR x 4)), (2, .int (nI 0)), (0, .ref (ad b)), (1, .int (what))]) hx hb dX6_master_59 hl (by decide) rfl (fun ls hl => ?_)
          refine lv_iload_n hx hb dX6_master_61 rfl (lv_at hl 4 rfl) ?_
          refine lv_iconst (v := nI 1) hx hb dX6_master_62 (by decide) ?_
          refine j_le (tgt := 80) hx hb dX6_master_63 (by decide) (fun h => by first | exact absurd h c4 | exact absurd c4 h) (fun c10 => ?_)
          refine lv_aload_n hx hb dX6_master_66 rfl (lv_at hl 3 rfl) ?_
          refine lv_iload_n hx hb dX6_master_67 rfl (lv_at hl 1 rfl) ?_
          refine r_call (As := [.int (oR x 4)]) (rest := []) (ci := 6) X hP (c_X6_prices (nn := nn) (mm := mm) (kk := kk) hp0 (oR x 4) h0 h1 h3 hn hm hk) o_X6_prices rfl hp0.lt hp0.ob m426 ⟨rfl, rfl⟩ ⟨Nat.le_of_ble_eq_true rfl, Nat.le_of_ble_eq_true rfl⟩ rfl hl.1 rfl (Nat.le_of_ble_eq_true rfl) ⟨Nat.zero_le _, Nat.zero_le _⟩ dX6_master_68 ?_
          refine lv_aload_n hx hb dX6_master_71 rfl (lv_at hl 3 rfl) ?_
          refine lv_iload_n hx hb dX6_master_72 rfl (lv_at hl 1 rfl) ?_
          refine r_call (As := [.int (oR x 4)]) (rest := [.int (f_X6_prices x nn mm kk (oR x 4))]) (ci := 6) X hP (c_X6_routes (nn := nn) (mm := mm) (kk := kk) hp0 (oR x 4) h0 h1 h3 hn hm hk (hbest c9)) o_X6_routes rfl hp0.lt hp0.ob m434 ⟨rfl, rfl⟩ ⟨Nat.le_of_ble_eq_true rfl, Nat.le_of_ble_eq_true rfl⟩ rfl hl.1 rfl (Nat.le_of_ble_eq_true rfl) ⟨Nat.zero_le _, Nat.zero_le _⟩ dX6_master_73 ?_
          refine lv_iadd hx hb dX6_master_76 ?_
          refine lv_goto (tgt := 81) hx hb dX6_master_77 (by decide) ?_
          refine lv_istore (lv' := [(5, .int ((f_X6_prices x nn mm kk (oR x 4)) + (f_X6_routes x nn mm kk (oR x 4)))), (4, .int (f_X6_guess x nn mm kk (nI 0))), (3, .int (oR x 4)), (2, .int (nI 0)), (0, .ref (ad b)), (1, .int (what))]) hx hb dX6_master_81 hl (by decide) rfl (fun ls hl => ?_)
          refine lv_iload_n hx hb dX6_master_83 rfl (lv_at hl 5 rfl) ?_
          refine lv_if_ne (tgt := 91) hx hb dX6_master_84 (by decide) (fun c11 => ?_) (fun c11 => ?_)
          · refine lv_iload_n hx hb dX6_master_91 rfl (lv_at hl 5 rfl) ?_
            refine lv_iconst (v := nI 1) hx hb dX6_master_92 (by decide) ?_
            refine lv_icmp_ne (tgt := 101) hx hb dX6_master_93 (by decide) (fun c12 => ?_) (fun c12 => ?_)
            · refine lv_iload_n hx hb dX6_master_101 rfl (lv_at hl 5 rfl) ?_
              refine lv_iconst (v := nI 2) hx hb dX6_master_102 (by decide) ?_
              refine lv_icmp_ne (tgt := 110) hx hb dX6_master_103 (by decide) (fun h => by first | exact absurd h c2 | exact absurd c2 h) (fun c13 => ?_)
              refine lv_iload_n hx hb dX6_master_106 rfl (lv_at hl 2 rfl) ?_
              refine lv_goto (tgt := 125) hx hb dX6_master_107 (by decide) ?_
              exact kr 125 ls _ (Eq.symm (by rw [f_X6_master, if_pos c1, if_pos c2, if_pos c4, if_neg c9, if_neg c11, if_neg c12] <;> rfl)) dX6_master_125
            · refine lv_iload hx hb dX6_master_96 (lv_at hl 1 rfl) ?_
              refine lv_goto (tgt := 125) hx hb dX6_master_98 (by decide) ?_
              exact kr 125 ls _ (Eq.symm (by rw [f_X6_master, if_pos c1, if_pos c2, if_pos c4, if_neg c9, if_neg c11, if_pos c12] <;> rfl)) dX6_master_125
          · refine lv_iload_n hx hb dX6_master_87 rfl (lv_at hl 3 rfl) ?_
            refine lv_goto (tgt := 125) hx hb dX6_master_88 (by decide) ?_
            exact kr 125 ls _ (Eq.symm (by rw [f_X6_master, if_pos c1, if_pos c2, if_pos c4, if_neg c9, if_pos c11] <;> rfl)) dX6_master_125
        · refine lv_bipush (v := (-5)) hx hb dX6_master_51 (by decide) ?_
          exact kr 53 ls _ (Eq.symm (by rw [f_X6_master, if_pos c1, if_pos c2, if_pos c4, if_pos c9] <;> rfl)) dX6_master_53
    · refine lv_iload_n hx hb dX6_master_17 rfl (lv_at hl 1 rfl) ?_
      refine lv_iconst (v := nI 3) hx hb dX6_master_18 (by decide) ?_
      refine lv_icmp_ne (tgt := 26) hx hb dX6_master_19 (by decide) (fun c14 => ?_) (fun c14 => ?_)
      · refine lv_aload_n hx hb dX6_master_26 rfl (lv_at hl 0 rfl) ?_
        refine r_call (As := []) (rest := []) (ci := 6) X hP (c_X6_masterPlan (nn := nn) (mm := mm) (kk := kk) hp0 h0 h1 h3 hn hm hk hc) o_X6_masterPlan rfl hp0.lt hp0.ob m386 ⟨rfl, rfl⟩ ⟨Nat.le_of_ble_eq_true rfl, Nat.le_of_ble_eq_true rfl⟩ rfl hl.1 rfl (Nat.le_of_ble_eq_true rfl) ⟨Nat.zero_le _, Nat.zero_le _⟩ dX6_master_27 ?_
        refine lv_istore_n (lv' := [(2, .int (f_X6_masterPlan x nn mm kk)), (0, .ref (ad b)), (1, .int (what))]) hx hb dX6_master_30 rfl hl (by decide) rfl (fun ls hl => ?_)
        refine lv_aload_n hx hb dX6_master_31 rfl (lv_at hl 1 rfl) ?_
        refine g_Mo_row X hP hp0 m83 dX6_master_32 ?_
        refine lv_iconst (v := nI 4) hx hb dX6_master_35 (by decide) ?_
        refine l_Mo_row X hP hp0 (by decide) dX6_master_36 ?_
        refine lv_istore_n (lv' := [(3, .int (oR x 4)), (2, .int (f_X6_masterPlan x nn mm kk)), (0, .ref (ad b)), (1, .int (what))]) hx hb dX6_master_37 rfl hl (by decide) rfl (fun ls hl => ?_)
        refine lv_iload_n hx hb dX6_master_38 rfl (lv_at hl 1 rfl) ?_
        refine u_lt (tgt := 51) hx hb dX6_master_39 (by decide) (fun c15 => ?_) (fun c15 => ?_)
        · refine lv_bipush (v := (-5)) hx hb dX6_master_51 (by decide) ?_
          exact kr 53 ls _ (Eq.symm (by rw [f_X6_master, if_pos c1, if_neg c2, if_neg c14, if_pos c15] <;> rfl)) dX6_master_53
        · refine lv_iload_n hx hb dX6_master_42 rfl (lv_at hl 3 rfl) ?_
          refine lv_iconst (v := nI 1) hx hb dX6_master_43 (by decide) ?_
          refine j_le (tgt := 54) hx hb dX6_master_44 (by decide) (fun c16 => ?_) (fun c16 => ?_)
          · refine lv_aload_n hx hb dX6_master_54 rfl (lv_at hl 2 rfl) ?_
            refine lv_iload_n hx hb dX6_master_55 rfl (lv_at hl 1 rfl) ?_
            refine r_call (As := [.int (f_X6_masterPlan x nn mm kk)]) (rest := []) (ci := 6) X hP (c_X6_guess (nn := nn) (mm := mm) (kk := kk) hp0 (f_X6_masterPlan x nn mm kk) h0 h1 h3 hn hm hk) o_X6_guess rfl hp0.lt hp0.ob m414 ⟨rfl, rfl⟩ ⟨Nat.le_of_ble_eq_true rfl, Nat.le_of_ble_eq_true rfl⟩ rfl hl.1 rfl (Nat.le_of_ble_eq_true rfl) ⟨Nat.zero_le _, Nat.zero_le _⟩ dX6_master_56 ?_
            refine lv_istore (lv' := [(4, .int (f_X6_guess x nn mm kk (f_X6_masterPlan x nn mm kk))), (3, .int (oR x 4)), (2, .int (f_X6_masterPlan x nn mm kk)), (0, .ref (ad b)), (1, .int (what))]) hx hb dX6_master_59 hl (by decide) rfl (fun ls hl => ?_)
            refine lv_iload_n hx hb dX6_master_61 rfl (lv_at hl 4 rfl) ?_
            refine lv_iconst (v := nI 1) hx hb dX6_master_62 (by decide) ?_
            refine j_le (tgt := 80) hx hb dX6_master_63 (by decide) (fun c17 => ?_) (fun h => by first | exact absurd h c16 | exact absurd c16 h)
            refine lv_iconst (v := nI 0) hx hb dX6_master_80 (by decide) ?_
            refine lv_istore (lv' := [(5, .int (nI 0)), (4, .int (f_X6_guess x nn mm kk (f_X6_masterPlan x nn mm kk))), (3, .int (oR x 4)), (2, .int (f_X6_masterPlan x nn mm kk)), (0, .ref (ad b)), (1, .int (what))]) hx hb dX6_master_81 hl (by decide) rfl (fun ls hl => ?_)
            refine lv_iload_n hx hb dX6_master_83 rfl (lv_at hl 5 rfl) ?_
            refine lv_if_ne (tgt := 91) hx hb dX6_master_84 (by decide) (fun c18 => ?_) (fun c18 => ?_)
            · refine lv_iload_n hx hb dX6_master_91 rfl (lv_at hl 5 rfl) ?_
              refine lv_iconst (v := nI 1) hx hb dX6_master_92 (by decide) ?_
              refine lv_icmp_ne (tgt := 101) hx hb dX6_master_93 (by decide) (fun c19 => ?_) (fun c19 => ?_)
              · refine lv_iload_n hx hb dX6_master_101 rfl (lv_at hl 5 rfl) ?_
                refine lv_iconst (v := nI 2) hx hb dX6_master_102 (by decide) ?_
                refine lv_icmp_ne (tgt := 110) hx hb dX6_master_103 (by decide) (fun c20 => ?_) (fun h => by first | exact absurd h c2 | exact absurd c2 h)
                refine lv_iload_n hx hb dX6_master_110 rfl (lv_at hl 5 rfl) ?_
                refine lv_iconst (v := nI 3) hx hb dX6_master_111 (by decide) ?_
                refine lv_icmp_ne (tgt := 120) hx hb dX6_master_112 (by decide) (fun c21 => ?_) (fun h => by first | exact absurd h c14 | exact absurd c14 h)
                refine lv_iload hx hb dX6_master_120 (lv_at hl 0 rfl) ?_
                refine lv_iload hx hb dX6_master_122 (lv_at hl 1 rfl) ?_
                refine lv_isub hx hb dX6_master_124 ?_
                exact kr 125 ls _ (Eq.symm (by rw [f_X6_master, if_pos c1, if_neg c2, if_neg c14, if_neg c15, if_neg c16, if_neg c18, if_neg c19] <;> rfl)) dX6_master_125
              · refine lv_iload hx hb dX6_master_96 (lv_at hl 1 rfl) ?_
                refine lv_goto (tgt := 125) hx hb dX6_master_98 (by decide) ?_
                exact kr 125 ls _ (Eq.symm (by rw [f_X6_master, if_pos c1, if_neg c2, if_neg c14, if_neg c15, if_neg c16, if_neg c18, if_pos c19] <;> rfl)) dX6_master_125
            · refine lv_iload_n hx hb dX6_master_87 rfl (lv_at hl 3 rfl) ?_
              refine lv_goto (tgt := 125) hx hb dX6_master_88 (by decide) ?_
              exact kr 125 ls _ (Eq.symm (by rw [f_X6_master, if_pos c1, if_neg c2, if_neg c14, if_neg c15, if_neg c16, if_pos c18] <;> rfl)) dX6_master_125
          · refine lv_iload_n hx hb dX6_master_47 rfl (lv_at hl 0 rfl) ?_
            refine u_ge (tgt := 54) hx hb dX6_master_48 (by decide) (fun c22 => ?_) (fun c22 => ?_)
            · refine lv_aload_n hx hb dX6_master_54 rfl (lv_at hl 2 rfl) ?_
              refine lv_iload_n hx hb dX6_master_55 rfl (lv_at hl 1 rfl) ?_
              refine r_call (As := [.int (f_X6_masterPlan x nn mm kk)]) (rest := []) (ci := 6) X hP (c_X6_guess (nn := nn) (mm := mm) (kk := kk) hp0 (f_X6_masterPlan x nn mm kk) h0 h1 h3 hn hm hk) o_X6_guess rfl hp0.lt hp0.ob m414 ⟨rfl, rfl⟩ ⟨Nat.le_of_ble_eq_true rfl, Nat.le_of_ble_eq_true rfl⟩ rfl hl.1 rfl (Nat.le_of_ble_eq_true rfl) ⟨Nat.zero_le _, Nat.zero_le _⟩ dX6_master_56 ?_
              refine lv_istore (lv' := [(4, .int (f_X6_guess x nn mm kk (f_X6_masterPlan x nn mm kk))), (3, .int (oR x 4)), (2, .int (f_X6_masterPlan x nn mm kk)), (0, .ref (ad b)), (1, .int (what))]) hx hb dX6_master_59 hl (by decide) rfl (fun ls hl => ?_)
              refine lv_iload_n hx hb dX6_master_61 rfl (lv_at hl 4 rfl) ?_
              refine lv_iconst (v := nI 1) hx hb dX6_master_62 (by decide) ?_
              refine j_le (tgt := 80) hx hb dX6_master_63 (by decide) (fun h => by first | exact absurd h c16 | exact absurd c16 h) (fun c23 => ?_)
              refine lv_aload_n hx hb dX6_master_66 rfl (lv_at hl 3 rfl) ?_
              refine lv_iload_n hx hb dX6_master_67 rfl (lv_at hl 1 rfl) ?_
              refine r_call (As := [.int (oR x 4)]) (rest := []) (ci := 6) X hP (c_X6_prices (nn := nn) (mm := mm) (kk := kk) hp0 (oR x 4) h0 h1 h3 hn hm hk) o_X6_prices rfl hp0.lt hp0.ob m426 ⟨rfl, rfl⟩ ⟨Nat.le_of_ble_eq_true rfl, Nat.le_of_ble_eq_true rfl⟩ rfl hl.1 rfl (Nat.le_of_ble_eq_true rfl) ⟨Nat.zero_le _, Nat.zero_le _⟩ dX6_master_68 ?_
              refine lv_aload_n hx hb dX6_master_71 rfl (lv_at hl 3 rfl) ?_
              refine lv_iload_n hx hb dX6_master_72 rfl (lv_at hl 1 rfl) ?_
              refine r_call (As := [.int (oR x 4)]) (rest := [.int (f_X6_prices x nn mm kk (oR x 4))]) (ci := 6) X hP (c_X6_routes (nn := nn) (mm := mm) (kk := kk) hp0 (oR x 4) h0 h1 h3 hn hm hk (hbest c22)) o_X6_routes rfl hp0.lt hp0.ob m434 ⟨rfl, rfl⟩ ⟨Nat.le_of_ble_eq_true rfl, Nat.le_of_ble_eq_true rfl⟩ rfl hl.1 rfl (Nat.le_of_ble_eq_true rfl) ⟨Nat.zero_le _, Nat.zero_le _⟩ dX6_master_73 ?_
              refine lv_iadd hx hb dX6_master_76 ?_
              refine lv_goto (tgt := 81) hx hb dX6_master_77 (by decide) ?_
              refine lv_istore (lv' := [(5, .int ((f_X6_prices x nn mm kk (oR x 4)) + (f_X6_routes x nn mm kk (oR x 4)))), (4, .int (f_X6_guess x nn mm kk (f_X6_masterPlan x nn mm kk))), (3, .int (oR x 4)), (2, .int (f_X6_masterPlan x nn mm kk)), (0, .ref (ad b)), (1, .int (what))]) hx hb dX6_master_81 hl (by decide) rfl (fun ls hl => ?_)
              refine lv_iload_n hx hb dX6_master_83 rfl (lv_at hl 5 rfl) ?_
              refine lv_if_ne (tgt := 91) hx hb dX6_master_84 (by decide) (fun c24 => ?_) (fun c24 => ?_)
              · refine lv_iload_n hx hb dX6_master_91 rfl (lv_at hl 5 rfl) ?_
                refine lv_iconst (v := nI 1) hx hb dX6_master_92 (by decide) ?_
                refine lv_icmp_ne (tgt := 101) hx hb dX6_master_93 (by decide) (fun c25 => ?_) (fun c25 => ?_)
                · refine lv_iload_n hx hb dX6_master_101 rfl (lv_at hl 5 rfl) ?_
                  refine lv_iconst (v := nI 2) hx hb dX6_master_102 (by decide) ?_
                  refine lv_icmp_ne (tgt := 110) hx hb dX6_master_103 (by decide) (fun c26 => ?_) (fun h => by first | exact absurd h c2 | exact absurd c2 h)
                  refine lv_iload_n hx hb dX6_master_110 rfl (lv_at hl 5 rfl) ?_
                  refine lv_iconst (v := nI 3) hx hb dX6_master_111 (by decide) ?_
                  refine lv_icmp_ne (tgt := 120) hx hb dX6_master_112 (by decide) (fun c27 => ?_) (fun h => by first | exact absurd h c14 | exact absurd c14 h)
                  refine lv_iload hx hb dX6_master_120 (lv_at hl 0 rfl) ?_
                  refine lv_iload hx hb dX6_master_122 (lv_at hl 1 rfl) ?_
                  refine lv_isub hx hb dX6_master_124 ?_
                  exact kr 125 ls _ (Eq.symm (by rw [f_X6_master, if_pos c1, if_neg c2, if_neg c14, if_neg c15, if_pos c16, if_neg c22, if_neg c24, if_neg c25] <;> rfl)) dX6_master_125
                · refine lv_iload hx hb dX6_master_96 (lv_at hl 1 rfl) ?_
                  refine lv_goto (tgt := 125) hx hb dX6_master_98 (by decide) ?_
                  exact kr 125 ls _ (Eq.symm (by rw [f_X6_master, if_pos c1, if_neg c2, if_neg c14, if_neg c15, if_pos c16, if_neg c22, if_neg c24, if_pos c25] <;> rfl)) dX6_master_125
              · refine lv_iload_n hx hb dX6_master_87 rfl (lv_at hl 3 rfl) ?_
                refine lv_goto (tgt := 125) hx hb dX6_master_88 (by decide) ?_
                exact kr 125 ls _ (Eq.symm (by rw [f_X6_master, if_pos c1, if_neg c2, if_neg c14, if_neg c15, if_pos c16, if_neg c22, if_pos c24] <;> rfl)) dX6_master_125
            · refine lv_bipush (v := (-5)) hx hb dX6_master_51 (by decide) ?_
              exact kr 53 ls _ (Eq.symm (by rw [f_X6_master, if_pos c1, if_neg c2, if_neg c14, if_neg c15, if_pos c16, if_pos c22] <;> rfl)) dX6_master_53
      · refine lv_iconst (v := nI 0) hx hb dX6_master_22 (by decide) ?_
        refine lv_goto (tgt := 30) hx hb dX6_master_23 (by decide) ?_
        refine lv_istore_n (lv' := [(2, .int (nI 0)), (0, .ref (ad b)), (1, .int (what))]) hx hb dX6_master_30 rfl hl (by decide) rfl (fun ls hl => ?_)
        refine lv_aload_n hx hb dX6_master_31 rfl (lv_at hl 1 rfl) ?_
        refine g_Mo_row X hP hp0 m83 dX6_master_32 ?_
        refine lv_iconst (v := nI 4) hx hb dX6_master_35 (by decide) ?_
        refine l_Mo_row X hP hp0 (by decide) dX6_master_36 ?_
        refine lv_istore_n (lv' := [(3, .int (oR x 4)), (2, .int (nI 0)), (0, .ref (ad b)), (1, .int (what))]) hx hb dX6_master_37 rfl hl (by decide) rfl (fun ls hl => ?_)
        refine lv_iload_n hx hb dX6_master_38 rfl (lv_at hl 1 rfl) ?_
        refine z_lt (tgt := 51) hx hb (by omega) dX6_master_39 (by decide) (fun h => absurd h (by omega)) (fun c28 => ?_)
        refine lv_iload_n hx hb dX6_master_42 rfl (lv_at hl 3 rfl) ?_
        refine lv_iconst (v := nI 1) hx hb dX6_master_43 (by decide) ?_
        refine j_le (tgt := 54) hx hb dX6_master_44 (by decide) (fun c29 => ?_) (fun c29 => ?_)
        · refine lv_aload_n hx hb dX6_master_54 rfl (lv_at hl 2 rfl) ?_
          refine lv_iload_n hx hb dX6_master_55 rfl (lv_at hl 1 rfl) ?_
          refine r_call (As := [.int (nI 0)]) (rest := []) (ci := 6) X hP (c_X6_guess (nn := nn) (mm := mm) (kk := kk) hp0 (nI 0) h0 h1 h3 hn hm hk) o_X6_guess rfl hp0.lt hp0.ob m414 ⟨rfl, rfl⟩ ⟨Nat.le_of_ble_eq_true rfl, Nat.le_of_ble_eq_true rfl⟩ rfl hl.1 rfl (Nat.le_of_ble_eq_true rfl) ⟨Nat.zero_le _, Nat.zero_le _⟩ dX6_master_56 ?_
          refine lv_istore (lv' := [(4, .int (f_X6_guess x nn mm kk (nI 0))), (3, .int (oR x 4)), (2, .int (nI 0)), (0, .ref (ad b)), (1, .int (what))]) hx hb dX6_master_59 hl (by decide) rfl (fun ls hl => ?_)
          refine lv_iload_n hx hb dX6_master_61 rfl (lv_at hl 4 rfl) ?_
          refine lv_iconst (v := nI 1) hx hb dX6_master_62 (by decide) ?_
          refine j_le (tgt := 80) hx hb dX6_master_63 (by decide) (fun c30 => ?_) (fun h => by first | exact absurd h c29 | exact absurd c29 h)
          refine lv_iconst (v := nI 0) hx hb dX6_master_80 (by decide) ?_
          refine lv_istore (lv' := [(5, .int (nI 0)), (4, .int (f_X6_guess x nn mm kk (nI 0))), (3, .int (oR x 4)), (2, .int (nI 0)), (0, .ref (ad b)), (1, .int (what))]) hx hb dX6_master_81 hl (by decide) rfl (fun ls hl => ?_)
          refine lv_iload_n hx hb dX6_master_83 rfl (lv_at hl 5 rfl) ?_
          refine lv_if_ne (tgt := 91) hx hb dX6_master_84 (by decide) (fun c31 => ?_) (fun c31 => ?_)
          · refine lv_iload_n hx hb dX6_master_91 rfl (lv_at hl 5 rfl) ?_
            refine lv_iconst (v := nI 1) hx hb dX6_master_92 (by decide) ?_
            refine lv_icmp_ne (tgt := 101) hx hb dX6_master_93 (by decide) (fun c32 => ?_) (fun c32 => ?_)
            · refine lv_iload_n hx hb dX6_master_101 rfl (lv_at hl 5 rfl) ?_
              refine lv_iconst (v := nI 2) hx hb dX6_master_102 (by decide) ?_
              refine lv_icmp_ne (tgt := 110) hx hb dX6_master_103 (by decide) (fun c33 => ?_) (fun h => by first | exact absurd h c2 | exact absurd c2 h)
              refine lv_iload_n hx hb dX6_master_110 rfl (lv_at hl 5 rfl) ?_
              refine lv_iconst (v := nI 3) hx hb dX6_master_111 (by decide) ?_
              refine lv_icmp_ne (tgt := 120) hx hb dX6_master_112 (by decide) (fun h => by first | exact absurd h c14 | exact absurd c14 h) (fun c34 => ?_)
              refine lv_iload hx hb dX6_master_115 (lv_at hl 0 rfl) ?_
              refine lv_goto (tgt := 125) hx hb dX6_master_117 (by decide) ?_
              exact kr 125 ls _ (Eq.symm (by rw [f_X6_master, if_pos c1, if_neg c2, if_pos c14, if_neg c29, if_neg c31, if_neg c32] <;> rfl)) dX6_master_125
            · refine lv_iload hx hb dX6_master_96 (lv_at hl 1 rfl) ?_
              refine lv_goto (tgt := 125) hx hb dX6_master_98 (by decide) ?_
              exact kr 125 ls _ (Eq.symm (by rw [f_X6_master, if_pos c1, if_neg c2, if_pos c14, if_neg c29, if_neg c31, if_pos c32] <;> rfl)) dX6_master_125
          · refine lv_iload_n hx hb dX6_master_87 rfl (lv_at hl 3 rfl) ?_
            refine lv_goto (tgt := 125) hx hb dX6_master_88 (by decide) ?_
            exact kr 125 ls _ (Eq.symm (by rw [f_X6_master, if_pos c1, if_neg c2, if_pos c14, if_neg c29, if_pos c31] <;> rfl)) dX6_master_125
        · refine lv_iload_n hx hb dX6_master_47 rfl (lv_at hl 0 rfl) ?_
          refine u_ge (tgt := 54) hx hb dX6_master_48 (by decide) (fun c35 => ?_) (fun c35 => ?_)
          · refine lv_aload_n hx hb dX6_master_54 rfl (lv_at hl 2 rfl) ?_
            refine lv_iload_n hx hb dX6_master_55 rfl (lv_at hl 1 rfl) ?_
            refine r_call (As := [.int (nI 0)]) (rest := []) (ci := 6) X hP (c_X6_guess (nn := nn) (mm := mm) (kk := kk) hp0 (nI 0) h0 h1 h3 hn hm hk) o_X6_guess rfl hp0.lt hp0.ob m414 ⟨rfl, rfl⟩ ⟨Nat.le_of_ble_eq_true rfl, Nat.le_of_ble_eq_true rfl⟩ rfl hl.1 rfl (Nat.le_of_ble_eq_true rfl) ⟨Nat.zero_le _, Nat.zero_le _⟩ dX6_master_56 ?_
            refine lv_istore (lv' := [(4, .int (f_X6_guess x nn mm kk (nI 0))), (3, .int (oR x 4)), (2, .int (nI 0)), (0, .ref (ad b)), (1, .int (what))]) hx hb dX6_master_59 hl (by decide) rfl (fun ls hl => ?_)
            refine lv_iload_n hx hb dX6_master_61 rfl (lv_at hl 4 rfl) ?_
            refine lv_iconst (v := nI 1) hx hb dX6_master_62 (by decide) ?_
            refine j_le (tgt := 80) hx hb dX6_master_63 (by decide) (fun h => by first | exact absurd h c29 | exact absurd c29 h) (fun c36 => ?_)
            refine lv_aload_n hx hb dX6_master_66 rfl (lv_at hl 3 rfl) ?_
            refine lv_iload_n hx hb dX6_master_67 rfl (lv_at hl 1 rfl) ?_
            refine r_call (As := [.int (oR x 4)]) (rest := []) (ci := 6) X hP (c_X6_prices (nn := nn) (mm := mm) (kk := kk) hp0 (oR x 4) h0 h1 h3 hn hm hk) o_X6_prices rfl hp0.lt hp0.ob m426 ⟨rfl, rfl⟩ ⟨Nat.le_of_ble_eq_true rfl, Nat.le_of_ble_eq_true rfl⟩ rfl hl.1 rfl (Nat.le_of_ble_eq_true rfl) ⟨Nat.zero_le _, Nat.zero_le _⟩ dX6_master_68 ?_
            refine lv_aload_n hx hb dX6_master_71 rfl (lv_at hl 3 rfl) ?_
            refine lv_iload_n hx hb dX6_master_72 rfl (lv_at hl 1 rfl) ?_
            refine r_call (As := [.int (oR x 4)]) (rest := [.int (f_X6_prices x nn mm kk (oR x 4))]) (ci := 6) X hP (c_X6_routes (nn := nn) (mm := mm) (kk := kk) hp0 (oR x 4) h0 h1 h3 hn hm hk (hbest c35)) o_X6_routes rfl hp0.lt hp0.ob m434 ⟨rfl, rfl⟩ ⟨Nat.le_of_ble_eq_true rfl, Nat.le_of_ble_eq_true rfl⟩ rfl hl.1 rfl (Nat.le_of_ble_eq_true rfl) ⟨Nat.zero_le _, Nat.zero_le _⟩ dX6_master_73 ?_
            refine lv_iadd hx hb dX6_master_76 ?_
            refine lv_goto (tgt := 81) hx hb dX6_master_77 (by decide) ?_
            refine lv_istore (lv' := [(5, .int ((f_X6_prices x nn mm kk (oR x 4)) + (f_X6_routes x nn mm kk (oR x 4)))), (4, .int (f_X6_guess x nn mm kk (nI 0))), (3, .int (oR x 4)), (2, .int (nI 0)), (0, .ref (ad b)), (1, .int (what))]) hx hb dX6_master_81 hl (by decide) rfl (fun ls hl => ?_)
            refine lv_iload_n hx hb dX6_master_83 rfl (lv_at hl 5 rfl) ?_
            refine lv_if_ne (tgt := 91) hx hb dX6_master_84 (by decide) (fun c37 => ?_) (fun c37 => ?_)
            · refine lv_iload_n hx hb dX6_master_91 rfl (lv_at hl 5 rfl) ?_
              refine lv_iconst (v := nI 1) hx hb dX6_master_92 (by decide) ?_
              refine lv_icmp_ne (tgt := 101) hx hb dX6_master_93 (by decide) (fun c38 => ?_) (fun c38 => ?_)
              · refine lv_iload_n hx hb dX6_master_101 rfl (lv_at hl 5 rfl) ?_
                refine lv_iconst (v := nI 2) hx hb dX6_master_102 (by decide) ?_
                refine lv_icmp_ne (tgt := 110) hx hb dX6_master_103 (by decide) (fun c39 => ?_) (fun h => by first | exact absurd h c2 | exact absurd c2 h)
                refine lv_iload_n hx hb dX6_master_110 rfl (lv_at hl 5 rfl) ?_
                refine lv_iconst (v := nI 3) hx hb dX6_master_111 (by decide) ?_
                refine lv_icmp_ne (tgt := 120) hx hb dX6_master_112 (by decide) (fun h => by first | exact absurd h c14 | exact absurd c14 h) (fun c40 => ?_)
                refine lv_iload hx hb dX6_master_115 (lv_at hl 0 rfl) ?_
                refine lv_goto (tgt := 125) hx hb dX6_master_117 (by decide) ?_
                exact kr 125 ls _ (Eq.symm (by rw [f_X6_master, if_pos c1, if_neg c2, if_pos c14, if_pos c29, if_neg c35, if_neg c37, if_neg c38] <;> rfl)) dX6_master_125
              · refine lv_iload hx hb dX6_master_96 (lv_at hl 1 rfl) ?_
                refine lv_goto (tgt := 125) hx hb dX6_master_98 (by decide) ?_
                exact kr 125 ls _ (Eq.symm (by rw [f_X6_master, if_pos c1, if_neg c2, if_pos c14, if_pos c29, if_neg c35, if_neg c37, if_pos c38] <;> rfl)) dX6_master_125
            · refine lv_iload_n hx hb dX6_master_87 rfl (lv_at hl 3 rfl) ?_
              refine lv_goto (tgt := 125) hx hb dX6_master_88 (by decide) ?_
              exact kr 125 ls _ (Eq.symm (by rw [f_X6_master, if_pos c1, if_neg c2, if_pos c14, if_pos c29, if_neg c35, if_pos c37] <;> rfl)) dX6_master_125
          · refine lv_bipush (v := (-5)) hx hb dX6_master_51 (by decide) ?_
            exact kr 53 ls _ (Eq.symm (by rw [f_X6_master, if_pos c1, if_neg c2, if_pos c14, if_pos c29, if_pos c35] <;> rfl)) dX6_master_53
  · refine lv_bipush (v := (-2)) hx hb dX6_master_9 (by decide) ?_
    exact kr 11 ls _ (Eq.symm (by rw [f_X6_master, if_neg (nt c1)] <;> rfl)) dX6_master_11
theorem o_X6_master : okV yX6_master cX6_master 6 (some .int) 1 := ⟨m739, m740, m5, m741, by decide +kernel, by decide +kernel, by decide +kernel⟩
def rmX6_byAll : Room := { frames := 4, cells := 0, slots := 0, locals := 87 }
def l_X6_byAll_23 (x : MoC) (nn : Nat) (mm : Nat) (kk : Nat) (what : Int32) : Nat → Nat → Int32 → Int32 → Nat → Int32 × Int32 × Nat
  | 0, ix_2, a2_2, a3_2, a4_2 => (a2_2, a3_2, a4_2)
  | dx_2 + 1, ix_2, a2_2, a3_2, a4_2 => (if (f_X6_isFeasible x nn mm kk (nI ix_2)) = true then (if a2_2 < 0 then l_X6_byAll_23 x nn mm kk what dx_2 (ix_2 + 1) (nI ix_2) ((f_X6_prices x nn mm kk (nI ix_2)) + (f_X6_routes x nn mm kk (nI ix_2))) (a4_2 + 1) else (if ((f_X6_prices x nn mm kk (nI ix_2)) + (f_X6_routes x nn mm kk (nI ix_2))) < a3_2 then l_X6_byAll_23 x nn mm kk what dx_2 (ix_2 + 1) (nI ix_2) ((f_X6_prices x nn mm kk (nI ix_2)) + (f_X6_routes x nn mm kk (nI ix_2))) (a4_2 + 1) else l_X6_byAll_23 x nn mm kk what dx_2 (ix_2 + 1) a2_2 a3_2 (a4_2 + 1))) else l_X6_byAll_23 x nn mm kk what dx_2 (ix_2 + 1) a2_2 a3_2 a4_2)
def f_X6_byAll (x : MoC) (nn : Nat) (mm : Nat) (kk : Nat) (what : Int32) : Int32 :=
  (if (f_X6_in what (nI 0) (nI 2)) = true then (if what = (nI 2) then nI ((l_X6_byAll_23 x nn mm kk what (2 ^ nn) 0 (-5) (nI 0) 0).2.2) else (if ((l_X6_byAll_23 x nn mm kk what (2 ^ nn) 0 (-5) (nI 0) 0).1) < 0 then (-5) else (if what = 0 then ((l_X6_byAll_23 x nn mm kk what (2 ^ nn) 0 (-5) (nI 0) 0).1) else ((l_X6_byAll_23 x nn mm kk what (2 ^ nn) 0 (-5) (nI 0) 0).2.1)))) else (-2))
set_option maxHeartbeats 4000000 in
set_option maxRecDepth 100000 in
theorem c_X6_byAll {l : Launch} {dd : va_G} {t : CL4} {N : Nat} {ad : Nat → Nat} {V : Nat → va_E} {b : Nat} {x : MoC} {nn : Nat} {mm : Nat} {kk : Nat} (hp0 : MoP N ad V t b x) (what : Int32) (h0 : oR x 0 = nI nn) (h1 : oR x 1 = nI mm) (h3 : oR x 3 = nI kk) (hn : nn ≤ 7) (hm : mm ≤ 8) (hk : kk ≤ 40) : RM l dd t N ad V yX6_byAll cX6_byAll 7 (some .int) rmX6_byAll [.ref (ad b), .int (what)] (f_X6_byAll x nn mm kk what) := by
  refine RM.of (by decide +kernel) ⟨rfl, rfl⟩ (Nat.le_of_ble_eq_true rfl) (narI _) ?_
  intro p e s m as below meth c Q X H hP ls hl kr
  have X : WX p s m as c cX6_byAll 7 RX6 dd t := X
  have hx := X.1.1
  have hb := X.1.2.1
  have hl : lv_has ls 7 [(0, .ref (ad b)), (1, .int (what))] := hl
  have hle0 := hp0.le
  have hpw : 2 ^ nn ≤ 128 := pow7 hn
  refine lv_iload_n hx hb dX6_byAll_0 rfl (lv_at hl 1 rfl) ?_
  refine lv_iconst (v := nI 0) hx hb dX6_byAll_1 (by decide) ?_
  refine lv_iconst (v := nI 2) hx hb dX6_byAll_2 (by decide) ?_
  refine r_callS (As := [.int (what), .int (nI 0), .int (nI 2)]) (rest := []) X hP (c_X6_in what (nI 0) (nI 2)) o_X6_in m139 ⟨rfl, rfl⟩ ⟨Nat.le_of_ble_eq_true rfl, Nat.le_of_ble_eq_true rfl⟩ rfl hl.1 rfl (Nat.le_of_ble_eq_true rfl) ⟨Nat.zero_le _, Nat.zero_le _⟩ dX6_byAll_3 ?_
  refine q_neB (tgt := 12) hx hb dX6_byAll_6 (by decide) (fun c1 => ?_) (fun c1 => ?_)
  · refine lv_bipush (v := (-5)) hx hb dX6_byAll_12 (by decide) ?_
    refine lv_istore_n (lv' := [(2, .int ((-5))), (0, .ref (ad b)), (1, .int (what))]) hx hb dX6_byAll_14 rfl hl (by decide) rfl (fun ls hl => ?_)
    refine lv_iconst (v := nI 0) hx hb dX6_byAll_15 (by decide) ?_
    refine lv_istore_n (lv' := [(3, .int (nI 0)), (2, .int ((-5))), (0, .ref (ad b)), (1, .int (what))]) hx hb dX6_byAll_16 rfl hl (by decide) rfl (fun ls hl => ?_)
    refine lv_iconst (v := nI 0) hx hb dX6_byAll_17 (by decide) ?_
    refine lv_istore (lv' := [(4, .int (nI 0)), (3, .int (nI 0)), (2, .int ((-5))), (0, .ref (ad b)), (1, .int (what))]) hx hb dX6_byAll_18 hl (by decide) rfl (fun ls hl => ?_)
    refine lv_iconst (v := nI 0) hx hb dX6_byAll_20 (by decide) ?_
    refine lv_istore (lv' := [(5, .int (nI 0)), (4, .int (nI 0)), (3, .int (nI 0)), (2, .int ((-5))), (0, .ref (ad b)), (1, .int (what))]) hx hb dX6_byAll_21 hl (by decide) rfl (fun ls hl => ?_)
    have L2 : ∀ (dx_2 ix_2 : Nat) (a2_2 : Int32) (a3_2 : Int32) (a4_2 : Nat) (ls : Array Slot), (ix_2 + dx_2 = 2 ^ nn) → (l_X6_byAll_23 x nn mm kk what dx_2 ix_2 a2_2 a3_2 a4_2 = l_X6_byAll_23 x nn mm kk what (2 ^ nn) 0 (-5) (nI 0) 0) → (lv_has ls 7 [(0, .ref (ad b)), (1, .int (what)), (2, .int (a2_2)), (3, .int (a3_2)), (4, .int (nI a4_2)), (5, .int (nI ix_2))]) → W p l e rmX6_byAll s m as below meth c H [] 0 0 Q (F0 m 23 ls []) := by
      intro dx_2
      induction dx_2 with
      | zero =>
        intro ix_2 a2_2 a3_2 a4_2 ls hid hvx_2 hl
        have hiN : 2 ^ nn = ix_2 := by omega
        subst hiN
        have hvx_2 : (a2_2, a3_2, a4_2) = l_X6_byAll_23 x nn mm kk what (2 ^ nn) 0 (-5) (nI 0) 0 := hvx_2
        have hh0 : a2_2 = (l_X6_byAll_23 x nn mm kk what (2 ^ nn) 0 (-5) (nI 0) 0).1 := congrArg (fun q => (q).1) hvx_2
        have hh1 : a3_2 = (l_X6_byAll_23 x nn mm kk what (2 ^ nn) 0 (-5) (nI 0) 0).2.1 := congrArg (fun q => (q).2.1) hvx_2
        have hh2 : a4_2 = (l_X6_byAll_23 x nn mm kk what (2 ^ nn) 0 (-5) (nI 0) 0).2.2 := congrArg (fun q => (q).2.2) hvx_2
        subst hh0
        subst hh1
        subst hh2
        refine lv_iload hx hb dX6_byAll_23 (lv_at hl 5 rfl) ?_
        refine lv_iconst (v := nI 1) hx hb dX6_byAll_25 (by decide) ?_
        refine lv_aload_n hx hb dX6_byAll_26 rfl (lv_at hl 0 rfl) ?_
        refine g_Mo_row X hP hp0 m83 dX6_byAll_27 ?_
        refine lv_iconst (v := nI 0) hx hb dX6_byAll_30 (by decide) ?_
        refine l_Mo_row X hP hp0 (by decide) dX6_byAll_31 ?_
        refine q_val (h0 : oR x 0 = nI nn) ?_
        refine q_ishl hx hb (by omega) dX6_byAll_32 ?_
        refine q_ge (tgt := 85) hx hb (by omega) (by omega) dX6_byAll_33 (by decide) (fun c3 => ?_) (fun h => absurd h (by omega))
        refine lv_iload_n hx hb dX6_byAll_85 rfl (lv_at hl 1 rfl) ?_
        refine lv_iconst (v := nI 2) hx hb dX6_byAll_86 (by decide) ?_
        refine lv_icmp_ne (tgt := 95) hx hb dX6_byAll_87 (by decide) (fun c4 => ?_) (fun c4 => ?_)
        · refine lv_iload_n hx hb dX6_byAll_95 rfl (lv_at hl 2 rfl) ?_
          refine u_ge (tgt := 104) hx hb dX6_byAll_96 (by decide) (fun c5 => ?_) (fun c5 => ?_)
          · refine lv_iload_n hx hb dX6_byAll_104 rfl (lv_at hl 1 rfl) ?_
            refine lv_if_ne (tgt := 112) hx hb dX6_byAll_105 (by decide) (fun c6 => ?_) (fun c6 => ?_)
            · refine lv_iload_n hx hb dX6_byAll_112 rfl (lv_at hl 3 rfl) ?_
              exact kr 113 ls _ (Eq.symm (by rw [f_X6_byAll, if_pos c1, if_neg c4, if_neg c5, if_neg c6] <;> rfl)) dX6_byAll_113
            · refine lv_iload_n hx hb dX6_byAll_108 rfl (lv_at hl 2 rfl) ?_
              refine lv_goto (tgt := 113) hx hb dX6_byAll_109 (by decide) ?_
              exact kr 113 ls _ (Eq.symm (by rw [f_X6_byAll, if_pos c1, if_neg c4, if_neg c5, if_pos c6] <;> rfl)) dX6_byAll_113
          · refine lv_bipush (v := (-5)) hx hb dX6_byAll_99 (by decide) ?_
            refine lv_goto (tgt := 113) hx hb dX6_byAll_101 (by decide) ?_
            exact kr 113 ls _ (Eq.symm (by rw [f_X6_byAll, if_pos c1, if_neg c4, if_pos c5] <;> rfl)) dX6_byAll_113
        · refine lv_iload hx hb dX6_byAll_90 (lv_at hl 4 rfl) ?_
          refine lv_goto (tgt := 113) hx hb dX6_byAll_92 (by decide) ?_
          exact kr 113 ls _ (Eq.symm (by rw [f_X6_byAll, if_pos c1, if_pos c4] <;> rfl)) dX6_byAll_113
      | succ dx_2 ihx_2 =>
        intro ix_2 a2_2 a3_2 a4_2 ls hid hvx_2 hl
        refine lv_iload hx hb dX6_byAll_23 (lv_at hl 5 rfl) ?_
        refine lv_iconst (v := nI 1) hx hb dX6_byAll_25 (by decide) ?_
        refine lv_aload_n hx hb dX6_byAll_26 rfl (lv_at hl 0 rfl) ?_
        refine g_Mo_row X hP hp0 m83 dX6_byAll_27 ?_
        refine lv_iconst (v := nI 0) hx hb dX6_byAll_30 (by decide) ?_
        refine l_Mo_row X hP hp0 (by decide) dX6_byAll_31 ?_
        refine q_val (h0 : oR x 0 = nI nn) ?_
        refine q_ishl hx hb (by omega) dX6_byAll_32 ?_
        refine q_ge (tgt := 85) hx hb (by omega) (by omega) dX6_byAll_33 (by decide) (fun h => absurd h (by omega)) (fun c7 => ?_)
        refine lv_aload_n hx hb dX6_byAll_36 rfl (lv_at hl 0 rfl) ?_
        refine lv_iload hx hb dX6_byAll_37 (lv_at hl 5 rfl) ?_
        refine r_call (As := [.int (nI ix_2)]) (rest := []) (ci := 6) X hP (c_X6_isFeasible (nn := nn) (mm := mm) (kk := kk) hp0 (nI ix_2) h0 h1 h3 hn hm hk) o_X6_isFeasible rfl hp0.lt hp0.ob m693 ⟨rfl, rfl⟩ ⟨Nat.le_of_ble_eq_true rfl, Nat.le_of_ble_eq_true rfl⟩ rfl hl.1 rfl (Nat.le_of_ble_eq_true rfl) ⟨Nat.zero_le _, Nat.zero_le _⟩ dX6_byAll_39 ?_
        refine q_eqB (tgt := 79) hx hb dX6_byAll_42 (by decide) (fun c8 => ?_) (fun c8 => ?_)
        · refine lv_iinc (v := nI (ix_2 + 1)) (lv' := [(5, .int (nI (ix_2 + 1))), (0, .ref (ad b)), (1, .int (what)), (2, .int (a2_2)), (3, .int (a3_2)), (4, .int (nI a4_2))]) hx hb dX6_byAll_79 hl (k := 5) rfl (nI_inc _) (by decide) rfl (fun ls hl => ?_)
          refine lv_goto (tgt := 23) hx hb dX6_byAll_82 (by decide) ?_
          exact ihx_2 (ix_2 + 1) a2_2 a3_2 a4_2 ls (by omega) (Eq.trans (Eq.symm (by rw [l_X6_byAll_23, if_neg (nt c8)] <;> rfl)) hvx_2) (lv_sub hl [1, 2, 3, 4, 5, 0] rfl)
        · refine lv_aload_n hx hb dX6_byAll_45 rfl (lv_at hl 0 rfl) ?_
          refine lv_iload hx hb dX6_byAll_46 (lv_at hl 5 rfl) ?_
          refine r_call (As := [.int (nI ix_2)]) (rest := []) (ci := 6) X hP (c_X6_prices (nn := nn) (mm := mm) (kk := kk) hp0 (nI ix_2) h0 h1 h3 hn hm hk) o_X6_prices rfl hp0.lt hp0.ob m426 ⟨rfl, rfl⟩ ⟨Nat.le_of_ble_eq_true rfl, Nat.le_of_ble_eq_true rfl⟩ rfl hl.1 rfl (Nat.le_of_ble_eq_true rfl) ⟨Nat.zero_le _, Nat.zero_le _⟩ dX6_byAll_48 ?_
          refine lv_aload_n hx hb dX6_byAll_51 rfl (lv_at hl 0 rfl) ?_
          refine lv_iload hx hb dX6_byAll_52 (lv_at hl 5 rfl) ?_
          refine r_call (As := [.int (nI ix_2)]) (rest := [.int (f_X6_prices x nn mm kk (nI ix_2))]) (ci := 6) X hP (c_X6_routes (nn := nn) (mm := mm) (kk := kk) hp0 (nI ix_2) h0 h1 h3 hn hm hk (missed_server hn hm (feas_missed c8))) o_X6_routes rfl hp0.lt hp0.ob m434 ⟨rfl, rfl⟩ ⟨Nat.le_of_ble_eq_true rfl, Nat.le_of_ble_eq_true rfl⟩ rfl hl.1 rfl (Nat.le_of_ble_eq_true rfl) ⟨Nat.zero_le _, Nat.zero_le _⟩ dX6_byAll_54 ?_
          refine lv_iadd hx hb dX6_byAll_57 ?_
          refine lv_istore (lv' := [(6, .int ((f_X6_prices x nn mm kk (nI ix_2)) + (f_X6_routes x nn mm kk (nI ix_2)))), (0, .ref (ad b)), (1, .int (what)), (2, .int (a2_2)), (3, .int (a3_2)), (4, .int (nI a4_2)), (5, .int (nI ix_2))]) hx hb dX6_byAll_58 hl (by decide) rfl (fun ls hl => ?_)
          refine lv_iload_n hx hb dX6_byAll_60 rfl (lv_at hl 3 rfl) ?_
          refine u_lt (tgt := 70) hx hb dX6_byAll_61 (by decide) (fun c9 => ?_) (fun c9 => ?_)
          · refine lv_iload hx hb dX6_byAll_70 (lv_at hl 6 rfl) ?_
            refine lv_istore_n (lv' := [(2, .int (nI ix_2)), (6, .int ((f_X6_prices x nn mm kk (nI ix_2)) + (f_X6_routes x nn mm kk (nI ix_2)))), (0, .ref (ad b)), (1, .int (what)), (3, .int (a3_2)), (4, .int (nI a4_2)), (5, .int (nI ix_2))]) hx hb dX6_byAll_72 rfl hl (by decide) rfl (fun ls hl => ?_)
            refine lv_iload hx hb dX6_byAll_73 (lv_at hl 1 rfl) ?_
            refine lv_istore_n (lv' := [(3, .int ((f_X6_prices x nn mm kk (nI ix_2)) + (f_X6_routes x nn mm kk (nI ix_2)))), (2, .int (nI ix_2)), (6, .int ((f_X6_prices x nn mm kk (nI ix_2)) + (f_X6_routes x nn mm kk (nI ix_2)))), (0, .ref (ad b)), (1, .int (what)), (4, .int (nI a4_2)), (5, .int (nI ix_2))]) hx hb dX6_byAll_75 rfl hl (by decide) rfl (fun ls hl => ?_)
            refine lv_iinc (v := nI (a4_2 + 1)) (lv' := [(4, .int (nI (a4_2 + 1))), (3, .int ((f_X6_prices x nn mm kk (nI ix_2)) + (f_X6_routes x nn mm kk (nI ix_2)))), (2, .int (nI ix_2)), (6, .int ((f_X6_prices x nn mm kk (nI ix_2)) + (f_X6_routes x nn mm kk (nI ix_2)))), (0, .ref (ad b)), (1, .int (what)), (5, .int (nI ix_2))]) hx hb dX6_byAll_76 hl (k := 5) rfl (nI_inc _) (by decide) rfl (fun ls hl => ?_)
            refine lv_iinc (v := nI (ix_2 + 1)) (lv' := [(5, .int (nI (ix_2 + 1))), (4, .int (nI (a4_2 + 1))), (3, .int ((f_X6_prices x nn mm kk (nI ix_2)) + (f_X6_routes x nn mm kk (nI ix_2)))), (2, .int (nI ix_2)), (6, .int ((f_X6_prices x nn mm kk (nI ix_2)) + (f_X6_routes x nn mm kk (nI ix_2)))), (0, .ref (ad b)), (1, .int (what))]) hx hb dX6_byAll_79 hl (k := 6) rfl (nI_inc _) (by decide) rfl (fun ls hl => ?_)
            refine lv_goto (tgt := 23) hx hb dX6_byAll_82 (by decide) ?_
            exact ihx_2 (ix_2 + 1) (nI ix_2) ((f_X6_prices x nn mm kk (nI ix_2)) + (f_X6_routes x nn mm kk (nI ix_2))) (a4_2 + 1) ls (by omega) (Eq.trans (Eq.symm (by rw [l_X6_byAll_23, if_pos c8, if_pos c9] <;> rfl)) hvx_2) (lv_sub hl [5, 6, 3, 2, 1, 0] rfl)
          · refine lv_iload hx hb dX6_byAll_64 (lv_at hl 0 rfl) ?_
            refine lv_iload_n hx hb dX6_byAll_66 rfl (lv_at hl 4 rfl) ?_
            refine j_ge (tgt := 76) hx hb dX6_byAll_67 (by decide) (fun c10 => ?_) (fun c10 => ?_)
            · refine lv_iinc (v := nI (a4_2 + 1)) (lv' := [(4, .int (nI (a4_2 + 1))), (6, .int ((f_X6_prices x nn mm kk (nI ix_2)) + (f_X6_routes x nn mm kk (nI ix_2)))), (0, .ref (ad b)), (1, .int (what)), (2, .int (a2_2)), (3, .int (a3_2)), (5, .int (nI ix_2))]) hx hb dX6_byAll_76 hl (k := 5) rfl (nI_inc _) (by decide) rfl (fun ls hl => ?_)
              refine lv_iinc (v := nI (ix_2 + 1)) (lv' := [(5, .int (nI (ix_2 + 1))), (4, .int (nI (a4_2 + 1))), (6, .int ((f_X6_prices x nn mm kk (nI ix_2)) + (f_X6_routes x nn mm kk (nI ix_2)))), (0, .ref (ad b)), (1, .int (what)), (2, .int (a2_2)), (3, .int (a3_2))]) hx hb dX6_byAll_79 hl (k := 6) rfl (nI_inc _) (by decide) rfl (fun ls hl => ?_)
              refine lv_goto (tgt := 23) hx hb dX6_byAll_82 (by decide) ?_
              exact ihx_2 (ix_2 + 1) a2_2 a3_2 (a4_2 + 1) ls (by omega) (Eq.trans (Eq.symm (by rw [l_X6_byAll_23, if_pos c8, if_neg c9, if_neg c10] <;> rfl)) hvx_2) (lv_sub hl [3, 4, 5, 6, 1, 0] rfl)
            · refine lv_iload hx hb dX6_byAll_70 (lv_at hl 6 rfl) ?_
              refine lv_istore_n (lv' := [(2, .int (nI ix_2)), (6, .int ((f_X6_prices x nn mm kk (nI ix_2)) + (f_X6_routes x nn mm kk (nI ix_2)))), (0, .ref (ad b)), (1, .int (what)), (3, .int (a3_2)), (4, .int (nI a4_2)), (5, .int (nI ix_2))]) hx hb dX6_byAll_72 rfl hl (by decide) rfl (fun ls hl => ?_)
              refine lv_iload hx hb dX6_byAll_73 (lv_at hl 1 rfl) ?_
              refine lv_istore_n (lv' := [(3, .int ((f_X6_prices x nn mm kk (nI ix_2)) + (f_X6_routes x nn mm kk (nI ix_2)))), (2, .int (nI ix_2)), (6, .int ((f_X6_prices x nn mm kk (nI ix_2)) + (f_X6_routes x nn mm kk (nI ix_2)))), (0, .ref (ad b)), (1, .int (what)), (4, .int (nI a4_2)), (5, .int (nI ix_2))]) hx hb dX6_byAll_75 rfl hl (by decide) rfl (fun ls hl => ?_)
              refine lv_iinc (v := nI (a4_2 + 1)) (lv' := [(4, .int (nI (a4_2 + 1))), (3, .int ((f_X6_prices x nn mm kk (nI ix_2)) + (f_X6_routes x nn mm kk (nI ix_2)))), (2, .int (nI ix_2)), (6, .int ((f_X6_prices x nn mm kk (nI ix_2)) + (f_X6_routes x nn mm kk (nI ix_2)))), (0, .ref (ad b)), (1, .int (what)), (5, .int (nI ix_2))]) hx hb dX6_byAll_76 hl (k := 5) rfl (nI_inc _) (by decide) rfl (fun ls hl => ?_)
              refine lv_iinc (v := nI (ix_2 + 1)) (lv' := [(5, .int (nI (ix_2 + 1))), (4, .int (nI (a4_2 + 1))), (3, .int ((f_X6_prices x nn mm kk (nI ix_2)) + (f_X6_routes x nn mm kk (nI ix_2)))), (2, .int (nI ix_2)), (6, .int ((f_X6_prices x nn mm kk (nI ix_2)) + (f_X6_routes x nn mm kk (nI ix_2)))), (0, .ref (ad b)), (1, .int (what))]) hx hb dX6_byAll_79 hl (k := 6) rfl (nI_inc _) (by decide) rfl (fun ls hl => ?_)
              refine lv_goto (tgt := 23) hx hb dX6_byAll_82 (by decide) ?_
              exact ihx_2 (ix_2 + 1) (nI ix_2) ((f_X6_prices x nn mm kk (nI ix_2)) + (f_X6_routes x nn mm kk (nI ix_2))) (a4_2 + 1) ls (by omega) (Eq.trans (Eq.symm (by rw [l_X6_byAll_23, if_pos c8, if_neg c9, if_pos c10] <;> rfl)) hvx_2) (lv_sub hl [5, 6, 3, 2, 1, 0] rfl)
    exact L2 (2 ^ nn) 0 (-5) (nI 0) 0 ls (by omega) rfl (lv_sub hl [4, 5, 3, 2, 1, 0] rfl)
  · refine lv_bipush (v := (-2)) hx hb dX6_byAll_9 (by decide) ?_
    exact kr 11 ls _ (Eq.symm (by rw [f_X6_byAll, if_neg (nt c1)] <;> rfl)) dX6_byAll_11
theorem o_X6_byAll : okV yX6_byAll cX6_byAll 7 (some .int) 1 := ⟨m757, m758, m5, m759, by decide +kernel, by decide +kernel, by decide +kernel⟩
def rmX6_rays : Room := { frames := 1, cells := 0, slots := 0, locals := 21 }
def l_X6_rays_4 (x : MoC) (nn : Nat) (mm : Nat) (kk : Nat) : Nat → Nat → Nat → Nat
  | 0, ix_1, a1_1 => a1_1
  | dx_1 + 1, ix_1, a1_1 => (if (f_X6_isRay x nn mm kk ix_1) = true then l_X6_rays_4 x nn mm kk dx_1 (ix_1 + 1) (a1_1 + 1) else l_X6_rays_4 x nn mm kk dx_1 (ix_1 + 1) a1_1)
def f_X6_rays (x : MoC) (nn : Nat) (mm : Nat) (kk : Nat) : Int32 :=
  nI (l_X6_rays_4 x nn mm kk kk 0 0)
set_option maxHeartbeats 4000000 in
set_option maxRecDepth 100000 in
theorem c_X6_rays {l : Launch} {dd : va_G} {t : CL4} {N : Nat} {ad : Nat → Nat} {V : Nat → va_E} {b : Nat} {x : MoC} {nn : Nat} {mm : Nat} {kk : Nat} (hp0 : MoP N ad V t b x)  (h0 : oR x 0 = nI nn) (h1 : oR x 1 = nI mm) (h3 : oR x 3 = nI kk) (hn : nn ≤ 7) (hm : mm ≤ 8) (hk : kk ≤ 40) : RM l dd t N ad V yX6_rays cX6_rays 3 (some .int) rmX6_rays [.ref (ad b)] (f_X6_rays x nn mm kk) := by
  refine RM.of (by decide +kernel) ⟨rfl, rfl⟩ (Nat.le_of_ble_eq_true rfl) (narI _) ?_
  intro p e s m as below meth c Q X H hP ls hl kr
  have X : WX p s m as c cX6_rays 3 RX6 dd t := X
  have hx := X.1.1
  have hb := X.1.2.1
  have hl : lv_has ls 3 [(0, .ref (ad b))] := hl
  have hle0 := hp0.le
  refine lv_iconst (v := nI 0) hx hb dX6_rays_0 (by decide) ?_
  refine lv_istore_n (lv' := [(1, .int (nI 0)), (0, .ref (ad b))]) hx hb dX6_rays_1 rfl hl (by decide) rfl (fun ls hl => ?_)
  refine lv_iconst (v := nI 0) hx hb dX6_rays_2 (by decide) ?_
  refine lv_istore_n (lv' := [(2, .int (nI 0)), (1, .int (nI 0)), (0, .ref (ad b))]) hx hb dX6_rays_3 rfl hl (by decide) rfl (fun ls hl => ?_)
  have L1 : ∀ (dx_1 ix_1 : Nat) (a1_1 : Nat) (ls : Array Slot), (ix_1 + dx_1 = kk) → (l_X6_rays_4 x nn mm kk dx_1 ix_1 a1_1 = l_X6_rays_4 x nn mm kk kk 0 0) → (lv_has ls 3 [(0, .ref (ad b)), (1, .int (nI a1_1)), (2, .int (nI ix_1))]) → W p l e rmX6_rays s m as below meth c H [] 0 0 Q (F0 m 4 ls []) := by
    intro dx_1
    induction dx_1 with
    | zero =>
      intro ix_1 a1_1 ls hid hvx_1 hl
      have hiN : kk = ix_1 := by omega
      subst hiN
      have hvx_1 : a1_1 = l_X6_rays_4 x nn mm kk kk 0 0 := hvx_1
      have hh0 : a1_1 = l_X6_rays_4 x nn mm kk kk 0 0 := hvx_1
      subst hh0
      refine lv_iload_n hx hb dX6_rays_4 rfl (lv_at hl 2 rfl) ?_
      refine lv_aload_n hx hb dX6_rays_5 rfl (lv_at hl 0 rfl) ?_
      refine g_Mo_row X hP hp0 m83 dX6_rays_6 ?_
      refine lv_iconst (v := nI 3) hx hb dX6_rays_9 (by decide) ?_
      refine l_Mo_row X hP hp0 (by decide) dX6_rays_10 ?_
      refine q_val (h3 : oR x 3 = nI kk) ?_
      refine q_ge (tgt := 36) hx hb (by omega) (by omega) dX6_rays_11 (by decide) (fun c2 => ?_) (fun h => absurd h (by omega))
      refine lv_iload_n hx hb dX6_rays_36 rfl (lv_at hl 1 rfl) ?_
      exact kr 37 ls _ (Eq.symm (by rw [f_X6_rays] <;> rfl)) dX6_rays_37
    | succ dx_1 ihx_1 =>
      intro ix_1 a1_1 ls hid hvx_1 hl
      refine lv_iload_n hx hb dX6_rays_4 rfl (lv_at hl 2 rfl) ?_
      refine lv_aload_n hx hb dX6_rays_5 rfl (lv_at hl 0 rfl) ?_
      refine g_Mo_row X hP hp0 m83 dX6_rays_6 ?_
      refine lv_iconst (v := nI 3) hx hb dX6_rays_9 (by decide) ?_
      refine l_Mo_row X hP hp0 (by decide) dX6_rays_10 ?_
      refine q_val (h3 : oR x 3 = nI kk) ?_
      refine q_ge (tgt := 36) hx hb (by omega) (by omega) dX6_rays_11 (by decide) (fun h => absurd h (by omega)) (fun c3 => ?_)
      refine lv_iload_n hx hb dX6_rays_14 rfl (lv_at hl 1 rfl) ?_
      refine lv_aload_n hx hb dX6_rays_15 rfl (lv_at hl 0 rfl) ?_
      refine lv_iload_n hx hb dX6_rays_16 rfl (lv_at hl 2 rfl) ?_
      refine r_call (As := [.int (nI ix_1)]) (rest := [.int (nI a1_1)]) (ci := 6) X hP (c_X6_isRay (nn := nn) (mm := mm) (kk := kk) hp0 ix_1 h0 h1 h3 hn hm hk (by omega)) o_X6_isRay rfl hp0.lt hp0.ob m402 ⟨rfl, rfl⟩ ⟨Nat.le_of_ble_eq_true rfl, Nat.le_of_ble_eq_true rfl⟩ rfl hl.1 rfl (Nat.le_of_ble_eq_true rfl) ⟨Nat.zero_le _, Nat.zero_le _⟩ dX6_rays_17 ?_
      refine q_eqB (tgt := 27) hx hb dX6_rays_20 (by decide) (fun c4 => ?_) (fun c4 => ?_)
      · refine lv_iconst (v := nI 0) hx hb dX6_rays_27 (by decide) ?_
        refine q_iadd hx hb dX6_rays_28 ?_
        refine W.eq (g2 := F0 m 29 ls [.int (nI a1_1)]) rfl ?_
        refine lv_istore_n (lv' := [(1, .int (nI a1_1)), (0, .ref (ad b)), (2, .int (nI ix_1))]) hx hb dX6_rays_29 rfl hl (by decide) rfl (fun ls hl => ?_)
        refine lv_iinc (v := nI (ix_1 + 1)) (lv' := [(2, .int (nI (ix_1 + 1))), (1, .int (nI a1_1)), (0, .ref (ad b))]) hx hb dX6_rays_30 hl (k := 2) rfl (nI_inc _) (by decide) rfl (fun ls hl => ?_)
        refine lv_goto (tgt := 4) hx hb dX6_rays_33 (by decide) ?_
        exact ihx_1 (ix_1 + 1) a1_1 ls (by omega) (Eq.trans (Eq.symm (by rw [l_X6_rays_4, if_neg (nt c4)] <;> rfl)) hvx_1) (lv_sub hl [2, 1, 0] rfl)
      · refine lv_iconst (v := nI 1) hx hb dX6_rays_23 (by decide) ?_
        refine lv_goto (tgt := 28) hx hb dX6_rays_24 (by decide) ?_
        refine q_iadd hx hb dX6_rays_28 ?_
        refine lv_istore_n (lv' := [(1, .int (nI (a1_1 + 1))), (0, .ref (ad b)), (2, .int (nI ix_1))]) hx hb dX6_rays_29 rfl hl (by decide) rfl (fun ls hl => ?_)
        refine lv_iinc (v := nI (ix_1 + 1)) (lv' := [(2, .int (nI (ix_1 + 1))), (1, .int (nI (a1_1 + 1))), (0, .ref (ad b))]) hx hb dX6_rays_30 hl (k := 2) rfl (nI_inc _) (by decide) rfl (fun ls hl => ?_)
        refine lv_goto (tgt := 4) hx hb dX6_rays_33 (by decide) ?_
        exact ihx_1 (ix_1 + 1) (a1_1 + 1) ls (by omega) (Eq.trans (Eq.symm (by rw [l_X6_rays_4, if_pos c4] <;> rfl)) hvx_1) (lv_sub hl [2, 1, 0] rfl)
  exact L1 kk 0 0 ls (by omega) rfl (lv_sub hl [2, 1, 0] rfl)
theorem o_X6_rays : okV yX6_rays cX6_rays 3 (some .int) 0 := ⟨m791, m792, m5, m793, by decide +kernel, by decide +kernel, by decide +kernel⟩
def rmX6_pairs : Room := { frames := 1, cells := 0, slots := 0, locals := 22 }
def l_X6_pairs_4 (x : MoC) (nn : Nat) (mm : Nat) (kk : Nat) : Nat → Nat → Int32 → Int32
  | 0, ix_1, a1_1 => a1_1
  | dx_1 + 1, ix_1, a1_1 => l_X6_pairs_4 x nn mm kk dx_1 (ix_1 + 1) (a1_1 + (f_X6_many (oR x (77 + ix_1))))
def f_X6_pairs (x : MoC) (nn : Nat) (mm : Nat) (kk : Nat) : Int32 :=
  (l_X6_pairs_4 x nn mm kk nn 0 (nI 0)) / (nI 2)
set_option maxHeartbeats 4000000 in
set_option maxRecDepth 100000 in
theorem c_X6_pairs {l : Launch} {dd : va_G} {t : CL4} {N : Nat} {ad : Nat → Nat} {V : Nat → va_E} {b : Nat} {x : MoC} {nn : Nat} {mm : Nat} {kk : Nat} (hp0 : MoP N ad V t b x)  (h0 : oR x 0 = nI nn) (h1 : oR x 1 = nI mm) (h3 : oR x 3 = nI kk) (hn : nn ≤ 7) (hm : mm ≤ 8) (hk : kk ≤ 40) : RM l dd t N ad V yX6_pairs cX6_pairs 3 (some .int) rmX6_pairs [.ref (ad b)] (f_X6_pairs x nn mm kk) := by
  refine RM.of (by decide +kernel) ⟨rfl, rfl⟩ (Nat.le_of_ble_eq_true rfl) (narI _) ?_
  intro p e s m as below meth c Q X H hP ls hl kr
  have X : WX p s m as c cX6_pairs 3 RX6 dd t := X
  have hx := X.1.1
  have hb := X.1.2.1
  have hl : lv_has ls 3 [(0, .ref (ad b))] := hl
  have hle0 := hp0.le
  refine lv_iconst (v := nI 0) hx hb dX6_pairs_0 (by decide) ?_
  refine lv_istore_n (lv' := [(1, .int (nI 0)), (0, .ref (ad b))]) hx hb dX6_pairs_1 rfl hl (by decide) rfl (fun ls hl => ?_)
  refine lv_iconst (v := nI 0) hx hb dX6_pairs_2 (by decide) ?_
  refine lv_istore_n (lv' := [(2, .int (nI 0)), (1, .int (nI 0)), (0, .ref (ad b))]) hx hb dX6_pairs_3 rfl hl (by decide) rfl (fun ls hl => ?_)
  have L1 : ∀ (dx_1 ix_1 : Nat) (a1_1 : Int32) (ls : Array Slot), (ix_1 + dx_1 = nn) → (l_X6_pairs_4 x nn mm kk dx_1 ix_1 a1_1 = l_X6_pairs_4 x nn mm kk nn 0 (nI 0)) → (lv_has ls 3 [(0, .ref (ad b)), (1, .int (a1_1)), (2, .int (nI ix_1))]) → W p l e rmX6_pairs s m as below meth c H [] 0 0 Q (F0 m 4 ls []) := by
    intro dx_1
    induction dx_1 with
    | zero =>
      intro ix_1 a1_1 ls hid hvx_1 hl
      have hiN : nn = ix_1 := by omega
      subst hiN
      have hvx_1 : a1_1 = l_X6_pairs_4 x nn mm kk nn 0 (nI 0) := hvx_1
      have hh0 : a1_1 = l_X6_pairs_4 x nn mm kk nn 0 (nI 0) := hvx_1
      subst hh0
      refine lv_iload_n hx hb dX6_pairs_4 rfl (lv_at hl 2 rfl) ?_
      refine lv_aload_n hx hb dX6_pairs_5 rfl (lv_at hl 0 rfl) ?_
      refine g_Mo_row X hP hp0 m83 dX6_pairs_6 ?_
      refine lv_iconst (v := nI 0) hx hb dX6_pairs_9 (by decide) ?_
      refine l_Mo_row X hP hp0 (by decide) dX6_pairs_10 ?_
      refine q_val (h0 : oR x 0 = nI nn) ?_
      refine q_ge (tgt := 35) hx hb (by omega) (by omega) dX6_pairs_11 (by decide) (fun c2 => ?_) (fun h => absurd h (by omega))
      refine lv_iload_n hx hb dX6_pairs_35 rfl (lv_at hl 1 rfl) ?_
      refine lv_iconst (v := nI 2) hx hb dX6_pairs_36 (by decide) ?_
      refine lv_idiv hx hb dX6_pairs_37 (by decide) ?_
      exact kr 38 ls _ (Eq.symm (by rw [f_X6_pairs] <;> rfl)) dX6_pairs_38
    | succ dx_1 ihx_1 =>
      intro ix_1 a1_1 ls hid hvx_1 hl
      refine lv_iload_n hx hb dX6_pairs_4 rfl (lv_at hl 2 rfl) ?_
      refine lv_aload_n hx hb dX6_pairs_5 rfl (lv_at hl 0 rfl) ?_
      refine g_Mo_row X hP hp0 m83 dX6_pairs_6 ?_
      refine lv_iconst (v := nI 0) hx hb dX6_pairs_9 (by decide) ?_
      refine l_Mo_row X hP hp0 (by decide) dX6_pairs_10 ?_
      refine q_val (h0 : oR x 0 = nI nn) ?_
      refine q_ge (tgt := 35) hx hb (by omega) (by omega) dX6_pairs_11 (by decide) (fun h => absurd h (by omega)) (fun c3 => ?_)
      refine lv_iload_n hx hb dX6_pairs_14 rfl (lv_at hl 1 rfl) ?_
      refine lv_aload_n hx hb dX6_pairs_15 rfl (lv_at hl 0 rfl) ?_
      refine g_Mo_row X hP hp0 m83 dX6_pairs_16 ?_
      refine lv_bipush (v := nI 77) hx hb dX6_pairs_19 (by decide) ?_
      refine lv_iload_n hx hb dX6_pairs_21 rfl (lv_at hl 2 rfl) ?_
      refine q_iadd hx hb dX6_pairs_22 ?_
      refine l_Mo_row X hP hp0 (by omega) dX6_pairs_23 ?_
      refine r_callS (As := [.int (oR x (77 + ix_1))]) (rest := [.int (a1_1)]) X hP (c_X6_many (oR x (77 + ix_1))) o_X6_many m264 ⟨rfl, rfl⟩ ⟨Nat.le_of_ble_eq_true rfl, Nat.le_of_ble_eq_true rfl⟩ rfl hl.1 rfl (Nat.le_of_ble_eq_true rfl) ⟨Nat.zero_le _, Nat.zero_le _⟩ dX6_pairs_24 ?_
      refine lv_iadd hx hb dX6_pairs_27 ?_
      refine lv_istore_n (lv' := [(1, .int (a1_1 + (f_X6_many (oR x (77 + ix_1))))), (0, .ref (ad b)), (2, .int (nI ix_1))]) hx hb dX6_pairs_28 rfl hl (by decide) rfl (fun ls hl => ?_)
      refine lv_iinc (v := nI (ix_1 + 1)) (lv' := [(2, .int (nI (ix_1 + 1))), (1, .int (a1_1 + (f_X6_many (oR x (77 + ix_1))))), (0, .ref (ad b))]) hx hb dX6_pairs_29 hl (k := 2) rfl (nI_inc _) (by decide) rfl (fun ls hl => ?_)
      refine lv_goto (tgt := 4) hx hb dX6_pairs_32 (by decide) ?_
      exact ihx_1 (ix_1 + 1) (a1_1 + (f_X6_many (oR x (77 + ix_1)))) ls (by omega) (Eq.trans (Eq.symm (by rw [l_X6_pairs_4] <;> rfl)) hvx_1) (lv_sub hl [2, 1, 0] rfl)
  exact L1 nn 0 (nI 0) ls (by omega) rfl (lv_sub hl [2, 1, 0] rfl)
theorem o_X6_pairs : okV yX6_pairs cX6_pairs 3 (some .int) 0 := ⟨m787, m788, m5, m789, by decide +kernel, by decide +kernel, by decide +kernel⟩
def rmX6_allRoutes : Room := { frames := 0, cells := 0, slots := 0, locals := 0 }
def l_X6_allRoutes_4 (x : MoC) (nn : Nat) (mm : Nat) (kk : Nat) : Nat → Nat → Nat → Nat
  | 0, ix_1, a1_1 => a1_1
  | dx_1 + 1, ix_1, a1_1 => (if (oR x (21 + ix_1)) < (nI 100) then l_X6_allRoutes_4 x nn mm kk dx_1 (ix_1 + 1) (a1_1 + 1) else l_X6_allRoutes_4 x nn mm kk dx_1 (ix_1 + 1) a1_1)
def f_X6_allRoutes (x : MoC) (nn : Nat) (mm : Nat) (kk : Nat) : Int32 :=
  nI (l_X6_allRoutes_4 x nn mm kk 56 0 0)
set_option maxHeartbeats 4000000 in
set_option maxRecDepth 100000 in
theorem c_X6_allRoutes {l : Launch} {dd : va_G} {t : CL4} {N : Nat} {ad : Nat → Nat} {V : Nat → va_E} {b : Nat} {x : MoC} {nn : Nat} {mm : Nat} {kk : Nat} (hp0 : MoP N ad V t b x)  (h0 : oR x 0 = nI nn) (h1 : oR x 1 = nI mm) (h3 : oR x 3 = nI kk) (hn : nn ≤ 7) (hm : mm ≤ 8) (hk : kk ≤ 40) : RM l dd t N ad V yX6_allRoutes cX6_allRoutes 3 (some .int) rmX6_allRoutes [.ref (ad b)] (f_X6_allRoutes x nn mm kk) := by
  refine RM.of (by decide +kernel) ⟨rfl, rfl⟩ (Nat.le_of_ble_eq_true rfl) (narI _) ?_
  intro p e s m as below meth c Q X H hP ls hl kr
  have X : WX p s m as c cX6_allRoutes 3 RX6 dd t := X
  have hx := X.1.1
  have hb := X.1.2.1
  have hl : lv_has ls 3 [(0, .ref (ad b))] := hl
  have hle0 := hp0.le
  refine lv_iconst (v := nI 0) hx hb dX6_allRoutes_0 (by decide) ?_
  refine lv_istore_n (lv' := [(1, .int (nI 0)), (0, .ref (ad b))]) hx hb dX6_allRoutes_1 rfl hl (by decide) rfl (fun ls hl => ?_)
  refine lv_iconst (v := nI 0) hx hb dX6_allRoutes_2 (by decide) ?_
  refine lv_istore_n (lv' := [(2, .int (nI 0)), (1, .int (nI 0)), (0, .ref (ad b))]) hx hb dX6_allRoutes_3 rfl hl (by decide) rfl (fun ls hl => ?_)
  have L1 : ∀ (dx_1 ix_1 : Nat) (a1_1 : Nat) (ls : Array Slot), (ix_1 + dx_1 = 56) → (l_X6_allRoutes_4 x nn mm kk dx_1 ix_1 a1_1 = l_X6_allRoutes_4 x nn mm kk 56 0 0) → (lv_has ls 3 [(0, .ref (ad b)), (1, .int (nI a1_1)), (2, .int (nI ix_1))]) → W p l e rmX6_allRoutes s m as below meth c H [] 0 0 Q (F0 m 4 ls []) := by
    intro dx_1
    induction dx_1 with
    | zero =>
      intro ix_1 a1_1 ls hid hvx_1 hl
      have hiN : 56 = ix_1 := by omega
      subst hiN
      have hvx_1 : a1_1 = l_X6_allRoutes_4 x nn mm kk 56 0 0 := hvx_1
      have hh0 : a1_1 = l_X6_allRoutes_4 x nn mm kk 56 0 0 := hvx_1
      subst hh0
      refine lv_iload_n hx hb dX6_allRoutes_4 rfl (lv_at hl 2 rfl) ?_
      refine lv_bipush (v := nI 56) hx hb dX6_allRoutes_5 (by decide) ?_
      refine q_ge (tgt := 38) hx hb (by omega) (by omega) dX6_allRoutes_7 (by decide) (fun c2 => ?_) (fun h => absurd h (by omega))
      refine lv_iload_n hx hb dX6_allRoutes_38 rfl (lv_at hl 1 rfl) ?_
      exact kr 39 ls _ (Eq.symm (by rw [f_X6_allRoutes] <;> rfl)) dX6_allRoutes_39
    | succ dx_1 ihx_1 =>
      intro ix_1 a1_1 ls hid hvx_1 hl
      refine lv_iload_n hx hb dX6_allRoutes_4 rfl (lv_at hl 2 rfl) ?_
      refine lv_bipush (v := nI 56) hx hb dX6_allRoutes_5 (by decide) ?_
      refine q_ge (tgt := 38) hx hb (by omega) (by omega) dX6_allRoutes_7 (by decide) (fun h => absurd h (by omega)) (fun c3 => ?_)
      refine lv_iload_n hx hb dX6_allRoutes_10 rfl (lv_at hl 1 rfl) ?_
      refine lv_aload_n hx hb dX6_allRoutes_11 rfl (lv_at hl 0 rfl) ?_
      refine g_Mo_row X hP hp0 m83 dX6_allRoutes_12 ?_
      refine lv_bipush (v := nI 21) hx hb dX6_allRoutes_15 (by decide) ?_
      refine lv_iload_n hx hb dX6_allRoutes_17 rfl (lv_at hl 2 rfl) ?_
      refine q_iadd hx hb dX6_allRoutes_18 ?_
      refine l_Mo_row X hP hp0 (by omega) dX6_allRoutes_19 ?_
      refine lv_bipush (v := nI 100) hx hb dX6_allRoutes_20 (by decide) ?_
      refine j_ge (tgt := 29) hx hb dX6_allRoutes_22 (by decide) (fun c4 => ?_) (fun c4 => ?_)
      · refine lv_iconst (v := nI 0) hx hb dX6_allRoutes_29 (by decide) ?_
        refine q_iadd hx hb dX6_allRoutes_30 ?_
        refine W.eq (g2 := F0 m 31 ls [.int (nI a1_1)]) rfl ?_
        refine lv_istore_n (lv' := [(1, .int (nI a1_1)), (0, .ref (ad b)), (2, .int (nI ix_1))]) hx hb dX6_allRoutes_31 rfl hl (by decide) rfl (fun ls hl => ?_)
        refine lv_iinc (v := nI (ix_1 + 1)) (lv' := [(2, .int (nI (ix_1 + 1))), (1, .int (nI a1_1)), (0, .ref (ad b))]) hx hb dX6_allRoutes_32 hl (k := 2) rfl (nI_inc _) (by decide) rfl (fun ls hl => ?_)
        refine lv_goto (tgt := 4) hx hb dX6_allRoutes_35 (by decide) ?_
        exact ihx_1 (ix_1 + 1) a1_1 ls (by omega) (Eq.trans (Eq.symm (by rw [l_X6_allRoutes_4, if_neg c4] <;> rfl)) hvx_1) (lv_sub hl [2, 1, 0] rfl)
      · refine lv_iconst (v := nI 1) hx hb dX6_allRoutes_25 (by decide) ?_
        refine lv_goto (tgt := 30) hx hb dX6_allRoutes_26 (by decide) ?_
        refine q_iadd hx hb dX6_allRoutes_30 ?_
        refine lv_istore_n (lv' := [(1, .int (nI (a1_1 + 1))), (0, .ref (ad b)), (2, .int (nI ix_1))]) hx hb dX6_allRoutes_31 rfl hl (by decide) rfl (fun ls hl => ?_)
        refine lv_iinc (v := nI (ix_1 + 1)) (lv' := [(2, .int (nI (ix_1 + 1))), (1, .int (nI (a1_1 + 1))), (0, .ref (ad b))]) hx hb dX6_allRoutes_32 hl (k := 2) rfl (nI_inc _) (by decide) rfl (fun ls hl => ?_)
        refine lv_goto (tgt := 4) hx hb dX6_allRoutes_35 (by decide) ?_
        exact ihx_1 (ix_1 + 1) (a1_1 + 1) ls (by omega) (Eq.trans (Eq.symm (by rw [l_X6_allRoutes_4, if_pos c4] <;> rfl)) hvx_1) (lv_sub hl [2, 1, 0] rfl)
  exact L1 56 0 0 ls (by omega) rfl (lv_sub hl [2, 1, 0] rfl)
theorem o_X6_allRoutes : okV yX6_allRoutes cX6_allRoutes 3 (some .int) 0 := ⟨m783, m784, m5, m785, by decide +kernel, by decide +kernel, by decide +kernel⟩
def rmX6_count : Room := { frames := 2, cells := 0, slots := 0, locals := 44 }
def f_X6_count (x : MoC) (nn : Nat) (mm : Nat) (kk : Nat) (what : Int32) : Int32 :=
  (if what = 0 then nI nn else (if what = (nI 1) then nI mm else (if what = (nI 2) then f_X6_allRoutes x nn mm kk else (if what = (nI 3) then oR x 2 else (if what = (nI 4) then f_X6_pairs x nn mm kk else (if what = (nI 5) then nI kk else (if what = (nI 6) then f_X6_rays x nn mm kk else (if what = (nI 7) then oR x 5 else (if what = (nI 8) then nI (oS x) else (if what = (nI 9) then nI (oL x) else (-2)))))))))))
set_option maxHeartbeats 4000000 in
set_option maxRecDepth 100000 in
theorem c_X6_count {l : Launch} {dd : va_G} {t : CL4} {N : Nat} {ad : Nat → Nat} {V : Nat → va_E} {b : Nat} {x : MoC} {nn : Nat} {mm : Nat} {kk : Nat} (hp0 : MoP N ad V t b x) (what : Int32) (h0 : oR x 0 = nI nn) (h1 : oR x 1 = nI mm) (h3 : oR x 3 = nI kk) (hn : nn ≤ 7) (hm : mm ≤ 8) (hk : kk ≤ 40) : RM l dd t N ad V yX6_count cX6_count 2 (some .int) rmX6_count [.ref (ad b), .int (what)] (f_X6_count x nn mm kk what) := by
  refine RM.of (by decide +kernel) ⟨rfl, rfl⟩ (Nat.le_of_ble_eq_true rfl) (narI _) ?_
  intro p e s m as below meth c Q X H hP ls hl kr
  have X : WX p s m as c cX6_count 2 RX6 dd t := X
  have hx := X.1.1
  have hb := X.1.2.1
  have hl : lv_has ls 2 [(0, .ref (ad b)), (1, .int (what))] := hl
  have hle0 := hp0.le
  refine lv_iload_n hx hb dX6_count_0 rfl (lv_at hl 1 rfl) ?_
  by_cases c1 : what = 0
  · refine lv_tableIn (tgt := 56) hx hb dX6_count_1 (by rw [c1]; decide) (by rw [c1]; decide) (by rw [c1]; rfl) (by decide) ?_
    refine lv_aload_n hx hb dX6_count_56 rfl (lv_at hl 0 rfl) ?_
    refine g_Mo_row X hP hp0 m83 dX6_count_57 ?_
    refine lv_iconst (v := nI 0) hx hb dX6_count_60 (by decide) ?_
    refine l_Mo_row X hP hp0 (by decide) dX6_count_61 ?_
    refine q_val (h0 : oR x 0 = nI nn) ?_
    exact kr 62 ls _ (Eq.symm (by rw [f_X6_count, if_pos c1] <;> rfl)) dX6_count_62
  · by_cases c2 : what = (nI 1)
    · refine lv_tableIn (tgt := 63) hx hb dX6_count_1 (by rw [c2]; decide) (by rw [c2]; decide) (by rw [c2]; rfl) (by decide) ?_
      refine lv_aload_n hx hb dX6_count_63 rfl (lv_at hl 0 rfl) ?_
      refine g_Mo_row X hP hp0 m83 dX6_count_64 ?_
      refine lv_iconst (v := nI 1) hx hb dX6_count_67 (by decide) ?_
      refine l_Mo_row X hP hp0 (by decide) dX6_count_68 ?_
      refine q_val (h1 : oR x 1 = nI mm) ?_
      exact kr 69 ls _ (Eq.symm (by rw [f_X6_count, if_neg c1, if_pos c2] <;> rfl)) dX6_count_69
    · by_cases c3 : what = (nI 2)
      · refine lv_tableIn (tgt := 70) hx hb dX6_count_1 (by rw [c3]; decide) (by rw [c3]; decide) (by rw [c3]; rfl) (by decide) ?_
        refine lv_aload_n hx hb dX6_count_70 rfl (lv_at hl 0 rfl) ?_
        refine r_call (As := []) (rest := []) (ci := 6) X hP (c_X6_allRoutes (nn := nn) (mm := mm) (kk := kk) hp0 h0 h1 h3 hn hm hk) o_X6_allRoutes rfl hp0.lt hp0.ob m782 ⟨rfl, rfl⟩ ⟨Nat.le_of_ble_eq_true rfl, Nat.le_of_ble_eq_true rfl⟩ rfl hl.1 rfl (Nat.le_of_ble_eq_true rfl) ⟨Nat.zero_le _, Nat.zero_le _⟩ dX6_count_71 ?_
        exact kr 74 ls _ (Eq.symm (by rw [f_X6_count, if_neg c1, if_neg c2, if_pos c3] <;> rfl)) dX6_count_74
      · by_cases c4 : what = (nI 3)
        · refine lv_tableIn (tgt := 75) hx hb dX6_count_1 (by rw [c4]; decide) (by rw [c4]; decide) (by rw [c4]; rfl) (by decide) ?_
          refine lv_aload_n hx hb dX6_count_75 rfl (lv_at hl 0 rfl) ?_
          refine g_Mo_row X hP hp0 m83 dX6_count_76 ?_
          refine lv_iconst (v := nI 2) hx hb dX6_count_79 (by decide) ?_
          refine l_Mo_row X hP hp0 (by decide) dX6_count_80 ?_
          exact kr 81 ls _ (Eq.symm (by rw [f_X6_count, if_neg c1, if_neg c2, if_neg c3, if_pos c4] <;> rfl)) dX6_count_81
        · by_cases c5 : what = (nI 4)
          · refine lv_tableIn (tgt := 82) hx hb dX6_count_1 (by rw [c5]; decide) (by rw [c5]; decide) (by rw [c5]; rfl) (by decide) ?_
            refine lv_aload_n hx hb dX6_count_82 rfl (lv_at hl 0 rfl) ?_
            refine r_call (As := []) (rest := []) (ci := 6) X hP (c_X6_pairs (nn := nn) (mm := mm) (kk := kk) hp0 h0 h1 h3 hn hm hk) o_X6_pairs rfl hp0.lt hp0.ob m786 ⟨rfl, rfl⟩ ⟨Nat.le_of_ble_eq_true rfl, Nat.le_of_ble_eq_true rfl⟩ rfl hl.1 rfl (Nat.le_of_ble_eq_true rfl) ⟨Nat.zero_le _, Nat.zero_le _⟩ dX6_count_83 ?_
            exact kr 86 ls _ (Eq.symm (by rw [f_X6_count, if_neg c1, if_neg c2, if_neg c3, if_neg c4, if_pos c5] <;> rfl)) dX6_count_86
          · by_cases c6 : what = (nI 5)
            · refine lv_tableIn (tgt := 87) hx hb dX6_count_1 (by rw [c6]; decide) (by rw [c6]; decide) (by rw [c6]; rfl) (by decide) ?_
              refine lv_aload_n hx hb dX6_count_87 rfl (lv_at hl 0 rfl) ?_
              refine g_Mo_row X hP hp0 m83 dX6_count_88 ?_
              refine lv_iconst (v := nI 3) hx hb dX6_count_91 (by decide) ?_
              refine l_Mo_row X hP hp0 (by decide) dX6_count_92 ?_
              refine q_val (h3 : oR x 3 = nI kk) ?_
              exact kr 93 ls _ (Eq.symm (by rw [f_X6_count, if_neg c1, if_neg c2, if_neg c3, if_neg c4, if_neg c5, if_pos c6] <;> rfl)) dX6_count_93
            · by_cases c7 : what = (nI 6)
              · refine lv_tableIn (tgt := 94) hx hb dX6_count_1 (by rw [c7]; decide) (by rw [c7]; decide) (by rw [c7]; rfl) (by decide) ?_
                refine lv_aload_n hx hb dX6_count_94 rfl (lv_at hl 0 rfl) ?_
                refine r_call (As := []) (rest := []) (ci := 6) X hP (c_X6_rays (nn := nn) (mm := mm) (kk := kk) hp0 h0 h1 h3 hn hm hk) o_X6_rays rfl hp0.lt hp0.ob m790 ⟨rfl, rfl⟩ ⟨Nat.le_of_ble_eq_true rfl, Nat.le_of_ble_eq_true rfl⟩ rfl hl.1 rfl (Nat.le_of_ble_eq_true rfl) ⟨Nat.zero_le _, Nat.zero_le _⟩ dX6_count_95 ?_
                exact kr 98 ls _ (Eq.symm (by rw [f_X6_count, if_neg c1, if_neg c2, if_neg c3, if_neg c4, if_neg c5, if_neg c6, if_pos c7] <;> rfl)) dX6_count_98
              · by_cases c8 : what = (nI 7)
                · refine lv_tableIn (tgt := 99) hx hb dX6_count_1 (by rw [c8]; decide) (by rw [c8]; decide) (by rw [c8]; rfl) (by decide) ?_
                  refine lv_aload_n hx hb dX6_count_99 rfl (lv_at hl 0 rfl) ?_
                  refine g_Mo_row X hP hp0 m83 dX6_count_100 ?_
                  refine lv_iconst (v := nI 5) hx hb dX6_count_103 (by decide) ?_
                  refine l_Mo_row X hP hp0 (by decide) dX6_count_104 ?_
                  exact kr 105 ls _ (Eq.symm (by rw [f_X6_count, if_neg c1, if_neg c2, if_neg c3, if_neg c4, if_neg c5, if_neg c6, if_neg c7, if_pos c8] <;> rfl)) dX6_count_105
                · by_cases c9 : what = (nI 8)
                  · refine lv_tableIn (tgt := 106) hx hb dX6_count_1 (by rw [c9]; decide) (by rw [c9]; decide) (by rw [c9]; rfl) (by decide) ?_
                    refine lv_aload_n hx hb dX6_count_106 rfl (lv_at hl 0 rfl) ?_
                    refine g_Mo_states X hP hp0 m154 dX6_count_107 ?_
                    exact kr 110 ls _ (Eq.symm (by rw [f_X6_count, if_neg c1, if_neg c2, if_neg c3, if_neg c4, if_neg c5, if_neg c6, if_neg c7, if_neg c8, if_pos c9] <;> rfl)) dX6_count_110
                  · by_cases c10 : what = (nI 9)
                    · refine lv_tableIn (tgt := 111) hx hb dX6_count_1 (by rw [c10]; decide) (by rw [c10]; decide) (by rw [c10]; rfl) (by decide) ?_
                      refine lv_aload_n hx hb dX6_count_111 rfl (lv_at hl 0 rfl) ?_
                      refine g_Mo_length X hP hp0 m490 dX6_count_112 ?_
                      exact kr 115 ls _ (Eq.symm (by rw [f_X6_count, if_neg c1, if_neg c2, if_neg c3, if_neg c4, if_neg c5, if_neg c6, if_neg c7, if_neg c8, if_neg c9, if_pos c10] <;> rfl)) dX6_count_115
                    · refine lv_tableOut (tgt := 116) hx hb dX6_count_1 (sw_out9 c1 c2 c3 c4 c5 c6 c7 c8 c9 c10) (by decide) ?_
                      refine lv_bipush (v := (-2)) hx hb dX6_count_116 (by decide) ?_
                      exact kr 118 ls _ (Eq.symm (by rw [f_X6_count, if_neg c1, if_neg c2, if_neg c3, if_neg c4, if_neg c5, if_neg c6, if_neg c7, if_neg c8, if_neg c9, if_neg c10] <;> rfl)) dX6_count_118
theorem o_X6_count : okV yX6_count cX6_count 2 (some .int) 1 := ⟨m779, m780, m5, m781, by decide +kernel, by decide +kernel, by decide +kernel⟩
