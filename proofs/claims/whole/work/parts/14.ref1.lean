/-! readers of the reference, up to server -/
abbrev tn (v : Int32) : Nat := v.toNatClampNeg
theorem nI_inv {k n : Nat} (h : k < n) (hn : n < 2 ^ 31) : nI k = nI (tn (nI k)) ∧ tn (nI k) < n := by
  have e : tn (nI k) = k := nI_clamp (by omega)
  rw [e]
  exact ⟨rfl, h⟩
theorem or_n {a : Int32} {P : Prop} (h : a < 0 ∨ P) (c : ¬ a < 0) : P := h.resolve_left c
theorem rng {v : Int32} {n : Nat} (h0 : ¬ v < 0) (h1 : v < nI n) (hn : n < 2 ^ 31) : v = nI (tn v) ∧ tn v < n := by
  obtain ⟨j, hj, rfl⟩ := nI_of h0
  rw [nI_ltI hj hn] at h1
  exact nI_inv h1 hn
theorem isSite_n {x : PlC} {v : Int32} (h : f_X3_isSite x v = true) (hn : pN x < 2 ^ 31) : v = nI (tn v) ∧ tn v < pN x := by
  unfold f_X3_isSite at h
  by_cases c1 : v < 0
  · simp [c1] at h
  · by_cases c2 : v < nI (pN x)
    · exact rng c1 c2 hn
    · simp [c1, c2] at h
theorem isCust_n {x : PlC} {v : Int32} (h : f_X3_isCustomer x v = true) (hn : pM x < 2 ^ 31) : v = nI (tn v) ∧ tn v < pM x := by
  unfold f_X3_isCustomer at h
  by_cases c1 : v < 0
  · simp [c1] at h
  · by_cases c2 : v < nI (pM x)
    · exact rng c1 c2 hn
    · simp [c1, c2] at h
theorem isCut_n {x : CuC} {v : Int32} (h : f_X1_isCut x v = true) (hn : kA x < 2 ^ 31) : v = nI (tn v) ∧ tn v < kA x := by
  unfold f_X1_isCut at h
  by_cases c1 : v < 0
  · simp [c1] at h
  · by_cases c2 : v < nI (kA x)
    · exact rng c1 c2 hn
    · simp [c1, c2] at h

def rmX6_in : Room := { frames := 0, cells := 0, slots := 0, locals := 0 }
def f_X6_in (v : Int32) (least : Int32) (most : Int32) : Bool :=
  (if v < least then false else (if most < v then false else true))
set_option maxHeartbeats 4000000 in
set_option maxRecDepth 100000 in
theorem c_X6_in {l : Launch} {dd : va_G} {t : CL4} {N : Nat} {ad : Nat → Nat} {V : Nat → va_E}     (v : Int32) (least : Int32) (most : Int32)  : RM l dd t N ad V yX6_in cX6_in 3 (some .boolean) rmX6_in [.int (v), .int (least), .int (most)] (b01 (f_X6_in v least most)) := by
  refine RM.of (by decide +kernel) ⟨rfl, rfl⟩ (Nat.le_of_ble_eq_true rfl) (narB _) ?_
  intro p e s m as below meth c Q X H hP ls hl kr
  have X : WX p s m as c cX6_in 3 RX6 dd t := X
  have hx := X.1.1
  have hb := X.1.2.1
  have hl : lv_has ls 3 [(0, .int (v)), (1, .int (least)), (2, .int (most))] := hl
  refine lv_iload_n hx hb dX6_in_0 rfl (lv_at hl 0 rfl) ?_
  refine lv_iload_n hx hb dX6_in_1 rfl (lv_at hl 1 rfl) ?_
  refine j_lt (tgt := 14) hx hb dX6_in_2 (by decide) (fun c1 => ?_) (fun c1 => ?_)
  · refine lv_iconst (v := nI 0) hx hb dX6_in_14 (by decide) ?_
    exact kr 15 ls _ (b_f (by rw [f_X6_in, if_pos c1] <;> rfl)) dX6_in_15
  · refine lv_iload_n hx hb dX6_in_5 rfl (lv_at hl 0 rfl) ?_
    refine lv_iload_n hx hb dX6_in_6 rfl (lv_at hl 2 rfl) ?_
    refine j_gt (tgt := 14) hx hb dX6_in_7 (by decide) (fun c2 => ?_) (fun c2 => ?_)
    · refine lv_iconst (v := nI 0) hx hb dX6_in_14 (by decide) ?_
      exact kr 15 ls _ (b_f (by rw [f_X6_in, if_neg c1, if_pos c2] <;> rfl)) dX6_in_15
    · refine lv_iconst (v := nI 1) hx hb dX6_in_10 (by decide) ?_
      refine lv_goto (tgt := 15) hx hb dX6_in_11 (by decide) ?_
      exact kr 15 ls _ (b_t (by rw [f_X6_in, if_neg c1, if_neg c2] <;> rfl)) dX6_in_15
theorem o_X6_in : okS yX6_in cX6_in 3 (some .boolean) 3 := ⟨m140, m5, m141, by decide +kernel, by decide +kernel, by decide +kernel⟩
def rmX6_isIn : Room := { frames := 0, cells := 0, slots := 0, locals := 0 }
def f_X6_isIn (set : Int32) (bit : Int32) : Bool :=
  (if ((set >>> (bit &&& 31)) &&& (nI 1)) = (nI 1) then true else false)
set_option maxHeartbeats 4000000 in
set_option maxRecDepth 100000 in
theorem c_X6_isIn {l : Launch} {dd : va_G} {t : CL4} {N : Nat} {ad : Nat → Nat} {V : Nat → va_E}     (set : Int32) (bit : Int32)  : RM l dd t N ad V yX6_isIn cX6_isIn 2 (some .boolean) rmX6_isIn [.int (set), .int (bit)] (b01 (f_X6_isIn set bit)) := by
  refine RM.of (by decide +kernel) ⟨rfl, rfl⟩ (Nat.le_of_ble_eq_true rfl) (narB _) ?_
  intro p e s m as below meth c Q X H hP ls hl kr
  have X : WX p s m as c cX6_isIn 2 RX6 dd t := X
  have hx := X.1.1
  have hb := X.1.2.1
  have hl : lv_has ls 2 [(0, .int (set)), (1, .int (bit))] := hl
  refine lv_iload_n hx hb dX6_isIn_0 rfl (lv_at hl 0 rfl) ?_
  refine lv_iload_n hx hb dX6_isIn_1 rfl (lv_at hl 1 rfl) ?_
  refine lv_ishr hx hb dX6_isIn_2 ?_
  refine lv_iconst (v := nI 1) hx hb dX6_isIn_3 (by decide) ?_
  refine lv_iand hx hb dX6_isIn_4 ?_
  refine lv_iconst (v := nI 1) hx hb dX6_isIn_5 (by decide) ?_
  refine lv_icmp_ne (tgt := 13) hx hb dX6_isIn_6 (by decide) (fun c1 => ?_) (fun c1 => ?_)
  · refine lv_iconst (v := nI 0) hx hb dX6_isIn_13 (by decide) ?_
    exact kr 14 ls _ (b_f (by rw [f_X6_isIn, if_neg c1] <;> rfl)) dX6_isIn_14
  · refine lv_iconst (v := nI 1) hx hb dX6_isIn_9 (by decide) ?_
    refine lv_goto (tgt := 14) hx hb dX6_isIn_10 (by decide) ?_
    exact kr 14 ls _ (b_t (by rw [f_X6_isIn, if_pos c1] <;> rfl)) dX6_isIn_14
theorem o_X6_isIn : okS yX6_isIn cX6_isIn 2 (some .boolean) 2 := ⟨m262, m5, m263, by decide +kernel, by decide +kernel, by decide +kernel⟩
def rmX6_many : Room := { frames := 0, cells := 0, slots := 0, locals := 0 }
def l_X6_many_4 (set : Int32) : Nat → Nat → Int32 → Int32
  | 0, ix_1, a1_1 => a1_1
  | dx_1 + 1, ix_1, a1_1 => l_X6_many_4 set dx_1 (ix_1 + 1) (a1_1 + ((set >>> (nI ix_1 &&& 31)) &&& (nI 1)))
def f_X6_many (set : Int32) : Int32 :=
  (l_X6_many_4 set 7 0 (nI 0))
set_option maxHeartbeats 4000000 in
set_option maxRecDepth 100000 in
theorem c_X6_many {l : Launch} {dd : va_G} {t : CL4} {N : Nat} {ad : Nat → Nat} {V : Nat → va_E}     (set : Int32)  : RM l dd t N ad V yX6_many cX6_many 3 (some .int) rmX6_many [.int (set)] (f_X6_many set) := by
  refine RM.of (by decide +kernel) ⟨rfl, rfl⟩ (Nat.le_of_ble_eq_true rfl) (narI _) ?_
  intro p e s m as below meth c Q X H hP ls hl kr
  have X : WX p s m as c cX6_many 3 RX6 dd t := X
  have hx := X.1.1
  have hb := X.1.2.1
  have hl : lv_has ls 3 [(0, .int (set))] := hl
  refine lv_iconst (v := nI 0) hx hb dX6_many_0 (by decide) ?_
  refine lv_istore_n (lv' := [(1, .int (nI 0)), (0, .int (set))]) hx hb dX6_many_1 rfl hl (by decide) rfl (fun ls hl => ?_)
  refine lv_iconst (v := nI 0) hx hb dX6_many_2 (by decide) ?_
  refine lv_istore_n (lv' := [(2, .int (nI 0)), (1, .int (nI 0)), (0, .int (set))]) hx hb dX6_many_3 rfl hl (by decide) rfl (fun ls hl => ?_)
  have L1 : ∀ (dx_1 ix_1 : Nat) (a1_1 : Int32) (ls : Array Slot), (ix_1 + dx_1 = 7) → (l_X6_many_4 set dx_1 ix_1 a1_1 = l_X6_many_4 set 7 0 (nI 0)) → (lv_has ls 3 [(0, .int (set)), (1, .int (a1_1)), (2, .int (nI ix_1))]) → W p l e rmX6_many s m as below meth c H [] 0 0 Q (F0 m 4 ls []) := by
    intro dx_1
    induction dx_1 with
    | zero =>
      intro ix_1 a1_1 ls hid hvx_1 hl
      have hiN : 7 = ix_1 := by omega
      subst hiN
      have hvx_1 : a1_1 = l_X6_many_4 set 7 0 (nI 0) := hvx_1
      have hh0 : a1_1 = l_X6_many_4 set 7 0 (nI 0) := hvx_1
      subst hh0
      refine lv_iload_n hx hb dX6_many_4 rfl (lv_at hl 2 rfl) ?_
      refine lv_bipush (v := nI 7) hx hb dX6_many_5 (by decide) ?_
      refine q_ge (tgt := 24) hx hb (by omega) (by omega) dX6_many_7 (by decide) (fun c2 => ?_) (fun h => absurd h (by omega))
      refine lv_iload_n hx hb dX6_many_24 rfl (lv_at hl 1 rfl) ?_
      exact kr 25 ls _ (Eq.symm (by rw [f_X6_many] <;> rfl)) dX6_many_25
    | succ dx_1 ihx_1 =>
      intro ix_1 a1_1 ls hid hvx_1 hl
      refine lv_iload_n hx hb dX6_many_4 rfl (lv_at hl 2 rfl) ?_
      refine lv_bipush (v := nI 7) hx hb dX6_many_5 (by decide) ?_
      refine q_ge (tgt := 24) hx hb (by omega) (by omega) dX6_many_7 (by decide) (fun h => absurd h (by omega)) (fun c3 => ?_)
      refine lv_iload_n hx hb dX6_many_10 rfl (lv_at hl 1 rfl) ?_
      refine lv_iload_n hx hb dX6_many_11 rfl (lv_at hl 0 rfl) ?_
      refine lv_iload_n hx hb dX6_many_12 rfl (lv_at hl 2 rfl) ?_
      refine lv_ishr hx hb dX6_many_13 ?_
      refine lv_iconst (v := nI 1) hx hb dX6_many_14 (by decide) ?_
      refine lv_iand hx hb dX6_many_15 ?_
      refine lv_iadd hx hb dX6_many_16 ?_
      refine lv_istore_n (lv' := [(1, .int (a1_1 + ((set >>> (nI ix_1 &&& 31)) &&& (nI 1)))), (0, .int (set)), (2, .int (nI ix_1))]) hx hb dX6_many_17 rfl hl (by decide) rfl (fun ls hl => ?_)
      refine lv_iinc (v := nI (ix_1 + 1)) (lv' := [(2, .int (nI (ix_1 + 1))), (1, .int (a1_1 + ((set >>> (nI ix_1 &&& 31)) &&& (nI 1)))), (0, .int (set))]) hx hb dX6_many_18 hl (k := 2) rfl (nI_inc _) (by decide) rfl (fun ls hl => ?_)
      refine lv_goto (tgt := 4) hx hb dX6_many_21 (by decide) ?_
      exact ihx_1 (ix_1 + 1) (a1_1 + ((set >>> (nI ix_1 &&& 31)) &&& (nI 1))) ls (by omega) (Eq.trans (Eq.symm (by rw [l_X6_many_4] <;> rfl)) hvx_1) (lv_sub hl [2, 1, 0] rfl)
  exact L1 7 0 (nI 0) ls (by omega) rfl (lv_sub hl [2, 1, 0] rfl)
theorem o_X6_many : okS yX6_many cX6_many 3 (some .int) 1 := ⟨m265, m5, m266, by decide +kernel, by decide +kernel, by decide +kernel⟩
def rmX6_route : Room := { frames := 0, cells := 0, slots := 0, locals := 0 }
def f_X6_route (sn : Nat) (cn : Nat) : Nat :=
  21 + 8 * sn + cn
set_option maxHeartbeats 4000000 in
set_option maxRecDepth 100000 in
theorem c_X6_route {l : Launch} {dd : va_G} {t : CL4} {N : Nat} {ad : Nat → Nat} {V : Nat → va_E}     (sn : Nat) (cn : Nat)  : RM l dd t N ad V yX6_route cX6_route 2 (some .int) rmX6_route [.int (nI sn), .int (nI cn)] (nI (f_X6_route sn cn)) := by
  refine RM.of (by decide +kernel) ⟨rfl, rfl⟩ (Nat.le_of_ble_eq_true rfl) (narI _) ?_
  intro p e s m as below meth c Q X H hP ls hl kr
  have X : WX p s m as c cX6_route 2 RX6 dd t := X
  have hx := X.1.1
  have hb := X.1.2.1
  have hl : lv_has ls 2 [(0, .int (nI sn)), (1, .int (nI cn))] := hl
  refine lv_bipush (v := nI 21) hx hb dX6_route_0 (by decide) ?_
  refine lv_bipush (v := nI 8) hx hb dX6_route_2 (by decide) ?_
  refine lv_iload_n hx hb dX6_route_4 rfl (lv_at hl 0 rfl) ?_
  refine q_imul hx hb dX6_route_5 ?_
  refine q_iadd hx hb dX6_route_6 ?_
  refine W.eq (g2 := F0 m 7 ls [.int (nI (21 + 8 * sn))]) rfl ?_
  refine lv_iload_n hx hb dX6_route_7 rfl (lv_at hl 1 rfl) ?_
  refine q_iadd hx hb dX6_route_8 ?_
  refine W.eq (g2 := F0 m 9 ls [.int (nI (21 + 8 * sn + cn))]) rfl ?_
  exact kr 9 ls _ (congrArg nI (Eq.symm (by rw [f_X6_route] <;> rfl))) dX6_route_9
theorem o_X6_route : okS yX6_route cX6_route 2 (some .int) 2 := ⟨m223, m5, m224, by decide +kernel, by decide +kernel, by decide +kernel⟩
def rmX6_noSite : Room := { frames := 1, cells := 0, slots := 0, locals := 22 }
def f_X6_noSite (x : MoC) (nn : Nat) (mm : Nat) (kk : Nat) (site : Int32) : Bool :=
  (if (f_X6_in site (nI 0) ((nI nn) - (nI 1))) = true then false else true)
set_option maxHeartbeats 4000000 in
set_option maxRecDepth 100000 in
theorem c_X6_noSite {l : Launch} {dd : va_G} {t : CL4} {N : Nat} {ad : Nat → Nat} {V : Nat → va_E} {b : Nat} {x : MoC} {nn : Nat} {mm : Nat} {kk : Nat} (hp0 : MoP N ad V t b x) (site : Int32) (h0 : oR x 0 = nI nn) (h1 : oR x 1 = nI mm) (h3 : oR x 3 = nI kk) (hn : nn ≤ 7) (hm : mm ≤ 8) (hk : kk ≤ 40) : RM l dd t N ad V yX6_noSite cX6_noSite 2 (some .boolean) rmX6_noSite [.ref (ad b), .int (site)] (b01 (f_X6_noSite x nn mm kk site)) := by
  refine RM.of (by decide +kernel) ⟨rfl, rfl⟩ (Nat.le_of_ble_eq_true rfl) (narB _) ?_
  intro p e s m as below meth c Q X H hP ls hl kr
  have X : WX p s m as c cX6_noSite 2 RX6 dd t := X
  have hx := X.1.1
  have hb := X.1.2.1
  have hl : lv_has ls 2 [(0, .ref (ad b)), (1, .int (site))] := hl
  have hle0 := hp0.le
  refine lv_iload_n hx hb dX6_noSite_0 rfl (lv_at hl 1 rfl) ?_
  refine lv_iconst (v := nI 0) hx hb dX6_noSite_1 (by decide) ?_
  refine lv_aload_n hx hb dX6_noSite_2 rfl (lv_at hl 0 rfl) ?_
  refine g_Mo_row X hP hp0 m83 dX6_noSite_3 ?_
  refine lv_iconst (v := nI 0) hx hb dX6_noSite_6 (by decide) ?_
  refine l_Mo_row X hP hp0 (by decide) dX6_noSite_7 ?_
  refine q_val (h0 : oR x 0 = nI nn) ?_
  refine lv_iconst (v := nI 1) hx hb dX6_noSite_8 (by decide) ?_
  refine lv_isub hx hb dX6_noSite_9 ?_
  refine r_callS (As := [.int (site), .int (nI 0), .int ((nI nn) - (nI 1))]) (rest := []) X hP (c_X6_in site (nI 0) ((nI nn) - (nI 1))) o_X6_in m139 ⟨rfl, rfl⟩ ⟨Nat.le_of_ble_eq_true rfl, Nat.le_of_ble_eq_true rfl⟩ rfl hl.1 rfl (Nat.le_of_ble_eq_true rfl) ⟨Nat.zero_le _, Nat.zero_le _⟩ dX6_noSite_10 ?_
  refine q_neB (tgt := 20) hx hb dX6_noSite_13 (by decide) (fun c1 => ?_) (fun c1 => ?_)
  · refine lv_iconst (v := nI 0) hx hb dX6_noSite_20 (by decide) ?_
    exact kr 21 ls _ (b_f (by rw [f_X6_noSite, if_pos c1] <;> rfl)) dX6_noSite_21
  · refine lv_iconst (v := nI 1) hx hb dX6_noSite_16 (by decide) ?_
    refine lv_goto (tgt := 21) hx hb dX6_noSite_17 (by decide) ?_
    exact kr 21 ls _ (b_t (by rw [f_X6_noSite, if_neg (nt c1)] <;> rfl)) dX6_noSite_21
theorem o_X6_noSite : okV yX6_noSite cX6_noSite 2 (some .boolean) 1 := ⟨m189, m190, m5, m191, by decide +kernel, by decide +kernel, by decide +kernel⟩
def rmX6_noCustomer : Room := { frames := 1, cells := 0, slots := 0, locals := 22 }
def f_X6_noCustomer (x : MoC) (nn : Nat) (mm : Nat) (kk : Nat) (customer : Int32) : Bool :=
  (if (f_X6_in customer (nI 0) ((nI mm) - (nI 1))) = true then false else true)
set_option maxHeartbeats 4000000 in
set_option maxRecDepth 100000 in
theorem c_X6_noCustomer {l : Launch} {dd : va_G} {t : CL4} {N : Nat} {ad : Nat → Nat} {V : Nat → va_E} {b : Nat} {x : MoC} {nn : Nat} {mm : Nat} {kk : Nat} (hp0 : MoP N ad V t b x) (customer : Int32) (h0 : oR x 0 = nI nn) (h1 : oR x 1 = nI mm) (h3 : oR x 3 = nI kk) (hn : nn ≤ 7) (hm : mm ≤ 8) (hk : kk ≤ 40) : RM l dd t N ad V yX6_noCustomer cX6_noCustomer 2 (some .boolean) rmX6_noCustomer [.ref (ad b), .int (customer)] (b01 (f_X6_noCustomer x nn mm kk customer)) := by
  refine RM.of (by decide +kernel) ⟨rfl, rfl⟩ (Nat.le_of_ble_eq_true rfl) (narB _) ?_
  intro p e s m as below meth c Q X H hP ls hl kr
  have X : WX p s m as c cX6_noCustomer 2 RX6 dd t := X
  have hx := X.1.1
  have hb := X.1.2.1
  have hl : lv_has ls 2 [(0, .ref (ad b)), (1, .int (customer))] := hl
  have hle0 := hp0.le
  refine lv_iload_n hx hb dX6_noCustomer_0 rfl (lv_at hl 1 rfl) ?_
  refine lv_iconst (v := nI 0) hx hb dX6_noCustomer_1 (by decide) ?_
  refine lv_aload_n hx hb dX6_noCustomer_2 rfl (lv_at hl 0 rfl) ?_
  refine g_Mo_row X hP hp0 m83 dX6_noCustomer_3 ?_
  refine lv_iconst (v := nI 1) hx hb dX6_noCustomer_6 (by decide) ?_
  refine l_Mo_row X hP hp0 (by decide) dX6_noCustomer_7 ?_
  refine q_val (h1 : oR x 1 = nI mm) ?_
  refine lv_iconst (v := nI 1) hx hb dX6_noCustomer_8 (by decide) ?_
  refine lv_isub hx hb dX6_noCustomer_9 ?_
  refine r_callS (As := [.int (customer), .int (nI 0), .int ((nI mm) - (nI 1))]) (rest := []) X hP (c_X6_in customer (nI 0) ((nI mm) - (nI 1))) o_X6_in m139 ⟨rfl, rfl⟩ ⟨Nat.le_of_ble_eq_true rfl, Nat.le_of_ble_eq_true rfl⟩ rfl hl.1 rfl (Nat.le_of_ble_eq_true rfl) ⟨Nat.zero_le _, Nat.zero_le _⟩ dX6_noCustomer_10 ?_
  refine q_neB (tgt := 20) hx hb dX6_noCustomer_13 (by decide) (fun c1 => ?_) (fun c1 => ?_)
  · refine lv_iconst (v := nI 0) hx hb dX6_noCustomer_20 (by decide) ?_
    exact kr 21 ls _ (b_f (by rw [f_X6_noCustomer, if_pos c1] <;> rfl)) dX6_noCustomer_21
  · refine lv_iconst (v := nI 1) hx hb dX6_noCustomer_16 (by decide) ?_
    refine lv_goto (tgt := 21) hx hb dX6_noCustomer_17 (by decide) ?_
    exact kr 21 ls _ (b_t (by rw [f_X6_noCustomer, if_neg (nt c1)] <;> rfl)) dX6_noCustomer_21
theorem o_X6_noCustomer : okV yX6_noCustomer cX6_noCustomer 2 (some .boolean) 1 := ⟨m210, m211, m5, m212, by decide +kernel, by decide +kernel, by decide +kernel⟩
def rmX6_noPlan : Room := { frames := 1, cells := 0, slots := 0, locals := 22 }
def f_X6_noPlan (x : MoC) (nn : Nat) (mm : Nat) (kk : Nat) (plan : Int32) : Bool :=
  (if (f_X6_in plan (nI 0) ((nI (2 ^ nn)) - (nI 1))) = true then false else true)
set_option maxHeartbeats 4000000 in
set_option maxRecDepth 100000 in
theorem c_X6_noPlan {l : Launch} {dd : va_G} {t : CL4} {N : Nat} {ad : Nat → Nat} {V : Nat → va_E} {b : Nat} {x : MoC} {nn : Nat} {mm : Nat} {kk : Nat} (hp0 : MoP N ad V t b x) (plan : Int32) (h0 : oR x 0 = nI nn) (h1 : oR x 1 = nI mm) (h3 : oR x 3 = nI kk) (hn : nn ≤ 7) (hm : mm ≤ 8) (hk : kk ≤ 40) : RM l dd t N ad V yX6_noPlan cX6_noPlan 2 (some .boolean) rmX6_noPlan [.ref (ad b), .int (plan)] (b01 (f_X6_noPlan x nn mm kk plan)) := by
  refine RM.of (by decide +kernel) ⟨rfl, rfl⟩ (Nat.le_of_ble_eq_true rfl) (narB _) ?_
  intro p e s m as below meth c Q X H hP ls hl kr
  have X : WX p s m as c cX6_noPlan 2 RX6 dd t := X
  have hx := X.1.1
  have hb := X.1.2.1
  have hl : lv_has ls 2 [(0, .ref (ad b)), (1, .int (plan))] := hl
  have hle0 := hp0.le
  refine lv_iload_n hx hb dX6_noPlan_0 rfl (lv_at hl 1 rfl) ?_
  refine lv_iconst (v := nI 0) hx hb dX6_noPlan_1 (by decide) ?_
  refine lv_iconst (v := nI 1) hx hb dX6_noPlan_2 (by decide) ?_
  refine lv_aload_n hx hb dX6_noPlan_3 rfl (lv_at hl 0 rfl) ?_
  refine g_Mo_row X hP hp0 m83 dX6_noPlan_4 ?_
  refine lv_iconst (v := nI 0) hx hb dX6_noPlan_7 (by decide) ?_
  refine l_Mo_row X hP hp0 (by decide) dX6_noPlan_8 ?_
  refine q_val (h0 : oR x 0 = nI nn) ?_
  refine q_ishl hx hb (by omega) dX6_noPlan_9 ?_
  refine lv_iconst (v := nI 1) hx hb dX6_noPlan_10 (by decide) ?_
  refine lv_isub hx hb dX6_noPlan_11 ?_
  refine r_callS (As := [.int (plan), .int (nI 0), .int ((nI (2 ^ nn)) - (nI 1))]) (rest := []) X hP (c_X6_in plan (nI 0) ((nI (2 ^ nn)) - (nI 1))) o_X6_in m139 ⟨rfl, rfl⟩ ⟨Nat.le_of_ble_eq_true rfl, Nat.le_of_ble_eq_true rfl⟩ rfl hl.1 rfl (Nat.le_of_ble_eq_true rfl) ⟨Nat.zero_le _, Nat.zero_le _⟩ dX6_noPlan_12 ?_
  refine q_neB (tgt := 22) hx hb dX6_noPlan_15 (by decide) (fun c1 => ?_) (fun c1 => ?_)
  · refine lv_iconst (v := nI 0) hx hb dX6_noPlan_22 (by decide) ?_
    exact kr 23 ls _ (b_f (by rw [f_X6_noPlan, if_pos c1] <;> rfl)) dX6_noPlan_23
  · refine lv_iconst (v := nI 1) hx hb dX6_noPlan_18 (by decide) ?_
    refine lv_goto (tgt := 23) hx hb dX6_noPlan_19 (by decide) ?_
    exact kr 23 ls _ (b_t (by rw [f_X6_noPlan, if_neg (nt c1)] <;> rfl)) dX6_noPlan_23
theorem o_X6_noPlan : okV yX6_noPlan cX6_noPlan 2 (some .boolean) 1 := ⟨m623, m624, m5, m625, by decide +kernel, by decide +kernel, by decide +kernel⟩
def rmX6_noCut : Room := { frames := 1, cells := 0, slots := 0, locals := 22 }
def f_X6_noCut (x : MoC) (nn : Nat) (mm : Nat) (kk : Nat) (cut : Int32) : Bool :=
  (if (f_X6_in cut (nI 0) ((nI kk) - (nI 1))) = true then false else true)
set_option maxHeartbeats 4000000 in
set_option maxRecDepth 100000 in
theorem c_X6_noCut {l : Launch} {dd : va_G} {t : CL4} {N : Nat} {ad : Nat → Nat} {V : Nat → va_E} {b : Nat} {x : MoC} {nn : Nat} {mm : Nat} {kk : Nat} (hp0 : MoP N ad V t b x) (cut : Int32) (h0 : oR x 0 = nI nn) (h1 : oR x 1 = nI mm) (h3 : oR x 3 = nI kk) (hn : nn ≤ 7) (hm : mm ≤ 8) (hk : kk ≤ 40) : RM l dd t N ad V yX6_noCut cX6_noCut 2 (some .boolean) rmX6_noCut [.ref (ad b), .int (cut)] (b01 (f_X6_noCut x nn mm kk cut)) := by
  refine RM.of (by decide +kernel) ⟨rfl, rfl⟩ (Nat.le_of_ble_eq_true rfl) (narB _) ?_
  intro p e s m as below meth c Q X H hP ls hl kr
  have X : WX p s m as c cX6_noCut 2 RX6 dd t := X
  have hx := X.1.1
  have hb := X.1.2.1
  have hl : lv_has ls 2 [(0, .ref (ad b)), (1, .int (cut))] := hl
  have hle0 := hp0.le
  refine lv_iload_n hx hb dX6_noCut_0 rfl (lv_at hl 1 rfl) ?_
  refine lv_iconst (v := nI 0) hx hb dX6_noCut_1 (by decide) ?_
  refine lv_aload_n hx hb dX6_noCut_2 rfl (lv_at hl 0 rfl) ?_
  refine g_Mo_row X hP hp0 m83 dX6_noCut_3 ?_
  refine lv_iconst (v := nI 3) hx hb dX6_noCut_6 (by decide) ?_
  refine l_Mo_row X hP hp0 (by decide) dX6_noCut_7 ?_
  refine q_val (h3 : oR x 3 = nI kk) ?_
  refine lv_iconst (v := nI 1) hx hb dX6_noCut_8 (by decide) ?_
  refine lv_isub hx hb dX6_noCut_9 ?_
  refine r_callS (As := [.int (cut), .int (nI 0), .int ((nI kk) - (nI 1))]) (rest := []) X hP (c_X6_in cut (nI 0) ((nI kk) - (nI 1))) o_X6_in m139 ⟨rfl, rfl⟩ ⟨Nat.le_of_ble_eq_true rfl, Nat.le_of_ble_eq_true rfl⟩ rfl hl.1 rfl (Nat.le_of_ble_eq_true rfl) ⟨Nat.zero_le _, Nat.zero_le _⟩ dX6_noCut_10 ?_
  refine q_neB (tgt := 20) hx hb dX6_noCut_13 (by decide) (fun c1 => ?_) (fun c1 => ?_)
  · refine lv_iconst (v := nI 0) hx hb dX6_noCut_20 (by decide) ?_
    exact kr 21 ls _ (b_f (by rw [f_X6_noCut, if_pos c1] <;> rfl)) dX6_noCut_21
  · refine lv_iconst (v := nI 1) hx hb dX6_noCut_16 (by decide) ?_
    refine lv_goto (tgt := 21) hx hb dX6_noCut_17 (by decide) ?_
    exact kr 21 ls _ (b_t (by rw [f_X6_noCut, if_neg (nt c1)] <;> rfl)) dX6_noCut_21
theorem o_X6_noCut : okV yX6_noCut cX6_noCut 2 (some .boolean) 1 := ⟨m512, m513, m5, m514, by decide +kernel, by decide +kernel, by decide +kernel⟩
def rmX6_excludes : Room := { frames := 1, cells := 0, slots := 0, locals := 21 }
def l_X6_excludes_4 (x : MoC) (nn : Nat) (mm : Nat) (kk : Nat) (plan : Int32) : Nat → Nat → Bool → Bool
  | 0, ix_1, a2_1 => a2_1
  | dx_1 + 1, ix_1, a2_1 => (if a2_1 = true then l_X6_excludes_4 x nn mm kk plan dx_1 (ix_1 + 1) true else (if (f_X6_isIn plan (nI ix_1)) = true then (if (plan &&& (oR x (77 + ix_1))) = 0 then l_X6_excludes_4 x nn mm kk plan dx_1 (ix_1 + 1) false else l_X6_excludes_4 x nn mm kk plan dx_1 (ix_1 + 1) true) else l_X6_excludes_4 x nn mm kk plan dx_1 (ix_1 + 1) false))
def f_X6_excludes (x : MoC) (nn : Nat) (mm : Nat) (kk : Nat) (plan : Int32) : Bool :=
  (l_X6_excludes_4 x nn mm kk plan nn 0 false)
set_option maxHeartbeats 4000000 in
set_option maxRecDepth 100000 in
theorem c_X6_excludes {l : Launch} {dd : va_G} {t : CL4} {N : Nat} {ad : Nat → Nat} {V : Nat → va_E} {b : Nat} {x : MoC} {nn : Nat} {mm : Nat} {kk : Nat} (hp0 : MoP N ad V t b x) (plan : Int32) (h0 : oR x 0 = nI nn) (h1 : oR x 1 = nI mm) (h3 : oR x 3 = nI kk) (hn : nn ≤ 7) (hm : mm ≤ 8) (hk : kk ≤ 40) : RM l dd t N ad V yX6_excludes cX6_excludes 4 (some .boolean) rmX6_excludes [.ref (ad b), .int (plan)] (b01 (f_X6_excludes x nn mm kk plan)) := by
  refine RM.of (by decide +kernel) ⟨rfl, rfl⟩ (Nat.le_of_ble_eq_true rfl) (narB _) ?_
  intro p e s m as below meth c Q X H hP ls hl kr
  have X : WX p s m as c cX6_excludes 4 RX6 dd t := X
  have hx := X.1.1
  have hb := X.1.2.1
  have hl : lv_has ls 4 [(0, .ref (ad b)), (1, .int (plan))] := hl
  have hle0 := hp0.le
  refine lv_iconst (v := nI 0) hx hb dX6_excludes_0 (by decide) ?_
  refine lv_istore_n (lv' := [(2, .int (nI 0)), (0, .ref (ad b)), (1, .int (plan))]) hx hb dX6_excludes_1 rfl hl (by decide) rfl (fun ls hl => ?_)
  refine lv_iconst (v := nI 0) hx hb dX6_excludes_2 (by decide) ?_
  refine lv_istore_n (lv' := [(3, .int (nI 0)), (2, .int (nI 0)), (0, .ref (ad b)), (1, .int (plan))]) hx hb dX6_excludes_3 rfl hl (by decide) rfl (fun ls hl => ?_)
  have L1 : ∀ (dx_1 ix_1 : Nat) (a2_1 : Bool) (ls : Array Slot), (ix_1 + dx_1 = nn) → (l_X6_excludes_4 x nn mm kk plan dx_1 ix_1 a2_1 = l_X6_excludes_4 x nn mm kk plan nn 0 false) → (lv_has ls 4 [(0, .ref (ad b)), (1, .int (plan)), (2, .int (b01 a2_1)), (3, .int (nI ix_1))]) → W p l e rmX6_excludes s m as below meth c H [] 0 0 Q (F0 m 4 ls []) := by
    intro dx_1
    induction dx_1 with
    | zero =>
      intro ix_1 a2_1 ls hid hvx_1 hl
      have hiN : nn = ix_1 := by omega
      subst hiN
      have hvx_1 : a2_1 = l_X6_excludes_4 x nn mm kk plan nn 0 false := hvx_1
      have hh0 : a2_1 = l_X6_excludes_4 x nn mm kk plan nn 0 false := hvx_1
      subst hh0
      refine lv_iload_n hx hb dX6_excludes_4 rfl (lv_at hl 3 rfl) ?_
      refine lv_aload_n hx hb dX6_excludes_5 rfl (lv_at hl 0 rfl) ?_
      refine g_Mo_row X hP hp0 m83 dX6_excludes_6 ?_
      refine lv_iconst (v := nI 0) hx hb dX6_excludes_9 (by decide) ?_
      refine l_Mo_row X hP hp0 (by decide) dX6_excludes_10 ?_
      refine q_val (h0 : oR x 0 = nI nn) ?_
      refine q_ge (tgt := 52) hx hb (by omega) (by omega) dX6_excludes_11 (by decide) (fun c2 => ?_) (fun h => absurd h (by omega))
      refine lv_iload_n hx hb dX6_excludes_52 rfl (lv_at hl 2 rfl) ?_
      exact kr 53 ls _ (b_e (by rw [f_X6_excludes] <;> rfl)) dX6_excludes_53
    | succ dx_1 ihx_1 =>
      intro ix_1 a2_1 ls hid hvx_1 hl
      refine lv_iload_n hx hb dX6_excludes_4 rfl (lv_at hl 3 rfl) ?_
      refine lv_aload_n hx hb dX6_excludes_5 rfl (lv_at hl 0 rfl) ?_
      refine g_Mo_row X hP hp0 m83 dX6_excludes_6 ?_
      refine lv_iconst (v := nI 0) hx hb dX6_excludes_9 (by decide) ?_
      refine l_Mo_row X hP hp0 (by decide) dX6_excludes_10 ?_
      refine q_val (h0 : oR x 0 = nI nn) ?_
      refine q_ge (tgt := 52) hx hb (by omega) (by omega) dX6_excludes_11 (by decide) (fun h => absurd h (by omega)) (fun c3 => ?_)
      refine lv_iload_n hx hb dX6_excludes_14 rfl (lv_at hl 2 rfl) ?_
      refine q_neB (tgt := 40) hx hb dX6_excludes_15 (by decide) (fun c4 => ?_) (fun c4 => ?_)
      · refine lv_iconst (v := nI 1) hx hb dX6_excludes_40 (by decide) ?_
        refine lv_goto (tgt := 45) hx hb dX6_excludes_41 (by decide) ?_
        refine lv_istore_n (lv' := [(2, .int (nI 1)), (0, .ref (ad b)), (1, .int (plan)), (3, .int (nI ix_1))]) hx hb dX6_excludes_45 rfl hl (by decide) rfl (fun ls hl => ?_)
        refine lv_iinc (v := nI (ix_1 + 1)) (lv' := [(3, .int (nI (ix_1 + 1))), (2, .int (nI 1)), (0, .ref (ad b)), (1, .int (plan))]) hx hb dX6_excludes_46 hl (k := 3) rfl (nI_inc _) (by decide) rfl (fun ls hl => ?_)
        refine lv_goto (tgt := 4) hx hb dX6_excludes_49 (by decide) ?_
        exact ihx_1 (ix_1 + 1) true ls (by omega) (Eq.trans (Eq.symm (by rw [l_X6_excludes_4, if_pos c4] <;> rfl)) hvx_1) (lv_sub hl [2, 3, 1, 0] rfl)
      · refine lv_iload_n hx hb dX6_excludes_18 rfl (lv_at hl 1 rfl) ?_
        refine lv_iload_n hx hb dX6_excludes_19 rfl (lv_at hl 3 rfl) ?_
        refine r_callS (As := [.int (plan), .int (nI ix_1)]) (rest := []) X hP (c_X6_isIn plan (nI ix_1)) o_X6_isIn m261 ⟨rfl, rfl⟩ ⟨Nat.le_of_ble_eq_true rfl, Nat.le_of_ble_eq_true rfl⟩ rfl hl.1 rfl (Nat.le_of_ble_eq_true rfl) ⟨Nat.zero_le _, Nat.zero_le _⟩ dX6_excludes_20 ?_
        refine q_eqB (tgt := 44) hx hb dX6_excludes_23 (by decide) (fun c5 => ?_) (fun c5 => ?_)
        · refine lv_iconst (v := nI 0) hx hb dX6_excludes_44 (by decide) ?_
          refine lv_istore_n (lv' := [(2, .int (nI 0)), (0, .ref (ad b)), (1, .int (plan)), (3, .int (nI ix_1))]) hx hb dX6_excludes_45 rfl hl (by decide) rfl (fun ls hl => ?_)
          refine lv_iinc (v := nI (ix_1 + 1)) (lv' := [(3, .int (nI (ix_1 + 1))), (2, .int (nI 0)), (0, .ref (ad b)), (1, .int (plan))]) hx hb dX6_excludes_46 hl (k := 3) rfl (nI_inc _) (by decide) rfl (fun ls hl => ?_)
          refine lv_goto (tgt := 4) hx hb dX6_excludes_49 (by decide) ?_
          exact ihx_1 (ix_1 + 1) false ls (by omega) (Eq.trans (Eq.symm (by rw [l_X6_excludes_4, if_neg (nt c4), if_neg (nt c5)] <;> rfl)) hvx_1) (lv_sub hl [2, 3, 1, 0] rfl)
        · refine lv_iload_n hx hb dX6_excludes_26 rfl (lv_at hl 1 rfl) ?_
          refine lv_aload_n hx hb dX6_excludes_27 rfl (lv_at hl 0 rfl) ?_
          refine g_Mo_row X hP hp0 m83 dX6_excludes_28 ?_
          refine lv_bipush (v := nI 77) hx hb dX6_excludes_31 (by decide) ?_
          refine lv_iload_n hx hb dX6_excludes_33 rfl (lv_at hl 3 rfl) ?_
          refine q_iadd hx hb dX6_excludes_34 ?_
          refine l_Mo_row X hP hp0 (by omega) dX6_excludes_35 ?_
          refine lv_iand hx hb dX6_excludes_36 ?_
          refine lv_if_eq (tgt := 44) hx hb dX6_excludes_37 (by decide) (fun c6 => ?_) (fun c6 => ?_)
          · refine lv_iconst (v := nI 0) hx hb dX6_excludes_44 (by decide) ?_
            refine lv_istore_n (lv' := [(2, .int (nI 0)), (0, .ref (ad b)), (1, .int (plan)), (3, .int (nI ix_1))]) hx hb dX6_excludes_45 rfl hl (by decide) rfl (fun ls hl => ?_)
            refine lv_iinc (v := nI (ix_1 + 1)) (lv' := [(3, .int (nI (ix_1 + 1))), (2, .int (nI 0)), (0, .ref (ad b)), (1, .int (plan))]) hx hb dX6_excludes_46 hl (k := 3) rfl (nI_inc _) (by decide) rfl (fun ls hl => ?_)
            refine lv_goto (tgt := 4) hx hb dX6_excludes_49 (by decide) ?_
            exact ihx_1 (ix_1 + 1) false ls (by omega) (Eq.trans (Eq.symm (by rw [l_X6_excludes_4, if_neg (nt c4), if_pos c5, if_pos c6] <;> rfl)) hvx_1) (lv_sub hl [2, 3, 1, 0] rfl)
          · refine lv_iconst (v := nI 1) hx hb dX6_excludes_40 (by decide) ?_
            refine lv_goto (tgt := 45) hx hb dX6_excludes_41 (by decide) ?_
            refine lv_istore_n (lv' := [(2, .int (nI 1)), (0, .ref (ad b)), (1, .int (plan)), (3, .int (nI ix_1))]) hx hb dX6_excludes_45 rfl hl (by decide) rfl (fun ls hl => ?_)
            refine lv_iinc (v := nI (ix_1 + 1)) (lv' := [(3, .int (nI (ix_1 + 1))), (2, .int (nI 1)), (0, .ref (ad b)), (1, .int (plan))]) hx hb dX6_excludes_46 hl (k := 3) rfl (nI_inc _) (by decide) rfl (fun ls hl => ?_)
            refine lv_goto (tgt := 4) hx hb dX6_excludes_49 (by decide) ?_
            exact ihx_1 (ix_1 + 1) true ls (by omega) (Eq.trans (Eq.symm (by rw [l_X6_excludes_4, if_neg (nt c4), if_pos c5, if_neg c6] <;> rfl)) hvx_1) (lv_sub hl [2, 3, 1, 0] rfl)
  exact L1 nn 0 false ls (by omega) rfl (lv_sub hl [2, 3, 1, 0] rfl)
theorem o_X6_excludes : okV yX6_excludes cX6_excludes 4 (some .boolean) 1 := ⟨m395, m396, m5, m397, by decide +kernel, by decide +kernel, by decide +kernel⟩
def rmX6_isAllowed : Room := { frames := 2, cells := 0, slots := 0, locals := 44 }
def f_X6_isAllowed (x : MoC) (nn : Nat) (mm : Nat) (kk : Nat) (plan : Int32) : Bool :=
  (if (oR x 2) < (f_X6_many plan) then false else (if (f_X6_excludes x nn mm kk plan) = true then false else true))
set_option maxHeartbeats 4000000 in
set_option maxRecDepth 100000 in
theorem c_X6_isAllowed {l : Launch} {dd : va_G} {t : CL4} {N : Nat} {ad : Nat → Nat} {V : Nat → va_E} {b : Nat} {x : MoC} {nn : Nat} {mm : Nat} {kk : Nat} (hp0 : MoP N ad V t b x) (plan : Int32) (h0 : oR x 0 = nI nn) (h1 : oR x 1 = nI mm) (h3 : oR x 3 = nI kk) (hn : nn ≤ 7) (hm : mm ≤ 8) (hk : kk ≤ 40) : RM l dd t N ad V yX6_isAllowed cX6_isAllowed 2 (some .boolean) rmX6_isAllowed [.ref (ad b), .int (plan)] (b01 (f_X6_isAllowed x nn mm kk plan)) := by
  refine RM.of (by decide +kernel) ⟨rfl, rfl⟩ (Nat.le_of_ble_eq_true rfl) (narB _) ?_
  intro p e s m as below meth c Q X H hP ls hl kr
  have X : WX p s m as c cX6_isAllowed 2 RX6 dd t := X
  have hx := X.1.1
  have hb := X.1.2.1
  have hl : lv_has ls 2 [(0, .ref (ad b)), (1, .int (plan))] := hl
  have hle0 := hp0.le
  refine lv_iload_n hx hb dX6_isAllowed_0 rfl (lv_at hl 1 rfl) ?_
  refine r_callS (As := [.int (plan)]) (rest := []) X hP (c_X6_many plan) o_X6_many m264 ⟨rfl, rfl⟩ ⟨Nat.le_of_ble_eq_true rfl, Nat.le_of_ble_eq_true rfl⟩ rfl hl.1 rfl (Nat.le_of_ble_eq_true rfl) ⟨Nat.zero_le _, Nat.zero_le _⟩ dX6_isAllowed_1 ?_
  refine lv_aload_n hx hb dX6_isAllowed_4 rfl (lv_at hl 0 rfl) ?_
  refine g_Mo_row X hP hp0 m83 dX6_isAllowed_5 ?_
  refine lv_iconst (v := nI 2) hx hb dX6_isAllowed_8 (by decide) ?_
  refine l_Mo_row X hP hp0 (by decide) dX6_isAllowed_9 ?_
  refine j_gt (tgt := 25) hx hb dX6_isAllowed_10 (by decide) (fun c1 => ?_) (fun c1 => ?_)
  · refine lv_iconst (v := nI 0) hx hb dX6_isAllowed_25 (by decide) ?_
    exact kr 26 ls _ (b_f (by rw [f_X6_isAllowed, if_pos c1] <;> rfl)) dX6_isAllowed_26
  · refine lv_aload_n hx hb dX6_isAllowed_13 rfl (lv_at hl 0 rfl) ?_
    refine lv_iload_n hx hb dX6_isAllowed_14 rfl (lv_at hl 1 rfl) ?_
    refine r_call (As := [.int (plan)]) (rest := []) (ci := 6) X hP (c_X6_excludes (nn := nn) (mm := mm) (kk := kk) hp0 plan h0 h1 h3 hn hm hk) o_X6_excludes rfl hp0.lt hp0.ob m394 ⟨rfl, rfl⟩ ⟨Nat.le_of_ble_eq_true rfl, Nat.le_of_ble_eq_true rfl⟩ rfl hl.1 rfl (Nat.le_of_ble_eq_true rfl) ⟨Nat.zero_le _, Nat.zero_le _⟩ dX6_isAllowed_15 ?_
    refine q_neB (tgt := 25) hx hb dX6_isAllowed_18 (by decide) (fun c2 => ?_) (fun c2 => ?_)
    · refine lv_iconst (v := nI 0) hx hb dX6_isAllowed_25 (by decide) ?_
      exact kr 26 ls _ (b_f (by rw [f_X6_isAllowed, if_neg c1, if_pos c2] <;> rfl)) dX6_isAllowed_26
    · refine lv_iconst (v := nI 1) hx hb dX6_isAllowed_21 (by decide) ?_
      refine lv_goto (tgt := 26) hx hb dX6_isAllowed_22 (by decide) ?_
      exact kr 26 ls _ (b_t (by rw [f_X6_isAllowed, if_neg c1, if_neg (nt c2)] <;> rfl)) dX6_isAllowed_26
theorem o_X6_isAllowed : okV yX6_isAllowed cX6_isAllowed 2 (some .boolean) 1 := ⟨m391, m392, m5, m393, by decide +kernel, by decide +kernel, by decide +kernel⟩
def rmX6_reachedFrom : Room := { frames := 1, cells := 0, slots := 0, locals := 21 }
def l_X6_reachedFrom_4 (x : MoC) (nn : Nat) (mm : Nat) (kk : Nat) (cn : Nat) : Nat → Nat → Int32 → Int32
  | 0, ix_1, a2_1 => a2_1
  | dx_1 + 1, ix_1, a2_1 => (if (oR x (21 + 8 * ix_1 + cn)) < (nI 100) then l_X6_reachedFrom_4 x nn mm kk cn dx_1 (ix_1 + 1) (a2_1 ||| (nI (2 ^ ix_1))) else l_X6_reachedFrom_4 x nn mm kk cn dx_1 (ix_1 + 1) (a2_1 ||| (nI 0)))
def f_X6_reachedFrom (x : MoC) (nn : Nat) (mm : Nat) (kk : Nat) (cn : Nat) : Int32 :=
  (l_X6_reachedFrom_4 x nn mm kk cn nn 0 (nI 0))
set_option maxHeartbeats 4000000 in
set_option maxRecDepth 100000 in
theorem c_X6_reachedFrom {l : Launch} {dd : va_G} {t : CL4} {N : Nat} {ad : Nat → Nat} {V : Nat → va_E} {b : Nat} {x : MoC} {nn : Nat} {mm : Nat} {kk : Nat} (hp0 : MoP N ad V t b x) (cn : Nat) (h0 : oR x 0 = nI nn) (h1 : oR x 1 = nI mm) (h3 : oR x 3 = nI kk) (hn : nn ≤ 7) (hm : mm ≤ 8) (hk : kk ≤ 40) (h_cust : cn < mm) : RM l dd t N ad V yX6_reachedFrom cX6_reachedFrom 4 (some .int) rmX6_reachedFrom [.ref (ad b), .int (nI cn)] (f_X6_reachedFrom x nn mm kk cn) := by
  refine RM.of (by decide +kernel) ⟨rfl, rfl⟩ (Nat.le_of_ble_eq_true rfl) (narI _) ?_
  intro p e s m as below meth c Q X H hP ls hl kr
  have X : WX p s m as c cX6_reachedFrom 4 RX6 dd t := X
  have hx := X.1.1
  have hb := X.1.2.1
  have hl : lv_has ls 4 [(0, .ref (ad b)), (1, .int (nI cn))] := hl
  have hle0 := hp0.le
  refine lv_iconst (v := nI 0) hx hb dX6_reachedFrom_0 (by decide) ?_
  refine lv_istore_n (lv' := [(2, .int (nI 0)), (0, .ref (ad b)), (1, .int (nI cn))]) hx hb dX6_reachedFrom_1 rfl hl (by decide) rfl (fun ls hl => ?_)
  refine lv_iconst (v := nI 0) hx hb dX6_reachedFrom_2 (by decide) ?_
  refine lv_istore_n (lv' := [(3, .int (nI 0)), (2, .int (nI 0)), (0, .ref (ad b)), (1, .int (nI cn))]) hx hb dX6_reachedFrom_3 rfl hl (by decide) rfl (fun ls hl => ?_)
  have L1 : ∀ (dx_1 ix_1 : Nat) (a2_1 : Int32) (ls : Array Slot), (ix_1 + dx_1 = nn) → (l_X6_reachedFrom_4 x nn mm kk cn dx_1 ix_1 a2_1 = l_X6_reachedFrom_4 x nn mm kk cn nn 0 (nI 0)) → (lv_has ls 4 [(0, .ref (ad b)), (1, .int (nI cn)), (2, .int (a2_1)), (3, .int (nI ix_1))]) → W p l e rmX6_reachedFrom s m as below meth c H [] 0 0 Q (F0 m 4 ls []) := by
    intro dx_1
    induction dx_1 with
    | zero =>
      intro ix_1 a2_1 ls hid hvx_1 hl
      have hiN : nn = ix_1 := by omega
      subst hiN
      have hvx_1 : a2_1 = l_X6_reachedFrom_4 x nn mm kk cn nn 0 (nI 0) := hvx_1
      have hh0 : a2_1 = l_X6_reachedFrom_4 x nn mm kk cn nn 0 (nI 0) := hvx_1
      subst hh0
      refine lv_iload_n hx hb dX6_reachedFrom_4 rfl (lv_at hl 3 rfl) ?_
      refine lv_aload_n hx hb dX6_reachedFrom_5 rfl (lv_at hl 0 rfl) ?_
      refine g_Mo_row X hP hp0 m83 dX6_reachedFrom_6 ?_
      refine lv_iconst (v := nI 0) hx hb dX6_reachedFrom_9 (by decide) ?_
      refine l_Mo_row X hP hp0 (by decide) dX6_reachedFrom_10 ?_
      refine q_val (h0 : oR x 0 = nI nn) ?_
      refine q_ge (tgt := 45) hx hb (by omega) (by omega) dX6_reachedFrom_11 (by decide) (fun c2 => ?_) (fun h => absurd h (by omega))
      refine lv_iload_n hx hb dX6_reachedFrom_45 rfl (lv_at hl 2 rfl) ?_
      exact kr 46 ls _ (Eq.symm (by rw [f_X6_reachedFrom] <;> rfl)) dX6_reachedFrom_46
    | succ dx_1 ihx_1 =>
      intro ix_1 a2_1 ls hid hvx_1 hl
      refine lv_iload_n hx hb dX6_reachedFrom_4 rfl (lv_at hl 3 rfl) ?_
      refine lv_aload_n hx hb dX6_reachedFrom_5 rfl (lv_at hl 0 rfl) ?_
      refine g_Mo_row X hP hp0 m83 dX6_reachedFrom_6 ?_
      refine lv_iconst (v := nI 0) hx hb dX6_reachedFrom_9 (by decide) ?_
      refine l_Mo_row X hP hp0 (by decide) dX6_reachedFrom_10 ?_
      refine q_val (h0 : oR x 0 = nI nn) ?_
      refine q_ge (tgt := 45) hx hb (by omega) (by omega) dX6_reachedFrom_11 (by decide) (fun h => absurd h (by omega)) (fun c3 => ?_)
      refine lv_iload_n hx hb dX6_reachedFrom_14 rfl (lv_at hl 2 rfl) ?_
      refine lv_aload_n hx hb dX6_reachedFrom_15 rfl (lv_at hl 0 rfl) ?_
      refine g_Mo_row X hP hp0 m83 dX6_reachedFrom_16 ?_
      refine lv_iload_n hx hb dX6_reachedFrom_19 rfl (lv_at hl 3 rfl) ?_
      refine lv_iload_n hx hb dX6_reachedFrom_20 rfl (lv_at hl 1 rfl) ?_
      refine r_callS (As := [.int (nI ix_1), .int (nI cn)]) (rest := [.ref (ad (b + 1)), .int (a2_1)]) X hP (c_X6_route ix_1 cn) o_X6_route m222 ⟨rfl, rfl⟩ ⟨Nat.le_of_ble_eq_true rfl, Nat.le_of_ble_eq_true rfl⟩ rfl hl.1 rfl (Nat.le_of_ble_eq_true rfl) ⟨Nat.zero_le _, Nat.zero_le _⟩ dX6_reachedFrom_21 ?_
      refine q_val (show nI (f_X6_route ix_1 cn) = nI (21 + 8 * ix_1 + cn) from rfl) ?_
      refine l_Mo_row X hP hp0 (by omega) dX6_reachedFrom_24 ?_
      refine lv_bipush (v := nI 100) hx hb dX6_reachedFrom_25 (by decide) ?_
      refine j_ge (tgt := 36) hx hb dX6_reachedFrom_27 (by decide) (fun c4 => ?_) (fun c4 => ?_)
      · refine lv_iconst (v := nI 0) hx hb dX6_reachedFrom_36 (by decide) ?_
        refine lv_ior hx hb dX6_reachedFrom_37 ?_
        refine lv_istore_n (lv' := [(2, .int (a2_1 ||| (nI 0))), (0, .ref (ad b)), (1, .int (nI cn)), (3, .int (nI ix_1))]) hx hb dX6_reachedFrom_38 rfl hl (by decide) rfl (fun ls hl => ?_)
        refine lv_iinc (v := nI (ix_1 + 1)) (lv' := [(3, .int (nI (ix_1 + 1))), (2, .int (a2_1 ||| (nI 0))), (0, .ref (ad b)), (1, .int (nI cn))]) hx hb dX6_reachedFrom_39 hl (k := 3) rfl (nI_inc _) (by decide) rfl (fun ls hl => ?_)
        refine lv_goto (tgt := 4) hx hb dX6_reachedFrom_42 (by decide) ?_
        exact ihx_1 (ix_1 + 1) (a2_1 ||| (nI 0)) ls (by omega) (Eq.trans (Eq.symm (by rw [l_X6_reachedFrom_4, if_neg c4] <;> rfl)) hvx_1) (lv_sub hl [2, 3, 1, 0] rfl)
      · refine lv_iconst (v := nI 1) hx hb dX6_reachedFrom_30 (by decide) ?_
        refine lv_iload_n hx hb dX6_reachedFrom_31 rfl (lv_at hl 3 rfl) ?_
        refine q_ishl hx hb (by omega) dX6_reachedFrom_32 ?_
        refine lv_goto (tgt := 37) hx hb dX6_reachedFrom_33 (by decide) ?_
        refine lv_ior hx hb dX6_reachedFrom_37 ?_
        refine lv_istore_n (lv' := [(2, .int (a2_1 ||| (nI (2 ^ ix_1)))), (0, .ref (ad b)), (1, .int (nI cn)), (3, .int (nI ix_1))]) hx hb dX6_reachedFrom_38 rfl hl (by decide) rfl (fun ls hl => ?_)
        refine lv_iinc (v := nI (ix_1 + 1)) (lv' := [(3, .int (nI (ix_1 + 1))), (2, .int (a2_1 ||| (nI (2 ^ ix_1)))), (0, .ref (ad b)), (1, .int (nI cn))]) hx hb dX6_reachedFrom_39 hl (k := 3) rfl (nI_inc _) (by decide) rfl (fun ls hl => ?_)
        refine lv_goto (tgt := 4) hx hb dX6_reachedFrom_42 (by decide) ?_
        exact ihx_1 (ix_1 + 1) (a2_1 ||| (nI (2 ^ ix_1))) ls (by omega) (Eq.trans (Eq.symm (by rw [l_X6_reachedFrom_4, if_pos c4] <;> rfl)) hvx_1) (lv_sub hl [2, 3, 1, 0] rfl)
  exact L1 nn 0 (nI 0) ls (by omega) rfl (lv_sub hl [2, 3, 1, 0] rfl)
theorem o_X6_reachedFrom : okV yX6_reachedFrom cX6_reachedFrom 4 (some .int) 1 := ⟨m411, m412, m5, m413, by decide +kernel, by decide +kernel, by decide +kernel⟩
def rmX6_missed : Room := { frames := 2, cells := 0, slots := 0, locals := 44 }
def l_X6_missed_2 (x : MoC) (nn : Nat) (mm : Nat) (kk : Nat) (plan : Int32) : Nat → Nat → Int32
  | 0, ix_1 => (-5)
  | dx_1 + 1, ix_1 => (if (plan &&& (f_X6_reachedFrom x nn mm kk ix_1)) = 0 then nI ix_1 else l_X6_missed_2 x nn mm kk plan dx_1 (ix_1 + 1))
def f_X6_missed (x : MoC) (nn : Nat) (mm : Nat) (kk : Nat) (plan : Int32) : Int32 :=
  l_X6_missed_2 x nn mm kk plan mm 0
set_option maxHeartbeats 4000000 in
set_option maxRecDepth 100000 in
theorem c_X6_missed {l : Launch} {dd : va_G} {t : CL4} {N : Nat} {ad : Nat → Nat} {V : Nat → va_E} {b : Nat} {x : MoC} {nn : Nat} {mm : Nat} {kk : Nat} (hp0 : MoP N ad V t b x) (plan : Int32) (h0 : oR x 0 = nI nn) (h1 : oR x 1 = nI mm) (h3 : oR x 3 = nI kk) (hn : nn ≤ 7) (hm : mm ≤ 8) (hk : kk ≤ 40) : RM l dd t N ad V yX6_missed cX6_missed 3 (some .int) rmX6_missed [.ref (ad b), .int (plan)] (f_X6_missed x nn mm kk plan) := by
  refine RM.of (by decide +kernel) ⟨rfl, rfl⟩ (Nat.le_of_ble_eq_true rfl) (narI _) ?_
  intro p e s m as below meth c Q X H hP ls hl kr
  have X : WX p s m as c cX6_missed 3 RX6 dd t := X
  have hx := X.1.1
  have hb := X.1.2.1
  have hl : lv_has ls 3 [(0, .ref (ad b)), (1, .int (plan))] := hl
  have hle0 := hp0.le
  refine lv_iconst (v := nI 0) hx hb dX6_missed_0 (by decide) ?_
  refine lv_istore_n (lv' := [(2, .int (nI 0)), (0, .ref (ad b)), (1, .int (plan))]) hx hb dX6_missed_1 rfl hl (by decide) rfl (fun ls hl => ?_)
  have hF1 : f_X6_missed x nn mm kk plan = l_X6_missed_2 x nn mm kk plan mm 0 := (by rw [f_X6_missed] <;> rfl)
  have L1 : ∀ (dx_1 ix_1 : Nat) (ls : Array Slot), (ix_1 + dx_1 = mm) → (l_X6_missed_2 x nn mm kk plan dx_1 ix_1 = l_X6_missed_2 x nn mm kk plan mm 0) → (lv_has ls 3 [(0, .ref (ad b)), (1, .int (plan)), (2, .int (nI ix_1))]) → W p l e rmX6_missed s m as below meth c H [] 0 0 Q (F0 m 2 ls []) := by
    intro dx_1
    induction dx_1 with
    | zero =>
      intro ix_1  ls hid hvx_1 hl
      have hiN : mm = ix_1 := by omega
      subst hiN
      refine lv_iload_n hx hb dX6_missed_2 rfl (lv_at hl 2 rfl) ?_
      refine lv_aload_n hx hb dX6_missed_3 rfl (lv_at hl 0 rfl) ?_
      refine g_Mo_row X hP hp0 m83 dX6_missed_4 ?_
      refine lv_iconst (v := nI 1) hx hb dX6_missed_7 (by decide) ?_
      refine l_Mo_row X hP hp0 (by decide) dX6_missed_8 ?_
      refine q_val (h1 : oR x 1 = nI mm) ?_
      refine q_ge (tgt := 30) hx hb (by omega) (by omega) dX6_missed_9 (by decide) (fun c2 => ?_) (fun h => absurd h (by omega))
      refine lv_bipush (v := (-5)) hx hb dX6_missed_30 (by decide) ?_
      exact kr 32 ls _ (Eq.symm ((hF1.trans hvx_1.symm).trans (by rw [l_X6_missed_2] <;> rfl))) dX6_missed_32
    | succ dx_1 ihx_1 =>
      intro ix_1  ls hid hvx_1 hl
      refine lv_iload_n hx hb dX6_missed_2 rfl (lv_at hl 2 rfl) ?_
      refine lv_aload_n hx hb dX6_missed_3 rfl (lv_at hl 0 rfl) ?_
      refine g_Mo_row X hP hp0 m83 dX6_missed_4 ?_
      refine lv_iconst (v := nI 1) hx hb dX6_missed_7 (by decide) ?_
      refine l_Mo_row X hP hp0 (by decide) dX6_missed_8 ?_
      refine q_val (h1 : oR x 1 = nI mm) ?_
      refine q_ge (tgt := 30) hx hb (by omega) (by omega) dX6_missed_9 (by decide) (fun h => absurd h (by omega)) (fun c3 => ?_)
      refine lv_iload_n hx hb dX6_missed_12 rfl (lv_at hl 1 rfl) ?_
      refine lv_aload_n hx hb dX6_missed_13 rfl (lv_at hl 0 rfl) ?_
      refine lv_iload_n hx hb dX6_missed_14 rfl (lv_at hl 2 rfl) ?_
      refine r_call (As := [.int (nI ix_1)]) (rest := [.int (plan)]) (ci := 6) X hP (c_X6_reachedFrom (nn := nn) (mm := mm) (kk := kk) hp0 ix_1 h0 h1 h3 hn hm hk (by omega)) o_X6_reachedFrom rfl hp0.lt hp0.ob m410 ⟨rfl, rfl⟩ ⟨Nat.le_of_ble_eq_true rfl, Nat.le_of_ble_eq_true rfl⟩ rfl hl.1 rfl (Nat.le_of_ble_eq_true rfl) ⟨Nat.zero_le _, Nat.zero_le _⟩ dX6_missed_15 ?_
      refine lv_iand hx hb dX6_missed_18 ?_
      refine lv_if_ne (tgt := 24) hx hb dX6_missed_19 (by decide) (fun c4 => ?_) (fun c4 => ?_)
      · refine lv_iinc (v := nI (ix_1 + 1)) (lv' := [(2, .int (nI (ix_1 + 1))), (0, .ref (ad b)), (1, .int (plan))]) hx hb dX6_missed_24 hl (k := 2) rfl (nI_inc _) (by decide) rfl (fun ls hl => ?_)
        refine lv_goto (tgt := 2) hx hb dX6_missed_27 (by decide) ?_
        exact ihx_1 (ix_1 + 1) ls (by omega) (Eq.trans (Eq.symm (by rw [l_X6_missed_2, if_neg c4] <;> rfl)) hvx_1) (lv_sub hl [1, 2, 0] rfl)
      · refine lv_iload_n hx hb dX6_missed_22 rfl (lv_at hl 2 rfl) ?_
        exact kr 23 ls _ (Eq.symm ((hF1.trans hvx_1.symm).trans (by rw [l_X6_missed_2, if_pos c4] <;> rfl))) dX6_missed_23
  exact L1 mm 0 ls (by omega) rfl (lv_sub hl [1, 2, 0] rfl)
theorem o_X6_missed : okV yX6_missed cX6_missed 3 (some .int) 1 := ⟨m431, m432, m5, m433, by decide +kernel, by decide +kernel, by decide +kernel⟩
def rmX6_prices : Room := { frames := 1, cells := 0, slots := 0, locals := 21 }
def l_X6_prices_4 (x : MoC) (nn : Nat) (mm : Nat) (kk : Nat) (plan : Int32) : Nat → Nat → Int32 → Int32
  | 0, ix_1, a2_1 => a2_1
  | dx_1 + 1, ix_1, a2_1 => (if (f_X6_isIn plan (nI ix_1)) = true then l_X6_prices_4 x nn mm kk plan dx_1 (ix_1 + 1) (a2_1 + (oR x (6 + ix_1))) else l_X6_prices_4 x nn mm kk plan dx_1 (ix_1 + 1) (a2_1 + (nI 0)))
def f_X6_prices (x : MoC) (nn : Nat) (mm : Nat) (kk : Nat) (plan : Int32) : Int32 :=
  (l_X6_prices_4 x nn mm kk plan nn 0 (nI 0))
set_option maxHeartbeats 4000000 in
set_option maxRecDepth 100000 in
theorem c_X6_prices {l : Launch} {dd : va_G} {t : CL4} {N : Nat} {ad : Nat → Nat} {V : Nat → va_E} {b : Nat} {x : MoC} {nn : Nat} {mm : Nat} {kk : Nat} (hp0 : MoP N ad V t b x) (plan : Int32) (h0 : oR x 0 = nI nn) (h1 : oR x 1 = nI mm) (h3 : oR x 3 = nI kk) (hn : nn ≤ 7) (hm : mm ≤ 8) (hk : kk ≤ 40) : RM l dd t N ad V yX6_prices cX6_prices 4 (some .int) rmX6_prices [.ref (ad b), .int (plan)] (f_X6_prices x nn mm kk plan) := by
  refine RM.of (by decide +kernel) ⟨rfl, rfl⟩ (Nat.le_of_ble_eq_true rfl) (narI _) ?_
  intro p e s m as below meth c Q X H hP ls hl kr
  have X : WX p s m as c cX6_prices 4 RX6 dd t := X
  have hx := X.1.1
  have hb := X.1.2.1
  have hl : lv_has ls 4 [(0, .ref (ad b)), (1, .int (plan))] := hl
  have hle0 := hp0.le
  refine lv_iconst (v := nI 0) hx hb dX6_prices_0 (by decide) ?_
  refine lv_istore_n (lv' := [(2, .int (nI 0)), (0, .ref (ad b)), (1, .int (plan))]) hx hb dX6_prices_1 rfl hl (by decide) rfl (fun ls hl => ?_)
  refine lv_iconst (v := nI 0) hx hb dX6_prices_2 (by decide) ?_
  refine lv_istore_n (lv' := [(3, .int (nI 0)), (2, .int (nI 0)), (0, .ref (ad b)), (1, .int (plan))]) hx hb dX6_prices_3 rfl hl (by decide) rfl (fun ls hl => ?_)
  have L1 : ∀ (dx_1 ix_1 : Nat) (a2_1 : Int32) (ls : Array Slot), (ix_1 + dx_1 = nn) → (l_X6_prices_4 x nn mm kk plan dx_1 ix_1 a2_1 = l_X6_prices_4 x nn mm kk plan nn 0 (nI 0)) → (lv_has ls 4 [(0, .ref (ad b)), (1, .int (plan)), (2, .int (a2_1)), (3, .int (nI ix_1))]) → W p l e rmX6_prices s m as below meth c H [] 0 0 Q (F0 m 4 ls []) := by
    intro dx_1
    induction dx_1 with
    | zero =>
      intro ix_1 a2_1 ls hid hvx_1 hl
      have hiN : nn = ix_1 := by omega
      subst hiN
      have hvx_1 : a2_1 = l_X6_prices_4 x nn mm kk plan nn 0 (nI 0) := hvx_1
      have hh0 : a2_1 = l_X6_prices_4 x nn mm kk plan nn 0 (nI 0) := hvx_1
      subst hh0
      refine lv_iload_n hx hb dX6_prices_4 rfl (lv_at hl 3 rfl) ?_
      refine lv_aload_n hx hb dX6_prices_5 rfl (lv_at hl 0 rfl) ?_
      refine g_Mo_row X hP hp0 m83 dX6_prices_6 ?_
      refine lv_iconst (v := nI 0) hx hb dX6_prices_9 (by decide) ?_
      refine l_Mo_row X hP hp0 (by decide) dX6_prices_10 ?_
      refine q_val (h0 : oR x 0 = nI nn) ?_
      refine q_ge (tgt := 44) hx hb (by omega) (by omega) dX6_prices_11 (by decide) (fun c2 => ?_) (fun h => absurd h (by omega))
      refine lv_iload_n hx hb dX6_prices_44 rfl (lv_at hl 2 rfl) ?_
      exact kr 45 ls _ (Eq.symm (by rw [f_X6_prices] <;> rfl)) dX6_prices_45
    | succ dx_1 ihx_1 =>
      intro ix_1 a2_1 ls hid hvx_1 hl
      refine lv_iload_n hx hb dX6_prices_4 rfl (lv_at hl 3 rfl) ?_
      refine lv_aload_n hx hb dX6_prices_5 rfl (lv_at hl 0 rfl) ?_
      refine g_Mo_row X hP hp0 m83 dX6_prices_6 ?_
      refine lv_iconst (v := nI 0) hx hb dX6_prices_9 (by decide) ?_
      refine l_Mo_row X hP hp0 (by decide) dX6_prices_10 ?_
      refine q_val (h0 : oR x 0 = nI nn) ?_
      refine q_ge (tgt := 44) hx hb (by omega) (by omega) dX6_prices_11 (by decide) (fun h => absurd h (by omega)) (fun c3 => ?_)
      refine lv_iload_n hx hb dX6_prices_14 rfl (lv_at hl 2 rfl) ?_
      refine lv_iload_n hx hb dX6_prices_15 rfl (lv_at hl 1 rfl) ?_
      refine lv_iload_n hx hb dX6_prices_16 rfl (lv_at hl 3 rfl) ?_
      refine r_callS (As := [.int (plan), .int (nI ix_1)]) (rest := [.int (a2_1)]) X hP (c_X6_isIn plan (nI ix_1)) o_X6_isIn m261 ⟨rfl, rfl⟩ ⟨Nat.le_of_ble_eq_true rfl, Nat.le_of_ble_eq_true rfl⟩ rfl hl.1 rfl (Nat.le_of_ble_eq_true rfl) ⟨Nat.zero_le _, Nat.zero_le _⟩ dX6_prices_17 ?_
      refine q_eqB (tgt := 35) hx hb dX6_prices_20 (by decide) (fun c4 => ?_) (fun c4 => ?_)
      · refine lv_iconst (v := nI 0) hx hb dX6_prices_35 (by decide) ?_
        refine lv_iadd hx hb dX6_prices_36 ?_
        refine lv_istore_n (lv' := [(2, .int (a2_1 + (nI 0))), (0, .ref (ad b)), (1, .int (plan)), (3, .int (nI ix_1))]) hx hb dX6_prices_37 rfl hl (by decide) rfl (fun ls hl => ?_)
        refine lv_iinc (v := nI (ix_1 + 1)) (lv' := [(3, .int (nI (ix_1 + 1))), (2, .int (a2_1 + (nI 0))), (0, .ref (ad b)), (1, .int (plan))]) hx hb dX6_prices_38 hl (k := 3) rfl (nI_inc _) (by decide) rfl (fun ls hl => ?_)
        refine lv_goto (tgt := 4) hx hb dX6_prices_41 (by decide) ?_
        exact ihx_1 (ix_1 + 1) (a2_1 + (nI 0)) ls (by omega) (Eq.trans (Eq.symm (by rw [l_X6_prices_4, if_neg (nt c4)] <;> rfl)) hvx_1) (lv_sub hl [2, 3, 1, 0] rfl)
      · refine lv_aload_n hx hb dX6_prices_23 rfl (lv_at hl 0 rfl) ?_
        refine g_Mo_row X hP hp0 m83 dX6_prices_24 ?_
        refine lv_bipush (v := nI 6) hx hb dX6_prices_27 (by decide) ?_
        refine lv_iload_n hx hb dX6_prices_29 rfl (lv_at hl 3 rfl) ?_
        refine q_iadd hx hb dX6_prices_30 ?_
        refine l_Mo_row X hP hp0 (by omega) dX6_prices_31 ?_
        refine lv_goto (tgt := 36) hx hb dX6_prices_32 (by decide) ?_
        refine lv_iadd hx hb dX6_prices_36 ?_
        refine lv_istore_n (lv' := [(2, .int (a2_1 + (oR x (6 + ix_1)))), (0, .ref (ad b)), (1, .int (plan)), (3, .int (nI ix_1))]) hx hb dX6_prices_37 rfl hl (by decide) rfl (fun ls hl => ?_)
        refine lv_iinc (v := nI (ix_1 + 1)) (lv' := [(3, .int (nI (ix_1 + 1))), (2, .int (a2_1 + (oR x (6 + ix_1)))), (0, .ref (ad b)), (1, .int (plan))]) hx hb dX6_prices_38 hl (k := 3) rfl (nI_inc _) (by decide) rfl (fun ls hl => ?_)
        refine lv_goto (tgt := 4) hx hb dX6_prices_41 (by decide) ?_
        exact ihx_1 (ix_1 + 1) (a2_1 + (oR x (6 + ix_1))) ls (by omega) (Eq.trans (Eq.symm (by rw [l_X6_prices_4, if_pos c4] <;> rfl)) hvx_1) (lv_sub hl [2, 3, 1, 0] rfl)
  exact L1 nn 0 (nI 0) ls (by omega) rfl (lv_sub hl [2, 3, 1, 0] rfl)
theorem o_X6_prices : okV yX6_prices cX6_prices 4 (some .int) 1 := ⟨m427, m428, m5, m429, by decide +kernel, by decide +kernel, by decide +kernel⟩
def rmX6_server : Room := { frames := 1, cells := 0, slots := 0, locals := 21 }
def l_X6_server_6 (x : MoC) (nn : Nat) (mm : Nat) (kk : Nat) (plan : Int32) (cn : Nat) : Nat → Nat → Int32 → Int32
  | 0, ix_1, a3_1 => a3_1
  | dx_1 + 1, ix_1, a3_1 => (if (f_X6_isIn plan (nI ix_1)) = true then (if (oR x (21 + 8 * ix_1 + cn)) < (nI 100) then (if a3_1 < 0 then l_X6_server_6 x nn mm kk plan cn dx_1 (ix_1 + 1) (nI ix_1) else (if (oR x (21 + 8 * ix_1 + cn)) < (oR x (21 + 8 * (tn a3_1) + cn)) then l_X6_server_6 x nn mm kk plan cn dx_1 (ix_1 + 1) (nI ix_1) else l_X6_server_6 x nn mm kk plan cn dx_1 (ix_1 + 1) (nI (tn a3_1)))) else l_X6_server_6 x nn mm kk plan cn dx_1 (ix_1 + 1) a3_1) else l_X6_server_6 x nn mm kk plan cn dx_1 (ix_1 + 1) a3_1)
def f_X6_server (x : MoC) (nn : Nat) (mm : Nat) (kk : Nat) (plan : Int32) (cn : Nat) : Int32 :=
  (l_X6_server_6 x nn mm kk plan cn nn 0 (-5))
set_option maxHeartbeats 4000000 in
set_option maxRecDepth 100000 in
theorem c_X6_server {l : Launch} {dd : va_G} {t : CL4} {N : Nat} {ad : Nat → Nat} {V : Nat → va_E} {b : Nat} {x : MoC} {nn : Nat} {mm : Nat} {kk : Nat} (hp0 : MoP N ad V t b x) (plan : Int32) (cn : Nat) (h0 : oR x 0 = nI nn) (h1 : oR x 1 = nI mm) (h3 : oR x 3 = nI kk) (hn : nn ≤ 7) (hm : mm ≤ 8) (hk : kk ≤ 40) (h_cust : cn < mm) : RM l dd t N ad V yX6_server cX6_server 6 (some .int) rmX6_server [.ref (ad b), .int (plan), .int (nI cn)] (f_X6_server x nn mm kk plan cn) := by
  refine RM.of (by decide +kernel) ⟨rfl, rfl⟩ (Nat.le_of_ble_eq_true rfl) (narI _) ?_
  intro p e s m as below meth c Q X H hP ls hl kr
  have X : WX p s m as c cX6_server 6 RX6 dd t := X
  have hx := X.1.1
  have hb := X.1.2.1
  have hl : lv_has ls 6 [(0, .ref (ad b)), (1, .int (plan)), (2, .int (nI cn))] := hl
  have hle0 := hp0.le
  refine lv_bipush (v := (-5)) hx hb dX6_server_0 (by decide) ?_
  refine lv_istore_n (lv' := [(3, .int ((-5))), (0, .ref (ad b)), (1, .int (plan)), (2, .int (nI cn))]) hx hb dX6_server_2 rfl hl (by decide) rfl (fun ls hl => ?_)
  refine lv_iconst (v := nI 0) hx hb dX6_server_3 (by decide) ?_
  refine lv_istore (lv' := [(4, .int (nI 0)), (3, .int ((-5))), (0, .ref (ad b)), (1, .int (plan)), (2, .int (nI cn))]) hx hb dX6_server_4 hl (by decide) rfl (fun ls hl => ?_)
  have L1 : ∀ (dx_1 ix_1 : Nat) (a3_1 : Int32) (ls : Array Slot), (ix_1 + dx_1 = nn) → (l_X6_server_6 x nn mm kk plan cn dx_1 ix_1 a3_1 = l_X6_server_6 x nn mm kk plan cn nn 0 (-5)) → (a3_1 < 0 ∨ (a3_1 = nI (tn a3_1) ∧ tn a3_1 < nn)) → (lv_has ls 6 [(0, .ref (ad b)), (1, .int (plan)), (2, .int (nI cn)), (3, .int (a3_1)), (4, .int (nI ix_1))]) → W p l e rmX6_server s m as below meth c H [] 0 0 Q (F0 m 6 ls []) := by
    intro dx_1
    induction dx_1 with
    | zero =>
      intro ix_1 a3_1 ls hid hvx_1 hinv hl
      have hiN : nn = ix_1 := by omega
      subst hiN
      have hvx_1 : a3_1 = l_X6_server_6 x nn mm kk plan cn nn 0 (-5) := hvx_1
      have hh0 : a3_1 = l_X6_server_6 x nn mm kk plan cn nn 0 (-5) := hvx_1
      subst hh0
      refine lv_iload hx hb dX6_server_6 (lv_at hl 4 rfl) ?_
      refine lv_aload_n hx hb dX6_server_8 rfl (lv_at hl 0 rfl) ?_
      refine g_Mo_row X hP hp0 m83 dX6_server_9 ?_
      refine lv_iconst (v := nI 0) hx hb dX6_server_12 (by decide) ?_
      refine l_Mo_row X hP hp0 (by decide) dX6_server_13 ?_
      refine q_val (h0 : oR x 0 = nI nn) ?_
      refine q_ge (tgt := 95) hx hb (by omega) (by omega) dX6_server_14 (by decide) (fun c2 => ?_) (fun h => absurd h (by omega))
      refine lv_iload_n hx hb dX6_server_95 rfl (lv_at hl 3 rfl) ?_
      exact kr 96 ls _ (Eq.symm (by rw [f_X6_server] <;> rfl)) dX6_server_96
    | succ dx_1 ihx_1 =>
      intro ix_1 a3_1 ls hid hvx_1 hinv hl
      refine lv_iload hx hb dX6_server_6 (lv_at hl 4 rfl) ?_
      refine lv_aload_n hx hb dX6_server_8 rfl (lv_at hl 0 rfl) ?_
      refine g_Mo_row X hP hp0 m83 dX6_server_9 ?_
      refine lv_iconst (v := nI 0) hx hb dX6_server_12 (by decide) ?_
      refine l_Mo_row X hP hp0 (by decide) dX6_server_13 ?_
      refine q_val (h0 : oR x 0 = nI nn) ?_
      refine q_ge (tgt := 95) hx hb (by omega) (by omega) dX6_server_14 (by decide) (fun h => absurd h (by omega)) (fun c3 => ?_)
      refine lv_iload_n hx hb dX6_server_17 rfl (lv_at hl 1 rfl) ?_
      refine lv_iload hx hb dX6_server_18 (lv_at hl 4 rfl) ?_
      refine r_callS (As := [.int (plan), .int (nI ix_1)]) (rest := []) X hP (c_X6_isIn plan (nI ix_1)) o_X6_isIn m261 ⟨rfl, rfl⟩ ⟨Nat.le_of_ble_eq_true rfl, Nat.le_of_ble_eq_true rfl⟩ rfl hl.1 rfl (Nat.le_of_ble_eq_true rfl) ⟨Nat.zero_le _, Nat.zero_le _⟩ dX6_server_20 ?_
      refine q_eqB (tgt := 46) hx hb dX6_server_23 (by decide) (fun c4 => ?_) (fun c4 => ?_)
      · refine lv_iconst (v := nI 0) hx hb dX6_server_46 (by decide) ?_
        refine lv_istore (lv' := [(5, .int (nI 0)), (0, .ref (ad b)), (1, .int (plan)), (2, .int (nI cn)), (3, .int (a3_1)), (4, .int (nI ix_1))]) hx hb dX6_server_47 hl (by decide) rfl (fun ls hl => ?_)
        refine lv_iload hx hb dX6_server_49 (lv_at hl 0 rfl) ?_
        refine z_eq (tgt := 87) hx hb (by omega) dX6_server_51 (by decide) (fun c5 => ?_) (fun h => absurd h (by omega))
        refine lv_iload_n hx hb dX6_server_87 rfl (lv_at hl 4 rfl) ?_
        refine lv_istore_n (lv' := [(3, .int (a3_1)), (5, .int (nI 0)), (0, .ref (ad b)), (1, .int (plan)), (2, .int (nI cn)), (4, .int (nI ix_1))]) hx hb dX6_server_88 rfl hl (by decide) rfl (fun ls hl => ?_)
        refine lv_iinc (v := nI (ix_1 + 1)) (lv' := [(4, .int (nI (ix_1 + 1))), (3, .int (a3_1)), (5, .int (nI 0)), (0, .ref (ad b)), (1, .int (plan)), (2, .int (nI cn))]) hx hb dX6_server_89 hl (k := 5) rfl (nI_inc _) (by decide) rfl (fun ls hl => ?_)
        refine lv_goto (tgt := 6) hx hb dX6_server_92 (by decide) ?_
        exact ihx_1 (ix_1 + 1) a3_1 ls (by omega) (Eq.trans (Eq.symm (by rw [l_X6_server_6, if_neg (nt c4)] <;> rfl)) hvx_1) (by first | exact hinv | exact Or.inr (nI_inv (by omega) (by omega))) (lv_sub hl [3, 4, 5, 1, 0] rfl)
      · refine lv_aload_n hx hb dX6_server_26 rfl (lv_at hl 0 rfl) ?_
        refine g_Mo_row X hP hp0 m83 dX6_server_27 ?_
        refine lv_iload hx hb dX6_server_30 (lv_at hl 4 rfl) ?_
        refine lv_iload_n hx hb dX6_server_32 rfl (lv_at hl 2 rfl) ?_
        refine r_callS (As := [.int (nI ix_1), .int (nI cn)]) (rest := [.ref (ad (b + 1))]) X hP (c_X6_route ix_1 cn) o_X6_route m222 ⟨rfl, rfl⟩ ⟨Nat.le_of_ble_eq_true rfl, Nat.le_of_ble_eq_true rfl⟩ rfl hl.1 rfl (Nat.le_of_ble_eq_true rfl) ⟨Nat.zero_le _, Nat.zero_le _⟩ dX6_server_33 ?_
        refine q_val (show nI (f_X6_route ix_1 cn) = nI (21 + 8 * ix_1 + cn) from rfl) ?_
        refine l_Mo_row X hP hp0 (by omega) dX6_server_36 ?_
        refine lv_bipush (v := nI 100) hx hb dX6_server_37 (by decide) ?_
        refine j_ge (tgt := 46) hx hb dX6_server_39 (by decide) (fun c6 => ?_) (fun c6 => ?_)
        · refine lv_iconst (v := nI 0) hx hb dX6_server_46 (by decide) ?_
          refine lv_istore (lv' := [(5, .int (nI 0)), (0, .ref (ad b)), (1, .int (plan)), (2, .int (nI cn)), (3, .int (a3_1)), (4, .int (nI ix_1))]) hx hb dX6_server_47 hl (by decide) rfl (fun ls hl => ?_)
          refine lv_iload hx hb dX6_server_49 (lv_at hl 0 rfl) ?_
          refine z_eq (tgt := 87) hx hb (by omega) dX6_server_51 (by decide) (fun c7 => ?_) (fun h => absurd h (by omega))
          refine lv_iload_n hx hb dX6_server_87 rfl (lv_at hl 4 rfl) ?_
          refine lv_istore_n (lv' := [(3, .int (a3_1)), (5, .int (nI 0)), (0, .ref (ad b)), (1, .int (plan)), (2, .int (nI cn)), (4, .int (nI ix_1))]) hx hb dX6_server_88 rfl hl (by decide) rfl (fun ls hl => ?_)
          refine lv_iinc (v := nI (ix_1 + 1)) (lv' := [(4, .int (nI (ix_1 + 1))), (3, .int (a3_1)), (5, .int (nI 0)), (0, .ref (ad b)), (1, .int (plan)), (2, .int (nI cn))]) hx hb dX6_server_89 hl (k := 5) rfl (nI_inc _) (by decide) rfl (fun ls hl => ?_)
          refine lv_goto (tgt := 6) hx hb dX6_server_92 (by decide) ?_
          exact ihx_1 (ix_1 + 1) a3_1 ls (by omega) (Eq.trans (Eq.symm (by rw [l_X6_server_6, if_pos c4, if_neg c6] <;> rfl)) hvx_1) (by first | exact hinv | exact Or.inr (nI_inv (by omega) (by omega))) (lv_sub hl [3, 4, 5, 1, 0] rfl)
        · refine lv_iconst (v := nI 1) hx hb dX6_server_42 (by decide) ?_
          refine lv_goto (tgt := 47) hx hb dX6_server_43 (by decide) ?_
          refine lv_istore (lv' := [(5, .int (nI 1)), (0, .ref (ad b)), (1, .int (plan)), (2, .int (nI cn)), (3, .int (a3_1)), (4, .int (nI ix_1))]) hx hb dX6_server_47 hl (by decide) rfl (fun ls hl => ?_)
          refine lv_iload hx hb dX6_server_49 (lv_at hl 0 rfl) ?_
          refine z_eq (tgt := 87) hx hb (by omega) dX6_server_51 (by decide) (fun h => absurd h (by omega)) (fun c8 => ?_)
          refine lv_iload_n hx hb dX6_server_54 rfl (lv_at hl 4 rfl) ?_
          refine u_lt (tgt := 82) hx hb dX6_server_55 (by decide) (fun c9 => ?_) (fun c9 => ?_)
          · refine lv_iload hx hb dX6_server_82 (lv_at hl 5 rfl) ?_
            refine lv_goto (tgt := 88) hx hb dX6_server_84 (by decide) ?_
            refine lv_istore_n (lv' := [(3, .int (nI ix_1)), (5, .int (nI 1)), (0, .ref (ad b)), (1, .int (plan)), (2, .int (nI cn)), (4, .int (nI ix_1))]) hx hb dX6_server_88 rfl hl (by decide) rfl (fun ls hl => ?_)
            refine lv_iinc (v := nI (ix_1 + 1)) (lv' := [(4, .int (nI (ix_1 + 1))), (3, .int (nI ix_1)), (5, .int (nI 1)), (0, .ref (ad b)), (1, .int (plan)), (2, .int (nI cn))]) hx hb dX6_server_89 hl (k := 5) rfl (nI_inc _) (by decide) rfl (fun ls hl => ?_)
            refine lv_goto (tgt := 6) hx hb dX6_server_92 (by decide) ?_
            exact ihx_1 (ix_1 + 1) (nI ix_1) ls (by omega) (Eq.trans (Eq.symm (by rw [l_X6_server_6, if_pos c4, if_pos c6, if_pos c9] <;> rfl)) hvx_1) (by first | exact hinv | exact Or.inr (nI_inv (by omega) (by omega))) (lv_sub hl [3, 4, 5, 1, 0] rfl)
          · have hr10 := or_n hinv c9
            have hr10b := hr10.2
            refine lv_aload_n hx hb dX6_server_58 rfl (lv_at hl 1 rfl) ?_
            refine g_Mo_row X hP hp0 m83 dX6_server_59 ?_
            refine lv_iload hx hb dX6_server_62 (lv_at hl 5 rfl) ?_
            refine lv_iload_n hx hb dX6_server_64 rfl (lv_at hl 3 rfl) ?_
            refine r_callS (As := [.int (nI ix_1), .int (nI cn)]) (rest := [.ref (ad (b + 1))]) X hP (c_X6_route ix_1 cn) o_X6_route m222 ⟨rfl, rfl⟩ ⟨Nat.le_of_ble_eq_true rfl, Nat.le_of_ble_eq_true rfl⟩ rfl hl.1 rfl (Nat.le_of_ble_eq_true rfl) ⟨Nat.zero_le _, Nat.zero_le _⟩ dX6_server_65 ?_
            refine q_val (show nI (f_X6_route ix_1 cn) = nI (21 + 8 * ix_1 + cn) from rfl) ?_
            refine l_Mo_row X hP hp0 (by omega) dX6_server_68 ?_
            refine lv_aload_n hx hb dX6_server_69 rfl (lv_at hl 1 rfl) ?_
            refine g_Mo_row X hP hp0 m83 dX6_server_70 ?_
            refine lv_iload_n hx hb dX6_server_73 rfl (lv_at hl 4 rfl) ?_
            refine q_val (hr10.1 : a3_1 = nI (tn a3_1)) ?_
            refine lv_iload_n hx hb dX6_server_74 rfl (lv_at hl 3 rfl) ?_
            refine r_callS (As := [.int (nI (tn a3_1)), .int (nI cn)]) (rest := [.ref (ad (b + 1)), .int (oR x (21 + 8 * ix_1 + cn))]) X hP (c_X6_route (tn a3_1) cn) o_X6_route m222 ⟨rfl, rfl⟩ ⟨Nat.le_of_ble_eq_true rfl, Nat.le_of_ble_eq_true rfl⟩ rfl hl.1 rfl (Nat.le_of_ble_eq_true rfl) ⟨Nat.zero_le _, Nat.zero_le _⟩ dX6_server_75 ?_
            refine q_val (show nI (f_X6_route (tn a3_1) cn) = nI (21 + 8 * (tn a3_1) + cn) from rfl) ?_
            refine l_Mo_row X hP hp0 (by omega) dX6_server_78 ?_
            refine j_ge (tgt := 87) hx hb dX6_server_79 (by decide) (fun c11 => ?_) (fun c11 => ?_)
            · refine lv_iload_n hx hb dX6_server_87 rfl (lv_at hl 4 rfl) ?_
              refine q_val (hr10.1 : a3_1 = nI (tn a3_1)) ?_
              refine lv_istore_n (lv' := [(3, .int (nI (tn a3_1))), (5, .int (nI 1)), (0, .ref (ad b)), (1, .int (plan)), (2, .int (nI cn)), (4, .int (nI ix_1))]) hx hb dX6_server_88 rfl hl (by decide) rfl (fun ls hl => ?_)
              refine lv_iinc (v := nI (ix_1 + 1)) (lv' := [(4, .int (nI (ix_1 + 1))), (3, .int (nI (tn a3_1))), (5, .int (nI 1)), (0, .ref (ad b)), (1, .int (plan)), (2, .int (nI cn))]) hx hb dX6_server_89 hl (k := 5) rfl (nI_inc _) (by decide) rfl (fun ls hl => ?_)
              refine lv_goto (tgt := 6) hx hb dX6_server_92 (by decide) ?_
              exact ihx_1 (ix_1 + 1) (nI (tn a3_1)) ls (by omega) (Eq.trans (Eq.symm (by rw [l_X6_server_6, if_pos c4, if_pos c6, if_neg c9, if_neg c11] <;> rfl)) hvx_1) (by first | exact hinv | exact Or.inr (nI_inv (by omega) (by omega))) (lv_sub hl [3, 4, 5, 1, 0] rfl)
            · refine lv_iload hx hb dX6_server_82 (lv_at hl 5 rfl) ?_
              refine lv_goto (tgt := 88) hx hb dX6_server_84 (by decide) ?_
              refine lv_istore_n (lv' := [(3, .int (nI ix_1)), (5, .int (nI 1)), (0, .ref (ad b)), (1, .int (plan)), (2, .int (nI cn)), (4, .int (nI ix_1))]) hx hb dX6_server_88 rfl hl (by decide) rfl (fun ls hl => ?_)
              refine lv_iinc (v := nI (ix_1 + 1)) (lv' := [(4, .int (nI (ix_1 + 1))), (3, .int (nI ix_1)), (5, .int (nI 1)), (0, .ref (ad b)), (1, .int (plan)), (2, .int (nI cn))]) hx hb dX6_server_89 hl (k := 5) rfl (nI_inc _) (by decide) rfl (fun ls hl => ?_)
              refine lv_goto (tgt := 6) hx hb dX6_server_92 (by decide) ?_
              exact ihx_1 (ix_1 + 1) (nI ix_1) ls (by omega) (Eq.trans (Eq.symm (by rw [l_X6_server_6, if_pos c4, if_pos c6, if_neg c9, if_pos c11] <;> rfl)) hvx_1) (by first | exact hinv | exact Or.inr (nI_inv (by omega) (by omega))) (lv_sub hl [3, 4, 5, 1, 0] rfl)
  exact L1 nn 0 (-5) ls (by omega) rfl (Or.inl (by decide)) (lv_sub hl [2, 3, 4, 1, 0] rfl)
theorem o_X6_server : okV yX6_server cX6_server 6 (some .int) 2 := ⟨m439, m440, m5, m441, by decide +kernel, by decide +kernel, by decide +kernel⟩
