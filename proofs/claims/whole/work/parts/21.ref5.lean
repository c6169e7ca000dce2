/-! the rest of the reference -/
theorem l_srv_cg {x x' : MoC} {nn mm kk cn : Nat} {plan : Int32} (hr : ∀ j, 21 ≤ j → j < 77 → oR x' j = oR x j) (hn : nn ≤ 7) (hc : cn < 8) : ∀ (d i : Nat) (a : Int32), i + d = nn → (a < 0 ∨ (a = nI (tn a) ∧ tn a < nn)) → l_X6_server_6 x' nn mm kk plan cn d i a = l_X6_server_6 x nn mm kk plan cn d i a := by
  intro d
  induction d with
  | zero => intro i a _ _; rfl
  | succ d ih =>
    intro i a hid ha
    have e1 : oR x' (21 + 8 * i + cn) = oR x (21 + 8 * i + cn) := hr _ (by omega) (by omega)
    have hnew : nI i < 0 ∨ (nI i = nI (tn (nI i)) ∧ tn (nI i) < nn) := Or.inr (nI_inv (by omega) (by omega))
    rw [l_X6_server_6, l_X6_server_6, e1, ih (i + 1) (nI i) (by omega) hnew, ih (i + 1) a (by omega) ha]
    by_cases c3 : a < 0
    · simp only [if_pos c3]
    · have ha2 := ha.resolve_left c3
      have e2 : oR x' (21 + 8 * tn a + cn) = oR x (21 + 8 * tn a + cn) := hr _ (by omega) (by omega)
      have e3 : nI (tn a) = a := ha2.1.symm
      rw [e2, e3, ih (i + 1) a (by omega) ha]
theorem srv_cg {x x' : MoC} {nn mm kk cn : Nat} {plan : Int32} (hr : ∀ j, 21 ≤ j → j < 77 → oR x' j = oR x j) (hn : nn ≤ 7) (hc : cn < 8) : f_X6_server x' nn mm kk plan cn = f_X6_server x nn mm kk plan cn := l_srv_cg hr hn hc nn 0 (-5) (by omega) (Or.inl (by decide))
theorem srv_hre {x x' : MoC} {nn mm kk : Nat} {plan : Int32} (hr : ∀ j, 21 ≤ j → j < 77 → oR x' j = oR x j) (hn : nn ≤ 7) (hm : mm ≤ 8) (h : ∀ cn, cn < mm → ¬ f_X6_server x nn mm kk plan cn < 0) : ∀ cn, cn < mm → ¬ f_X6_server x' nn mm kk plan cn < 0 := fun cn hc => by rw [srv_cg hr hn (by omega)]; exact h cn hc

def rmX6_sees : Room := { frames := 1, cells := 0, slots := 0, locals := 22 }
def f_X6_sees (x : MoC) (least : Int32) (most : Int32) : Bool :=
  (if (oT x) < (oL x) then (if (f_X6_in (oX x (oT x)) least most) = true then true else false) else false)
set_option maxHeartbeats 4000000 in
set_option maxRecDepth 100000 in
theorem c_X6_sees {l : Launch} {dd : va_G} {t : CL4} {N : Nat} {ad : Nat → Nat} {V : Nat → va_E} {b : Nat} {x : MoC}  (hp0 : MoP N ad V t b x) (least : Int32) (most : Int32) (htl : oL x ≤ 60) (htt : oT x ≤ 60) : RM l dd t N ad V yX6_sees cX6_sees 3 (some .boolean) rmX6_sees [.ref (ad b), .int (least), .int (most)] (b01 (f_X6_sees x least most)) := by
  refine RM.of (by decide +kernel) ⟨rfl, rfl⟩ (Nat.le_of_ble_eq_true rfl) (narB _) ?_
  intro p e s m as below meth c Q X H hP ls hl kr
  have X : WX p s m as c cX6_sees 3 RX6 dd t := X
  have hx := X.1.1
  have hb := X.1.2.1
  have hl : lv_has ls 3 [(0, .ref (ad b)), (1, .int (least)), (2, .int (most))] := hl
  have hle0 := hp0.le
  refine lv_aload_n hx hb dX6_sees_0 rfl (lv_at hl 0 rfl) ?_
  refine g_Mo_at X hP hp0 m485 dX6_sees_1 ?_
  refine lv_aload_n hx hb dX6_sees_4 rfl (lv_at hl 0 rfl) ?_
  refine g_Mo_length X hP hp0 m490 dX6_sees_5 ?_
  refine q_ge (tgt := 32) hx hb (by omega) (by omega) dX6_sees_8 (by decide) (fun c1 => ?_) (fun c1 => ?_)
  · refine lv_iconst (v := nI 0) hx hb dX6_sees_32 (by decide) ?_
    exact kr 33 ls _ (b_f (by rw [f_X6_sees, if_neg (Nat.not_lt.mpr c1)] <;> rfl)) dX6_sees_33
  · refine lv_aload_n hx hb dX6_sees_11 rfl (lv_at hl 0 rfl) ?_
    refine g_Mo_text X hP hp0 m87 dX6_sees_12 ?_
    refine lv_aload_n hx hb dX6_sees_15 rfl (lv_at hl 0 rfl) ?_
    refine g_Mo_at X hP hp0 m485 dX6_sees_16 ?_
    refine l_Mo_text X hP hp0 (by omega) dX6_sees_19 ?_
    refine lv_iload_n hx hb dX6_sees_20 rfl (lv_at hl 1 rfl) ?_
    refine lv_iload_n hx hb dX6_sees_21 rfl (lv_at hl 2 rfl) ?_
    refine r_callS (As := [.int (oX x (oT x)), .int (least), .int (most)]) (rest := []) X hP (c_X6_in (oX x (oT x)) least most) o_X6_in m139 ⟨rfl, rfl⟩ ⟨Nat.le_of_ble_eq_true rfl, Nat.le_of_ble_eq_true rfl⟩ rfl hl.1 rfl (Nat.le_of_ble_eq_true rfl) ⟨Nat.zero_le _, Nat.zero_le _⟩ dX6_sees_22 ?_
    refine q_eqB (tgt := 32) hx hb dX6_sees_25 (by decide) (fun c2 => ?_) (fun c2 => ?_)
    · refine lv_iconst (v := nI 0) hx hb dX6_sees_32 (by decide) ?_
      exact kr 33 ls _ (b_f (by rw [f_X6_sees, if_pos c1, if_neg (nt c2)] <;> rfl)) dX6_sees_33
    · refine lv_iconst (v := nI 1) hx hb dX6_sees_28 (by decide) ?_
      refine lv_goto (tgt := 33) hx hb dX6_sees_29 (by decide) ?_
      exact kr 33 ls _ (b_t (by rw [f_X6_sees, if_pos c1, if_pos c2] <;> rfl)) dX6_sees_33
theorem o_X6_sees : okV yX6_sees cX6_sees 3 (some .boolean) 2 := ⟨m492, m493, m5, m494, by decide +kernel, by decide +kernel, by decide +kernel⟩
theorem sees_lt {x : MoC} {a b : Int32} (h : f_X6_sees x a b = true) : oT x < oL x := by
  unfold f_X6_sees at h
  by_cases c : oT x < oL x
  · exact c
  · rw [if_neg c] at h; cases h

def rmX6_makeStep : Room := { frames := 5, cells := 0, slots := 0, locals := 118 }
def l_X6_makeStep_178 (x : MoC) (nn : Nat) (mm : Nat) (kk : Nat) : Nat → Nat → (Nat → Int32) → (Nat → Int32)
  | 0, ix_11, u0_0_11 => u0_0_11
  | dx_11 + 1, ix_11, u0_0_11 => l_X6_makeStep_178 x nn mm kk dx_11 (ix_11 + 1) (upd u0_0_11 (84 + 9 * kk + 1 + ix_11) (nI 0))
def l_X6_makeStep_178a (x : MoC) (nn : Nat) (mm : Nat) (kk : Nat) : Nat → Nat → (Nat → Int32) → (Nat → Int32)
  | 0, ix_28, u0_0_28 => u0_0_28
  | dx_28 + 1, ix_28, u0_0_28 => l_X6_makeStep_178a x nn mm kk dx_28 (ix_28 + 1) (upd u0_0_28 (84 + 9 * kk + 1 + ix_28) (u0_0_28 (21 + 8 * (tn (f_X6_server (mkM u0_0_28 (oP x) (oA x) (oB x) (oS x) (oI x) (oX x) (oL x) (oT x) (oN x)) nn mm kk (f_X6_masterPlan x nn mm kk) ix_28)) + ix_28)))
def l_X6_makeStep_178b (x : MoC) (nn : Nat) (mm : Nat) (kk : Nat) : Nat → Nat → (Nat → Int32) → (Nat → Int32)
  | 0, ix_39, u0_0_39 => u0_0_39
  | dx_39 + 1, ix_39, u0_0_39 => l_X6_makeStep_178b x nn mm kk dx_39 (ix_39 + 1) (upd u0_0_39 (84 + 9 * kk + 1 + ix_39) (u0_0_39 (21 + 8 * (tn (f_X6_server (mkM u0_0_39 (oP x) (oA x) (oB x) (oS x) (oI x) (oX x) (oL x) (oT x) (oN x)) nn mm kk (f_X6_masterPlan x nn mm kk) ix_39)) + ix_39)))
def l_X6_makeStep_178c (x : MoC) (nn : Nat) (mm : Nat) (kk : Nat) : Nat → Nat → (Nat → Int32) → (Nat → Int32)
  | 0, ix_50, u0_0_50 => u0_0_50
  | dx_50 + 1, ix_50, u0_0_50 => l_X6_makeStep_178c x nn mm kk dx_50 (ix_50 + 1) (upd u0_0_50 (84 + 9 * kk + 1 + ix_50) (u0_0_50 (21 + 8 * (tn (f_X6_server (mkM u0_0_50 (oP x) (oA x) (oB x) (oS x) (oI x) (oX x) (oL x) (oT x) (oN x)) nn mm kk (f_X6_masterPlan x nn mm kk) ix_50)) + ix_50)))
def f_X6_makeStep (x : MoC) (nn : Nat) (mm : Nat) (kk : Nat) : Int32 × MoC :=
  (if mm = 0 then ((-4), x) else (if (f_X6_masterPlan x nn mm kk) < 0 then ((-4), x) else (if (f_X6_missed x nn mm kk (f_X6_masterPlan x nn mm kk)) < 0 then (if ((f_X6_prices x nn mm kk (f_X6_masterPlan x nn mm kk)) + (f_X6_routes x nn mm kk (f_X6_masterPlan x nn mm kk))) = (f_X6_guess x nn mm kk (f_X6_masterPlan x nn mm kk)) then (if (oR x 4) < 0 then (nI 2, mkM (upd (upd (oR x) 5 ((oR x 5) + (nI 1))) 4 (f_X6_masterPlan x nn mm kk)) (oP x) (oA x) (oB x) (oS x) (oI x) (oX x) (oL x) (oT x) (oN x)) else (if ((f_X6_prices x nn mm kk (f_X6_masterPlan x nn mm kk)) + (f_X6_routes x nn mm kk (f_X6_masterPlan x nn mm kk))) < ((f_X6_prices (mkM (upd (oR x) 5 ((oR x 5) + (nI 1))) (oP x) (oA x) (oB x) (oS x) (oI x) (oX x) (oL x) (oT x) (oN x)) nn mm kk (oR x 4)) + (f_X6_routes (mkM (upd (oR x) 5 ((oR x 5) + (nI 1))) (oP x) (oA x) (oB x) (oS x) (oI x) (oX x) (oL x) (oT x) (oN x)) nn mm kk (oR x 4))) then (nI 2, mkM (upd (upd (oR x) 5 ((oR x 5) + (nI 1))) 4 (f_X6_masterPlan x nn mm kk)) (oP x) (oA x) (oB x) (oS x) (oI x) (oX x) (oL x) (oT x) (oN x)) else (nI 2, mkM (upd (oR x) 5 ((oR x 5) + (nI 1))) (oP x) (oA x) (oB x) (oS x) (oI x) (oX x) (oL x) (oT x) (oN x)))) else (if kk = 40 then ((-3), x) else (if (oR x 4) < 0 then (nI 1, mkM (upd (l_X6_makeStep_178a x nn mm kk mm 0 (upd (upd (upd (oR x) 5 ((oR x 5) + (nI 1))) 4 (f_X6_masterPlan x nn mm kk)) (84 + 9 * kk) (f_X6_missed x nn mm kk (f_X6_masterPlan x nn mm kk)))) 3 (((l_X6_makeStep_178a x nn mm kk mm 0 (upd (upd (upd (oR x) 5 ((oR x 5) + (nI 1))) 4 (f_X6_masterPlan x nn mm kk)) (84 + 9 * kk) (f_X6_missed x nn mm kk (f_X6_masterPlan x nn mm kk)))) 3) + (nI 1))) (oP x) (oA x) (oB x) (oS x) (oI x) (oX x) (oL x) (oT x) (oN x)) else (if ((f_X6_prices x nn mm kk (f_X6_masterPlan x nn mm kk)) + (f_X6_routes x nn mm kk (f_X6_masterPlan x nn mm kk))) < ((f_X6_prices (mkM (upd (oR x) 5 ((oR x 5) + (nI 1))) (oP x) (oA x) (oB x) (oS x) (oI x) (oX x) (oL x) (oT x) (oN x)) nn mm kk (oR x 4)) + (f_X6_routes (mkM (upd (oR x) 5 ((oR x 5) + (nI 1))) (oP x) (oA x) (oB x) (oS x) (oI x) (oX x) (oL x) (oT x) (oN x)) nn mm kk (oR x 4))) then (nI 1, mkM (upd (l_X6_makeStep_178c x nn mm kk mm 0 (upd (upd (upd (oR x) 5 ((oR x 5) + (nI 1))) 4 (f_X6_masterPlan x nn mm kk)) (84 + 9 * kk) (f_X6_missed x nn mm kk (f_X6_masterPlan x nn mm kk)))) 3 (((l_X6_makeStep_178c x nn mm kk mm 0 (upd (upd (upd (oR x) 5 ((oR x 5) + (nI 1))) 4 (f_X6_masterPlan x nn mm kk)) (84 + 9 * kk) (f_X6_missed x nn mm kk (f_X6_masterPlan x nn mm kk)))) 3) + (nI 1))) (oP x) (oA x) (oB x) (oS x) (oI x) (oX x) (oL x) (oT x) (oN x)) else (nI 1, mkM (upd (l_X6_makeStep_178b x nn mm kk mm 0 (upd (upd (oR x) 5 ((oR x 5) + (nI 1))) (84 + 9 * kk) (f_X6_missed x nn mm kk (f_X6_masterPlan x nn mm kk)))) 3 (((l_X6_makeStep_178b x nn mm kk mm 0 (upd (upd (oR x) 5 ((oR x 5) + (nI 1))) (84 + 9 * kk) (f_X6_missed x nn mm kk (f_X6_masterPlan x nn mm kk)))) 3) + (nI 1))) (oP x) (oA x) (oB x) (oS x) (oI x) (oX x) (oL x) (oT x) (oN x)))))) else (if kk = 40 then ((-3), x) else (nI 0, mkM (upd (l_X6_makeStep_178 x nn mm kk mm 0 (upd (upd (oR x) 5 ((oR x 5) + (nI 1))) (84 + 9 * kk) (f_X6_missed x nn mm kk (f_X6_masterPlan x nn mm kk)))) 3 (((l_X6_makeStep_178 x nn mm kk mm 0 (upd (upd (oR x) 5 ((oR x 5) + (nI 1))) (84 + 9 * kk) (f_X6_missed x nn mm kk (f_X6_masterPlan x nn mm kk)))) 3) + (nI 1))) (oP x) (oA x) (oB x) (oS x) (oI x) (oX x) (oL x) (oT x) (oN x))))))
set_option maxHeartbeats 4000000 in
set_option maxRecDepth 100000 in
theorem c_X6_makeStep {l : Launch} {dd : va_G} {t : CL4} {N : Nat} {ad : Nat → Nat} {V : Nat → va_E} {b : Nat} {x : MoC} {nn : Nat} {mm : Nat} {kk : Nat} (hi : inj N ad) (hp0 : MoP N ad V t b x)  (h0 : oR x 0 = nI nn) (h1 : oR x 1 = nI mm) (h3 : oR x 3 = nI kk) (hn : nn ≤ 7) (hm : mm ≤ 8) (hk : kk ≤ 40) (hc : RaysOk x mm kk) (hbest : ¬ oR x 4 < 0 → ∀ cn, cn < mm → ¬ f_X6_server x nn mm kk (oR x 4) cn < 0) : MM l dd t N ad V yX6_makeStep cX6_makeStep 7 (some .int) rmX6_makeStep [.ref (ad b)] (fun r V1 => (r = (f_X6_makeStep x nn mm kk).1) ∧ (MoP N ad V1 t b ((f_X6_makeStep x nn mm kk).2)) ∧ (∀ k, (k < b ∨ b + 7 ≤ k) → V1 k = V k)) := by
  refine MM.of (by decide +kernel) ⟨rfl, rfl⟩ (Nat.le_of_ble_eq_true rfl) rfl ?_
  intro p e s m as below meth c Q X H hP hS ls hl kr
  have X : WX p s m as c cX6_makeStep 7 RX6 dd t := X
  have hx := X.1.1
  have hb := X.1.2.1
  have hl : lv_has ls 7 [(0, .ref (ad b))] := hl
  have hle0 := hp0.le
  have hfr : ∀ k, (k < b ∨ b + 7 ≤ k) → V k = V k := fun _ _ => rfl
  refine lv_aload_n hx hb dX6_makeStep_0 rfl (lv_at hl 0 rfl) ?_
  refine g_Mo_row X hP hp0 m83 dX6_makeStep_1 ?_
  refine lv_iconst (v := nI 1) hx hb dX6_makeStep_4 (by decide) ?_
  refine l_Mo_row X hP hp0 (by decide) dX6_makeStep_5 ?_
  refine q_val (h1 : oR x 1 = nI mm) ?_
  refine z_ne (tgt := 14) hx hb (by omega) dX6_makeStep_6 (by decide) (fun c1 => ?_) (fun c1 => ?_)
  · refine lv_aload_n hx hb dX6_makeStep_14 rfl (lv_at hl 0 rfl) ?_
    refine r_call (As := []) (rest := []) (ci := 6) X hP (c_X6_masterPlan (nn := nn) (mm := mm) (kk := kk) hp0 h0 h1 h3 hn hm hk hc) o_X6_masterPlan rfl hp0.lt hp0.ob m386 ⟨rfl, rfl⟩ ⟨Nat.le_of_ble_eq_true rfl, Nat.le_of_ble_eq_true rfl⟩ rfl hl.1 rfl (Nat.le_of_ble_eq_true rfl) ⟨Nat.zero_le _, Nat.zero_le _⟩ dX6_makeStep_15 ?_
    refine lv_istore_n (lv' := [(1, .int (f_X6_masterPlan x nn mm kk)), (0, .ref (ad b))]) hx hb dX6_makeStep_18 rfl hl (by decide) rfl (fun ls hl => ?_)
    refine lv_iload_n hx hb dX6_makeStep_19 rfl (lv_at hl 0 rfl) ?_
    refine u_ge (tgt := 26) hx hb dX6_makeStep_20 (by decide) (fun c2 => ?_) (fun c2 => ?_)
    · refine lv_aload_n hx hb dX6_makeStep_26 rfl (lv_at hl 1 rfl) ?_
      refine lv_iload_n hx hb dX6_makeStep_27 rfl (lv_at hl 0 rfl) ?_
      refine r_call (As := [.int (f_X6_masterPlan x nn mm kk)]) (rest := []) (ci := 6) X hP (c_X6_missed (nn := nn) (mm := mm) (kk := kk) hp0 (f_X6_masterPlan x nn mm kk) h0 h1 h3 hn hm hk) o_X6_missed rfl hp0.lt hp0.ob m430 ⟨rfl, rfl⟩ ⟨Nat.le_of_ble_eq_true rfl, Nat.le_of_ble_eq_true rfl⟩ rfl hl.1 rfl (Nat.le_of_ble_eq_true rfl) ⟨Nat.zero_le _, Nat.zero_le _⟩ dX6_makeStep_28 ?_
      refine lv_istore_n (lv' := [(2, .int (f_X6_missed x nn mm kk (f_X6_masterPlan x nn mm kk))), (1, .int (f_X6_masterPlan x nn mm kk)), (0, .ref (ad b))]) hx hb dX6_makeStep_31 rfl hl (by decide) rfl (fun ls hl => ?_)
      refine lv_iload_n hx hb dX6_makeStep_32 rfl (lv_at hl 0 rfl) ?_
      refine u_ge (tgt := 50) hx hb dX6_makeStep_33 (by decide) (fun c3 => ?_) (fun c3 => ?_)
      · refine lv_iconst (v := nI 0) hx hb dX6_makeStep_50 (by decide) ?_
        refine lv_istore_n (lv' := [(3, .int (nI 0)), (2, .int (f_X6_missed x nn mm kk (f_X6_masterPlan x nn mm kk))), (1, .int (f_X6_masterPlan x nn mm kk)), (0, .ref (ad b))]) hx hb dX6_makeStep_51 rfl hl (by decide) rfl (fun ls hl => ?_)
        refine lv_iload_n hx hb dX6_makeStep_52 rfl (lv_at hl 1 rfl) ?_
        refine u_ge (tgt := 69) hx hb dX6_makeStep_53 (by decide) (fun c4 => ?_) (fun h => by first | exact absurd h c3 | exact absurd c3 h)
        refine lv_iconst (v := nI 0) hx hb dX6_makeStep_69 (by decide) ?_
        refine lv_istore (lv' := [(4, .int (nI 0)), (3, .int (nI 0)), (2, .int (f_X6_missed x nn mm kk (f_X6_masterPlan x nn mm kk))), (1, .int (f_X6_masterPlan x nn mm kk)), (0, .ref (ad b))]) hx hb dX6_makeStep_70 hl (by decide) rfl (fun ls hl => ?_)
        refine lv_iload hx hb dX6_makeStep_72 (lv_at hl 0 rfl) ?_
        refine z_ne (tgt := 91) hx hb (by omega) dX6_makeStep_74 (by decide) (fun h => absurd h (by omega)) (fun c5 => ?_)
        refine lv_aload_n hx hb dX6_makeStep_77 rfl (lv_at hl 4 rfl) ?_
        refine g_Mo_row X hP hp0 m83 dX6_makeStep_78 ?_
        refine lv_iconst (v := nI 3) hx hb dX6_makeStep_81 (by decide) ?_
        refine l_Mo_row X hP hp0 (by decide) dX6_makeStep_82 ?_
        refine q_val (h3 : oR x 3 = nI kk) ?_
        refine lv_bipush (v := nI 40) hx hb dX6_makeStep_83 (by decide) ?_
        refine q_ne (tgt := 91) hx hb (by omega) (by omega) dX6_makeStep_85 (by decide) (fun c6 => ?_) (fun c6 => ?_)
        · refine lv_aload_n hx hb dX6_makeStep_91 rfl (lv_at hl 4 rfl) ?_
          refine g_Mo_row X hP hp0 m83 dX6_makeStep_92 ?_
          refine lv_iconst (v := nI 5) hx hb dX6_makeStep_95 (by decide) ?_
          refine lv_dup2_11 hx hb dX6_makeStep_96 rfl rfl ?_
          refine l_Mo_row X hP hp0 (by decide) dX6_makeStep_97 ?_
          refine lv_iconst (v := nI 1) hx hb dX6_makeStep_98 (by decide) ?_
          refine lv_iadd hx hb dX6_makeStep_99 ?_
          refine s_Mo_row X hi hP hS hp0 (by decide) dX6_makeStep_100 (fun V7 H7 locs7 hp0 h2 hP hS => ?_)
          have hp0 : MoP N ad V7 t b (mkM (upd (oR x) 5 ((oR x 5) + (nI 1))) (oP x) (oA x) (oB x) (oS x) (oI x) (oX x) (oL x) (oT x) (oN x)) := hp0
          have hfr : ∀ k, (k < b ∨ b + 7 ≤ k) → V7 k = V k := fun k hk => (h2 k (by omega)).trans (hfr k hk)
          refine lv_iload_n hx hb dX6_makeStep_101 rfl (lv_at hl 2 rfl) ?_
          refine u_ge (tgt := 146) hx hb dX6_makeStep_102 (by decide) (fun c8 => ?_) (fun h => by first | exact absurd h c3 | exact absurd c3 h)
          refine lv_iload hx hb dX6_makeStep_146 (lv_at hl 0 rfl) ?_
          refine z_eq (tgt := 153) hx hb (by omega) dX6_makeStep_148 (by decide) (fun c9 => ?_) (fun h => absurd h (by omega))
          refine lv_bipush (v := nI 84) hx hb dX6_makeStep_153 (by decide) ?_
          refine lv_bipush (v := nI 9) hx hb dX6_makeStep_155 (by decide) ?_
          refine lv_aload_n hx hb dX6_makeStep_157 rfl (lv_at hl 4 rfl) ?_
          refine g_Mo_row X hP hp0 m83 dX6_makeStep_158 ?_
          refine lv_iconst (v := nI 3) hx hb dX6_makeStep_161 (by decide) ?_
          refine l_Mo_row X hP hp0 (by decide) dX6_makeStep_162 ?_
          refine W.eq (g2 := F0 m 163 ls [.int ((upd (oR x) 5 ((oR x 5) + (nI 1))) 3), .int (nI 9), .int (nI 84)]) rfl ?_
          refine q_val (upd_ne _ _ (by decide)) ?_
          refine q_val (h3 : oR x 3 = nI kk) ?_
          refine q_imul hx hb dX6_makeStep_163 ?_
          refine q_iadd hx hb dX6_makeStep_164 ?_
          refine W.eq (g2 := F0 m 165 ls [.int (nI (84 + 9 * kk))]) rfl ?_
          refine lv_istore (lv' := [(5, .int (nI (84 + 9 * kk))), (4, .int (nI 0)), (3, .int (nI 0)), (2, .int (f_X6_missed x nn mm kk (f_X6_masterPlan x nn mm kk))), (1, .int (f_X6_masterPlan x nn mm kk)), (0, .ref (ad b))]) hx hb dX6_makeStep_165 hl (by decide) rfl (fun ls hl => ?_)
          refine lv_aload_n hx hb dX6_makeStep_167 rfl (lv_at hl 5 rfl) ?_
          refine g_Mo_row X hP hp0 m83 dX6_makeStep_168 ?_
          refine lv_iload hx hb dX6_makeStep_171 (lv_at hl 0 rfl) ?_
          refine lv_iload_n hx hb dX6_makeStep_173 rfl (lv_at hl 3 rfl) ?_
          refine s_Mo_row X hi hP hS hp0 (by omega) dX6_makeStep_174 (fun V10 H10 locs10 hp0 h2 hP hS => ?_)
          have hp0 : MoP N ad V10 t b (mkM (upd (upd (oR x) 5 ((oR x 5) + (nI 1))) (84 + 9 * kk) (f_X6_missed x nn mm kk (f_X6_masterPlan x nn mm kk))) (oP x) (oA x) (oB x) (oS x) (oI x) (oX x) (oL x) (oT x) (oN x)) := hp0
          have hfr : ∀ k, (k < b ∨ b + 7 ≤ k) → V10 k = V k := fun k hk => (h2 k (by omega)).trans (hfr k hk)
          refine lv_iconst (v := nI 0) hx hb dX6_makeStep_175 (by decide) ?_
          refine lv_istore (lv' := [(6, .int (nI 0)), (5, .int (nI (84 + 9 * kk))), (4, .int (nI 0)), (3, .int (nI 0)), (2, .int (f_X6_missed x nn mm kk (f_X6_masterPlan x nn mm kk))), (1, .int (f_X6_masterPlan x nn mm kk)), (0, .ref (ad b))]) hx hb dX6_makeStep_176 hl (by decide) rfl (fun ls hl => ?_)
          have L11 : ∀ (dx_11 ix_11 : Nat) (u0_0_11 : Nat → Int32) (V11 : Nat → va_E) (H11 : Heap) (locs11 : List Loc) (ls : Array Slot), (ix_11 + dx_11 = mm) → (l_X6_makeStep_178 x nn mm kk dx_11 ix_11 u0_0_11 = l_X6_makeStep_178 x nn mm kk mm 0 (upd (upd (oR x) 5 ((oR x 5) + (nI 1))) (84 + 9 * kk) (f_X6_missed x nn mm kk (f_X6_masterPlan x nn mm kk)))) → (∀ j, j < 84 → j ≠ 4 → j ≠ 5 → u0_0_11 j = oR x j) → (MoP N ad V11 t b (mkM u0_0_11 (oP x) (oA x) (oB x) (oS x) (oI x) (oX x) (oL x) (oT x) (oN x))) → (∀ k, (k < b ∨ b + 7 ≤ k) → V11 k = V k) → (HP dd N ad V11 H11) → (va_S (dm N ad H.size) H H11 locs11) → (lv_has ls 7 [(0, .ref (ad b)), (1, .int (f_X6_masterPlan x nn mm kk)), (2, .int (f_X6_missed x nn mm kk (f_X6_masterPlan x nn mm kk))), (3, .int (nI 0)), (4, .int (nI 0)), (5, .int (nI (84 + 9 * kk))), (6, .int (nI ix_11))]) → W p l e rmX6_makeStep s m as below meth c H11 locs11 0 0 Q (F0 m 178 ls []) := by
            intro dx_11
            induction dx_11 with
            | zero =>
              intro ix_11 u0_0_11 V11 H11 locs11 ls hid hvx_11 hrow hp0 hfr hP hS hl
              have hiN : mm = ix_11 := by omega
              subst hiN
              have hvx_11 : u0_0_11 = l_X6_makeStep_178 x nn mm kk mm 0 (upd (upd (oR x) 5 ((oR x 5) + (nI 1))) (84 + 9 * kk) (f_X6_missed x nn mm kk (f_X6_masterPlan x nn mm kk))) := hvx_11
              have hh0 : u0_0_11 = l_X6_makeStep_178 x nn mm kk mm 0 (upd (upd (oR x) 5 ((oR x 5) + (nI 1))) (84 + 9 * kk) (f_X6_missed x nn mm kk (f_X6_masterPlan x nn mm kk))) := hvx_11
              subst hh0
              refine lv_iload hx hb dX6_makeStep_178 (lv_at hl 6 rfl) ?_
              refine lv_aload_n hx hb dX6_makeStep_180 rfl (lv_at hl 0 rfl) ?_
              refine g_Mo_row X hP hp0 m83 dX6_makeStep_181 ?_
              refine lv_iconst (v := nI 1) hx hb dX6_makeStep_184 (by decide) ?_
              refine l_Mo_row X hP hp0 (by decide) dX6_makeStep_185 ?_
              refine W.eq (g2 := F0 m 186 ls [.int ((l_X6_makeStep_178 x nn mm kk mm 0 (upd (upd (oR x) 5 ((oR x 5) + (nI 1))) (84 + 9 * kk) (f_X6_missed x nn mm kk (f_X6_masterPlan x nn mm kk)))) 1), .int (nI mm)]) rfl ?_
              refine q_val (((hrow 1 (by decide) (by decide) (by decide)).trans h1) : (l_X6_makeStep_178 x nn mm kk mm 0 (upd (upd (oR x) 5 ((oR x 5) + (nI 1))) (84 + 9 * kk) (f_X6_missed x nn mm kk (f_X6_masterPlan x nn mm kk)))) 1 = nI mm) ?_
              refine q_ge (tgt := 232) hx hb (by omega) (by omega) dX6_makeStep_186 (by decide) (fun c12 => ?_) (fun h => absurd h (by omega))
              refine lv_aload_n hx hb dX6_makeStep_232 rfl (lv_at hl 0 rfl) ?_
              refine g_Mo_row X hP hp0 m83 dX6_makeStep_233 ?_
              refine lv_iconst (v := nI 3) hx hb dX6_makeStep_236 (by decide) ?_
              refine lv_dup2_11 hx hb dX6_makeStep_237 rfl rfl ?_
              refine l_Mo_row X hP hp0 (by decide) dX6_makeStep_238 ?_
              refine W.eq (g2 := F0 m 239 ls [.int ((l_X6_makeStep_178 x nn mm kk mm 0 (upd (upd (oR x) 5 ((oR x 5) + (nI 1))) (84 + 9 * kk) (f_X6_missed x nn mm kk (f_X6_masterPlan x nn mm kk)))) 3), .int (nI 3), .ref (ad (b + 1))]) rfl ?_
              refine lv_iconst (v := nI 1) hx hb dX6_makeStep_239 (by decide) ?_
              refine lv_iadd hx hb dX6_makeStep_240 ?_
              refine s_Mo_row X hi hP hS hp0 (by decide) dX6_makeStep_241 (fun V13 H13 locs13 hp0 h2 hP hS => ?_)
              have hp0 : MoP N ad V13 t b (mkM (upd (l_X6_makeStep_178 x nn mm kk mm 0 (upd (upd (oR x) 5 ((oR x 5) + (nI 1))) (84 + 9 * kk) (f_X6_missed x nn mm kk (f_X6_masterPlan x nn mm kk)))) 3 (((l_X6_makeStep_178 x nn mm kk mm 0 (upd (upd (oR x) 5 ((oR x 5) + (nI 1))) (84 + 9 * kk) (f_X6_missed x nn mm kk (f_X6_masterPlan x nn mm kk)))) 3) + (nI 1))) (oP x) (oA x) (oB x) (oS x) (oI x) (oX x) (oL x) (oT x) (oN x)) := hp0
              have hfr : ∀ k, (k < b ∨ b + 7 ≤ k) → V13 k = V k := fun k hk => (h2 k (by omega)).trans (hfr k hk)
              refine lv_iload_n hx hb dX6_makeStep_242 rfl (lv_at hl 2 rfl) ?_
              refine u_ge (tgt := 250) hx hb dX6_makeStep_243 (by decide) (fun c14 => ?_) (fun h => by first | exact absurd h c3 | exact absurd c3 h)
              refine lv_iconst (v := nI 0) hx hb dX6_makeStep_250 (by decide) ?_
              have hfin : f_X6_makeStep x nn mm kk = (nI 0, mkM (upd (l_X6_makeStep_178 x nn mm kk mm 0 (upd (upd (oR x) 5 ((oR x 5) + (nI 1))) (84 + 9 * kk) (f_X6_missed x nn mm kk (f_X6_masterPlan x nn mm kk)))) 3 (((l_X6_makeStep_178 x nn mm kk mm 0 (upd (upd (oR x) 5 ((oR x 5) + (nI 1))) (84 + 9 * kk) (f_X6_missed x nn mm kk (f_X6_masterPlan x nn mm kk)))) 3) + (nI 1))) (oP x) (oA x) (oB x) (oS x) (oI x) (oX x) (oL x) (oT x) (oN x)) := (by rw [f_X6_makeStep, if_neg c1, if_neg c2, if_neg c3, if_neg c6] <;> rfl)
              exact kr 251 ls _ _ _ _ hP hS rfl ⟨by rw [hfin] <;> rfl, by rw [hfin]; exact hp0, hfr⟩ dX6_makeStep_251
            | succ dx_11 ihx_11 =>
              intro ix_11 u0_0_11 V11 H11 locs11 ls hid hvx_11 hrow hp0 hfr hP hS hl
              refine lv_iload hx hb dX6_makeStep_178 (lv_at hl 6 rfl) ?_
              refine lv_aload_n hx hb dX6_makeStep_180 rfl (lv_at hl 0 rfl) ?_
              refine g_Mo_row X hP hp0 m83 dX6_makeStep_181 ?_
              refine lv_iconst (v := nI 1) hx hb dX6_makeStep_184 (by decide) ?_
              refine l_Mo_row X hP hp0 (by decide) dX6_makeStep_185 ?_
              refine W.eq (g2 := F0 m 186 ls [.int (u0_0_11 1), .int (nI ix_11)]) rfl ?_
              refine q_val (((hrow 1 (by decide) (by decide) (by decide)).trans h1) : u0_0_11 1 = nI mm) ?_
              refine q_ge (tgt := 232) hx hb (by omega) (by omega) dX6_makeStep_186 (by decide) (fun h => absurd h (by omega)) (fun c15 => ?_)
              refine lv_aload_n hx hb dX6_makeStep_189 rfl (lv_at hl 0 rfl) ?_
              refine g_Mo_row X hP hp0 m83 dX6_makeStep_190 ?_
              refine lv_iload hx hb dX6_makeStep_193 (lv_at hl 5 rfl) ?_
              refine lv_iconst (v := nI 1) hx hb dX6_makeStep_195 (by decide) ?_
              refine q_iadd hx hb dX6_makeStep_196 ?_
              refine W.eq (g2 := F0 m 197 ls [.int (nI (84 + 9 * kk + 1)), .ref (ad (b + 1))]) rfl ?_
              refine lv_iload hx hb dX6_makeStep_197 (lv_at hl 6 rfl) ?_
              refine q_iadd hx hb dX6_makeStep_199 ?_
              refine W.eq (g2 := F0 m 200 ls [.int (nI (84 + 9 * kk + 1 + ix_11)), .ref (ad (b + 1))]) rfl ?_
              refine lv_iload_n hx hb dX6_makeStep_200 rfl (lv_at hl 2 rfl) ?_
              refine u_ge (tgt := 224) hx hb dX6_makeStep_201 (by decide) (fun c16 => ?_) (fun h => by first | exact absurd h c3 | exact absurd c3 h)
              refine lv_iconst (v := nI 0) hx hb dX6_makeStep_224 (by decide) ?_
              refine s_Mo_row X hi hP hS hp0 (by omega) dX6_makeStep_225 (fun V17 H17 locs17 hp0 h2 hP hS => ?_)
              have hp0 : MoP N ad V17 t b (mkM (upd u0_0_11 (84 + 9 * kk + 1 + ix_11) (nI 0)) (oP x) (oA x) (oB x) (oS x) (oI x) (oX x) (oL x) (oT x) (oN x)) := hp0
              have hfr : ∀ k, (k < b ∨ b + 7 ≤ k) → V17 k = V k := fun k hk => (h2 k (by omega)).trans (hfr k hk)
              refine lv_iinc (v := nI (ix_11 + 1)) (lv' := [(6, .int (nI (ix_11 + 1))), (0, .ref (ad b)), (1, .int (f_X6_masterPlan x nn mm kk)), (2, .int (f_X6_missed x nn mm kk (f_X6_masterPlan x nn mm kk))), (3, .int (nI 0)), (4, .int (nI 0)), (5, .int (nI (84 + 9 * kk)))]) hx hb dX6_makeStep_226 hl (k := 6) rfl (nI_inc _) (by decide) rfl (fun ls hl => ?_)
              refine lv_goto (tgt := 178) hx hb dX6_makeStep_229 (by decide) ?_
              exact ihx_11 (ix_11 + 1) (upd u0_0_11 (84 + 9 * kk + 1 + ix_11) (nI 0)) _ _ _ ls (by omega) (Eq.trans (Eq.symm (by rw [l_X6_makeStep_178] <;> rfl)) hvx_11) (fun j ha hb hc => (upd_ne _ _ (by omega)).trans (hrow j ha hb hc)) hp0 hfr hP hS (lv_sub hl [1, 2, 3, 4, 5, 6, 0] rfl)
          exact L11 mm 0 (upd (upd (oR x) 5 ((oR x 5) + (nI 1))) (84 + 9 * kk) (f_X6_missed x nn mm kk (f_X6_masterPlan x nn mm kk))) _ _ _ ls (by omega) rfl (fun j ha hb hc => by repeat rw [upd_ne _ _ (by omega)]) hp0 hfr hP hS (lv_sub hl [6, 5, 4, 3, 2, 1, 0] rfl)
        · refine lv_bipush (v := (-3)) hx hb dX6_makeStep_88 (by decide) ?_
          have hfin : f_X6_makeStep x nn mm kk = ((-3), x) := (by rw [f_X6_makeStep, if_neg c1, if_neg c2, if_neg c3, if_pos c6] <;> rfl)
          exact kr 90 ls _ _ _ _ hP hS rfl ⟨by rw [hfin] <;> rfl, by rw [hfin]; exact hp0, hfr⟩ dX6_makeStep_90
      · refine lv_aload_n hx hb dX6_makeStep_36 rfl (lv_at hl 2 rfl) ?_
        refine lv_iload_n hx hb dX6_makeStep_37 rfl (lv_at hl 1 rfl) ?_
        refine r_call (As := [.int (f_X6_masterPlan x nn mm kk)]) (rest := []) (ci := 6) X hP (c_X6_prices (nn := nn) (mm := mm) (kk := kk) hp0 (f_X6_masterPlan x nn mm kk) h0 h1 h3 hn hm hk) o_X6_prices rfl hp0.lt hp0.ob m426 ⟨rfl, rfl⟩ ⟨Nat.le_of_ble_eq_true rfl, Nat.le_of_ble_eq_true rfl⟩ rfl hl.1 rfl (Nat.le_of_ble_eq_true rfl) ⟨Nat.zero_le _, Nat.zero_le _⟩ dX6_makeStep_38 ?_
        refine lv_aload_n hx hb dX6_makeStep_41 rfl (lv_at hl 2 rfl) ?_
        refine lv_iload_n hx hb dX6_makeStep_42 rfl (lv_at hl 1 rfl) ?_
        refine r_call (As := [.int (f_X6_masterPlan x nn mm kk)]) (rest := [.int (f_X6_prices x nn mm kk (f_X6_masterPlan x nn mm kk))]) (ci := 6) X hP (c_X6_routes (nn := nn) (mm := mm) (kk := kk) hp0 (f_X6_masterPlan x nn mm kk) h0 h1 h3 hn hm hk (missed_server hn hm c3)) o_X6_routes rfl hp0.lt hp0.ob m434 ⟨rfl, rfl⟩ ⟨Nat.le_of_ble_eq_true rfl, Nat.le_of_ble_eq_true rfl⟩ rfl hl.1 rfl (Nat.le_of_ble_eq_true rfl) ⟨Nat.zero_le _, Nat.zero_le _⟩ dX6_makeStep_43 ?_
        refine lv_iadd hx hb dX6_makeStep_46 ?_
        refine lv_goto (tgt := 51) hx hb dX6_makeStep_47 (by decide) ?_
        refine lv_istore_n (lv' := [(3, .int ((f_X6_prices x nn mm kk (f_X6_masterPlan x nn mm kk)) + (f_X6_routes x nn mm kk (f_X6_masterPlan x nn mm kk)))), (2, .int (f_X6_missed x nn mm kk (f_X6_masterPlan x nn mm kk))), (1, .int (f_X6_masterPlan x nn mm kk)), (0, .ref (ad b))]) hx hb dX6_makeStep_51 rfl hl (by decide) rfl (fun ls hl => ?_)
        refine lv_iload_n hx hb dX6_makeStep_52 rfl (lv_at hl 1 rfl) ?_
        refine u_ge (tgt := 69) hx hb dX6_makeStep_53 (by decide) (fun h => by first | exact absurd h c3 | exact absurd c3 h) (fun c18 => ?_)
        refine lv_iload_n hx hb dX6_makeStep_56 rfl (lv_at hl 0 rfl) ?_
        refine lv_aload_n hx hb dX6_makeStep_57 rfl (lv_at hl 3 rfl) ?_
        refine lv_iload_n hx hb dX6_makeStep_58 rfl (lv_at hl 2 rfl) ?_
        refine r_call (As := [.int (f_X6_masterPlan x nn mm kk)]) (rest := [.int ((f_X6_prices x nn mm kk (f_X6_masterPlan x nn mm kk)) + (f_X6_routes x nn mm kk (f_X6_masterPlan x nn mm kk)))]) (ci := 6) X hP (c_X6_guess (nn := nn) (mm := mm) (kk := kk) hp0 (f_X6_masterPlan x nn mm kk) h0 h1 h3 hn hm hk) o_X6_guess rfl hp0.lt hp0.ob m414 ⟨rfl, rfl⟩ ⟨Nat.le_of_ble_eq_true rfl, Nat.le_of_ble_eq_true rfl⟩ rfl hl.1 rfl (Nat.le_of_ble_eq_true rfl) ⟨Nat.zero_le _, Nat.zero_le _⟩ dX6_makeStep_59 ?_
        refine lv_icmp_ne (tgt := 69) hx hb dX6_makeStep_62 (by decide) (fun c19 => ?_) (fun c19 => ?_)
        · refine lv_iconst (v := nI 0) hx hb dX6_makeStep_69 (by decide) ?_
          refine lv_istore (lv' := [(4, .int (nI 0)), (3, .int ((f_X6_prices x nn mm kk (f_X6_masterPlan x nn mm kk)) + (f_X6_routes x nn mm kk (f_X6_masterPlan x nn mm kk)))), (2, .int (f_X6_missed x nn mm kk (f_X6_masterPlan x nn mm kk))), (1, .int (f_X6_masterPlan x nn mm kk)), (0, .ref (ad b))]) hx hb dX6_makeStep_70 hl (by decide) rfl (fun ls hl => ?_)
          refine lv_iload hx hb dX6_makeStep_72 (lv_at hl 0 rfl) ?_
          refine z_ne (tgt := 91) hx hb (by omega) dX6_makeStep_74 (by decide) (fun h => absurd h (by omega)) (fun c20 => ?_)
          refine lv_aload_n hx hb dX6_makeStep_77 rfl (lv_at hl 4 rfl) ?_
          refine g_Mo_row X hP hp0 m83 dX6_makeStep_78 ?_
          refine lv_iconst (v := nI 3) hx hb dX6_makeStep_81 (by decide) ?_
          refine l_Mo_row X hP hp0 (by decide) dX6_makeStep_82 ?_
          refine q_val (h3 : oR x 3 = nI kk) ?_
          refine lv_bipush (v := nI 40) hx hb dX6_makeStep_83 (by decide) ?_
          refine q_ne (tgt := 91) hx hb (by omega) (by omega) dX6_makeStep_85 (by decide) (fun c21 => ?_) (fun c21 => ?_)
          · refine lv_aload_n hx hb dX6_makeStep_91 rfl (lv_at hl 4 rfl) ?_
            refine g_Mo_row X hP hp0 m83 dX6_makeStep_92 ?_
            refine lv_iconst (v := nI 5) hx hb dX6_makeStep_95 (by decide) ?_
            refine lv_dup2_11 hx hb dX6_makeStep_96 rfl rfl ?_
            refine l_Mo_row X hP hp0 (by decide) dX6_makeStep_97 ?_
            refine lv_iconst (v := nI 1) hx hb dX6_makeStep_98 (by decide) ?_
            refine lv_iadd hx hb dX6_makeStep_99 ?_
            refine s_Mo_row X hi hP hS hp0 (by decide) dX6_makeStep_100 (fun V22 H22 locs22 hp0 h2 hP hS => ?_)
            have hp0 : MoP N ad V22 t b (mkM (upd (oR x) 5 ((oR x 5) + (nI 1))) (oP x) (oA x) (oB x) (oS x) (oI x) (oX x) (oL x) (oT x) (oN x)) := hp0
            have hfr : ∀ k, (k < b ∨ b + 7 ≤ k) → V22 k = V k := fun k hk => (h2 k (by omega)).trans (hfr k hk)
            refine lv_iload_n hx hb dX6_makeStep_101 rfl (lv_at hl 2 rfl) ?_
            refine u_ge (tgt := 146) hx hb dX6_makeStep_102 (by decide) (fun h => by first | exact absurd h c3 | exact absurd c3 h) (fun c23 => ?_)
            refine lv_aload_n hx hb dX6_makeStep_105 rfl (lv_at hl 4 rfl) ?_
            refine g_Mo_row X hP hp0 m83 dX6_makeStep_106 ?_
            refine lv_iconst (v := nI 4) hx hb dX6_makeStep_109 (by decide) ?_
            refine l_Mo_row X hP hp0 (by decide) dX6_makeStep_110 ?_
            refine W.eq (g2 := F0 m 111 ls [.int ((upd (oR x) 5 ((oR x 5) + (nI 1))) 4)]) rfl ?_
            refine q_val (upd_ne _ _ (by decide)) ?_
            refine u_lt (tgt := 139) hx hb dX6_makeStep_111 (by decide) (fun c24 => ?_) (fun c24 => ?_)
            · refine lv_aload_n hx hb dX6_makeStep_139 rfl (lv_at hl 4 rfl) ?_
              refine g_Mo_row X hP hp0 m83 dX6_makeStep_140 ?_
              refine lv_iconst (v := nI 4) hx hb dX6_makeStep_143 (by decide) ?_
              refine lv_iload_n hx hb dX6_makeStep_144 rfl (lv_at hl 3 rfl) ?_
              refine s_Mo_row X hi hP hS hp0 (by decide) dX6_makeStep_145 (fun V25 H25 locs25 hp0 h2 hP hS => ?_)
              have hp0 : MoP N ad V25 t b (mkM (upd (upd (oR x) 5 ((oR x 5) + (nI 1))) 4 (f_X6_masterPlan x nn mm kk)) (oP x) (oA x) (oB x) (oS x) (oI x) (oX x) (oL x) (oT x) (oN x)) := hp0
              have hfr : ∀ k, (k < b ∨ b + 7 ≤ k) → V25 k = V k := fun k hk => (h2 k (by omega)).trans (hfr k hk)
              refine lv_iload hx hb dX6_makeStep_146 (lv_at hl 0 rfl) ?_
              refine z_eq (tgt := 153) hx hb (by omega) dX6_makeStep_148 (by decide) (fun c26 => ?_) (fun h => absurd h (by omega))
              refine lv_bipush (v := nI 84) hx hb dX6_makeStep_153 (by decide) ?_
              refine lv_bipush (v := nI 9) hx hb dX6_makeStep_155 (by decide) ?_
              refine lv_aload_n hx hb dX6_makeStep_157 rfl (lv_at hl 4 rfl) ?_
              refine g_Mo_row X hP hp0 m83 dX6_makeStep_158 ?_
              refine lv_iconst (v := nI 3) hx hb dX6_makeStep_161 (by decide) ?_
              refine l_Mo_row X hP hp0 (by decide) dX6_makeStep_162 ?_
              refine W.eq (g2 := F0 m 163 ls [.int ((upd (upd (oR x) 5 ((oR x 5) + (nI 1))) 4 (f_X6_masterPlan x nn mm kk)) 3), .int (nI 9), .int (nI 84)]) rfl ?_
              refine q_val (upd_ne _ _ (by decide)) ?_
              refine q_val (upd_ne _ _ (by decide)) ?_
              refine q_val (h3 : oR x 3 = nI kk) ?_
              refine q_imul hx hb dX6_makeStep_163 ?_
              refine q_iadd hx hb dX6_makeStep_164 ?_
              refine W.eq (g2 := F0 m 165 ls [.int (nI (84 + 9 * kk))]) rfl ?_
              refine lv_istore (lv' := [(5, .int (nI (84 + 9 * kk))), (4, .int (nI 0)), (3, .int ((f_X6_prices x nn mm kk (f_X6_masterPlan x nn mm kk)) + (f_X6_routes x nn mm kk (f_X6_masterPlan x nn mm kk)))), (2, .int (f_X6_missed x nn mm kk (f_X6_masterPlan x nn mm kk))), (1, .int (f_X6_masterPlan x nn mm kk)), (0, .ref (ad b))]) hx hb dX6_makeStep_165 hl (by decide) rfl (fun ls hl => ?_)
              refine lv_aload_n hx hb dX6_makeStep_167 rfl (lv_at hl 5 rfl) ?_
              refine g_Mo_row X hP hp0 m83 dX6_makeStep_168 ?_
              refine lv_iload hx hb dX6_makeStep_171 (lv_at hl 0 rfl) ?_
              refine lv_iload_n hx hb dX6_makeStep_173 rfl (lv_at hl 3 rfl) ?_
              refine s_Mo_row X hi hP hS hp0 (by omega) dX6_makeStep_174 (fun V27 H27 locs27 hp0 h2 hP hS => ?_)
              have hp0 : MoP N ad V27 t b (mkM (upd (upd (upd (oR x) 5 ((oR x 5) + (nI 1))) 4 (f_X6_masterPlan x nn mm kk)) (84 + 9 * kk) (f_X6_missed x nn mm kk (f_X6_masterPlan x nn mm kk))) (oP x) (oA x) (oB x) (oS x) (oI x) (oX x) (oL x) (oT x) (oN x)) := hp0
              have hfr : ∀ k, (k < b ∨ b + 7 ≤ k) → V27 k = V k := fun k hk => (h2 k (by omega)).trans (hfr k hk)
              refine lv_iconst (v := nI 0) hx hb dX6_makeStep_175 (by decide) ?_
              refine lv_istore (lv' := [(6, .int (nI 0)), (5, .int (nI (84 + 9 * kk))), (4, .int (nI 0)), (3, .int ((f_X6_prices x nn mm kk (f_X6_masterPlan x nn mm kk)) + (f_X6_routes x nn mm kk (f_X6_masterPlan x nn mm kk)))), (2, .int (f_X6_missed x nn mm kk (f_X6_masterPlan x nn mm kk))), (1, .int (f_X6_masterPlan x nn mm kk)), (0, .ref (ad b))]) hx hb dX6_makeStep_176 hl (by decide) rfl (fun ls hl => ?_)
              have L28 : ∀ (dx_28 ix_28 : Nat) (u0_0_28 : Nat → Int32) (V28 : Nat → va_E) (H28 : Heap) (locs28 : List Loc) (ls : Array Slot), (ix_28 + dx_28 = mm) → (l_X6_makeStep_178a x nn mm kk dx_28 ix_28 u0_0_28 = l_X6_makeStep_178a x nn mm kk mm 0 (upd (upd (upd (oR x) 5 ((oR x 5) + (nI 1))) 4 (f_X6_masterPlan x nn mm kk)) (84 + 9 * kk) (f_X6_missed x nn mm kk (f_X6_masterPlan x nn mm kk)))) → (∀ j, j < 84 → j ≠ 4 → j ≠ 5 → u0_0_28 j = oR x j) → (MoP N ad V28 t b (mkM u0_0_28 (oP x) (oA x) (oB x) (oS x) (oI x) (oX x) (oL x) (oT x) (oN x))) → (∀ k, (k < b ∨ b + 7 ≤ k) → V28 k = V k) → (HP dd N ad V28 H28) → (va_S (dm N ad H.size) H H28 locs28) → (lv_has ls 7 [(0, .ref (ad b)), (1, .int (f_X6_masterPlan x nn mm kk)), (2, .int (f_X6_missed x nn mm kk (f_X6_masterPlan x nn mm kk))), (3, .int ((f_X6_prices x nn mm kk (f_X6_masterPlan x nn mm kk)) + (f_X6_routes x nn mm kk (f_X6_masterPlan x nn mm kk)))), (4, .int (nI 0)), (5, .int (nI (84 + 9 * kk))), (6, .int (nI ix_28))]) → W p l e rmX6_makeStep s m as below meth c H28 locs28 0 0 Q (F0 m 178 ls []) := by
                intro dx_28
                induction dx_28 with
                | zero =>
                  intro ix_28 u0_0_28 V28 H28 locs28 ls hid hvx_28 hrow hp0 hfr hP hS hl
                  have hiN : mm = ix_28 := by omega
                  subst hiN
                  have hvx_28 : u0_0_28 = l_X6_makeStep_178a x nn mm kk mm 0 (upd (upd (upd (oR x) 5 ((oR x 5) + (nI 1))) 4 (f_X6_masterPlan x nn mm kk)) (84 + 9 * kk) (f_X6_missed x nn mm kk (f_X6_masterPlan x nn mm kk))) := hvx_28
                  have hh0 : u0_0_28 = l_X6_makeStep_178a x nn mm kk mm 0 (upd (upd (upd (oR x) 5 ((oR x 5) + (nI 1))) 4 (f_X6_masterPlan x nn mm kk)) (84 + 9 * kk) (f_X6_missed x nn mm kk (f_X6_masterPlan x nn mm kk))) := hvx_28
                  subst hh0
                  refine lv_iload hx hb dX6_makeStep_178 (lv_at hl 6 rfl) ?_
                  refine lv_aload_n hx hb dX6_makeStep_180 rfl (lv_at hl 0 rfl) ?_
                  refine g_Mo_row X hP hp0 m83 dX6_makeStep_181 ?_
                  refine lv_iconst (v := nI 1) hx hb dX6_makeStep_184 (by decide) ?_
                  refine l_Mo_row X hP hp0 (by decide) dX6_makeStep_185 ?_
                  refine W.eq (g2 := F0 m 186 ls [.int ((l_X6_makeStep_178a x nn mm kk mm 0 (upd (upd (upd (oR x) 5 ((oR x 5) + (nI 1))) 4 (f_X6_masterPlan x nn mm kk)) (84 + 9 * kk) (f_X6_missed x nn mm kk (f_X6_masterPlan x nn mm kk)))) 1), .int (nI mm)]) rfl ?_
                  refine q_val (((hrow 1 (by decide) (by decide) (by decide)).trans h1) : (l_X6_makeStep_178a x nn mm kk mm 0 (upd (upd (upd (oR x) 5 ((oR x 5) + (nI 1))) 4 (f_X6_masterPlan x nn mm kk)) (84 + 9 * kk) (f_X6_missed x nn mm kk (f_X6_masterPlan x nn mm kk)))) 1 = nI mm) ?_
                  refine q_ge (tgt := 232) hx hb (by omega) (by omega) dX6_makeStep_186 (by decide) (fun c29 => ?_) (fun h => absurd h (by omega))
                  refine lv_aload_n hx hb dX6_makeStep_232 rfl (lv_at hl 0 rfl) ?_
                  refine g_Mo_row X hP hp0 m83 dX6_makeStep_233 ?_
                  refine lv_iconst (v := nI 3) hx hb dX6_makeStep_236 (by decide) ?_
                  refine lv_dup2_11 hx hb dX6_makeStep_237 rfl rfl ?_
                  refine l_Mo_row X hP hp0 (by decide) dX6_makeStep_238 ?_
                  refine W.eq (g2 := F0 m 239 ls [.int ((l_X6_makeStep_178a x nn mm kk mm 0 (upd (upd (upd (oR x) 5 ((oR x 5) + (nI 1))) 4 (f_X6_masterPlan x nn mm kk)) (84 + 9 * kk) (f_X6_missed x nn mm kk (f_X6_masterPlan x nn mm kk)))) 3), .int (nI 3), .ref (ad (b + 1))]) rfl ?_
                  refine lv_iconst (v := nI 1) hx hb dX6_makeStep_239 (by decide) ?_
                  refine lv_iadd hx hb dX6_makeStep_240 ?_
                  refine s_Mo_row X hi hP hS hp0 (by decide) dX6_makeStep_241 (fun V30 H30 locs30 hp0 h2 hP hS => ?_)
                  have hp0 : MoP N ad V30 t b (mkM (upd (l_X6_makeStep_178a x nn mm kk mm 0 (upd (upd (upd (oR x) 5 ((oR x 5) + (nI 1))) 4 (f_X6_masterPlan x nn mm kk)) (84 + 9 * kk) (f_X6_missed x nn mm kk (f_X6_masterPlan x nn mm kk)))) 3 (((l_X6_makeStep_178a x nn mm kk mm 0 (upd (upd (upd (oR x) 5 ((oR x 5) + (nI 1))) 4 (f_X6_masterPlan x nn mm kk)) (84 + 9 * kk) (f_X6_missed x nn mm kk (f_X6_masterPlan x nn mm kk)))) 3) + (nI 1))) (oP x) (oA x) (oB x) (oS x) (oI x) (oX x) (oL x) (oT x) (oN x)) := hp0
                  have hfr : ∀ k, (k < b ∨ b + 7 ≤ k) → V30 k = V k := fun k hk => (h2 k (by omega)).trans (hfr k hk)
                  refine lv_iload_n hx hb dX6_makeStep_242 rfl (lv_at hl 2 rfl) ?_
                  refine u_ge (tgt := 250) hx hb dX6_makeStep_243 (by decide) (fun h => by first | exact absurd h c3 | exact absurd c3 h) (fun c31 => ?_)
                  refine lv_iconst (v := nI 1) hx hb dX6_makeStep_246 (by decide) ?_
                  refine lv_goto (tgt := 251) hx hb dX6_makeStep_247 (by decide) ?_
                  have hfin : f_X6_makeStep x nn mm kk = (nI 1, mkM (upd (l_X6_makeStep_178a x nn mm kk mm 0 (upd (upd (upd (oR x) 5 ((oR x 5) + (nI 1))) 4 (f_X6_masterPlan x nn mm kk)) (84 + 9 * kk) (f_X6_missed x nn mm kk (f_X6_masterPlan x nn mm kk)))) 3 (((l_X6_makeStep_178a x nn mm kk mm 0 (upd (upd (upd (oR x) 5 ((oR x 5) + (nI 1))) 4 (f_X6_masterPlan x nn mm kk)) (84 + 9 * kk) (f_X6_missed x nn mm kk (f_X6_masterPlan x nn mm kk)))) 3) + (nI 1))) (oP x) (oA x) (oB x) (oS x) (oI x) (oX x) (oL x) (oT x) (oN x)) := (by rw [f_X6_makeStep, if_neg c1, if_neg c2, if_pos c3, if_neg c19, if_neg c21, if_pos c24] <;> rfl)
                  exact kr 251 ls _ _ _ _ hP hS rfl ⟨by rw [hfin] <;> rfl, by rw [hfin]; exact hp0, hfr⟩ dX6_makeStep_251
                | succ dx_28 ihx_28 =>
                  intro ix_28 u0_0_28 V28 H28 locs28 ls hid hvx_28 hrow hp0 hfr hP hS hl
                  refine lv_iload hx hb dX6_makeStep_178 (lv_at hl 6 rfl) ?_
                  refine lv_aload_n hx hb dX6_makeStep_180 rfl (lv_at hl 0 rfl) ?_
                  refine g_Mo_row X hP hp0 m83 dX6_makeStep_181 ?_
                  refine lv_iconst (v := nI 1) hx hb dX6_makeStep_184 (by decide) ?_
                  refine l_Mo_row X hP hp0 (by decide) dX6_makeStep_185 ?_
                  refine W.eq (g2 := F0 m 186 ls [.int (u0_0_28 1), .int (nI ix_28)]) rfl ?_
                  refine q_val (((hrow 1 (by decide) (by decide) (by decide)).trans h1) : u0_0_28 1 = nI mm) ?_
                  refine q_ge (tgt := 232) hx hb (by omega) (by omega) dX6_makeStep_186 (by decide) (fun h => absurd h (by omega)) (fun c32 => ?_)
                  refine lv_aload_n hx hb dX6_makeStep_189 rfl (lv_at hl 0 rfl) ?_
                  refine g_Mo_row X hP hp0 m83 dX6_makeStep_190 ?_
                  refine lv_iload hx hb dX6_makeStep_193 (lv_at hl 5 rfl) ?_
                  refine lv_iconst (v := nI 1) hx hb dX6_makeStep_195 (by decide) ?_
                  refine q_iadd hx hb dX6_makeStep_196 ?_
                  refine W.eq (g2 := F0 m 197 ls [.int (nI (84 + 9 * kk + 1)), .ref (ad (b + 1))]) rfl ?_
                  refine lv_iload hx hb dX6_makeStep_197 (lv_at hl 6 rfl) ?_
                  refine q_iadd hx hb dX6_makeStep_199 ?_
                  refine W.eq (g2 := F0 m 200 ls [.int (nI (84 + 9 * kk + 1 + ix_28)), .ref (ad (b + 1))]) rfl ?_
                  refine lv_iload_n hx hb dX6_makeStep_200 rfl (lv_at hl 2 rfl) ?_
                  refine u_ge (tgt := 224) hx hb dX6_makeStep_201 (by decide) (fun h => by first | exact absurd h c3 | exact absurd c3 h) (fun c33 => ?_)
                  refine lv_aload_n hx hb dX6_makeStep_204 rfl (lv_at hl 0 rfl) ?_
                  refine g_Mo_row X hP hp0 m83 dX6_makeStep_205 ?_
                  refine lv_aload_n hx hb dX6_makeStep_208 rfl (lv_at hl 0 rfl) ?_
                  refine lv_iload_n hx hb dX6_makeStep_209 rfl (lv_at hl 1 rfl) ?_
                  refine lv_iload hx hb dX6_makeStep_210 (lv_at hl 6 rfl) ?_
                  refine r_call (As := [.int (f_X6_masterPlan x nn mm kk), .int (nI ix_28)]) (rest := [.ref (ad (b + 1)), .int (nI (84 + 9 * kk + 1 + ix_28)), .ref (ad (b + 1))]) (ci := 6) X hP (c_X6_server (nn := nn) (mm := mm) (kk := kk) hp0 (f_X6_masterPlan x nn mm kk) ix_28 (show u0_0_28 0 = nI nn from ((hrow 0 (by decide) (by decide) (by decide)).trans h0)) (show u0_0_28 1 = nI mm from ((hrow 1 (by decide) (by decide) (by decide)).trans h1)) (show u0_0_28 3 = nI kk from ((hrow 3 (by decide) (by decide) (by decide)).trans h3)) hn hm hk (by omega)) o_X6_server rfl hp0.lt hp0.ob m438 ⟨rfl, rfl⟩ ⟨Nat.le_of_ble_eq_true rfl, Nat.le_of_ble_eq_true rfl⟩ rfl hl.1 rfl (Nat.le_of_ble_eq_true rfl) ⟨Nat.zero_le _, Nat.zero_le _⟩ dX6_makeStep_212 ?_
                  have hsv34 := server_n (mm := mm) (kk := kk) hn (srv_hre (x := x) (x' := (mkM u0_0_28 (oP x) (oA x) (oB x) (oS x) (oI x) (oX x) (oL x) (oT x) (oN x))) (fun j ha hb => hrow j (by omega) (by omega) (by omega)) hn hm (missed_server hn hm c3) ix_28 (by omega))
                  have hsv34b := hsv34.2
                  refine q_val hsv34.1 ?_
                  refine lv_iload hx hb dX6_makeStep_215 (lv_at hl 6 rfl) ?_
                  refine r_callS (As := [.int (nI (tn (f_X6_server (mkM u0_0_28 (oP x) (oA x) (oB x) (oS x) (oI x) (oX x) (oL x) (oT x) (oN x)) nn mm kk (f_X6_masterPlan x nn mm kk) ix_28))), .int (nI ix_28)]) (rest := [.ref (ad (b + 1)), .int (nI (84 + 9 * kk + 1 + ix_28)), .ref (ad (b + 1))]) X hP (c_X6_route (tn (f_X6_server (mkM u0_0_28 (oP x) (oA x) (oB x) (oS x) (oI x) (oX x) (oL x) (oT x) (oN x)) nn mm kk (f_X6_masterPlan x nn mm kk) ix_28)) ix_28) o_X6_route m222 ⟨rfl, rfl⟩ ⟨Nat.le_of_ble_eq_true rfl, Nat.le_of_ble_eq_true rfl⟩ rfl hl.1 rfl (Nat.le_of_ble_eq_true rfl) ⟨Nat.zero_le _, Nat.zero_le _⟩ dX6_makeStep_217 ?_
                  refine q_val (show nI (f_X6_route (tn (f_X6_server (mkM u0_0_28 (oP x) (oA x) (oB x) (oS x) (oI x) (oX x) (oL x) (oT x) (oN x)) nn mm kk (f_X6_masterPlan x nn mm kk) ix_28)) ix_28) = nI (21 + 8 * (tn (f_X6_server (mkM u0_0_28 (oP x) (oA x) (oB x) (oS x) (oI x) (oX x) (oL x) (oT x) (oN x)) nn mm kk (f_X6_masterPlan x nn mm kk) ix_28)) + ix_28) from rfl) ?_
                  refine l_Mo_row X hP hp0 (by omega) dX6_makeStep_220 ?_
                  refine W.eq (g2 := F0 m 221 ls [.int (u0_0_28 (21 + 8 * (tn (f_X6_server (mkM u0_0_28 (oP x) (oA x) (oB x) (oS x) (oI x) (oX x) (oL x) (oT x) (oN x)) nn mm kk (f_X6_masterPlan x nn mm kk) ix_28)) + ix_28)), .int (nI (84 + 9 * kk + 1 + ix_28)), .ref (ad (b + 1))]) rfl ?_
                  refine lv_goto (tgt := 225) hx hb dX6_makeStep_221 (by decide) ?_
                  refine s_Mo_row X hi hP hS hp0 (by omega) dX6_makeStep_225 (fun V35 H35 locs35 hp0 h2 hP hS => ?_)
                  have hp0 : MoP N ad V35 t b (mkM (upd u0_0_28 (84 + 9 * kk + 1 + ix_28) (u0_0_28 (21 + 8 * (tn (f_X6_server (mkM u0_0_28 (oP x) (oA x) (oB x) (oS x) (oI x) (oX x) (oL x) (oT x) (oN x)) nn mm kk (f_X6_masterPlan x nn mm kk) ix_28)) + ix_28))) (oP x) (oA x) (oB x) (oS x) (oI x) (oX x) (oL x) (oT x) (oN x)) := hp0
                  have hfr : ∀ k, (k < b ∨ b + 7 ≤ k) → V35 k = V k := fun k hk => (h2 k (by omega)).trans (hfr k hk)
                  refine lv_iinc (v := nI (ix_28 + 1)) (lv' := [(6, .int (nI (ix_28 + 1))), (0, .ref (ad b)), (1, .int (f_X6_masterPlan x nn mm kk)), (2, .int (f_X6_missed x nn mm kk (f_X6_masterPlan x nn mm kk))), (3, .int ((f_X6_prices x nn mm kk (f_X6_masterPlan x nn mm kk)) + (f_X6_routes x nn mm kk (f_X6_masterPlan x nn mm kk)))), (4, .int (nI 0)), (5, .int (nI (84 + 9 * kk)))]) hx hb dX6_makeStep_226 hl (k := 6) rfl (nI_inc _) (by decide) rfl (fun ls hl => ?_)
                  refine lv_goto (tgt := 178) hx hb dX6_makeStep_229 (by decide) ?_
                  exact ihx_28 (ix_28 + 1) (upd u0_0_28 (84 + 9 * kk + 1 + ix_28) (u0_0_28 (21 + 8 * (tn (f_X6_server (mkM u0_0_28 (oP x) (oA x) (oB x) (oS x) (oI x) (oX x) (oL x) (oT x) (oN x)) nn mm kk (f_X6_masterPlan x nn mm kk) ix_28)) + ix_28))) _ _ _ ls (by omega) (Eq.trans (Eq.symm (by rw [l_X6_makeStep_178a] <;> rfl)) hvx_28) (fun j ha hb hc => (upd_ne _ _ (by omega)).trans (hrow j ha hb hc)) hp0 hfr hP hS (lv_sub hl [1, 2, 3, 4, 5, 6, 0] rfl)
              exact L28 mm 0 (upd (upd (upd (oR x) 5 ((oR x 5) + (nI 1))) 4 (f_X6_masterPlan x nn mm kk)) (84 + 9 * kk) (f_X6_missed x nn mm kk (f_X6_masterPlan x nn mm kk))) _ _ _ ls (by omega) rfl (fun j ha hb hc => by repeat rw [upd_ne _ _ (by omega)]) hp0 hfr hP hS (lv_sub hl [6, 5, 4, 3, 2, 1, 0] rfl)
            · refine lv_iload_n hx hb dX6_makeStep_114 rfl (lv_at hl 1 rfl) ?_
              refine lv_aload_n hx hb dX6_makeStep_115 rfl (lv_at hl 4 rfl) ?_
              refine lv_aload_n hx hb dX6_makeStep_116 rfl (lv_at hl 4 rfl) ?_
              refine g_Mo_row X hP hp0 m83 dX6_makeStep_117 ?_
              refine lv_iconst (v := nI 4) hx hb dX6_makeStep_120 (by decide) ?_
              refine l_Mo_row X hP hp0 (by decide) dX6_makeStep_121 ?_
              refine W.eq (g2 := F0 m 122 ls [.int ((upd (oR x) 5 ((oR x 5) + (nI 1))) 4), .ref (ad b), .int ((f_X6_prices x nn mm kk (f_X6_masterPlan x nn mm kk)) + (f_X6_routes x nn mm kk (f_X6_masterPlan x nn mm kk)))]) rfl ?_
              refine q_val (upd_ne _ _ (by decide)) ?_
              refine r_call (As := [.int (oR x 4)]) (rest := [.int ((f_X6_prices x nn mm kk (f_X6_masterPlan x nn mm kk)) + (f_X6_routes x nn mm kk (f_X6_masterPlan x nn mm kk)))]) (ci := 6) X hP (c_X6_prices (nn := nn) (mm := mm) (kk := kk) hp0 (oR x 4) (show (upd (oR x) 5 ((oR x 5) + (nI 1))) 0 = nI nn from ((upd_ne _ _ (by omega)).trans h0)) (show (upd (oR x) 5 ((oR x 5) + (nI 1))) 1 = nI mm from ((upd_ne _ _ (by omega)).trans h1)) (show (upd (oR x) 5 ((oR x 5) + (nI 1))) 3 = nI kk from ((upd_ne _ _ (by omega)).trans h3)) hn hm hk) o_X6_prices rfl hp0.lt hp0.ob m426 ⟨rfl, rfl⟩ ⟨Nat.le_of_ble_eq_true rfl, Nat.le_of_ble_eq_true rfl⟩ rfl hl.1 rfl (Nat.le_of_ble_eq_true rfl) ⟨Nat.zero_le _, Nat.zero_le _⟩ dX6_makeStep_122 ?_
              refine lv_aload_n hx hb dX6_makeStep_125 rfl (lv_at hl 4 rfl) ?_
              refine lv_aload_n hx hb dX6_makeStep_126 rfl (lv_at hl 4 rfl) ?_
              refine g_Mo_row X hP hp0 m83 dX6_makeStep_127 ?_
              refine lv_iconst (v := nI 4) hx hb dX6_makeStep_130 (by decide) ?_
              refine l_Mo_row X hP hp0 (by decide) dX6_makeStep_131 ?_
              refine W.eq (g2 := F0 m 132 ls [.int ((upd (oR x) 5 ((oR x 5) + (nI 1))) 4), .ref (ad b), .int (f_X6_prices (mkM (upd (oR x) 5 ((oR x 5) + (nI 1))) (oP x) (oA x) (oB x) (oS x) (oI x) (oX x) (oL x) (oT x) (oN x)) nn mm kk (oR x 4)), .int ((f_X6_prices x nn mm kk (f_X6_masterPlan x nn mm kk)) + (f_X6_routes x nn mm kk (f_X6_masterPlan x nn mm kk)))]) rfl ?_
              refine q_val (upd_ne _ _ (by decide)) ?_
              refine r_call (As := [.int (oR x 4)]) (rest := [.int (f_X6_prices (mkM (upd (oR x) 5 ((oR x 5) + (nI 1))) (oP x) (oA x) (oB x) (oS x) (oI x) (oX x) (oL x) (oT x) (oN x)) nn mm kk (oR x 4)), .int ((f_X6_prices x nn mm kk (f_X6_masterPlan x nn mm kk)) + (f_X6_routes x nn mm kk (f_X6_masterPlan x nn mm kk)))]) (ci := 6) X hP (c_X6_routes (nn := nn) (mm := mm) (kk := kk) hp0 (oR x 4) (show (upd (oR x) 5 ((oR x 5) + (nI 1))) 0 = nI nn from ((upd_ne _ _ (by omega)).trans h0)) (show (upd (oR x) 5 ((oR x 5) + (nI 1))) 1 = nI mm from ((upd_ne _ _ (by omega)).trans h1)) (show (upd (oR x) 5 ((oR x 5) + (nI 1))) 3 = nI kk from ((upd_ne _ _ (by omega)).trans h3)) hn hm hk (srv_hre (x := x) (x' := (mkM (upd (oR x) 5 ((oR x 5) + (nI 1))) (oP x) (oA x) (oB x) (oS x) (oI x) (oX x) (oL x) (oT x) (oN x))) (fun j ha hb => upd_ne _ _ (by omega)) hn hm (hbest c24))) o_X6_routes rfl hp0.lt hp0.ob m434 ⟨rfl, rfl⟩ ⟨Nat.le_of_ble_eq_true rfl, Nat.le_of_ble_eq_true rfl⟩ rfl hl.1 rfl (Nat.le_of_ble_eq_true rfl) ⟨Nat.zero_le _, Nat.zero_le _⟩ dX6_makeStep_132 ?_
              refine lv_iadd hx hb dX6_makeStep_135 ?_
              refine j_ge (tgt := 146) hx hb dX6_makeStep_136 (by decide) (fun c36 => ?_) (fun c36 => ?_)
              · refine lv_iload hx hb dX6_makeStep_146 (lv_at hl 0 rfl) ?_
                refine z_eq (tgt := 153) hx hb (by omega) dX6_makeStep_148 (by decide) (fun c37 => ?_) (fun h => absurd h (by omega))
                refine lv_bipush (v := nI 84) hx hb dX6_makeStep_153 (by decide) ?_
                refine lv_bipush (v := nI 9) hx hb dX6_makeStep_155 (by decide) ?_
                refine lv_aload_n hx hb dX6_makeStep_157 rfl (lv_at hl 4 rfl) ?_
                refine g_Mo_row X hP hp0 m83 dX6_makeStep_158 ?_
                refine lv_iconst (v := nI 3) hx hb dX6_makeStep_161 (by decide) ?_
                refine l_Mo_row X hP hp0 (by decide) dX6_makeStep_162 ?_
                refine W.eq (g2 := F0 m 163 ls [.int ((upd (oR x) 5 ((oR x 5) + (nI 1))) 3), .int (nI 9), .int (nI 84)]) rfl ?_
                refine q_val (upd_ne _ _ (by decide)) ?_
                refine q_val (h3 : oR x 3 = nI kk) ?_
                refine q_imul hx hb dX6_makeStep_163 ?_
                refine q_iadd hx hb dX6_makeStep_164 ?_
                refine W.eq (g2 := F0 m 165 ls [.int (nI (84 + 9 * kk))]) rfl ?_
                refine lv_istore (lv' := [(5, .int (nI (84 + 9 * kk))), (4, .int (nI 0)), (3, .int ((f_X6_prices x nn mm kk (f_X6_masterPlan x nn mm kk)) + (f_X6_routes x nn mm kk (f_X6_masterPlan x nn mm kk)))), (2, .int (f_X6_missed x nn mm kk (f_X6_masterPlan x nn mm kk))), (1, .int (f_X6_masterPlan x nn mm kk)), (0, .ref (ad b))]) hx hb dX6_makeStep_165 hl (by decide) rfl (fun ls hl => ?_)
                refine lv_aload_n hx hb dX6_makeStep_167 rfl (lv_at hl 5 rfl) ?_
                refine g_Mo_row X hP hp0 m83 dX6_makeStep_168 ?_
                refine lv_iload hx hb dX6_makeStep_171 (lv_at hl 0 rfl) ?_
                refine lv_iload_n hx hb dX6_makeStep_173 rfl (lv_at hl 3 rfl) ?_
                refine s_Mo_row X hi hP hS hp0 (by omega) dX6_makeStep_174 (fun V38 H38 locs38 hp0 h2 hP hS => ?_)
                have hp0 : MoP N ad V38 t b (mkM (upd (upd (oR x) 5 ((oR x 5) + (nI 1))) (84 + 9 * kk) (f_X6_missed x nn mm kk (f_X6_masterPlan x nn mm kk))) (oP x) (oA x) (oB x) (oS x) (oI x) (oX x) (oL x) (oT x) (oN x)) := hp0
                have hfr : ∀ k, (k < b ∨ b + 7 ≤ k) → V38 k = V k := fun k hk => (h2 k (by omega)).trans (hfr k hk)
                refine lv_iconst (v := nI 0) hx hb dX6_makeStep_175 (by decide) ?_
                refine lv_istore (lv' := [(6, .int (nI 0)), (5, .int (nI (84 + 9 * kk))), (4, .int (nI 0)), (3, .int ((f_X6_prices x nn mm kk (f_X6_masterPlan x nn mm kk)) + (f_X6_routes x nn mm kk (f_X6_masterPlan x nn mm kk)))), (2, .int (f_X6_missed x nn mm kk (f_X6_masterPlan x nn mm kk))), (1, .int (f_X6_masterPlan x nn mm kk)), (0, .ref (ad b))]) hx hb dX6_makeStep_176 hl (by decide) rfl (fun ls hl => ?_)
                have L39 : ∀ (dx_39 ix_39 : Nat) (u0_0_39 : Nat → Int32) (V39 : Nat → va_E) (H39 : Heap) (locs39 : List Loc) (ls : Array Slot), (ix_39 + dx_39 = mm) → (l_X6_makeStep_178b x nn mm kk dx_39 ix_39 u0_0_39 = l_X6_makeStep_178b x nn mm kk mm 0 (upd (upd (oR x) 5 ((oR x 5) + (nI 1))) (84 + 9 * kk) (f_X6_missed x nn mm kk (f_X6_masterPlan x nn mm kk)))) → (∀ j, j < 84 → j ≠ 4 → j ≠ 5 → u0_0_39 j = oR x j) → (MoP N ad V39 t b (mkM u0_0_39 (oP x) (oA x) (oB x) (oS x) (oI x) (oX x) (oL x) (oT x) (oN x))) → (∀ k, (k < b ∨ b + 7 ≤ k) → V39 k = V k) → (HP dd N ad V39 H39) → (va_S (dm N ad H.size) H H39 locs39) → (lv_has ls 7 [(0, .ref (ad b)), (1, .int (f_X6_masterPlan x nn mm kk)), (2, .int (f_X6_missed x nn mm kk (f_X6_masterPlan x nn mm kk))), (3, .int ((f_X6_prices x nn mm kk (f_X6_masterPlan x nn mm kk)) + (f_X6_routes x nn mm kk (f_X6_masterPlan x nn mm kk)))), (4, .int (nI 0)), (5, .int (nI (84 + 9 * kk))), (6, .int (nI ix_39))]) → W p l e rmX6_makeStep s m as below meth c H39 locs39 0 0 Q (F0 m 178 ls []) := by
                  intro dx_39
                  induction dx_39 with
                  | zero =>
                    intro ix_39 u0_0_39 V39 H39 locs39 ls hid hvx_39 hrow hp0 hfr hP hS hl
                    have hiN : mm = ix_39 := by omega
                    subst hiN
                    have hvx_39 : u0_0_39 = l_X6_makeStep_178b x nn mm kk mm 0 (upd (upd (oR x) 5 ((oR x 5) + (nI 1))) (84 + 9 * kk) (f_X6_missed x nn mm kk (f_X6_masterPlan x nn mm kk))) := hvx_39
                    have hh0 : u0_0_39 = l_X6_makeStep_178b x nn mm kk mm 0 (upd (upd (oR x) 5 ((oR x 5) + (nI 1))) (84 + 9 * kk) (f_X6_missed x nn mm kk (f_X6_masterPlan x nn mm kk))) := hvx_39
                    subst hh0
                    refine lv_iload hx hb dX6_makeStep_178 (lv_at hl 6 rfl) ?_
                    refine lv_aload_n hx hb dX6_makeStep_180 rfl (lv_at hl 0 rfl) ?_
                    refine g_Mo_row X hP hp0 m83 dX6_makeStep_181 ?_
                    refine lv_iconst (v := nI 1) hx hb dX6_makeStep_184 (by decide) ?_
                    refine l_Mo_row X hP hp0 (by decide) dX6_makeStep_185 ?_
                    refine W.eq (g2 := F0 m 186 ls [.int ((l_X6_makeStep_178b x nn mm kk mm 0 (upd (upd (oR x) 5 ((oR x 5) + (nI 1))) (84 + 9 * kk) (f_X6_missed x nn mm kk (f_X6_masterPlan x nn mm kk)))) 1), .int (nI mm)]) rfl ?_
                    refine q_val (((hrow 1 (by decide) (by decide) (by decide)).trans h1) : (l_X6_makeStep_178b x nn mm kk mm 0 (upd (upd (oR x) 5 ((oR x 5) + (nI 1))) (84 + 9 * kk) (f_X6_missed x nn mm kk (f_X6_masterPlan x nn mm kk)))) 1 = nI mm) ?_
                    refine q_ge (tgt := 232) hx hb (by omega) (by omega) dX6_makeStep_186 (by decide) (fun c40 => ?_) (fun h => absurd h (by omega))
                    refine lv_aload_n hx hb dX6_makeStep_232 rfl (lv_at hl 0 rfl) ?_
                    refine g_Mo_row X hP hp0 m83 dX6_makeStep_233 ?_
                    refine lv_iconst (v := nI 3) hx hb dX6_makeStep_236 (by decide) ?_
                    refine lv_dup2_11 hx hb dX6_makeStep_237 rfl rfl ?_
                    refine l_Mo_row X hP hp0 (by decide) dX6_makeStep_238 ?_
                    refine W.eq (g2 := F0 m 239 ls [.int ((l_X6_makeStep_178b x nn mm kk mm 0 (upd (upd (oR x) 5 ((oR x 5) + (nI 1))) (84 + 9 * kk) (f_X6_missed x nn mm kk (f_X6_masterPlan x nn mm kk)))) 3), .int (nI 3), .ref (ad (b + 1))]) rfl ?_
                    refine lv_iconst (v := nI 1) hx hb dX6_makeStep_239 (by decide) ?_
                    refine lv_iadd hx hb dX6_makeStep_240 ?_
                    refine s_Mo_row X hi hP hS hp0 (by decide) dX6_makeStep_241 (fun V41 H41 locs41 hp0 h2 hP hS => ?_)
                    have hp0 : MoP N ad V41 t b (mkM (upd (l_X6_makeStep_178b x nn mm kk mm 0 (upd (upd (oR x) 5 ((oR x 5) + (nI 1))) (84 + 9 * kk) (f_X6_missed x nn mm kk (f_X6_masterPlan x nn mm kk)))) 3 (((l_X6_makeStep_178b x nn mm kk mm 0 (upd (upd (oR x) 5 ((oR x 5) + (nI 1))) (84 + 9 * kk) (f_X6_missed x nn mm kk (f_X6_masterPlan x nn mm kk)))) 3) + (nI 1))) (oP x) (oA x) (oB x) (oS x) (oI x) (oX x) (oL x) (oT x) (oN x)) := hp0
                    have hfr : ∀ k, (k < b ∨ b + 7 ≤ k) → V41 k = V k := fun k hk => (h2 k (by omega)).trans (hfr k hk)
                    refine lv_iload_n hx hb dX6_makeStep_242 rfl (lv_at hl 2 rfl) ?_
                    refine u_ge (tgt := 250) hx hb dX6_makeStep_243 (by decide) (fun h => by first | exact absurd h c3 | exact absurd c3 h) (fun c42 => ?_)
                    refine lv_iconst (v := nI 1) hx hb dX6_makeStep_246 (by decide) ?_
                    refine lv_goto (tgt := 251) hx hb dX6_makeStep_247 (by decide) ?_
                    have hfin : f_X6_makeStep x nn mm kk = (nI 1, mkM (upd (l_X6_makeStep_178b x nn mm kk mm 0 (upd (upd (oR x) 5 ((oR x 5) + (nI 1))) (84 + 9 * kk) (f_X6_missed x nn mm kk (f_X6_masterPlan x nn mm kk)))) 3 (((l_X6_makeStep_178b x nn mm kk mm 0 (upd (upd (oR x) 5 ((oR x 5) + (nI 1))) (84 + 9 * kk) (f_X6_missed x nn mm kk (f_X6_masterPlan x nn mm kk)))) 3) + (nI 1))) (oP x) (oA x) (oB x) (oS x) (oI x) (oX x) (oL x) (oT x) (oN x)) := (by rw [f_X6_makeStep, if_neg c1, if_neg c2, if_pos c3, if_neg c19, if_neg c21, if_neg c24, if_neg c36] <;> rfl)
                    exact kr 251 ls _ _ _ _ hP hS rfl ⟨by rw [hfin] <;> rfl, by rw [hfin]; exact hp0, hfr⟩ dX6_makeStep_251
                  | succ dx_39 ihx_39 =>
                    intro ix_39 u0_0_39 V39 H39 locs39 ls hid hvx_39 hrow hp0 hfr hP hS hl
                    refine lv_iload hx hb dX6_makeStep_178 (lv_at hl 6 rfl) ?_
                    refine lv_aload_n hx hb dX6_makeStep_180 rfl (lv_at hl 0 rfl) ?_
                    refine g_Mo_row X hP hp0 m83 dX6_makeStep_181 ?_
                    refine lv_iconst (v := nI 1) hx hb dX6_makeStep_184 (by decide) ?_
                    refine l_Mo_row X hP hp0 (by decide) dX6_makeStep_185 ?_
                    refine W.eq (g2 := F0 m 186 ls [.int (u0_0_39 1), .int (nI ix_39)]) rfl ?_
                    refine q_val (((hrow 1 (by decide) (by decide) (by decide)).trans h1) : u0_0_39 1 = nI mm) ?_
                    refine q_ge (tgt := 232) hx hb (by omega) (by omega) dX6_makeStep_186 (by decide) (fun h => absurd h (by omega)) (fun c43 => ?_)
                    refine lv_aload_n hx hb dX6_makeStep_189 rfl (lv_at hl 0 rfl) ?_
                    refine g_Mo_row X hP hp0 m83 dX6_makeStep_190 ?_
                    refine lv_iload hx hb dX6_makeStep_193 (lv_at hl 5 rfl) ?_
                    refine lv_iconst (v := nI 1) hx hb dX6_makeStep_195 (by decide) ?_
                    refine q_iadd hx hb dX6_makeStep_196 ?_
                    refine W.eq (g2 := F0 m 197 ls [.int (nI (84 + 9 * kk + 1)), .ref (ad (b + 1))]) rfl ?_
                    refine lv_iload hx hb dX6_makeStep_197 (lv_at hl 6 rfl) ?_
                    refine q_iadd hx hb dX6_makeStep_199 ?_
                    refine W.eq (g2 := F0 m 200 ls [.int (nI (84 + 9 * kk + 1 + ix_39)), .ref (ad (b + 1))]) rfl ?_
                    refine lv_iload_n hx hb dX6_makeStep_200 rfl (lv_at hl 2 rfl) ?_
                    refine u_ge (tgt := 224) hx hb dX6_makeStep_201 (by decide) (fun h => by first | exact absurd h c3 | exact absurd c3 h) (fun c44 => ?_)
                    refine lv_aload_n hx hb dX6_makeStep_204 rfl (lv_at hl 0 rfl) ?_
                    refine g_Mo_row X hP hp0 m83 dX6_makeStep_205 ?_
                    refine lv_aload_n hx hb dX6_makeStep_208 rfl (lv_at hl 0 rfl) ?_
                    refine lv_iload_n hx hb dX6_makeStep_209 rfl (lv_at hl 1 rfl) ?_
                    refine lv_iload hx hb dX6_makeStep_210 (lv_at hl 6 rfl) ?_
                    refine r_call (As := [.int (f_X6_masterPlan x nn mm kk), .int (nI ix_39)]) (rest := [.ref (ad (b + 1)), .int (nI (84 + 9 * kk + 1 + ix_39)), .ref (ad (b + 1))]) (ci := 6) X hP (c_X6_server (nn := nn) (mm := mm) (kk := kk) hp0 (f_X6_masterPlan x nn mm kk) ix_39 (show u0_0_39 0 = nI nn from ((hrow 0 (by decide) (by decide) (by decide)).trans h0)) (show u0_0_39 1 = nI mm from ((hrow 1 (by decide) (by decide) (by decide)).trans h1)) (show u0_0_39 3 = nI kk from ((hrow 3 (by decide) (by decide) (by decide)).trans h3)) hn hm hk (by omega)) o_X6_server rfl hp0.lt hp0.ob m438 ⟨rfl, rfl⟩ ⟨Nat.le_of_ble_eq_true rfl, Nat.le_of_ble_eq_true rfl⟩ rfl hl.1 rfl (Nat.le_of_ble_eq_true rfl) ⟨Nat.zero_le _, Nat.zero_le _⟩ dX6_makeStep_212 ?_
                    have hsv45 := server_n (mm := mm) (kk := kk) hn (srv_hre (x := x) (x' := (mkM u0_0_39 (oP x) (oA x) (oB x) (oS x) (oI x) (oX x) (oL x) (oT x) (oN x))) (fun j ha hb => hrow j (by omega) (by omega) (by omega)) hn hm (missed_server hn hm c3) ix_39 (by omega))
                    have hsv45b := hsv45.2
                    refine q_val hsv45.1 ?_
                    refine lv_iload hx hb dX6_makeStep_215 (lv_at hl 6 rfl) ?_
                    refine r_callS (As := [.int (nI (tn (f_X6_server (mkM u0_0_39 (oP x) (oA x) (oB x) (oS x) (oI x) (oX x) (oL x) (oT x) (oN x)) nn mm kk (f_X6_masterPlan x nn mm kk) ix_39))), .int (nI ix_39)]) (rest := [.ref (ad (b + 1)), .int (nI (84 + 9 * kk + 1 + ix_39)), .ref (ad (b + 1))]) X hP (c_X6_route (tn (f_X6_server (mkM u0_0_39 (oP x) (oA x) (oB x) (oS x) (oI x) (oX x) (oL x) (oT x) (oN x)) nn mm kk (f_X6_masterPlan x nn mm kk) ix_39)) ix_39) o_X6_route m222 ⟨rfl, rfl⟩ ⟨Nat.le_of_ble_eq_true rfl, Nat.le_of_ble_eq_true rfl⟩ rfl hl.1 rfl (Nat.le_of_ble_eq_true rfl) ⟨Nat.zero_le _, Nat.zero_le _⟩ dX6_makeStep_217 ?_
                    refine q_val (show nI (f_X6_route (tn (f_X6_server (mkM u0_0_39 (oP x) (oA x) (oB x) (oS x) (oI x) (oX x) (oL x) (oT x) (oN x)) nn mm kk (f_X6_masterPlan x nn mm kk) ix_39)) ix_39) = nI (21 + 8 * (tn (f_X6_server (mkM u0_0_39 (oP x) (oA x) (oB x) (oS x) (oI x) (oX x) (oL x) (oT x) (oN x)) nn mm kk (f_X6_masterPlan x nn mm kk) ix_39)) + ix_39) from rfl) ?_
                    refine l_Mo_row X hP hp0 (by omega) dX6_makeStep_220 ?_
                    refine W.eq (g2 := F0 m 221 ls [.int (u0_0_39 (21 + 8 * (tn (f_X6_server (mkM u0_0_39 (oP x) (oA x) (oB x) (oS x) (oI x) (oX x) (oL x) (oT x) (oN x)) nn mm kk (f_X6_masterPlan x nn mm kk) ix_39)) + ix_39)), .int (nI (84 + 9 * kk + 1 + ix_39)), .ref (ad (b + 1))]) rfl ?_
                    refine lv_goto (tgt := 225) hx hb dX6_makeStep_221 (by decide) ?_
                    refine s_Mo_row X hi hP hS hp0 (by omega) dX6_makeStep_225 (fun V46 H46 locs46 hp0 h2 hP hS => ?_)
                    have hp0 : MoP N ad V46 t b (mkM (upd u0_0_39 (84 + 9 * kk + 1 + ix_39) (u0_0_39 (21 + 8 * (tn (f_X6_server (mkM u0_0_39 (oP x) (oA x) (oB x) (oS x) (oI x) (oX x) (oL x) (oT x) (oN x)) nn mm kk (f_X6_masterPlan x nn mm kk) ix_39)) + ix_39))) (oP x) (oA x) (oB x) (oS x) (oI x) (oX x) (oL x) (oT x) (oN x)) := hp0
                    have hfr : ∀ k, (k < b ∨ b + 7 ≤ k) → V46 k = V k := fun k hk => (h2 k (by omega)).trans (hfr k hk)
                    refine lv_iinc (v := nI (ix_39 + 1)) (lv' := [(6, .int (nI (ix_39 + 1))), (0, .ref (ad b)), (1, .int (f_X6_masterPlan x nn mm kk)), (2, .int (f_X6_missed x nn mm kk (f_X6_masterPlan x nn mm kk))), (3, .int ((f_X6_prices x nn mm kk (f_X6_masterPlan x nn mm kk)) + (f_X6_routes x nn mm kk (f_X6_masterPlan x nn mm kk)))), (4, .int (nI 0)), (5, .int (nI (84 + 9 * kk)))]) hx hb dX6_makeStep_226 hl (k := 6) rfl (nI_inc _) (by decide) rfl (fun ls hl => ?_)
                    refine lv_goto (tgt := 178) hx hb dX6_makeStep_229 (by decide) ?_
                    exact ihx_39 (ix_39 + 1) (upd u0_0_39 (84 + 9 * kk + 1 + ix_39) (u0_0_39 (21 + 8 * (tn (f_X6_server (mkM u0_0_39 (oP x) (oA x) (oB x) (oS x) (oI x) (oX x) (oL x) (oT x) (oN x)) nn mm kk (f_X6_masterPlan x nn mm kk) ix_39)) + ix_39))) _ _ _ ls (by omega) (Eq.trans (Eq.symm (by rw [l_X6_makeStep_178b] <;> rfl)) hvx_39) (fun j ha hb hc => (upd_ne _ _ (by omega)).trans (hrow j ha hb hc)) hp0 hfr hP hS (lv_sub hl [1, 2, 3, 4, 5, 6, 0] rfl)
                exact L39 mm 0 (upd (upd (oR x) 5 ((oR x 5) + (nI 1))) (84 + 9 * kk) (f_X6_missed x nn mm kk (f_X6_masterPlan x nn mm kk))) _ _ _ ls (by omega) rfl (fun j ha hb hc => by repeat rw [upd_ne _ _ (by omega)]) hp0 hfr hP hS (lv_sub hl [6, 5, 4, 3, 2, 1, 0] rfl)
              · refine lv_aload_n hx hb dX6_makeStep_139 rfl (lv_at hl 4 rfl) ?_
                refine g_Mo_row X hP hp0 m83 dX6_makeStep_140 ?_
                refine lv_iconst (v := nI 4) hx hb dX6_makeStep_143 (by decide) ?_
                refine lv_iload_n hx hb dX6_makeStep_144 rfl (lv_at hl 3 rfl) ?_
                refine s_Mo_row X hi hP hS hp0 (by decide) dX6_makeStep_145 (fun V47 H47 locs47 hp0 h2 hP hS => ?_)
                have hp0 : MoP N ad V47 t b (mkM (upd (upd (oR x) 5 ((oR x 5) + (nI 1))) 4 (f_X6_masterPlan x nn mm kk)) (oP x) (oA x) (oB x) (oS x) (oI x) (oX x) (oL x) (oT x) (oN x)) := hp0
                have hfr : ∀ k, (k < b ∨ b + 7 ≤ k) → V47 k = V k := fun k hk => (h2 k (by omega)).trans (hfr k hk)
                refine lv_iload hx hb dX6_makeStep_146 (lv_at hl 0 rfl) ?_
                refine z_eq (tgt := 153) hx hb (by omega) dX6_makeStep_148 (by decide) (fun c48 => ?_) (fun h => absurd h (by omega))
                refine lv_bipush (v := nI 84) hx hb dX6_makeStep_153 (by decide) ?_
                refine lv_bipush (v := nI 9) hx hb dX6_makeStep_155 (by decide) ?_
                refine lv_aload_n hx hb dX6_makeStep_157 rfl (lv_at hl 4 rfl) ?_
                refine g_Mo_row X hP hp0 m83 dX6_makeStep_158 ?_
                refine lv_iconst (v := nI 3) hx hb dX6_makeStep_161 (by decide) ?_
                refine l_Mo_row X hP hp0 (by decide) dX6_makeStep_162 ?_
                refine W.eq (g2 := F0 m 163 ls [.int ((upd (upd (oR x) 5 ((oR x 5) + (nI 1))) 4 (f_X6_masterPlan x nn mm kk)) 3), .int (nI 9), .int (nI 84)]) rfl ?_
                refine q_val (upd_ne _ _ (by decide)) ?_
                refine q_val (upd_ne _ _ (by decide)) ?_
                refine q_val (h3 : oR x 3 = nI kk) ?_
                refine q_imul hx hb dX6_makeStep_163 ?_
                refine q_iadd hx hb dX6_makeStep_164 ?_
                refine W.eq (g2 := F0 m 165 ls [.int (nI (84 + 9 * kk))]) rfl ?_
                refine lv_istore (lv' := [(5, .int (nI (84 + 9 * kk))), (4, .int (nI 0)), (3, .int ((f_X6_prices x nn mm kk (f_X6_masterPlan x nn mm kk)) + (f_X6_routes x nn mm kk (f_X6_masterPlan x nn mm kk)))), (2, .int (f_X6_missed x nn mm kk (f_X6_masterPlan x nn mm kk))), (1, .int (f_X6_masterPlan x nn mm kk)), (0, .ref (ad b))]) hx hb dX6_makeStep_165 hl (by decide) rfl (fun ls hl => ?_)
                refine lv_aload_n hx hb dX6_makeStep_167 rfl (lv_at hl 5 rfl) ?_
                refine g_Mo_row X hP hp0 m83 dX6_makeStep_168 ?_
                refine lv_iload hx hb dX6_makeStep_171 (lv_at hl 0 rfl) ?_
                refine lv_iload_n hx hb dX6_makeStep_173 rfl (lv_at hl 3 rfl) ?_
                refine s_Mo_row X hi hP hS hp0 (by omega) dX6_makeStep_174 (fun V49 H49 locs49 hp0 h2 hP hS => ?_)
                have hp0 : MoP N ad V49 t b (mkM (upd (upd (upd (oR x) 5 ((oR x 5) + (nI 1))) 4 (f_X6_masterPlan x nn mm kk)) (84 + 9 * kk) (f_X6_missed x nn mm kk (f_X6_masterPlan x nn mm kk))) (oP x) (oA x) (oB x) (oS x) (oI x) (oX x) (oL x) (oT x) (oN x)) := hp0
                have hfr : ∀ k, (k < b ∨ b + 7 ≤ k) → V49 k = V k := fun k hk => (h2 k (by omega)).trans (hfr k hk)
                refine lv_iconst (v := nI 0) hx hb dX6_makeStep_175 (by decide) ?_
                refine lv_istore (lv' := [(6, .int (nI 0)), (5, .int (nI (84 + 9 * kk))), (4, .int (nI 0)), (3, .int ((f_X6_prices x nn mm kk (f_X6_masterPlan x nn mm kk)) + (f_X6_routes x nn mm kk (f_X6_masterPlan x nn mm kk)))), (2, .int (f_X6_missed x nn mm kk (f_X6_masterPlan x nn mm kk))), (1, .int (f_X6_masterPlan x nn mm kk)), (0, .ref (ad b))]) hx hb dX6_makeStep_176 hl (by decide) rfl (fun ls hl => ?_)
                have L50 : ∀ (dx_50 ix_50 : Nat) (u0_0_50 : Nat → Int32) (V50 : Nat → va_E) (H50 : Heap) (locs50 : List Loc) (ls : Array Slot), (ix_50 + dx_50 = mm) → (l_X6_makeStep_178c x nn mm kk dx_50 ix_50 u0_0_50 = l_X6_makeStep_178c x nn mm kk mm 0 (upd (upd (upd (oR x) 5 ((oR x 5) + (nI 1))) 4 (f_X6_masterPlan x nn mm kk)) (84 + 9 * kk) (f_X6_missed x nn mm kk (f_X6_masterPlan x nn mm kk)))) → (∀ j, j < 84 → j ≠ 4 → j ≠ 5 → u0_0_50 j = oR x j) → (MoP N ad V50 t b (mkM u0_0_50 (oP x) (oA x) (oB x) (oS x) (oI x) (oX x) (oL x) (oT x) (oN x))) → (∀ k, (k < b ∨ b + 7 ≤ k) → V50 k = V k) → (HP dd N ad V50 H50) → (va_S (dm N ad H.size) H H50 locs50) → (lv_has ls 7 [(0, .ref (ad b)), (1, .int (f_X6_masterPlan x nn mm kk)), (2, .int (f_X6_missed x nn mm kk (f_X6_masterPlan x nn mm kk))), (3, .int ((f_X6_prices x nn mm kk (f_X6_masterPlan x nn mm kk)) + (f_X6_routes x nn mm kk (f_X6_masterPlan x nn mm kk)))), (4, .int (nI 0)), (5, .int (nI (84 + 9 * kk))), (6, .int (nI ix_50))]) → W p l e rmX6_makeStep s m as below meth c H50 locs50 0 0 Q (F0 m 178 ls []) := by
                  intro dx_50
                  induction dx_50 with
                  | zero =>
                    intro ix_50 u0_0_50 V50 H50 locs50 ls hid hvx_50 hrow hp0 hfr hP hS hl
                    have hiN : mm = ix_50 := by omega
                    subst hiN
                    have hvx_50 : u0_0_50 = l_X6_makeStep_178c x nn mm kk mm 0 (upd (upd (upd (oR x) 5 ((oR x 5) + (nI 1))) 4 (f_X6_masterPlan x nn mm kk)) (84 + 9 * kk) (f_X6_missed x nn mm kk (f_X6_masterPlan x nn mm kk))) := hvx_50
                    have hh0 : u0_0_50 = l_X6_makeStep_178c x nn mm kk mm 0 (upd (upd (upd (oR x) 5 ((oR x 5) + (nI 1))) 4 (f_X6_masterPlan x nn mm kk)) (84 + 9 * kk) (f_X6_missed x nn mm kk (f_X6_masterPlan x nn mm kk))) := hvx_50
                    subst hh0
                    refine lv_iload hx hb dX6_makeStep_178 (lv_at hl 6 rfl) ?_
                    refine lv_aload_n hx hb dX6_makeStep_180 rfl (lv_at hl 0 rfl) ?_
                    refine g_Mo_row X hP hp0 m83 dX6_makeStep_181 ?_
                    refine lv_iconst (v := nI 1) hx hb dX6_makeStep_184 (by decide) ?_
                    refine l_Mo_row X hP hp0 (by decide) dX6_makeStep_185 ?_
                    refine W.eq (g2 := F0 m 186 ls [.int ((l_X6_makeStep_178c x nn mm kk mm 0 (upd (upd (upd (oR x) 5 ((oR x 5) + (nI 1))) 4 (f_X6_masterPlan x nn mm kk)) (84 + 9 * kk) (f_X6_missed x nn mm kk (f_X6_masterPlan x nn mm kk)))) 1), .int (nI mm)]) rfl ?_
                    refine q_val (((hrow 1 (by decide) (by decide) (by decide)).trans h1) : (l_X6_makeStep_178c x nn mm kk mm 0 (upd (upd (upd (oR x) 5 ((oR x 5) + (nI 1))) 4 (f_X6_masterPlan x nn mm kk)) (84 + 9 * kk) (f_X6_missed x nn mm kk (f_X6_masterPlan x nn mm kk)))) 1 = nI mm) ?_
                    refine q_ge (tgt := 232) hx hb (by omega) (by omega) dX6_makeStep_186 (by decide) (fun c51 => ?_) (fun h => absurd h (by omega))
                    refine lv_aload_n hx hb dX6_makeStep_232 rfl (lv_at hl 0 rfl) ?_
                    refine g_Mo_row X hP hp0 m83 dX6_makeStep_233 ?_
                    refine lv_iconst (v := nI 3) hx hb dX6_makeStep_236 (by decide) ?_
                    refine lv_dup2_11 hx hb dX6_makeStep_237 rfl rfl ?_
                    refine l_Mo_row X hP hp0 (by decide) dX6_makeStep_238 ?_
                    refine W.eq (g2 := F0 m 239 ls [.int ((l_X6_makeStep_178c x nn mm kk mm 0 (upd (upd (upd (oR x) 5 ((oR x 5) + (nI 1))) 4 (f_X6_masterPlan x nn mm kk)) (84 + 9 * kk) (f_X6_missed x nn mm kk (f_X6_masterPlan x nn mm kk)))) 3), .int (nI 3), .ref (ad (b + 1))]) rfl ?_
                    refine lv_iconst (v := nI 1) hx hb dX6_makeStep_239 (by decide) ?_
                    refine lv_iadd hx hb dX6_makeStep_240 ?_
                    refine s_Mo_row X hi hP hS hp0 (by decide) dX6_makeStep_241 (fun V52 H52 locs52 hp0 h2 hP hS => ?_)
                    have hp0 : MoP N ad V52 t b (mkM (upd (l_X6_makeStep_178c x nn mm kk mm 0 (upd (upd (upd (oR x) 5 ((oR x 5) + (nI 1))) 4 (f_X6_masterPlan x nn mm kk)) (84 + 9 * kk) (f_X6_missed x nn mm kk (f_X6_masterPlan x nn mm kk)))) 3 (((l_X6_makeStep_178c x nn mm kk mm 0 (upd (upd (upd (oR x) 5 ((oR x 5) + (nI 1))) 4 (f_X6_masterPlan x nn mm kk)) (84 + 9 * kk) (f_X6_missed x nn mm kk (f_X6_masterPlan x nn mm kk)))) 3) + (nI 1))) (oP x) (oA x) (oB x) (oS x) (oI x) (oX x) (oL x) (oT x) (oN x)) := hp0
                    have hfr : ∀ k, (k < b ∨ b + 7 ≤ k) → V52 k = V k := fun k hk => (h2 k (by omega)).trans (hfr k hk)
                    refine lv_iload_n hx hb dX6_makeStep_242 rfl (lv_at hl 2 rfl) ?_
                    refine u_ge (tgt := 250) hx hb dX6_makeStep_243 (by decide) (fun h => by first | exact absurd h c3 | exact absurd c3 h) (fun c53 => ?_)
                    refine lv_iconst (v := nI 1) hx hb dX6_makeStep_246 (by decide) ?_
                    refine lv_goto (tgt := 251) hx hb dX6_makeStep_247 (by decide) ?_
                    have hfin : f_X6_makeStep x nn mm kk = (nI 1, mkM (upd (l_X6_makeStep_178c x nn mm kk mm 0 (upd (upd (upd (oR x) 5 ((oR x 5) + (nI 1))) 4 (f_X6_masterPlan x nn mm kk)) (84 + 9 * kk) (f_X6_missed x nn mm kk (f_X6_masterPlan x nn mm kk)))) 3 (((l_X6_makeStep_178c x nn mm kk mm 0 (upd (upd (upd (oR x) 5 ((oR x 5) + (nI 1))) 4 (f_X6_masterPlan x nn mm kk)) (84 + 9 * kk) (f_X6_missed x nn mm kk (f_X6_masterPlan x nn mm kk)))) 3) + (nI 1))) (oP x) (oA x) (oB x) (oS x) (oI x) (oX x) (oL x) (oT x) (oN x)) := (by rw [f_X6_makeStep, if_neg c1, if_neg c2, if_pos c3, if_neg c19, if_neg c21, if_neg c24, if_pos c36] <;> rfl)
                    exact kr 251 ls _ _ _ _ hP hS rfl ⟨by rw [hfin] <;> rfl, by rw [hfin]; exact hp0, hfr⟩ dX6_makeStep_251
                  | succ dx_50 ihx_50 =>
                    intro ix_50 u0_0_50 V50 H50 locs50 ls hid hvx_50 hrow hp0 hfr hP hS hl
                    refine lv_iload hx hb dX6_makeStep_178 (lv_at hl 6 rfl) ?_
                    refine lv_aload_n hx hb dX6_makeStep_180 rfl (lv_at hl 0 rfl) ?_
                    refine g_Mo_row X hP hp0 m83 dX6_makeStep_181 ?_
                    refine lv_iconst (v := nI 1) hx hb dX6_makeStep_184 (by decide) ?_
                    refine l_Mo_row X hP hp0 (by decide) dX6_makeStep_185 ?_
                    refine W.eq (g2 := F0 m 186 ls [.int (u0_0_50 1), .int (nI ix_50)]) rfl ?_
                    refine q_val (((hrow 1 (by decide) (by decide) (by decide)).trans h1) : u0_0_50 1 = nI mm) ?_
                    refine q_ge (tgt := 232) hx hb (by omega) (by omega) dX6_makeStep_186 (by decide) (fun h => absurd h (by omega)) (fun c54 => ?_)
                    refine lv_aload_n hx hb dX6_makeStep_189 rfl (lv_at hl 0 rfl) ?_
                    refine g_Mo_row X hP hp0 m83 dX6_makeStep_190 ?_
                    refine lv_iload hx hb dX6_makeStep_193 (lv_at hl 5 rfl) ?_
                    refine lv_iconst (v := nI 1) hx hb dX6_makeStep_195 (by decide) ?_
                    refine q_iadd hx hb dX6_makeStep_196 ?_
                    refine W.eq (g2 := F0 m 197 ls [.int (nI (84 + 9 * kk + 1)), .ref (ad (b + 1))]) rfl ?_
                    refine lv_iload hx hb dX6_makeStep_197 (lv_at hl 6 rfl) ?_
                    refine q_iadd hx hb dX6_makeStep_199 ?_
                    refine W.eq (g2 := F0 m 200 ls [.int (nI (84 + 9 * kk + 1 + ix_50)), .ref (ad (b + 1))]) rfl ?_
                    refine lv_iload_n hx hb dX6_makeStep_200 rfl (lv_at hl 2 rfl) ?_
                    refine u_ge (tgt := 224) hx hb dX6_makeStep_201 (by decide) (fun h => by first | exact absurd h c3 | exact absurd c3 h) (fun c55 => ?_)
                    refine lv_aload_n hx hb dX6_makeStep_204 rfl (lv_at hl 0 rfl) ?_
                    refine g_Mo_row X hP hp0 m83 dX6_makeStep_205 ?_
                    refine lv_aload_n hx hb dX6_makeStep_208 rfl (lv_at hl 0 rfl) ?_
                    refine lv_iload_n hx hb dX6_makeStep_209 rfl (lv_at hl 1 rfl) ?_
                    refine lv_iload hx hb dX6_makeStep_210 (lv_at hl 6 rfl) ?_
                    refine r_call (As := [.int (f_X6_masterPlan x nn mm kk), .int (nI ix_50)]) (rest := [.ref (ad (b + 1)), .int (nI (84 + 9 * kk + 1 + ix_50)), .ref (ad (b + 1))]) (ci := 6) X hP (c_X6_server (nn := nn) (mm := mm) (kk := kk) hp0 (f_X6_masterPlan x nn mm kk) ix_50 (show u0_0_50 0 = nI nn from ((hrow 0 (by decide) (by decide) (by decide)).trans h0)) (show u0_0_50 1 = nI mm from ((hrow 1 (by decide) (by decide) (by decide)).trans h1)) (show u0_0_50 3 = nI kk from ((hrow 3 (by decide) (by decide) (by decide)).trans h3)) hn hm hk (by omega)) o_X6_server rfl hp0.lt hp0.ob m438 ⟨rfl, rfl⟩ ⟨Nat.le_of_ble_eq_true rfl, Nat.le_of_ble_eq_true rfl⟩ rfl hl.1 rfl (Nat.le_of_ble_eq_true rfl) ⟨Nat.zero_le _, Nat.zero_le _⟩ dX6_makeStep_212 ?_
                    have hsv56 := server_n (mm := mm) (kk := kk) hn (srv_hre (x := x) (x' := (mkM u0_0_50 (oP x) (oA x) (oB x) (oS x) (oI x) (oX x) (oL x) (oT x) (oN x))) (fun j ha hb => hrow j (by omega) (by omega) (by omega)) hn hm (missed_server hn hm c3) ix_50 (by omega))
                    have hsv56b := hsv56.2
                    refine q_val hsv56.1 ?_
                    refine lv_iload hx hb dX6_makeStep_215 (lv_at hl 6 rfl) ?_
                    refine r_callS (As := [.int (nI (tn (f_X6_server (mkM u0_0_50 (oP x) (oA x) (oB x) (oS x) (oI x) (oX x) (oL x) (oT x) (oN x)) nn mm kk (f_X6_masterPlan x nn mm kk) ix_50))), .int (nI ix_50)]) (rest := [.ref (ad (b + 1)), .int (nI (84 + 9 * kk + 1 + ix_50)), .ref (ad (b + 1))]) X hP (c_X6_route (tn (f_X6_server (mkM u0_0_50 (oP x) (oA x) (oB x) (oS x) (oI x) (oX x) (oL x) (oT x) (oN x)) nn mm kk (f_X6_masterPlan x nn mm kk) ix_50)) ix_50) o_X6_route m222 ⟨rfl, rfl⟩ ⟨Nat.le_of_ble_eq_true rfl, Nat.le_of_ble_eq_true rfl⟩ rfl hl.1 rfl (Nat.le_of_ble_eq_true rfl) ⟨Nat.zero_le _, Nat.zero_le _⟩ dX6_makeStep_217 ?_
                    refine q_val (show nI (f_X6_route (tn (f_X6_server (mkM u0_0_50 (oP x) (oA x) (oB x) (oS x) (oI x) (oX x) (oL x) (oT x) (oN x)) nn mm kk (f_X6_masterPlan x nn mm kk) ix_50)) ix_50) = nI (21 + 8 * (tn (f_X6_server (mkM u0_0_50 (oP x) (oA x) (oB x) (oS x) (oI x) (oX x) (oL x) (oT x) (oN x)) nn mm kk (f_X6_masterPlan x nn mm kk) ix_50)) + ix_50) from rfl) ?_
                    refine l_Mo_row X hP hp0 (by omega) dX6_makeStep_220 ?_
                    refine W.eq (g2 := F0 m 221 ls [.int (u0_0_50 (21 + 8 * (tn (f_X6_server (mkM u0_0_50 (oP x) (oA x) (oB x) (oS x) (oI x) (oX x) (oL x) (oT x) (oN x)) nn mm kk (f_X6_masterPlan x nn mm kk) ix_50)) + ix_50)), .int (nI (84 + 9 * kk + 1 + ix_50)), .ref (ad (b + 1))]) rfl ?_
                    refine lv_goto (tgt := 225) hx hb dX6_makeStep_221 (by decide) ?_
                    refine s_Mo_row X hi hP hS hp0 (by omega) dX6_makeStep_225 (fun V57 H57 locs57 hp0 h2 hP hS => ?_)
                    have hp0 : MoP N ad V57 t b (mkM (upd u0_0_50 (84 + 9 * kk + 1 + ix_50) (u0_0_50 (21 + 8 * (tn (f_X6_server (mkM u0_0_50 (oP x) (oA x) (oB x) (oS x) (oI x) (oX x) (oL x) (oT x) (oN x)) nn mm kk (f_X6_masterPlan x nn mm kk) ix_50)) + ix_50))) (oP x) (oA x) (oB x) (oS x) (oI x) (oX x) (oL x) (oT x) (oN x)) := hp0
                    have hfr : ∀ k, (k < b ∨ b + 7 ≤ k) → V57 k = V k := fun k hk => (h2 k (by omega)).trans (hfr k hk)
                    refine lv_iinc (v := nI (ix_50 + 1)) (lv' := [(6, .int (nI (ix_50 + 1))), (0, .ref (ad b)), (1, .int (f_X6_masterPlan x nn mm kk)), (2, .int (f_X6_missed x nn mm kk (f_X6_masterPlan x nn mm kk))), (3, .int ((f_X6_prices x nn mm kk (f_X6_masterPlan x nn mm kk)) + (f_X6_routes x nn mm kk (f_X6_masterPlan x nn mm kk)))), (4, .int (nI 0)), (5, .int (nI (84 + 9 * kk)))]) hx hb dX6_makeStep_226 hl (k := 6) rfl (nI_inc _) (by decide) rfl (fun ls hl => ?_)
                    refine lv_goto (tgt := 178) hx hb dX6_makeStep_229 (by decide) ?_
                    exact ihx_50 (ix_50 + 1) (upd u0_0_50 (84 + 9 * kk + 1 + ix_50) (u0_0_50 (21 + 8 * (tn (f_X6_server (mkM u0_0_50 (oP x) (oA x) (oB x) (oS x) (oI x) (oX x) (oL x) (oT x) (oN x)) nn mm kk (f_X6_masterPlan x nn mm kk) ix_50)) + ix_50))) _ _ _ ls (by omega) (Eq.trans (Eq.symm (by rw [l_X6_makeStep_178c] <;> rfl)) hvx_50) (fun j ha hb hc => (upd_ne _ _ (by omega)).trans (hrow j ha hb hc)) hp0 hfr hP hS (lv_sub hl [1, 2, 3, 4, 5, 6, 0] rfl)
                exact L50 mm 0 (upd (upd (upd (oR x) 5 ((oR x 5) + (nI 1))) 4 (f_X6_masterPlan x nn mm kk)) (84 + 9 * kk) (f_X6_missed x nn mm kk (f_X6_masterPlan x nn mm kk))) _ _ _ ls (by omega) rfl (fun j ha hb hc => by repeat rw [upd_ne _ _ (by omega)]) hp0 hfr hP hS (lv_sub hl [6, 5, 4, 3, 2, 1, 0] rfl)
          · refine lv_bipush (v := (-3)) hx hb dX6_makeStep_88 (by decide) ?_
            have hfin : f_X6_makeStep x nn mm kk = ((-3), x) := (by rw [f_X6_makeStep, if_neg c1, if_neg c2, if_pos c3, if_neg c19, if_pos c21] <;> rfl)
            exact kr 90 ls _ _ _ _ hP hS rfl ⟨by rw [hfin] <;> rfl, by rw [hfin]; exact hp0, hfr⟩ dX6_makeStep_90
        · refine lv_iconst (v := nI 1) hx hb dX6_makeStep_65 (by decide) ?_
          refine lv_goto (tgt := 70) hx hb dX6_makeStep_66 (by decide) ?_
          refine lv_istore (lv' := [(4, .int (nI 1)), (3, .int ((f_X6_prices x nn mm kk (f_X6_masterPlan x nn mm kk)) + (f_X6_routes x nn mm kk (f_X6_masterPlan x nn mm kk)))), (2, .int (f_X6_missed x nn mm kk (f_X6_masterPlan x nn mm kk))), (1, .int (f_X6_masterPlan x nn mm kk)), (0, .ref (ad b))]) hx hb dX6_makeStep_70 hl (by decide) rfl (fun ls hl => ?_)
          refine lv_iload hx hb dX6_makeStep_72 (lv_at hl 0 rfl) ?_
          refine z_ne (tgt := 91) hx hb (by omega) dX6_makeStep_74 (by decide) (fun c58 => ?_) (fun h => absurd h (by omega))
          refine lv_aload_n hx hb dX6_makeStep_91 rfl (lv_at hl 4 rfl) ?_
          refine g_Mo_row X hP hp0 m83 dX6_makeStep_92 ?_
          refine lv_iconst (v := nI 5) hx hb dX6_makeStep_95 (by decide) ?_
          refine lv_dup2_11 hx hb dX6_makeStep_96 rfl rfl ?_
          refine l_Mo_row X hP hp0 (by decide) dX6_makeStep_97 ?_
          refine lv_iconst (v := nI 1) hx hb dX6_makeStep_98 (by decide) ?_
          refine lv_iadd hx hb dX6_makeStep_99 ?_
          refine s_Mo_row X hi hP hS hp0 (by decide) dX6_makeStep_100 (fun V59 H59 locs59 hp0 h2 hP hS => ?_)
          have hp0 : MoP N ad V59 t b (mkM (upd (oR x) 5 ((oR x 5) + (nI 1))) (oP x) (oA x) (oB x) (oS x) (oI x) (oX x) (oL x) (oT x) (oN x)) := hp0
          have hfr : ∀ k, (k < b ∨ b + 7 ≤ k) → V59 k = V k := fun k hk => (h2 k (by omega)).trans (hfr k hk)
          refine lv_iload_n hx hb dX6_makeStep_101 rfl (lv_at hl 2 rfl) ?_
          refine u_ge (tgt := 146) hx hb dX6_makeStep_102 (by decide) (fun h => by first | exact absurd h c3 | exact absurd c3 h) (fun c60 => ?_)
          refine lv_aload_n hx hb dX6_makeStep_105 rfl (lv_at hl 4 rfl) ?_
          refine g_Mo_row X hP hp0 m83 dX6_makeStep_106 ?_
          refine lv_iconst (v := nI 4) hx hb dX6_makeStep_109 (by decide) ?_
          refine l_Mo_row X hP hp0 (by decide) dX6_makeStep_110 ?_
          refine W.eq (g2 := F0 m 111 ls [.int ((upd (oR x) 5 ((oR x 5) + (nI 1))) 4)]) rfl ?_
          refine q_val (upd_ne _ _ (by decide)) ?_
          refine u_lt (tgt := 139) hx hb dX6_makeStep_111 (by decide) (fun c61 => ?_) (fun c61 => ?_)
          · refine lv_aload_n hx hb dX6_makeStep_139 rfl (lv_at hl 4 rfl) ?_
            refine g_Mo_row X hP hp0 m83 dX6_makeStep_140 ?_
            refine lv_iconst (v := nI 4) hx hb dX6_makeStep_143 (by decide) ?_
            refine lv_iload_n hx hb dX6_makeStep_144 rfl (lv_at hl 3 rfl) ?_
            refine s_Mo_row X hi hP hS hp0 (by decide) dX6_makeStep_145 (fun V62 H62 locs62 hp0 h2 hP hS => ?_)
            have hp0 : MoP N ad V62 t b (mkM (upd (upd (oR x) 5 ((oR x 5) + (nI 1))) 4 (f_X6_masterPlan x nn mm kk)) (oP x) (oA x) (oB x) (oS x) (oI x) (oX x) (oL x) (oT x) (oN x)) := hp0
            have hfr : ∀ k, (k < b ∨ b + 7 ≤ k) → V62 k = V k := fun k hk => (h2 k (by omega)).trans (hfr k hk)
            refine lv_iload hx hb dX6_makeStep_146 (lv_at hl 0 rfl) ?_
            refine z_eq (tgt := 153) hx hb (by omega) dX6_makeStep_148 (by decide) (fun h => absurd h (by omega)) (fun c63 => ?_)
            refine lv_iconst (v := nI 2) hx hb dX6_makeStep_151 (by decide) ?_
            have hfin : f_X6_makeStep x nn mm kk = (nI 2, mkM (upd (upd (oR x) 5 ((oR x 5) + (nI 1))) 4 (f_X6_masterPlan x nn mm kk)) (oP x) (oA x) (oB x) (oS x) (oI x) (oX x) (oL x) (oT x) (oN x)) := (by rw [f_X6_makeStep, if_neg c1, if_neg c2, if_pos c3, if_pos c19, if_pos c61] <;> rfl)
            exact kr 152 ls _ _ _ _ hP hS rfl ⟨by rw [hfin] <;> rfl, by rw [hfin]; exact hp0, hfr⟩ dX6_makeStep_152
          · refine lv_iload_n hx hb dX6_makeStep_114 rfl (lv_at hl 1 rfl) ?_
            refine lv_aload_n hx hb dX6_makeStep_115 rfl (lv_at hl 4 rfl) ?_
            refine lv_aload_n hx hb dX6_makeStep_116 rfl (lv_at hl 4 rfl) ?_
            refine g_Mo_row X hP hp0 m83 dX6_makeStep_117 ?_
            refine lv_iconst (v := nI 4) hx hb dX6_makeStep_120 (by decide) ?_
            refine l_Mo_row X hP hp0 (by decide) dX6_makeStep_121 ?_
            refine W.eq (g2 := F0 m 122 ls [.int ((upd (oR x) 5 ((oR x 5) + (nI 1))) 4), .ref (ad b), .int ((f_X6_prices x nn mm kk (f_X6_masterPlan x nn mm kk)) + (f_X6_routes x nn mm kk (f_X6_masterPlan x nn mm kk)))]) rfl ?_
            refine q_val (upd_ne _ _ (by decide)) ?_
            refine r_call (As := [.int (oR x 4)]) (rest := [.int ((f_X6_prices x nn mm kk (f_X6_masterPlan x nn mm kk)) + (f_X6_routes x nn mm kk (f_X6_masterPlan x nn mm kk)))]) (ci := 6) X hP (c_X6_prices (nn := nn) (mm := mm) (kk := kk) hp0 (oR x 4) (show (upd (oR x) 5 ((oR x 5) + (nI 1))) 0 = nI nn from ((upd_ne _ _ (by omega)).trans h0)) (show (upd (oR x) 5 ((oR x 5) + (nI 1))) 1 = nI mm from ((upd_ne _ _ (by omega)).trans h1)) (show (upd (oR x) 5 ((oR x 5) + (nI 1))) 3 = nI kk from ((upd_ne _ _ (by omega)).trans h3)) hn hm hk) o_X6_prices rfl hp0.lt hp0.ob m426 ⟨rfl, rfl⟩ ⟨Nat.le_of_ble_eq_true rfl, Nat.le_of_ble_eq_true rfl⟩ rfl hl.1 rfl (Nat.le_of_ble_eq_true rfl) ⟨Nat.zero_le _, Nat.zero_le _⟩ dX6_makeStep_122 ?_
            refine lv_aload_n hx hb dX6_makeStep_125 rfl (lv_at hl 4 rfl) ?_
            refine lv_aload_n hx hb dX6_makeStep_126 rfl (lv_at hl 4 rfl) ?_
            refine g_Mo_row X hP hp0 m83 dX6_makeStep_127 ?_
            refine lv_iconst (v := nI 4) hx hb dX6_makeStep_130 (by decide) ?_
            refine l_Mo_row X hP hp0 (by decide) dX6_makeStep_131 ?_
            refine W.eq (g2 := F0 m 132 ls [.int ((upd (oR x) 5 ((oR x 5) + (nI 1))) 4), .ref (ad b), .int (f_X6_prices (mkM (upd (oR x) 5 ((oR x 5) + (nI 1))) (oP x) (oA x) (oB x) (oS x) (oI x) (oX x) (oL x) (oT x) (oN x)) nn mm kk (oR x 4)), .int ((f_X6_prices x nn mm kk (f_X6_masterPlan x nn mm kk)) + (f_X6_routes x nn mm kk (f_X6_masterPlan x nn mm kk)))]) rfl ?_
            refine q_val (upd_ne _ _ (by decide)) ?_
            refine r_call (As := [.int (oR x 4)]) (rest := [.int (f_X6_prices (mkM (upd (oR x) 5 ((oR x 5) + (nI 1))) (oP x) (oA x) (oB x) (oS x) (oI x) (oX x) (oL x) (oT x) (oN x)) nn mm kk (oR x 4)), .int ((f_X6_prices x nn mm kk (f_X6_masterPlan x nn mm kk)) + (f_X6_routes x nn mm kk (f_X6_masterPlan x nn mm kk)))]) (ci := 6) X hP (c_X6_routes (nn := nn) (mm := mm) (kk := kk) hp0 (oR x 4) (show (upd (oR x) 5 ((oR x 5) + (nI 1))) 0 = nI nn from ((upd_ne _ _ (by omega)).trans h0)) (show (upd (oR x) 5 ((oR x 5) + (nI 1))) 1 = nI mm from ((upd_ne _ _ (by omega)).trans h1)) (show (upd (oR x) 5 ((oR x 5) + (nI 1))) 3 = nI kk from ((upd_ne _ _ (by omega)).trans h3)) hn hm hk (srv_hre (x := x) (x' := (mkM (upd (oR x) 5 ((oR x 5) + (nI 1))) (oP x) (oA x) (oB x) (oS x) (oI x) (oX x) (oL x) (oT x) (oN x))) (fun j ha hb => upd_ne _ _ (by omega)) hn hm (hbest c61))) o_X6_routes rfl hp0.lt hp0.ob m434 ⟨rfl, rfl⟩ ⟨Nat.le_of_ble_eq_true rfl, Nat.le_of_ble_eq_true rfl⟩ rfl hl.1 rfl (Nat.le_of_ble_eq_true rfl) ⟨Nat.zero_le _, Nat.zero_le _⟩ dX6_makeStep_132 ?_
            refine lv_iadd hx hb dX6_makeStep_135 ?_
            refine j_ge (tgt := 146) hx hb dX6_makeStep_136 (by decide) (fun c64 => ?_) (fun c64 => ?_)
            · refine lv_iload hx hb dX6_makeStep_146 (lv_at hl 0 rfl) ?_
              refine z_eq (tgt := 153) hx hb (by omega) dX6_makeStep_148 (by decide) (fun h => absurd h (by omega)) (fun c65 => ?_)
              refine lv_iconst (v := nI 2) hx hb dX6_makeStep_151 (by decide) ?_
              have hfin : f_X6_makeStep x nn mm kk = (nI 2, mkM (upd (oR x) 5 ((oR x 5) + (nI 1))) (oP x) (oA x) (oB x) (oS x) (oI x) (oX x) (oL x) (oT x) (oN x)) := (by rw [f_X6_makeStep, if_neg c1, if_neg c2, if_pos c3, if_pos c19, if_neg c61, if_neg c64] <;> rfl)
              exact kr 152 ls _ _ _ _ hP hS rfl ⟨by rw [hfin] <;> rfl, by rw [hfin]; exact hp0, hfr⟩ dX6_makeStep_152
            · refine lv_aload_n hx hb dX6_makeStep_139 rfl (lv_at hl 4 rfl) ?_
              refine g_Mo_row X hP hp0 m83 dX6_makeStep_140 ?_
              refine lv_iconst (v := nI 4) hx hb dX6_makeStep_143 (by decide) ?_
              refine lv_iload_n hx hb dX6_makeStep_144 rfl (lv_at hl 3 rfl) ?_
              refine s_Mo_row X hi hP hS hp0 (by decide) dX6_makeStep_145 (fun V66 H66 locs66 hp0 h2 hP hS => ?_)
              have hp0 : MoP N ad V66 t b (mkM (upd (upd (oR x) 5 ((oR x 5) + (nI 1))) 4 (f_X6_masterPlan x nn mm kk)) (oP x) (oA x) (oB x) (oS x) (oI x) (oX x) (oL x) (oT x) (oN x)) := hp0
              have hfr : ∀ k, (k < b ∨ b + 7 ≤ k) → V66 k = V k := fun k hk => (h2 k (by omega)).trans (hfr k hk)
              refine lv_iload hx hb dX6_makeStep_146 (lv_at hl 0 rfl) ?_
              refine z_eq (tgt := 153) hx hb (by omega) dX6_makeStep_148 (by decide) (fun h => absurd h (by omega)) (fun c67 => ?_)
              refine lv_iconst (v := nI 2) hx hb dX6_makeStep_151 (by decide) ?_
              have hfin : f_X6_makeStep x nn mm kk = (nI 2, mkM (upd (upd (oR x) 5 ((oR x 5) + (nI 1))) 4 (f_X6_masterPlan x nn mm kk)) (oP x) (oA x) (oB x) (oS x) (oI x) (oX x) (oL x) (oT x) (oN x)) := (by rw [f_X6_makeStep, if_neg c1, if_neg c2, if_pos c3, if_pos c19, if_neg c61, if_pos c64] <;> rfl)
              exact kr 152 ls _ _ _ _ hP hS rfl ⟨by rw [hfin] <;> rfl, by rw [hfin]; exact hp0, hfr⟩ dX6_makeStep_152
    · refine lv_bipush (v := (-4)) hx hb dX6_makeStep_23 (by decide) ?_
      have hfin : f_X6_makeStep x nn mm kk = ((-4), x) := (by rw [f_X6_makeStep, if_neg c1, if_pos c2] <;> rfl)
      exact kr 25 ls _ _ _ _ hP hS rfl ⟨by rw [hfin] <;> rfl, by rw [hfin]; exact hp0, hfr⟩ dX6_makeStep_25
  · refine lv_bipush (v := (-5)) hx hb dX6_makeStep_9 (by decide) ?_
    refine lv_goto (tgt := 18) hx hb dX6_makeStep_11 (by decide) ?_
    refine lv_istore_n (lv' := [(1, .int ((-5))), (0, .ref (ad b))]) hx hb dX6_makeStep_18 rfl hl (by decide) rfl (fun ls hl => ?_)
    refine lv_iload_n hx hb dX6_makeStep_19 rfl (lv_at hl 0 rfl) ?_
    refine u_ge (tgt := 26) hx hb dX6_makeStep_20 (by decide) (fun h => absurd h (by decide)) (fun c68 => ?_)
    refine lv_bipush (v := (-4)) hx hb dX6_makeStep_23 (by decide) ?_
    have hfin : f_X6_makeStep x nn mm kk = ((-4), x) := (by rw [f_X6_makeStep, if_pos c1] <;> rfl)
    exact kr 25 ls _ _ _ _ hP hS rfl ⟨by rw [hfin] <;> rfl, by rw [hfin]; exact hp0, hfr⟩ dX6_makeStep_25
theorem o_X6_makeStep : okV yX6_makeStep cX6_makeStep 7 (some .int) 0 := ⟨m383, m384, m5, m385, by decide +kernel, by decide +kernel, by decide +kernel⟩
theorem u_X6_makeStep_0_1 {x : MoC} {nn : Nat} {mm : Nat} {kk : Nat} : oP ((f_X6_makeStep x nn mm kk).2) = oP x := by
  unfold f_X6_makeStep
  (repeat' split) <;> rfl
theorem u_X6_makeStep_0_2 {x : MoC} {nn : Nat} {mm : Nat} {kk : Nat} : oA ((f_X6_makeStep x nn mm kk).2) = oA x := by
  unfold f_X6_makeStep
  (repeat' split) <;> rfl
theorem u_X6_makeStep_0_3 {x : MoC} {nn : Nat} {mm : Nat} {kk : Nat} : oB ((f_X6_makeStep x nn mm kk).2) = oB x := by
  unfold f_X6_makeStep
  (repeat' split) <;> rfl
theorem u_X6_makeStep_0_4 {x : MoC} {nn : Nat} {mm : Nat} {kk : Nat} : oS ((f_X6_makeStep x nn mm kk).2) = oS x := by
  unfold f_X6_makeStep
  (repeat' split) <;> rfl
theorem u_X6_makeStep_0_5 {x : MoC} {nn : Nat} {mm : Nat} {kk : Nat} : oI ((f_X6_makeStep x nn mm kk).2) = oI x := by
  unfold f_X6_makeStep
  (repeat' split) <;> rfl
theorem u_X6_makeStep_0_6 {x : MoC} {nn : Nat} {mm : Nat} {kk : Nat} : oX ((f_X6_makeStep x nn mm kk).2) = oX x := by
  unfold f_X6_makeStep
  (repeat' split) <;> rfl
theorem u_X6_makeStep_0_7 {x : MoC} {nn : Nat} {mm : Nat} {kk : Nat} : oL ((f_X6_makeStep x nn mm kk).2) = oL x := by
  unfold f_X6_makeStep
  (repeat' split) <;> rfl
theorem u_X6_makeStep_0_8 {x : MoC} {nn : Nat} {mm : Nat} {kk : Nat} : oT ((f_X6_makeStep x nn mm kk).2) = oT x := by
  unfold f_X6_makeStep
  (repeat' split) <;> rfl
theorem u_X6_makeStep_0_9 {x : MoC} {nn : Nat} {mm : Nat} {kk : Nat} : oN ((f_X6_makeStep x nn mm kk).2) = oN x := by
  unfold f_X6_makeStep
  (repeat' split) <;> rfl
def rmX6_readNumbers : Room := { frames := 2, cells := 0, slots := 0, locals := 44 }
def l_X6_readNumbers_7 (x : MoC) (nn : Nat) (mm : Nat) (kk : Nat) : Nat → Nat → Nat → (Nat → Int32) → Bool × MoC
  | 0, ix_2, u0_8_2, u0_9_2 => (if u0_8_2 = (oL x) then (true, mkM (oR x) (oP x) (oA x) (oB x) (oS x) (oI x) (oX x) (oL x) u0_8_2 u0_9_2) else (false, mkM (oR x) (oP x) (oA x) (oB x) (oS x) (oI x) (oX x) (oL x) u0_8_2 u0_9_2))
  | dx_2 + 1, ix_2, u0_8_2, u0_9_2 => (if 0 < ix_2 then (if (f_X6_sees (mkM (oR x) (oP x) (oA x) (oB x) (oS x) (oI x) (oX x) (oL x) u0_8_2 u0_9_2) (nI 44) (nI 44)) = true then (if (f_X6_sees (mkM (oR x) (oP x) (oA x) (oB x) (oS x) (oI x) (oX x) (oL x) (u0_8_2 + 1) u0_9_2) (nI 48) (nI 57)) = true then (if 0 < ((oX x (u0_8_2 + 1)) - (nI 48)) then (if (f_X6_sees (mkM (oR x) (oP x) (oA x) (oB x) (oS x) (oI x) (oX x) (oL x) (u0_8_2 + 1 + 1) u0_9_2) (nI 48) (nI 57)) = true then l_X6_readNumbers_7 x nn mm kk dx_2 (ix_2 + 1) (u0_8_2 + 1 + 1 + 1) (upd u0_9_2 ix_2 ((((nI 10) * ((oX x (u0_8_2 + 1)) - (nI 48))) + (oX x (u0_8_2 + 1 + 1))) - (nI 48))) else l_X6_readNumbers_7 x nn mm kk dx_2 (ix_2 + 1) (u0_8_2 + 1 + 1) (upd u0_9_2 ix_2 ((oX x (u0_8_2 + 1)) - (nI 48)))) else l_X6_readNumbers_7 x nn mm kk dx_2 (ix_2 + 1) (u0_8_2 + 1 + 1) (upd u0_9_2 ix_2 ((oX x (u0_8_2 + 1)) - (nI 48)))) else (false, mkM (oR x) (oP x) (oA x) (oB x) (oS x) (oI x) (oX x) (oL x) (u0_8_2 + 1) u0_9_2)) else (false, mkM (oR x) (oP x) (oA x) (oB x) (oS x) (oI x) (oX x) (oL x) u0_8_2 u0_9_2)) else (if (f_X6_sees (mkM (oR x) (oP x) (oA x) (oB x) (oS x) (oI x) (oX x) (oL x) u0_8_2 u0_9_2) (nI 48) (nI 57)) = true then (if 0 < ((oX x u0_8_2) - (nI 48)) then (if (f_X6_sees (mkM (oR x) (oP x) (oA x) (oB x) (oS x) (oI x) (oX x) (oL x) (u0_8_2 + 1) u0_9_2) (nI 48) (nI 57)) = true then l_X6_readNumbers_7 x nn mm kk dx_2 (ix_2 + 1) (u0_8_2 + 1 + 1) (upd u0_9_2 ix_2 ((((nI 10) * ((oX x u0_8_2) - (nI 48))) + (oX x (u0_8_2 + 1))) - (nI 48))) else l_X6_readNumbers_7 x nn mm kk dx_2 (ix_2 + 1) (u0_8_2 + 1) (upd u0_9_2 ix_2 ((oX x u0_8_2) - (nI 48)))) else l_X6_readNumbers_7 x nn mm kk dx_2 (ix_2 + 1) (u0_8_2 + 1) (upd u0_9_2 ix_2 ((oX x u0_8_2) - (nI 48)))) else (false, mkM (oR x) (oP x) (oA x) (oB x) (oS x) (oI x) (oX x) (oL x) u0_8_2 u0_9_2)))
def f_X6_readNumbers (x : MoC) (nn : Nat) (mm : Nat) (kk : Nat) : Bool × MoC :=
  l_X6_readNumbers_7 x nn mm kk mm 0 0 (oN x)
set_option maxHeartbeats 4000000 in
set_option maxRecDepth 100000 in
theorem c_X6_readNumbers {l : Launch} {dd : va_G} {t : CL4} {N : Nat} {ad : Nat → Nat} {V : Nat → va_E} {b : Nat} {x : MoC} {nn : Nat} {mm : Nat} {kk : Nat} (hi : inj N ad) (hp0 : MoP N ad V t b x)  (h0 : oR x 0 = nI nn) (h1 : oR x 1 = nI mm) (h3 : oR x 3 = nI kk) (hn : nn ≤ 7) (hm : mm ≤ 8) (hk : kk ≤ 40) (htl : oL x ≤ 60) : MM l dd t N ad V yX6_readNumbers cX6_readNumbers 3 (some .boolean) rmX6_readNumbers [.ref (ad b)] (fun r V1 => (r = b01 ((f_X6_readNumbers x nn mm kk).1)) ∧ (MoP N ad V1 t b ((f_X6_readNumbers x nn mm kk).2)) ∧ (∀ k, (k < b ∨ b + 7 ≤ k) → V1 k = V k)) := by
  refine MM.of (by decide +kernel) ⟨rfl, rfl⟩ (Nat.le_of_ble_eq_true rfl) rfl ?_
  intro p e s m as below meth c Q X H hP hS ls hl kr
  have X : WX p s m as c cX6_readNumbers 3 RX6 dd t := X
  have hx := X.1.1
  have hb := X.1.2.1
  have hl : lv_has ls 3 [(0, .ref (ad b))] := hl
  have hle0 := hp0.le
  have hfr : ∀ k, (k < b ∨ b + 7 ≤ k) → V k = V k := fun _ _ => rfl
  refine lv_aload_n hx hb dX6_readNumbers_0 rfl (lv_at hl 0 rfl) ?_
  refine lv_iconst (v := nI 0) hx hb dX6_readNumbers_1 (by decide) ?_
  refine p_Mo_at X hi hP hS hp0 m485 (v := 0) dX6_readNumbers_2 (fun V1 H1 locs1 hp0 h2 hP hS => ?_)
  have hp0 : MoP N ad V1 t b (mkM (oR x) (oP x) (oA x) (oB x) (oS x) (oI x) (oX x) (oL x) 0 (oN x)) := hp0
  have hfr : ∀ k, (k < b ∨ b + 7 ≤ k) → V1 k = V k := fun k hk => (h2 k (by omega)).trans (hfr k hk)
  refine lv_iconst (v := nI 0) hx hb dX6_readNumbers_5 (by decide) ?_
  refine lv_istore_n (lv' := [(1, .int (nI 0)), (0, .ref (ad b))]) hx hb dX6_readNumbers_6 rfl hl (by decide) rfl (fun ls hl => ?_)
  have hF2 : f_X6_readNumbers x nn mm kk = l_X6_readNumbers_7 x nn mm kk mm 0 0 (oN x) := (by rw [f_X6_readNumbers] <;> rfl)
  have L2 : ∀ (dx_2 ix_2 : Nat) (u0_8_2 : Nat) (u0_9_2 : Nat → Int32) (V2 : Nat → va_E) (H2 : Heap) (locs2 : List Loc) (ls : Array Slot), (ix_2 + dx_2 = mm) → (l_X6_readNumbers_7 x nn mm kk dx_2 ix_2 u0_8_2 u0_9_2 = l_X6_readNumbers_7 x nn mm kk mm 0 0 (oN x)) → (u0_8_2 ≤ oL x) → (MoP N ad V2 t b (mkM (oR x) (oP x) (oA x) (oB x) (oS x) (oI x) (oX x) (oL x) u0_8_2 u0_9_2)) → (∀ k, (k < b ∨ b + 7 ≤ k) → V2 k = V k) → (HP dd N ad V2 H2) → (va_S (dm N ad H.size) H H2 locs2) → (lv_has ls 3 [(0, .ref (ad b)), (1, .int (nI ix_2))]) → W p l e rmX6_readNumbers s m as below meth c H2 locs2 0 0 Q (F0 m 7 ls []) := by
    intro dx_2
    induction dx_2 with
    | zero =>
      intro ix_2 u0_8_2 u0_9_2 V2 H2 locs2 ls hid hvx_2 hat hp0 hfr hP hS hl
      have hiN : mm = ix_2 := by omega
      subst hiN
      refine lv_iload_n hx hb dX6_readNumbers_7 rfl (lv_at hl 1 rfl) ?_
      refine lv_aload_n hx hb dX6_readNumbers_8 rfl (lv_at hl 0 rfl) ?_
      refine g_Mo_row X hP hp0 m83 dX6_readNumbers_9 ?_
      refine lv_iconst (v := nI 1) hx hb dX6_readNumbers_12 (by decide) ?_
      refine l_Mo_row X hP hp0 (by decide) dX6_readNumbers_13 ?_
      refine W.eq (g2 := F0 m 14 ls [.int (oR x 1), .int (nI mm)]) rfl ?_
      refine q_val (h1 : oR x 1 = nI mm) ?_
      refine q_ge (tgt := 136) hx hb (by omega) (by omega) dX6_readNumbers_14 (by decide) (fun c3 => ?_) (fun h => absurd h (by omega))
      refine lv_aload_n hx hb dX6_readNumbers_136 rfl (lv_at hl 0 rfl) ?_
      refine g_Mo_at X hP hp0 m485 dX6_readNumbers_137 ?_
      refine W.eq (g2 := F0 m 140 ls [.int (nI u0_8_2)]) rfl ?_
      refine lv_aload_n hx hb dX6_readNumbers_140 rfl (lv_at hl 0 rfl) ?_
      refine g_Mo_length X hP hp0 m490 dX6_readNumbers_141 ?_
      refine W.eq (g2 := F0 m 144 ls [.int (nI (oL x)), .int (nI u0_8_2)]) rfl ?_
      refine q_ne (tgt := 151) hx hb (by omega) (by omega) dX6_readNumbers_144 (by decide) (fun c4 => ?_) (fun c4 => ?_)
      · refine lv_iconst (v := nI 0) hx hb dX6_readNumbers_151 (by decide) ?_
        have hfin : f_X6_readNumbers x nn mm kk = (false, mkM (oR x) (oP x) (oA x) (oB x) (oS x) (oI x) (oX x) (oL x) u0_8_2 u0_9_2) := ((hF2.trans hvx_2.symm).trans (by rw [l_X6_readNumbers_7, if_neg c4] <;> rfl))
        exact kr 152 ls _ _ _ _ hP hS (by first | rfl | exact nar_b01 _) ⟨by rw [hfin] <;> rfl, by rw [hfin]; exact hp0, hfr⟩ dX6_readNumbers_152
      · refine lv_iconst (v := nI 1) hx hb dX6_readNumbers_147 (by decide) ?_
        refine lv_goto (tgt := 152) hx hb dX6_readNumbers_148 (by decide) ?_
        have hfin : f_X6_readNumbers x nn mm kk = (true, mkM (oR x) (oP x) (oA x) (oB x) (oS x) (oI x) (oX x) (oL x) u0_8_2 u0_9_2) := ((hF2.trans hvx_2.symm).trans (by rw [l_X6_readNumbers_7, if_pos c4] <;> rfl))
        exact kr 152 ls _ _ _ _ hP hS (by first | rfl | exact nar_b01 _) ⟨by rw [hfin] <;> rfl, by rw [hfin]; exact hp0, hfr⟩ dX6_readNumbers_152
    | succ dx_2 ihx_2 =>
      intro ix_2 u0_8_2 u0_9_2 V2 H2 locs2 ls hid hvx_2 hat hp0 hfr hP hS hl
      refine lv_iload_n hx hb dX6_readNumbers_7 rfl (lv_at hl 1 rfl) ?_
      refine lv_aload_n hx hb dX6_readNumbers_8 rfl (lv_at hl 0 rfl) ?_
      refine g_Mo_row X hP hp0 m83 dX6_readNumbers_9 ?_
      refine lv_iconst (v := nI 1) hx hb dX6_readNumbers_12 (by decide) ?_
      refine l_Mo_row X hP hp0 (by decide) dX6_readNumbers_13 ?_
      refine W.eq (g2 := F0 m 14 ls [.int (oR x 1), .int (nI ix_2)]) rfl ?_
      refine q_val (h1 : oR x 1 = nI mm) ?_
      refine q_ge (tgt := 136) hx hb (by omega) (by omega) dX6_readNumbers_14 (by decide) (fun h => absurd h (by omega)) (fun c5 => ?_)
      refine lv_iload_n hx hb dX6_readNumbers_17 rfl (lv_at hl 1 rfl) ?_
      refine z_le (tgt := 44) hx hb (by omega) dX6_readNumbers_18 (by decide) (fun c6 => ?_) (fun c6 => ?_)
      · refine lv_aload_n hx hb dX6_readNumbers_44 rfl (lv_at hl 0 rfl) ?_
        refine lv_bipush (v := nI 48) hx hb dX6_readNumbers_45 (by decide) ?_
        refine lv_bipush (v := nI 57) hx hb dX6_readNumbers_47 (by decide) ?_
        refine r_call (As := [.int (nI 48), .int (nI 57)]) (rest := []) (ci := 6) X hP (c_X6_sees hp0 (nI 48) (nI 57) htl (show u0_8_2 ≤ 60 by omega)) o_X6_sees rfl hp0.lt hp0.ob m491 ⟨rfl, rfl⟩ ⟨Nat.le_of_ble_eq_true rfl, Nat.le_of_ble_eq_true rfl⟩ rfl hl.1 rfl (Nat.le_of_ble_eq_true rfl) ⟨Nat.zero_le _, Nat.zero_le _⟩ dX6_readNumbers_49 ?_
        refine q_neB (tgt := 57) hx hb dX6_readNumbers_52 (by decide) (fun c7 => ?_) (fun c7 => ?_)
        · have hslc7 : u0_8_2 < oL x := sees_lt c7
          refine lv_aload_n hx hb dX6_readNumbers_57 rfl (lv_at hl 0 rfl) ?_
          refine g_Mo_text X hP hp0 m87 dX6_readNumbers_58 ?_
          refine lv_aload_n hx hb dX6_readNumbers_61 rfl (lv_at hl 0 rfl) ?_
          refine g_Mo_at X hP hp0 m485 dX6_readNumbers_62 ?_
          refine W.eq (g2 := F0 m 65 ls [.int (nI u0_8_2), .ref (ad (b + 5))]) rfl ?_
          refine l_Mo_text X hP hp0 (by omega) dX6_readNumbers_65 ?_
          refine W.eq (g2 := F0 m 66 ls [.int (oX x u0_8_2)]) rfl ?_
          refine lv_bipush (v := nI 48) hx hb dX6_readNumbers_66 (by decide) ?_
          refine lv_isub hx hb dX6_readNumbers_68 ?_
          refine lv_istore_n (lv' := [(2, .int ((oX x u0_8_2) - (nI 48))), (0, .ref (ad b)), (1, .int (nI ix_2))]) hx hb dX6_readNumbers_69 rfl hl (by decide) rfl (fun ls hl => ?_)
          refine lv_aload_n hx hb dX6_readNumbers_70 rfl (lv_at hl 1 rfl) ?_
          refine lv_dup hx hb dX6_readNumbers_71 rfl ?_
          refine g_Mo_at X hP hp0 m485 dX6_readNumbers_72 ?_
          refine W.eq (g2 := F0 m 75 ls [.int (nI u0_8_2), .ref (ad b)]) rfl ?_
          refine lv_iconst (v := nI 1) hx hb dX6_readNumbers_75 (by decide) ?_
          refine q_iadd hx hb dX6_readNumbers_76 ?_
          refine p_Mo_at X hi hP hS hp0 m485 (v := u0_8_2 + 1) dX6_readNumbers_77 (fun V8 H8 locs8 hp0 h2 hP hS => ?_)
          have hp0 : MoP N ad V8 t b (mkM (oR x) (oP x) (oA x) (oB x) (oS x) (oI x) (oX x) (oL x) (u0_8_2 + 1) u0_9_2) := hp0
          have hfr : ∀ k, (k < b ∨ b + 7 ≤ k) → V8 k = V k := fun k hk => (h2 k (by omega)).trans (hfr k hk)
          refine lv_iload_n hx hb dX6_readNumbers_80 rfl (lv_at hl 0 rfl) ?_
          refine u_le (tgt := 123) hx hb dX6_readNumbers_81 (by decide) (fun c9 => ?_) (fun c9 => ?_)
          · refine lv_aload_n hx hb dX6_readNumbers_123 rfl (lv_at hl 1 rfl) ?_
            refine g_Mo_read X hP hp0 m88 dX6_readNumbers_124 ?_
            refine lv_iload_n hx hb dX6_readNumbers_127 rfl (lv_at hl 2 rfl) ?_
            refine lv_iload_n hx hb dX6_readNumbers_128 rfl (lv_at hl 0 rfl) ?_
            refine s_Mo_read X hi hP hS hp0 (by omega) dX6_readNumbers_129 (fun V10 H10 locs10 hp0 h2 hP hS => ?_)
            have hp0 : MoP N ad V10 t b (mkM (oR x) (oP x) (oA x) (oB x) (oS x) (oI x) (oX x) (oL x) (u0_8_2 + 1) (upd u0_9_2 ix_2 ((oX x u0_8_2) - (nI 48)))) := hp0
            have hfr : ∀ k, (k < b ∨ b + 7 ≤ k) → V10 k = V k := fun k hk => (h2 k (by omega)).trans (hfr k hk)
            refine lv_iinc (v := nI (ix_2 + 1)) (lv' := [(1, .int (nI (ix_2 + 1))), (2, .int ((oX x u0_8_2) - (nI 48))), (0, .ref (ad b))]) hx hb dX6_readNumbers_130 hl (k := 2) rfl (nI_inc _) (by decide) rfl (fun ls hl => ?_)
            refine lv_goto (tgt := 7) hx hb dX6_readNumbers_133 (by decide) ?_
            exact ihx_2 (ix_2 + 1) (u0_8_2 + 1) (upd u0_9_2 ix_2 ((oX x u0_8_2) - (nI 48))) _ _ _ ls (by omega) (Eq.trans (Eq.symm (by rw [l_X6_readNumbers_7, if_neg (Nat.not_lt.mpr c6), if_pos c7, if_neg c9] <;> rfl)) hvx_2) (by omega) hp0 hfr hP hS (lv_sub hl [2, 0] rfl)
          · refine lv_aload_n hx hb dX6_readNumbers_84 rfl (lv_at hl 1 rfl) ?_
            refine lv_bipush (v := nI 48) hx hb dX6_readNumbers_85 (by decide) ?_
            refine lv_bipush (v := nI 57) hx hb dX6_readNumbers_87 (by decide) ?_
            refine r_call (As := [.int (nI 48), .int (nI 57)]) (rest := []) (ci := 6) X hP (c_X6_sees hp0 (nI 48) (nI 57) htl (show u0_8_2 + 1 ≤ 60 by omega)) o_X6_sees rfl hp0.lt hp0.ob m491 ⟨rfl, rfl⟩ ⟨Nat.le_of_ble_eq_true rfl, Nat.le_of_ble_eq_true rfl⟩ rfl hl.1 rfl (Nat.le_of_ble_eq_true rfl) ⟨Nat.zero_le _, Nat.zero_le _⟩ dX6_readNumbers_89 ?_
            refine q_eqB (tgt := 123) hx hb dX6_readNumbers_92 (by decide) (fun c11 => ?_) (fun c11 => ?_)
            · refine lv_aload_n hx hb dX6_readNumbers_123 rfl (lv_at hl 1 rfl) ?_
              refine g_Mo_read X hP hp0 m88 dX6_readNumbers_124 ?_
              refine lv_iload_n hx hb dX6_readNumbers_127 rfl (lv_at hl 2 rfl) ?_
              refine lv_iload_n hx hb dX6_readNumbers_128 rfl (lv_at hl 0 rfl) ?_
              refine s_Mo_read X hi hP hS hp0 (by omega) dX6_readNumbers_129 (fun V12 H12 locs12 hp0 h2 hP hS => ?_)
              have hp0 : MoP N ad V12 t b (mkM (oR x) (oP x) (oA x) (oB x) (oS x) (oI x) (oX x) (oL x) (u0_8_2 + 1) (upd u0_9_2 ix_2 ((oX x u0_8_2) - (nI 48)))) := hp0
              have hfr : ∀ k, (k < b ∨ b + 7 ≤ k) → V12 k = V k := fun k hk => (h2 k (by omega)).trans (hfr k hk)
              refine lv_iinc (v := nI (ix_2 + 1)) (lv' := [(1, .int (nI (ix_2 + 1))), (2, .int ((oX x u0_8_2) - (nI 48))), (0, .ref (ad b))]) hx hb dX6_readNumbers_130 hl (k := 2) rfl (nI_inc _) (by decide) rfl (fun ls hl => ?_)
              refine lv_goto (tgt := 7) hx hb dX6_readNumbers_133 (by decide) ?_
              exact ihx_2 (ix_2 + 1) (u0_8_2 + 1) (upd u0_9_2 ix_2 ((oX x u0_8_2) - (nI 48))) _ _ _ ls (by omega) (Eq.trans (Eq.symm (by rw [l_X6_readNumbers_7, if_neg (Nat.not_lt.mpr c6), if_pos c7, if_pos c9, if_neg (nt c11)] <;> rfl)) hvx_2) (by omega) hp0 hfr hP hS (lv_sub hl [2, 0] rfl)
            · have hslc11 : u0_8_2 + 1 < oL x := sees_lt c11
              refine lv_bipush (v := nI 10) hx hb dX6_readNumbers_95 (by decide) ?_
              refine lv_iload_n hx hb dX6_readNumbers_97 rfl (lv_at hl 0 rfl) ?_
              refine lv_imul hx hb dX6_readNumbers_98 ?_
              refine lv_aload_n hx hb dX6_readNumbers_99 rfl (lv_at hl 1 rfl) ?_
              refine g_Mo_text X hP hp0 m87 dX6_readNumbers_100 ?_
              refine lv_aload_n hx hb dX6_readNumbers_103 rfl (lv_at hl 1 rfl) ?_
              refine g_Mo_at X hP hp0 m485 dX6_readNumbers_104 ?_
              refine W.eq (g2 := F0 m 107 ls [.int (nI (u0_8_2 + 1)), .ref (ad (b + 5)), .int ((nI 10) * ((oX x u0_8_2) - (nI 48)))]) rfl ?_
              refine l_Mo_text X hP hp0 (by omega) dX6_readNumbers_107 ?_
              refine W.eq (g2 := F0 m 108 ls [.int (oX x (u0_8_2 + 1)), .int ((nI 10) * ((oX x u0_8_2) - (nI 48)))]) rfl ?_
              refine lv_iadd hx hb dX6_readNumbers_108 ?_
              refine lv_bipush (v := nI 48) hx hb dX6_readNumbers_109 (by decide) ?_
              refine lv_isub hx hb dX6_readNumbers_111 ?_
              refine lv_istore_n (lv' := [(2, .int ((((nI 10) * ((oX x u0_8_2) - (nI 48))) + (oX x (u0_8_2 + 1))) - (nI 48))), (0, .ref (ad b)), (1, .int (nI ix_2))]) hx hb dX6_readNumbers_112 rfl hl (by decide) rfl (fun ls hl => ?_)
              refine lv_aload_n hx hb dX6_readNumbers_113 rfl (lv_at hl 1 rfl) ?_
              refine lv_dup hx hb dX6_readNumbers_114 rfl ?_
              refine g_Mo_at X hP hp0 m485 dX6_readNumbers_115 ?_
              refine W.eq (g2 := F0 m 118 ls [.int (nI (u0_8_2 + 1)), .ref (ad b)]) rfl ?_
              refine lv_iconst (v := nI 1) hx hb dX6_readNumbers_118 (by decide) ?_
              refine q_iadd hx hb dX6_readNumbers_119 ?_
              refine W.eq (g2 := F0 m 120 ls [.int (nI (u0_8_2 + 1 + 1)), .ref (ad b)]) rfl ?_
              refine p_Mo_at X hi hP hS hp0 m485 (v := u0_8_2 + 1 + 1) dX6_readNumbers_120 (fun V13 H13 locs13 hp0 h2 hP hS => ?_)
              have hp0 : MoP N ad V13 t b (mkM (oR x) (oP x) (oA x) (oB x) (oS x) (oI x) (oX x) (oL x) (u0_8_2 + 1 + 1) u0_9_2) := hp0
              have hfr : ∀ k, (k < b ∨ b + 7 ≤ k) → V13 k = V k := fun k hk => (h2 k (by omega)).trans (hfr k hk)
              refine lv_aload_n hx hb dX6_readNumbers_123 rfl (lv_at hl 1 rfl) ?_
              refine g_Mo_read X hP hp0 m88 dX6_readNumbers_124 ?_
              refine lv_iload_n hx hb dX6_readNumbers_127 rfl (lv_at hl 2 rfl) ?_
              refine lv_iload_n hx hb dX6_readNumbers_128 rfl (lv_at hl 0 rfl) ?_
              refine s_Mo_read X hi hP hS hp0 (by omega) dX6_readNumbers_129 (fun V14 H14 locs14 hp0 h2 hP hS => ?_)
              have hp0 : MoP N ad V14 t b (mkM (oR x) (oP x) (oA x) (oB x) (oS x) (oI x) (oX x) (oL x) (u0_8_2 + 1 + 1) (upd u0_9_2 ix_2 ((((nI 10) * ((oX x u0_8_2) - (nI 48))) + (oX x (u0_8_2 + 1))) - (nI 48)))) := hp0
              have hfr : ∀ k, (k < b ∨ b + 7 ≤ k) → V14 k = V k := fun k hk => (h2 k (by omega)).trans (hfr k hk)
              refine lv_iinc (v := nI (ix_2 + 1)) (lv' := [(1, .int (nI (ix_2 + 1))), (2, .int ((((nI 10) * ((oX x u0_8_2) - (nI 48))) + (oX x (u0_8_2 + 1))) - (nI 48))), (0, .ref (ad b))]) hx hb dX6_readNumbers_130 hl (k := 2) rfl (nI_inc _) (by decide) rfl (fun ls hl => ?_)
              refine lv_goto (tgt := 7) hx hb dX6_readNumbers_133 (by decide) ?_
              exact ihx_2 (ix_2 + 1) (u0_8_2 + 1 + 1) (upd u0_9_2 ix_2 ((((nI 10) * ((oX x u0_8_2) - (nI 48))) + (oX x (u0_8_2 + 1))) - (nI 48))) _ _ _ ls (by omega) (Eq.trans (Eq.symm (by rw [l_X6_readNumbers_7, if_neg (Nat.not_lt.mpr c6), if_pos c7, if_pos c9, if_pos c11] <;> rfl)) hvx_2) (by omega) hp0 hfr hP hS (lv_sub hl [2, 0] rfl)
        · refine lv_iconst (v := nI 0) hx hb dX6_readNumbers_55 (by decide) ?_
          have hfin : f_X6_readNumbers x nn mm kk = (false, mkM (oR x) (oP x) (oA x) (oB x) (oS x) (oI x) (oX x) (oL x) u0_8_2 u0_9_2) := ((hF2.trans hvx_2.symm).trans (by rw [l_X6_readNumbers_7, if_neg (Nat.not_lt.mpr c6), if_neg (nt c7)] <;> rfl))
          exact kr 56 ls _ _ _ _ hP hS (by first | rfl | exact nar_b01 _) ⟨by rw [hfin] <;> rfl, by rw [hfin]; exact hp0, hfr⟩ dX6_readNumbers_56
      · refine lv_aload_n hx hb dX6_readNumbers_21 rfl (lv_at hl 0 rfl) ?_
        refine lv_bipush (v := nI 44) hx hb dX6_readNumbers_22 (by decide) ?_
        refine lv_bipush (v := nI 44) hx hb dX6_readNumbers_24 (by decide) ?_
        refine r_call (As := [.int (nI 44), .int (nI 44)]) (rest := []) (ci := 6) X hP (c_X6_sees hp0 (nI 44) (nI 44) htl (show u0_8_2 ≤ 60 by omega)) o_X6_sees rfl hp0.lt hp0.ob m491 ⟨rfl, rfl⟩ ⟨Nat.le_of_ble_eq_true rfl, Nat.le_of_ble_eq_true rfl⟩ rfl hl.1 rfl (Nat.le_of_ble_eq_true rfl) ⟨Nat.zero_le _, Nat.zero_le _⟩ dX6_readNumbers_26 ?_
        refine q_neB (tgt := 34) hx hb dX6_readNumbers_29 (by decide) (fun c15 => ?_) (fun c15 => ?_)
        · have hslc15 : u0_8_2 < oL x := sees_lt c15
          refine lv_aload_n hx hb dX6_readNumbers_34 rfl (lv_at hl 0 rfl) ?_
          refine lv_dup hx hb dX6_readNumbers_35 rfl ?_
          refine g_Mo_at X hP hp0 m485 dX6_readNumbers_36 ?_
          refine W.eq (g2 := F0 m 39 ls [.int (nI u0_8_2), .ref (ad b)]) rfl ?_
          refine lv_iconst (v := nI 1) hx hb dX6_readNumbers_39 (by decide) ?_
          refine q_iadd hx hb dX6_readNumbers_40 ?_
          refine p_Mo_at X hi hP hS hp0 m485 (v := u0_8_2 + 1) dX6_readNumbers_41 (fun V16 H16 locs16 hp0 h2 hP hS => ?_)
          have hp0 : MoP N ad V16 t b (mkM (oR x) (oP x) (oA x) (oB x) (oS x) (oI x) (oX x) (oL x) (u0_8_2 + 1) u0_9_2) := hp0
          have hfr : ∀ k, (k < b ∨ b + 7 ≤ k) → V16 k = V k := fun k hk => (h2 k (by omega)).trans (hfr k hk)
          refine lv_aload_n hx hb dX6_readNumbers_44 rfl (lv_at hl 0 rfl) ?_
          refine lv_bipush (v := nI 48) hx hb dX6_readNumbers_45 (by decide) ?_
          refine lv_bipush (v := nI 57) hx hb dX6_readNumbers_47 (by decide) ?_
          refine r_call (As := [.int (nI 48), .int (nI 57)]) (rest := []) (ci := 6) X hP (c_X6_sees hp0 (nI 48) (nI 57) htl (show u0_8_2 + 1 ≤ 60 by omega)) o_X6_sees rfl hp0.lt hp0.ob m491 ⟨rfl, rfl⟩ ⟨Nat.le_of_ble_eq_true rfl, Nat.le_of_ble_eq_true rfl⟩ rfl hl.1 rfl (Nat.le_of_ble_eq_true rfl) ⟨Nat.zero_le _, Nat.zero_le _⟩ dX6_readNumbers_49 ?_
          refine q_neB (tgt := 57) hx hb dX6_readNumbers_52 (by decide) (fun c17 => ?_) (fun c17 => ?_)
          · have hslc17 : u0_8_2 + 1 < oL x := sees_lt c17
            refine lv_aload_n hx hb dX6_readNumbers_57 rfl (lv_at hl 0 rfl) ?_
            refine g_Mo_text X hP hp0 m87 dX6_readNumbers_58 ?_
            refine lv_aload_n hx hb dX6_readNumbers_61 rfl (lv_at hl 0 rfl) ?_
            refine g_Mo_at X hP hp0 m485 dX6_readNumbers_62 ?_
            refine W.eq (g2 := F0 m 65 ls [.int (nI (u0_8_2 + 1)), .ref (ad (b + 5))]) rfl ?_
            refine l_Mo_text X hP hp0 (by omega) dX6_readNumbers_65 ?_
            refine W.eq (g2 := F0 m 66 ls [.int (oX x (u0_8_2 + 1))]) rfl ?_
            refine lv_bipush (v := nI 48) hx hb dX6_readNumbers_66 (by decide) ?_
            refine lv_isub hx hb dX6_readNumbers_68 ?_
            refine lv_istore_n (lv' := [(2, .int ((oX x (u0_8_2 + 1)) - (nI 48))), (0, .ref (ad b)), (1, .int (nI ix_2))]) hx hb dX6_readNumbers_69 rfl hl (by decide) rfl (fun ls hl => ?_)
            refine lv_aload_n hx hb dX6_readNumbers_70 rfl (lv_at hl 1 rfl) ?_
            refine lv_dup hx hb dX6_readNumbers_71 rfl ?_
            refine g_Mo_at X hP hp0 m485 dX6_readNumbers_72 ?_
            refine W.eq (g2 := F0 m 75 ls [.int (nI (u0_8_2 + 1)), .ref (ad b)]) rfl ?_
            refine lv_iconst (v := nI 1) hx hb dX6_readNumbers_75 (by decide) ?_
            refine q_iadd hx hb dX6_readNumbers_76 ?_
            refine W.eq (g2 := F0 m 77 ls [.int (nI (u0_8_2 + 1 + 1)), .ref (ad b)]) rfl ?_
            refine p_Mo_at X hi hP hS hp0 m485 (v := u0_8_2 + 1 + 1) dX6_readNumbers_77 (fun V18 H18 locs18 hp0 h2 hP hS => ?_)
            have hp0 : MoP N ad V18 t b (mkM (oR x) (oP x) (oA x) (oB x) (oS x) (oI x) (oX x) (oL x) (u0_8_2 + 1 + 1) u0_9_2) := hp0
            have hfr : ∀ k, (k < b ∨ b + 7 ≤ k) → V18 k = V k := fun k hk => (h2 k (by omega)).trans (hfr k hk)
            refine lv_iload_n hx hb dX6_readNumbers_80 rfl (lv_at hl 0 rfl) ?_
            refine u_le (tgt := 123) hx hb dX6_readNumbers_81 (by decide) (fun c19 => ?_) (fun c19 => ?_)
            · refine lv_aload_n hx hb dX6_readNumbers_123 rfl (lv_at hl 1 rfl) ?_
              refine g_Mo_read X hP hp0 m88 dX6_readNumbers_124 ?_
              refine lv_iload_n hx hb dX6_readNumbers_127 rfl (lv_at hl 2 rfl) ?_
              refine lv_iload_n hx hb dX6_readNumbers_128 rfl (lv_at hl 0 rfl) ?_
              refine s_Mo_read X hi hP hS hp0 (by omega) dX6_readNumbers_129 (fun V20 H20 locs20 hp0 h2 hP hS => ?_)
              have hp0 : MoP N ad V20 t b (mkM (oR x) (oP x) (oA x) (oB x) (oS x) (oI x) (oX x) (oL x) (u0_8_2 + 1 + 1) (upd u0_9_2 ix_2 ((oX x (u0_8_2 + 1)) - (nI 48)))) := hp0
              have hfr : ∀ k, (k < b ∨ b + 7 ≤ k) → V20 k = V k := fun k hk => (h2 k (by omega)).trans (hfr k hk)
              refine lv_iinc (v := nI (ix_2 + 1)) (lv' := [(1, .int (nI (ix_2 + 1))), (2, .int ((oX x (u0_8_2 + 1)) - (nI 48))), (0, .ref (ad b))]) hx hb dX6_readNumbers_130 hl (k := 2) rfl (nI_inc _) (by decide) rfl (fun ls hl => ?_)
              refine lv_goto (tgt := 7) hx hb dX6_readNumbers_133 (by decide) ?_
              exact ihx_2 (ix_2 + 1) (u0_8_2 + 1 + 1) (upd u0_9_2 ix_2 ((oX x (u0_8_2 + 1)) - (nI 48))) _ _ _ ls (by omega) (Eq.trans (Eq.symm (by rw [l_X6_readNumbers_7, if_pos c6, if_pos c15, if_pos c17, if_neg c19] <;> rfl)) hvx_2) (by omega) hp0 hfr hP hS (lv_sub hl [2, 0] rfl)
            · refine lv_aload_n hx hb dX6_readNumbers_84 rfl (lv_at hl 1 rfl) ?_
              refine lv_bipush (v := nI 48) hx hb dX6_readNumbers_85 (by decide) ?_
              refine lv_bipush (v := nI 57) hx hb dX6_readNumbers_87 (by decide) ?_
              refine r_call (As := [.int (nI 48), .int (nI 57)]) (rest := []) (ci := 6) X hP (c_X6_sees hp0 (nI 48) (nI 57) htl (show u0_8_2 + 1 + 1 ≤ 60 by omega)) o_X6_sees rfl hp0.lt hp0.ob m491 ⟨rfl, rfl⟩ ⟨Nat.le_of_ble_eq_true rfl, Nat.le_of_ble_eq_true rfl⟩ rfl hl.1 rfl (Nat.le_of_ble_eq_true rfl) ⟨Nat.zero_le _, Nat.zero_le _⟩ dX6_readNumbers_89 ?_
              refine q_eqB (tgt := 123) hx hb dX6_readNumbers_92 (by decide) (fun c21 => ?_) (fun c21 => ?_)
              · refine lv_aload_n hx hb dX6_readNumbers_123 rfl (lv_at hl 1 rfl) ?_
                refine g_Mo_read X hP hp0 m88 dX6_readNumbers_124 ?_
                refine lv_iload_n hx hb dX6_readNumbers_127 rfl (lv_at hl 2 rfl) ?_
                refine lv_iload_n hx hb dX6_readNumbers_128 rfl (lv_at hl 0 rfl) ?_
                refine s_Mo_read X hi hP hS hp0 (by omega) dX6_readNumbers_129 (fun V22 H22 locs22 hp0 h2 hP hS => ?_)
                have hp0 : MoP N ad V22 t b (mkM (oR x) (oP x) (oA x) (oB x) (oS x) (oI x) (oX x) (oL x) (u0_8_2 + 1 + 1) (upd u0_9_2 ix_2 ((oX x (u0_8_2 + 1)) - (nI 48)))) := hp0
                have hfr : ∀ k, (k < b ∨ b + 7 ≤ k) → V22 k = V k := fun k hk => (h2 k (by omega)).trans (hfr k hk)
                refine lv_iinc (v := nI (ix_2 + 1)) (lv' := [(1, .int (nI (ix_2 + 1))), (2, .int ((oX x (u0_8_2 + 1)) - (nI 48))), (0, .ref (ad b))]) hx hb dX6_readNumbers_130 hl (k := 2) rfl (nI_inc _) (by decide) rfl (fun ls hl => ?_)
                refine lv_goto (tgt := 7) hx hb dX6_readNumbers_133 (by decide) ?_
                exact ihx_2 (ix_2 + 1) (u0_8_2 + 1 + 1) (upd u0_9_2 ix_2 ((oX x (u0_8_2 + 1)) - (nI 48))) _ _ _ ls (by omega) (Eq.trans (Eq.symm (by rw [l_X6_readNumbers_7, if_pos c6, if_pos c15, if_pos c17, if_pos c19, if_neg (nt c21)] <;> rfl)) hvx_2) (by omega) hp0 hfr hP hS (lv_sub hl [2, 0] rfl)
              · have hslc21 : u0_8_2 + 1 + 1 < oL x := sees_lt c21
                refine lv_bipush (v := nI 10) hx hb dX6_readNumbers_95 (by decide) ?_
                refine lv_iload_n hx hb dX6_readNumbers_97 rfl (lv_at hl 0 rfl) ?_
                refine lv_imul hx hb dX6_readNumbers_98 ?_
                refine lv_aload_n hx hb dX6_readNumbers_99 rfl (lv_at hl 1 rfl) ?_
                refine g_Mo_text X hP hp0 m87 dX6_readNumbers_100 ?_
                refine lv_aload_n hx hb dX6_readNumbers_103 rfl (lv_at hl 1 rfl) ?_
                refine g_Mo_at X hP hp0 m485 dX6_readNumbers_104 ?_
                refine W.eq (g2 := F0 m 107 ls [.int (nI (u0_8_2 + 1 + 1)), .ref (ad (b + 5)), .int ((nI 10) * ((oX x (u0_8_2 + 1)) - (nI 48)))]) rfl ?_
                refine l_Mo_text X hP hp0 (by omega) dX6_readNumbers_107 ?_
                refine W.eq (g2 := F0 m 108 ls [.int (oX x (u0_8_2 + 1 + 1)), .int ((nI 10) * ((oX x (u0_8_2 + 1)) - (nI 48)))]) rfl ?_
                refine lv_iadd hx hb dX6_readNumbers_108 ?_
                refine lv_bipush (v := nI 48) hx hb dX6_readNumbers_109 (by decide) ?_
                refine lv_isub hx hb dX6_readNumbers_111 ?_
                refine lv_istore_n (lv' := [(2, .int ((((nI 10) * ((oX x (u0_8_2 + 1)) - (nI 48))) + (oX x (u0_8_2 + 1 + 1))) - (nI 48))), (0, .ref (ad b)), (1, .int (nI ix_2))]) hx hb dX6_readNumbers_112 rfl hl (by decide) rfl (fun ls hl => ?_)
                refine lv_aload_n hx hb dX6_readNumbers_113 rfl (lv_at hl 1 rfl) ?_
                refine lv_dup hx hb dX6_readNumbers_114 rfl ?_
                refine g_Mo_at X hP hp0 m485 dX6_readNumbers_115 ?_
                refine W.eq (g2 := F0 m 118 ls [.int (nI (u0_8_2 + 1 + 1)), .ref (ad b)]) rfl ?_
                refine lv_iconst (v := nI 1) hx hb dX6_readNumbers_118 (by decide) ?_
                refine q_iadd hx hb dX6_readNumbers_119 ?_
                refine W.eq (g2 := F0 m 120 ls [.int (nI (u0_8_2 + 1 + 1 + 1)), .ref (ad b)]) rfl ?_
                refine p_Mo_at X hi hP hS hp0 m485 (v := u0_8_2 + 1 + 1 + 1) dX6_readNumbers_120 (fun V23 H23 locs23 hp0 h2 hP hS => ?_)
                have hp0 : MoP N ad V23 t b (mkM (oR x) (oP x) (oA x) (oB x) (oS x) (oI x) (oX x) (oL x) (u0_8_2 + 1 + 1 + 1) u0_9_2) := hp0
                have hfr : ∀ k, (k < b ∨ b + 7 ≤ k) → V23 k = V k := fun k hk => (h2 k (by omega)).trans (hfr k hk)
                refine lv_aload_n hx hb dX6_readNumbers_123 rfl (lv_at hl 1 rfl) ?_
                refine g_Mo_read X hP hp0 m88 dX6_readNumbers_124 ?_
                refine lv_iload_n hx hb dX6_readNumbers_127 rfl (lv_at hl 2 rfl) ?_
                refine lv_iload_n hx hb dX6_readNumbers_128 rfl (lv_at hl 0 rfl) ?_
                refine s_Mo_read X hi hP hS hp0 (by omega) dX6_readNumbers_129 (fun V24 H24 locs24 hp0 h2 hP hS => ?_)
                have hp0 : MoP N ad V24 t b (mkM (oR x) (oP x) (oA x) (oB x) (oS x) (oI x) (oX x) (oL x) (u0_8_2 + 1 + 1 + 1) (upd u0_9_2 ix_2 ((((nI 10) * ((oX x (u0_8_2 + 1)) - (nI 48))) + (oX x (u0_8_2 + 1 + 1))) - (nI 48)))) := hp0
                have hfr : ∀ k, (k < b ∨ b + 7 ≤ k) → V24 k = V k := fun k hk => (h2 k (by omega)).trans (hfr k hk)
                refine lv_iinc (v := nI (ix_2 + 1)) (lv' := [(1, .int (nI (ix_2 + 1))), (2, .int ((((nI 10) * ((oX x (u0_8_2 + 1)) - (nI 48))) + (oX x (u0_8_2 + 1 + 1))) - (nI 48))), (0, .ref (ad b))]) hx hb dX6_readNumbers_130 hl (k := 2) rfl (nI_inc _) (by decide) rfl (fun ls hl => ?_)
                refine lv_goto (tgt := 7) hx hb dX6_readNumbers_133 (by decide) ?_
                exact ihx_2 (ix_2 + 1) (u0_8_2 + 1 + 1 + 1) (upd u0_9_2 ix_2 ((((nI 10) * ((oX x (u0_8_2 + 1)) - (nI 48))) + (oX x (u0_8_2 + 1 + 1))) - (nI 48))) _ _ _ ls (by omega) (Eq.trans (Eq.symm (by rw [l_X6_readNumbers_7, if_pos c6, if_pos c15, if_pos c17, if_pos c19, if_pos c21] <;> rfl)) hvx_2) (by omega) hp0 hfr hP hS (lv_sub hl [2, 0] rfl)
          · refine lv_iconst (v := nI 0) hx hb dX6_readNumbers_55 (by decide) ?_
            have hfin : f_X6_readNumbers x nn mm kk = (false, mkM (oR x) (oP x) (oA x) (oB x) (oS x) (oI x) (oX x) (oL x) (u0_8_2 + 1) u0_9_2) := ((hF2.trans hvx_2.symm).trans (by rw [l_X6_readNumbers_7, if_pos c6, if_pos c15, if_neg (nt c17)] <;> rfl))
            exact kr 56 ls _ _ _ _ hP hS (by first | rfl | exact nar_b01 _) ⟨by rw [hfin] <;> rfl, by rw [hfin]; exact hp0, hfr⟩ dX6_readNumbers_56
        · refine lv_iconst (v := nI 0) hx hb dX6_readNumbers_32 (by decide) ?_
          have hfin : f_X6_readNumbers x nn mm kk = (false, mkM (oR x) (oP x) (oA x) (oB x) (oS x) (oI x) (oX x) (oL x) u0_8_2 u0_9_2) := ((hF2.trans hvx_2.symm).trans (by rw [l_X6_readNumbers_7, if_pos c6, if_neg (nt c15)] <;> rfl))
          exact kr 33 ls _ _ _ _ hP hS (by first | rfl | exact nar_b01 _) ⟨by rw [hfin] <;> rfl, by rw [hfin]; exact hp0, hfr⟩ dX6_readNumbers_33
  exact L2 mm 0 0 (oN x) _ _ _ ls (by omega) rfl (Nat.zero_le _) hp0 hfr hP hS (lv_sub hl [1, 0] rfl)
theorem o_X6_readNumbers : okV yX6_readNumbers cX6_readNumbers 3 (some .boolean) 0 := ⟨m487, m488, m5, m489, by decide +kernel, by decide +kernel, by decide +kernel⟩
theorem u_X6_readNumbers_0_0 {x : MoC} {nn : Nat} {mm : Nat} {kk : Nat} : oR ((f_X6_readNumbers x nn mm kk).2) = oR x := by
  unfold f_X6_readNumbers
  have key : ∀ (d i : Nat) (a : Nat) (r : Nat → Int32), oR (l_X6_readNumbers_7 x nn mm kk d i a r).2 = oR x := by
    intro d
    induction d with
    | zero => intro i a r; rw [l_X6_readNumbers_7]; (repeat' split) <;> rfl
    | succ d ih => intro i a r; rw [l_X6_readNumbers_7]; (repeat' split) <;> first | exact ih _ _ _ | rfl
  exact key _ _ _ _
theorem u_X6_readNumbers_0_1 {x : MoC} {nn : Nat} {mm : Nat} {kk : Nat} : oP ((f_X6_readNumbers x nn mm kk).2) = oP x := by
  unfold f_X6_readNumbers
  have key : ∀ (d i : Nat) (a : Nat) (r : Nat → Int32), oP (l_X6_readNumbers_7 x nn mm kk d i a r).2 = oP x := by
    intro d
    induction d with
    | zero => intro i a r; rw [l_X6_readNumbers_7]; (repeat' split) <;> rfl
    | succ d ih => intro i a r; rw [l_X6_readNumbers_7]; (repeat' split) <;> first | exact ih _ _ _ | rfl
  exact key _ _ _ _
theorem u_X6_readNumbers_0_2 {x : MoC} {nn : Nat} {mm : Nat} {kk : Nat} : oA ((f_X6_readNumbers x nn mm kk).2) = oA x := by
  unfold f_X6_readNumbers
  have key : ∀ (d i : Nat) (a : Nat) (r : Nat → Int32), oA (l_X6_readNumbers_7 x nn mm kk d i a r).2 = oA x := by
    intro d
    induction d with
    | zero => intro i a r; rw [l_X6_readNumbers_7]; (repeat' split) <;> rfl
    | succ d ih => intro i a r; rw [l_X6_readNumbers_7]; (repeat' split) <;> first | exact ih _ _ _ | rfl
  exact key _ _ _ _
theorem u_X6_readNumbers_0_3 {x : MoC} {nn : Nat} {mm : Nat} {kk : Nat} : oB ((f_X6_readNumbers x nn mm kk).2) = oB x := by
  unfold f_X6_readNumbers
  have key : ∀ (d i : Nat) (a : Nat) (r : Nat → Int32), oB (l_X6_readNumbers_7 x nn mm kk d i a r).2 = oB x := by
    intro d
    induction d with
    | zero => intro i a r; rw [l_X6_readNumbers_7]; (repeat' split) <;> rfl
    | succ d ih => intro i a r; rw [l_X6_readNumbers_7]; (repeat' split) <;> first | exact ih _ _ _ | rfl
  exact key _ _ _ _
theorem u_X6_readNumbers_0_4 {x : MoC} {nn : Nat} {mm : Nat} {kk : Nat} : oS ((f_X6_readNumbers x nn mm kk).2) = oS x := by
  unfold f_X6_readNumbers
  have key : ∀ (d i : Nat) (a : Nat) (r : Nat → Int32), oS (l_X6_readNumbers_7 x nn mm kk d i a r).2 = oS x := by
    intro d
    induction d with
    | zero => intro i a r; rw [l_X6_readNumbers_7]; (repeat' split) <;> rfl
    | succ d ih => intro i a r; rw [l_X6_readNumbers_7]; (repeat' split) <;> first | exact ih _ _ _ | rfl
  exact key _ _ _ _
theorem u_X6_readNumbers_0_5 {x : MoC} {nn : Nat} {mm : Nat} {kk : Nat} : oI ((f_X6_readNumbers x nn mm kk).2) = oI x := by
  unfold f_X6_readNumbers
  have key : ∀ (d i : Nat) (a : Nat) (r : Nat → Int32), oI (l_X6_readNumbers_7 x nn mm kk d i a r).2 = oI x := by
    intro d
    induction d with
    | zero => intro i a r; rw [l_X6_readNumbers_7]; (repeat' split) <;> rfl
    | succ d ih => intro i a r; rw [l_X6_readNumbers_7]; (repeat' split) <;> first | exact ih _ _ _ | rfl
  exact key _ _ _ _
theorem u_X6_readNumbers_0_6 {x : MoC} {nn : Nat} {mm : Nat} {kk : Nat} : oX ((f_X6_readNumbers x nn mm kk).2) = oX x := by
  unfold f_X6_readNumbers
  have key : ∀ (d i : Nat) (a : Nat) (r : Nat → Int32), oX (l_X6_readNumbers_7 x nn mm kk d i a r).2 = oX x := by
    intro d
    induction d with
    | zero => intro i a r; rw [l_X6_readNumbers_7]; (repeat' split) <;> rfl
    | succ d ih => intro i a r; rw [l_X6_readNumbers_7]; (repeat' split) <;> first | exact ih _ _ _ | rfl
  exact key _ _ _ _
theorem u_X6_readNumbers_0_7 {x : MoC} {nn : Nat} {mm : Nat} {kk : Nat} : oL ((f_X6_readNumbers x nn mm kk).2) = oL x := by
  unfold f_X6_readNumbers
  have key : ∀ (d i : Nat) (a : Nat) (r : Nat → Int32), oL (l_X6_readNumbers_7 x nn mm kk d i a r).2 = oL x := by
    intro d
    induction d with
    | zero => intro i a r; rw [l_X6_readNumbers_7]; (repeat' split) <;> rfl
    | succ d ih => intro i a r; rw [l_X6_readNumbers_7]; (repeat' split) <;> first | exact ih _ _ _ | rfl
  exact key _ _ _ _
def rmX6_readCut : Room := { frames := 3, cells := 0, slots := 0, locals := 66 }
def l_X6_readCut_63 (x : MoC) (nn : Nat) (mm : Nat) (kk : Nat) : Nat → Nat → (Nat → Int32) → (Nat → Int32)
  | 0, ix_7, u0_0_7 => u0_0_7
  | dx_7 + 1, ix_7, u0_0_7 => l_X6_readCut_63 x nn mm kk dx_7 (ix_7 + 1) (upd u0_0_7 (84 + 9 * kk + 1 + ix_7) ((oN ((f_X6_readNumbers x nn mm kk).2)) ix_7))
def f_X6_readCut (x : MoC) (nn : Nat) (mm : Nat) (kk : Nat) : Int32 × MoC :=
  (if mm = 0 then ((-4), x) else (if ((f_X6_readNumbers x nn mm kk).1) = true then (if kk = 40 then ((-3), mkM (oR x) (oP x) (oA x) (oB x) (oS x) (oI x) (oX x) (oL x) (oT ((f_X6_readNumbers x nn mm kk).2)) (oN ((f_X6_readNumbers x nn mm kk).2))) else (nI kk, mkM (upd (l_X6_readCut_63 x nn mm kk mm 0 (upd (oR x) (84 + 9 * kk) (-5))) 3 (((l_X6_readCut_63 x nn mm kk mm 0 (upd (oR x) (84 + 9 * kk) (-5))) 3) + (nI 1))) (oP (f_X6_begin (mkM (oR x) (oP x) (oA x) (oB x) (oS x) (oI x) (oX x) (oL x) (oT ((f_X6_readNumbers x nn mm kk).2)) (oN ((f_X6_readNumbers x nn mm kk).2))))) (oA x) (oB (f_X6_begin (mkM (oR x) (oP x) (oA x) (oB x) (oS x) (oI x) (oX x) (oL x) (oT ((f_X6_readNumbers x nn mm kk).2)) (oN ((f_X6_readNumbers x nn mm kk).2))))) (oS (f_X6_begin (mkM (oR x) (oP x) (oA x) (oB x) (oS x) (oI x) (oX x) (oL x) (oT ((f_X6_readNumbers x nn mm kk).2)) (oN ((f_X6_readNumbers x nn mm kk).2))))) (oI x) (oX x) (oL x) (oT ((f_X6_readNumbers x nn mm kk).2)) (oN ((f_X6_readNumbers x nn mm kk).2)))) else ((-100) - (nI (oT ((f_X6_readNumbers x nn mm kk).2))), mkM (oR x) (oP x) (oA x) (oB x) (oS x) (oI x) (oX x) (oL x) (oT ((f_X6_readNumbers x nn mm kk).2)) (oN ((f_X6_readNumbers x nn mm kk).2)))))
set_option maxHeartbeats 4000000 in
set_option maxRecDepth 100000 in
theorem c_X6_readCut {l : Launch} {dd : va_G} {t : CL4} {N : Nat} {ad : Nat → Nat} {V : Nat → va_E} {b : Nat} {x : MoC} {nn : Nat} {mm : Nat} {kk : Nat} (hi : inj N ad) (hp0 : MoP N ad V t b x)  (h0 : oR x 0 = nI nn) (h1 : oR x 1 = nI mm) (h3 : oR x 3 = nI kk) (hn : nn ≤ 7) (hm : mm ≤ 8) (hk : kk ≤ 40) (htl : oL x ≤ 60) (hst : oS x ≤ 4) : MM l dd t N ad V yX6_readCut cX6_readCut 3 (some .int) rmX6_readCut [.ref (ad b)] (fun r V1 => (r = (f_X6_readCut x nn mm kk).1) ∧ (MoP N ad V1 t b ((f_X6_readCut x nn mm kk).2)) ∧ (∀ k, (k < b ∨ b + 7 ≤ k) → V1 k = V k)) := by
  refine MM.of (by decide +kernel) ⟨rfl, rfl⟩ (Nat.le_of_ble_eq_true rfl) rfl ?_
  intro p e s m as below meth c Q X H hP hS ls hl kr
  have X : WX p s m as c cX6_readCut 3 RX6 dd t := X
  have hx := X.1.1
  have hb := X.1.2.1
  have hl : lv_has ls 3 [(0, .ref (ad b))] := hl
  have hle0 := hp0.le
  have hfr : ∀ k, (k < b ∨ b + 7 ≤ k) → V k = V k := fun _ _ => rfl
  refine lv_aload_n hx hb dX6_readCut_0 rfl (lv_at hl 0 rfl) ?_
  refine g_Mo_row X hP hp0 m83 dX6_readCut_1 ?_
  refine lv_iconst (v := nI 1) hx hb dX6_readCut_4 (by decide) ?_
  refine l_Mo_row X hP hp0 (by decide) dX6_readCut_5 ?_
  refine q_val (h1 : oR x 1 = nI mm) ?_
  refine z_ne (tgt := 12) hx hb (by omega) dX6_readCut_6 (by decide) (fun c1 => ?_) (fun c1 => ?_)
  · refine lv_aload_n hx hb dX6_readCut_12 rfl (lv_at hl 0 rfl) ?_
    refine r_callM (As := []) (rest := []) (ci := 6) X hP hS (c_X6_readNumbers (nn := nn) (mm := mm) (kk := kk) hi hp0 h0 h1 h3 hn hm hk htl) o_X6_readNumbers rfl hp0.lt hp0.ob m486 ⟨rfl, rfl⟩ ⟨Nat.le_of_ble_eq_true rfl, Nat.le_of_ble_eq_true rfl⟩ rfl hl.1 rfl (Nat.le_of_ble_eq_true rfl) ⟨Nat.zero_le _, Nat.zero_le _⟩ dX6_readCut_13 (fun r V2 H2 locs2 hq hP hS => ?_)
    obtain ⟨hr, hp0, h2⟩ := hq
    subst hr
    have hp0 : MoP N ad V2 t b (mkM (oR x) (oP x) (oA x) (oB x) (oS x) (oI x) (oX x) (oL x) (oT ((f_X6_readNumbers x nn mm kk).2)) (oN ((f_X6_readNumbers x nn mm kk).2))) := hp0.ext (fun _ _ => congrFun u_X6_readNumbers_0_0 _) (fun _ _ => congrFun u_X6_readNumbers_0_1 _) (fun _ _ => congrFun u_X6_readNumbers_0_2 _) (fun _ _ => congrFun u_X6_readNumbers_0_3 _) u_X6_readNumbers_0_4 u_X6_readNumbers_0_5 (fun _ _ => congrFun u_X6_readNumbers_0_6 _) u_X6_readNumbers_0_7 rfl (fun _ _ => rfl)
    have hfr : ∀ k, (k < b ∨ b + 7 ≤ k) → V2 k = V k := fun k hk => (h2 k (by omega)).trans (hfr k hk)
    refine q_neB (tgt := 27) hx hb dX6_readCut_16 (by decide) (fun c3 => ?_) (fun c3 => ?_)
    · refine lv_aload_n hx hb dX6_readCut_27 rfl (lv_at hl 0 rfl) ?_
      refine g_Mo_row X hP hp0 m83 dX6_readCut_28 ?_
      refine lv_iconst (v := nI 3) hx hb dX6_readCut_31 (by decide) ?_
      refine l_Mo_row X hP hp0 (by decide) dX6_readCut_32 ?_
      refine W.eq (g2 := F0 m 33 ls [.int (oR x 3)]) rfl ?_
      refine q_val (h3 : oR x 3 = nI kk) ?_
      refine lv_istore_n (lv' := [(1, .int (nI kk)), (0, .ref (ad b))]) hx hb dX6_readCut_33 rfl hl (by decide) rfl (fun ls hl => ?_)
      refine lv_iload_n hx hb dX6_readCut_34 rfl (lv_at hl 0 rfl) ?_
      refine lv_bipush (v := nI 40) hx hb dX6_readCut_35 (by decide) ?_
      refine q_ne (tgt := 43) hx hb (by omega) (by omega) dX6_readCut_37 (by decide) (fun c4 => ?_) (fun c4 => ?_)
      · refine lv_aload_n hx hb dX6_readCut_43 rfl (lv_at hl 1 rfl) ?_
        refine r_callW (As := []) (rest := []) (ci := 6) X hP hS (c_X6_begin hi hp0 hst) o_X6_begin rfl hp0.lt hp0.ob m142 ⟨rfl, rfl⟩ ⟨Nat.le_of_ble_eq_true rfl, Nat.le_of_ble_eq_true rfl⟩ rfl hl.1 rfl (Nat.le_of_ble_eq_true rfl) ⟨Nat.zero_le _, Nat.zero_le _⟩ dX6_readCut_44 (fun V5 H5 locs5 hq hP hS => ?_)
        obtain ⟨hp0, h2⟩ := hq
        have hp0 : MoP N ad V5 t b (mkM (oR x) (oP (f_X6_begin (mkM (oR x) (oP x) (oA x) (oB x) (oS x) (oI x) (oX x) (oL x) (oT ((f_X6_readNumbers x nn mm kk).2)) (oN ((f_X6_readNumbers x nn mm kk).2))))) (oA x) (oB (f_X6_begin (mkM (oR x) (oP x) (oA x) (oB x) (oS x) (oI x) (oX x) (oL x) (oT ((f_X6_readNumbers x nn mm kk).2)) (oN ((f_X6_readNumbers x nn mm kk).2))))) (oS (f_X6_begin (mkM (oR x) (oP x) (oA x) (oB x) (oS x) (oI x) (oX x) (oL x) (oT ((f_X6_readNumbers x nn mm kk).2)) (oN ((f_X6_readNumbers x nn mm kk).2))))) (oI x) (oX x) (oL x) (oT ((f_X6_readNumbers x nn mm kk).2)) (oN ((f_X6_readNumbers x nn mm kk).2))) := hp0.ext (fun _ _ => congrFun u_X6_begin_0_0 _) (fun _ _ => rfl) (fun _ _ => congrFun u_X6_begin_0_2 _) (fun _ _ => rfl) rfl u_X6_begin_0_5 (fun _ _ => congrFun u_X6_begin_0_6 _) u_X6_begin_0_7 u_X6_begin_0_8 (fun _ _ => congrFun u_X6_begin_0_9 _)
        have hfr : ∀ k, (k < b ∨ b + 7 ≤ k) → V5 k = V k := fun k hk => (h2 k (by omega)).trans (hfr k hk)
        refine lv_aload_n hx hb dX6_readCut_47 rfl (lv_at hl 1 rfl) ?_
        refine g_Mo_row X hP hp0 m83 dX6_readCut_48 ?_
        refine lv_bipush (v := nI 84) hx hb dX6_readCut_51 (by decide) ?_
        refine lv_bipush (v := nI 9) hx hb dX6_readCut_53 (by decide) ?_
        refine lv_iload_n hx hb dX6_readCut_55 rfl (lv_at hl 0 rfl) ?_
        refine q_imul hx hb dX6_readCut_56 ?_
        refine q_iadd hx hb dX6_readCut_57 ?_
        refine W.eq (g2 := F0 m 58 ls [.int (nI (84 + 9 * kk)), .ref (ad (b + 1))]) rfl ?_
        refine lv_bipush (v := (-5)) hx hb dX6_readCut_58 (by decide) ?_
        refine s_Mo_row X hi hP hS hp0 (by omega) dX6_readCut_60 (fun V6 H6 locs6 hp0 h2 hP hS => ?_)
        have hp0 : MoP N ad V6 t b (mkM (upd (oR x) (84 + 9 * kk) (-5)) (oP (f_X6_begin (mkM (oR x) (oP x) (oA x) (oB x) (oS x) (oI x) (oX x) (oL x) (oT ((f_X6_readNumbers x nn mm kk).2)) (oN ((f_X6_readNumbers x nn mm kk).2))))) (oA x) (oB (f_X6_begin (mkM (oR x) (oP x) (oA x) (oB x) (oS x) (oI x) (oX x) (oL x) (oT ((f_X6_readNumbers x nn mm kk).2)) (oN ((f_X6_readNumbers x nn mm kk).2))))) (oS (f_X6_begin (mkM (oR x) (oP x) (oA x) (oB x) (oS x) (oI x) (oX x) (oL x) (oT ((f_X6_readNumbers x nn mm kk).2)) (oN ((f_X6_readNumbers x nn mm kk).2))))) (oI x) (oX x) (oL x) (oT ((f_X6_readNumbers x nn mm kk).2)) (oN ((f_X6_readNumbers x nn mm kk).2))) := hp0
        have hfr : ∀ k, (k < b ∨ b + 7 ≤ k) → V6 k = V k := fun k hk => (h2 k (by omega)).trans (hfr k hk)
        refine lv_iconst (v := nI 0) hx hb dX6_readCut_61 (by decide) ?_
        refine lv_istore_n (lv' := [(2, .int (nI 0)), (1, .int (nI kk)), (0, .ref (ad b))]) hx hb dX6_readCut_62 rfl hl (by decide) rfl (fun ls hl => ?_)
        have L7 : ∀ (dx_7 ix_7 : Nat) (u0_0_7 : Nat → Int32) (V7 : Nat → va_E) (H7 : Heap) (locs7 : List Loc) (ls : Array Slot), (ix_7 + dx_7 = mm) → (l_X6_readCut_63 x nn mm kk dx_7 ix_7 u0_0_7 = l_X6_readCut_63 x nn mm kk mm 0 (upd (oR x) (84 + 9 * kk) (-5))) → (∀ j, j < 84 → u0_0_7 j = oR x j) → (MoP N ad V7 t b (mkM u0_0_7 (oP (f_X6_begin (mkM (oR x) (oP x) (oA x) (oB x) (oS x) (oI x) (oX x) (oL x) (oT ((f_X6_readNumbers x nn mm kk).2)) (oN ((f_X6_readNumbers x nn mm kk).2))))) (oA x) (oB (f_X6_begin (mkM (oR x) (oP x) (oA x) (oB x) (oS x) (oI x) (oX x) (oL x) (oT ((f_X6_readNumbers x nn mm kk).2)) (oN ((f_X6_readNumbers x nn mm kk).2))))) (oS (f_X6_begin (mkM (oR x) (oP x) (oA x) (oB x) (oS x) (oI x) (oX x) (oL x) (oT ((f_X6_readNumbers x nn mm kk).2)) (oN ((f_X6_readNumbers x nn mm kk).2))))) (oI x) (oX x) (oL x) (oT ((f_X6_readNumbers x nn mm kk).2)) (oN ((f_X6_readNumbers x nn mm kk).2)))) → (∀ k, (k < b ∨ b + 7 ≤ k) → V7 k = V k) → (HP dd N ad V7 H7) → (va_S (dm N ad H.size) H H7 locs7) → (lv_has ls 3 [(0, .ref (ad b)), (1, .int (nI kk)), (2, .int (nI ix_7))]) → W p l e rmX6_readCut s m as below meth c H7 locs7 0 0 Q (F0 m 63 ls []) := by
          intro dx_7
          induction dx_7 with
          | zero =>
            intro ix_7 u0_0_7 V7 H7 locs7 ls hid hvx_7 hrow hp0 hfr hP hS hl
            have hiN : mm = ix_7 := by omega
            subst hiN
            have hvx_7 : u0_0_7 = l_X6_readCut_63 x nn mm kk mm 0 (upd (oR x) (84 + 9 * kk) (-5)) := hvx_7
            have hh0 : u0_0_7 = l_X6_readCut_63 x nn mm kk mm 0 (upd (oR x) (84 + 9 * kk) (-5)) := hvx_7
            subst hh0
            refine lv_iload_n hx hb dX6_readCut_63 rfl (lv_at hl 2 rfl) ?_
            refine lv_aload_n hx hb dX6_readCut_64 rfl (lv_at hl 0 rfl) ?_
            refine g_Mo_row X hP hp0 m83 dX6_readCut_65 ?_
            refine lv_iconst (v := nI 1) hx hb dX6_readCut_68 (by decide) ?_
            refine l_Mo_row X hP hp0 (by decide) dX6_readCut_69 ?_
            refine W.eq (g2 := F0 m 70 ls [.int ((l_X6_readCut_63 x nn mm kk mm 0 (upd (oR x) (84 + 9 * kk) (-5))) 1), .int (nI mm)]) rfl ?_
            refine q_val (((hrow 1 (by decide)).trans h1) : (l_X6_readCut_63 x nn mm kk mm 0 (upd (oR x) (84 + 9 * kk) (-5))) 1 = nI mm) ?_
            refine q_ge (tgt := 101) hx hb (by omega) (by omega) dX6_readCut_70 (by decide) (fun c8 => ?_) (fun h => absurd h (by omega))
            refine lv_aload_n hx hb dX6_readCut_101 rfl (lv_at hl 0 rfl) ?_
            refine g_Mo_row X hP hp0 m83 dX6_readCut_102 ?_
            refine lv_iconst (v := nI 3) hx hb dX6_readCut_105 (by decide) ?_
            refine lv_dup2_11 hx hb dX6_readCut_106 rfl rfl ?_
            refine l_Mo_row X hP hp0 (by decide) dX6_readCut_107 ?_
            refine W.eq (g2 := F0 m 108 ls [.int ((l_X6_readCut_63 x nn mm kk mm 0 (upd (oR x) (84 + 9 * kk) (-5))) 3), .int (nI 3), .ref (ad (b + 1))]) rfl ?_
            refine lv_iconst (v := nI 1) hx hb dX6_readCut_108 (by decide) ?_
            refine lv_iadd hx hb dX6_readCut_109 ?_
            refine s_Mo_row X hi hP hS hp0 (by decide) dX6_readCut_110 (fun V9 H9 locs9 hp0 h2 hP hS => ?_)
            have hp0 : MoP N ad V9 t b (mkM (upd (l_X6_readCut_63 x nn mm kk mm 0 (upd (oR x) (84 + 9 * kk) (-5))) 3 (((l_X6_readCut_63 x nn mm kk mm 0 (upd (oR x) (84 + 9 * kk) (-5))) 3) + (nI 1))) (oP (f_X6_begin (mkM (oR x) (oP x) (oA x) (oB x) (oS x) (oI x) (oX x) (oL x) (oT ((f_X6_readNumbers x nn mm kk).2)) (oN ((f_X6_readNumbers x nn mm kk).2))))) (oA x) (oB (f_X6_begin (mkM (oR x) (oP x) (oA x) (oB x) (oS x) (oI x) (oX x) (oL x) (oT ((f_X6_readNumbers x nn mm kk).2)) (oN ((f_X6_readNumbers x nn mm kk).2))))) (oS (f_X6_begin (mkM (oR x) (oP x) (oA x) (oB x) (oS x) (oI x) (oX x) (oL x) (oT ((f_X6_readNumbers x nn mm kk).2)) (oN ((f_X6_readNumbers x nn mm kk).2))))) (oI x) (oX x) (oL x) (oT ((f_X6_readNumbers x nn mm kk).2)) (oN ((f_X6_readNumbers x nn mm kk).2))) := hp0
            have hfr : ∀ k, (k < b ∨ b + 7 ≤ k) → V9 k = V k := fun k hk => (h2 k (by omega)).trans (hfr k hk)
            refine lv_iload_n hx hb dX6_readCut_111 rfl (lv_at hl 1 rfl) ?_
            have hfin : f_X6_readCut x nn mm kk = (nI kk, mkM (upd (l_X6_readCut_63 x nn mm kk mm 0 (upd (oR x) (84 + 9 * kk) (-5))) 3 (((l_X6_readCut_63 x nn mm kk mm 0 (upd (oR x) (84 + 9 * kk) (-5))) 3) + (nI 1))) (oP (f_X6_begin (mkM (oR x) (oP x) (oA x) (oB x) (oS x) (oI x) (oX x) (oL x) (oT ((f_X6_readNumbers x nn mm kk).2)) (oN ((f_X6_readNumbers x nn mm kk).2))))) (oA x) (oB (f_X6_begin (mkM (oR x) (oP x) (oA x) (oB x) (oS x) (oI x) (oX x) (oL x) (oT ((f_X6_readNumbers x nn mm kk).2)) (oN ((f_X6_readNumbers x nn mm kk).2))))) (oS (f_X6_begin (mkM (oR x) (oP x) (oA x) (oB x) (oS x) (oI x) (oX x) (oL x) (oT ((f_X6_readNumbers x nn mm kk).2)) (oN ((f_X6_readNumbers x nn mm kk).2))))) (oI x) (oX x) (oL x) (oT ((f_X6_readNumbers x nn mm kk).2)) (oN ((f_X6_readNumbers x nn mm kk).2))) := (by rw [f_X6_readCut, if_neg c1, if_pos c3, if_neg c4] <;> rfl)
            exact kr 112 ls _ _ _ _ hP hS rfl ⟨by rw [hfin] <;> rfl, by rw [hfin]; exact hp0, hfr⟩ dX6_readCut_112
          | succ dx_7 ihx_7 =>
            intro ix_7 u0_0_7 V7 H7 locs7 ls hid hvx_7 hrow hp0 hfr hP hS hl
            refine lv_iload_n hx hb dX6_readCut_63 rfl (lv_at hl 2 rfl) ?_
            refine lv_aload_n hx hb dX6_readCut_64 rfl (lv_at hl 0 rfl) ?_
            refine g_Mo_row X hP hp0 m83 dX6_readCut_65 ?_
            refine lv_iconst (v := nI 1) hx hb dX6_readCut_68 (by decide) ?_
            refine l_Mo_row X hP hp0 (by decide) dX6_readCut_69 ?_
            refine W.eq (g2 := F0 m 70 ls [.int (u0_0_7 1), .int (nI ix_7)]) rfl ?_
            refine q_val (((hrow 1 (by decide)).trans h1) : u0_0_7 1 = nI mm) ?_
            refine q_ge (tgt := 101) hx hb (by omega) (by omega) dX6_readCut_70 (by decide) (fun h => absurd h (by omega)) (fun c10 => ?_)
            refine lv_aload_n hx hb dX6_readCut_73 rfl (lv_at hl 0 rfl) ?_
            refine g_Mo_row X hP hp0 m83 dX6_readCut_74 ?_
            refine lv_bipush (v := nI 84) hx hb dX6_readCut_77 (by decide) ?_
            refine lv_bipush (v := nI 9) hx hb dX6_readCut_79 (by decide) ?_
            refine lv_iload_n hx hb dX6_readCut_81 rfl (lv_at hl 1 rfl) ?_
            refine q_imul hx hb dX6_readCut_82 ?_
            refine q_iadd hx hb dX6_readCut_83 ?_
            refine W.eq (g2 := F0 m 84 ls [.int (nI (84 + 9 * kk)), .ref (ad (b + 1))]) rfl ?_
            refine lv_iconst (v := nI 1) hx hb dX6_readCut_84 (by decide) ?_
            refine q_iadd hx hb dX6_readCut_85 ?_
            refine W.eq (g2 := F0 m 86 ls [.int (nI (84 + 9 * kk + 1)), .ref (ad (b + 1))]) rfl ?_
            refine lv_iload_n hx hb dX6_readCut_86 rfl (lv_at hl 2 rfl) ?_
            refine q_iadd hx hb dX6_readCut_87 ?_
            refine W.eq (g2 := F0 m 88 ls [.int (nI (84 + 9 * kk + 1 + ix_7)), .ref (ad (b + 1))]) rfl ?_
            refine lv_aload_n hx hb dX6_readCut_88 rfl (lv_at hl 0 rfl) ?_
            refine g_Mo_read X hP hp0 m88 dX6_readCut_89 ?_
            refine lv_iload_n hx hb dX6_readCut_92 rfl (lv_at hl 2 rfl) ?_
            refine l_Mo_read X hP hp0 (by omega) dX6_readCut_93 ?_
            refine W.eq (g2 := F0 m 94 ls [.int ((oN ((f_X6_readNumbers x nn mm kk).2)) ix_7), .int (nI (84 + 9 * kk + 1 + ix_7)), .ref (ad (b + 1))]) rfl ?_
            refine s_Mo_row X hi hP hS hp0 (by omega) dX6_readCut_94 (fun V11 H11 locs11 hp0 h2 hP hS => ?_)
            have hp0 : MoP N ad V11 t b (mkM (upd u0_0_7 (84 + 9 * kk + 1 + ix_7) ((oN ((f_X6_readNumbers x nn mm kk).2)) ix_7)) (oP (f_X6_begin (mkM (oR x) (oP x) (oA x) (oB x) (oS x) (oI x) (oX x) (oL x) (oT ((f_X6_readNumbers x nn mm kk).2)) (oN ((f_X6_readNumbers x nn mm kk).2))))) (oA x) (oB (f_X6_begin (mkM (oR x) (oP x) (oA x) (oB x) (oS x) (oI x) (oX x) (oL x) (oT ((f_X6_readNumbers x nn mm kk).2)) (oN ((f_X6_readNumbers x nn mm kk).2))))) (oS (f_X6_begin (mkM (oR x) (oP x) (oA x) (oB x) (oS x) (oI x) (oX x) (oL x) (oT ((f_X6_readNumbers x nn mm kk).2)) (oN ((f_X6_readNumbers x nn mm kk).2))))) (oI x) (oX x) (oL x) (oT ((f_X6_readNumbers x nn mm kk).2)) (oN ((f_X6_readNumbers x nn mm kk).2))) := hp0
            have hfr : ∀ k, (k < b ∨ b + 7 ≤ k) → V11 k = V k := fun k hk => (h2 k (by omega)).trans (hfr k hk)
            refine lv_iinc (v := nI (ix_7 + 1)) (lv' := [(2, .int (nI (ix_7 + 1))), (0, .ref (ad b)), (1, .int (nI kk))]) hx hb dX6_readCut_95 hl (k := 2) rfl (nI_inc _) (by decide) rfl (fun ls hl => ?_)
            refine lv_goto (tgt := 63) hx hb dX6_readCut_98 (by decide) ?_
            exact ihx_7 (ix_7 + 1) (upd u0_0_7 (84 + 9 * kk + 1 + ix_7) ((oN ((f_X6_readNumbers x nn mm kk).2)) ix_7)) _ _ _ ls (by omega) (Eq.trans (Eq.symm (by rw [l_X6_readCut_63] <;> rfl)) hvx_7) (fun j ha => (upd_ne _ _ (by omega)).trans (hrow j ha)) hp0 hfr hP hS (lv_sub hl [1, 2, 0] rfl)
        exact L7 mm 0 (upd (oR x) (84 + 9 * kk) (-5)) _ _ _ ls (by omega) rfl (fun j ha => by repeat rw [upd_ne _ _ (by omega)]) hp0 hfr hP hS (lv_sub hl [2, 1, 0] rfl)
      · refine lv_bipush (v := (-3)) hx hb dX6_readCut_40 (by decide) ?_
        have hfin : f_X6_readCut x nn mm kk = ((-3), mkM (oR x) (oP x) (oA x) (oB x) (oS x) (oI x) (oX x) (oL x) (oT ((f_X6_readNumbers x nn mm kk).2)) (oN ((f_X6_readNumbers x nn mm kk).2))) := (by rw [f_X6_readCut, if_neg c1, if_pos c3, if_pos c4] <;> rfl)
        exact kr 42 ls _ _ _ _ hP hS rfl ⟨by rw [hfin] <;> rfl, by rw [hfin]; exact hp0, hfr⟩ dX6_readCut_42
    · refine lv_bipush (v := (-100)) hx hb dX6_readCut_19 (by decide) ?_
      refine lv_aload_n hx hb dX6_readCut_21 rfl (lv_at hl 0 rfl) ?_
      refine g_Mo_at X hP hp0 m485 dX6_readCut_22 ?_
      refine W.eq (g2 := F0 m 25 ls [.int (nI (oT ((f_X6_readNumbers x nn mm kk).2))), .int ((-100))]) rfl ?_
      refine lv_isub hx hb dX6_readCut_25 ?_
      have hfin : f_X6_readCut x nn mm kk = ((-100) - (nI (oT ((f_X6_readNumbers x nn mm kk).2))), mkM (oR x) (oP x) (oA x) (oB x) (oS x) (oI x) (oX x) (oL x) (oT ((f_X6_readNumbers x nn mm kk).2)) (oN ((f_X6_readNumbers x nn mm kk).2))) := (by rw [f_X6_readCut, if_neg c1, if_neg (nt c3)] <;> rfl)
      exact kr 26 ls _ _ _ _ hP hS rfl ⟨by rw [hfin] <;> rfl, by rw [hfin]; exact hp0, hfr⟩ dX6_readCut_26
  · refine lv_bipush (v := (-4)) hx hb dX6_readCut_9 (by decide) ?_
    have hfin : f_X6_readCut x nn mm kk = ((-4), x) := (by rw [f_X6_readCut, if_pos c1] <;> rfl)
    exact kr 11 ls _ _ _ _ hP hS rfl ⟨by rw [hfin] <;> rfl, by rw [hfin]; exact hp0, hfr⟩ dX6_readCut_11
theorem o_X6_readCut : okV yX6_readCut cX6_readCut 3 (some .int) 0 := ⟨m482, m483, m5, m484, by decide +kernel, by decide +kernel, by decide +kernel⟩
theorem u_X6_readCut_0_2 {x : MoC} {nn : Nat} {mm : Nat} {kk : Nat} : oA ((f_X6_readCut x nn mm kk).2) = oA x := by
  unfold f_X6_readCut
  (repeat' split) <;> rfl
theorem u_X6_readCut_0_5 {x : MoC} {nn : Nat} {mm : Nat} {kk : Nat} : oI ((f_X6_readCut x nn mm kk).2) = oI x := by
  unfold f_X6_readCut
  (repeat' split) <;> rfl
theorem u_X6_readCut_0_6 {x : MoC} {nn : Nat} {mm : Nat} {kk : Nat} : oX ((f_X6_readCut x nn mm kk).2) = oX x := by
  unfold f_X6_readCut
  (repeat' split) <;> rfl
theorem u_X6_readCut_0_7 {x : MoC} {nn : Nat} {mm : Nat} {kk : Nat} : oL ((f_X6_readCut x nn mm kk).2) = oL x := by
  unfold f_X6_readCut
  (repeat' split) <;> rfl
