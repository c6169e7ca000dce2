/-! writers of the outer class -/

def rmX5_addSite : Room := { frames := 4, cells := 0, slots := 0, locals := 88 }
def f_X5_addSite (w : ZoC) (z : SoC) (x : PlC) (y : CuC) (ho : HoC) (sg : Nat → Nat) (hs : Nat → StC) (price : Int32) : Int32 × SoC × PlC × CuC × HoC × (Nat → Nat) × (Nat → StC) :=
  (if (f_X5_isSitePrice price) = true then (if (pN x) < 7 then ((f_X3_appendSite x price).1, mkO (uB ((f_X4_forgetCuts z x y).1)) (uT z), mkP (pN ((f_X3_appendSite x price).2)) (pM x) (pO x) (pP ((f_X3_appendSite x price).2)) (pD x) (pR ((f_X3_appendSite x price).2)) (pE ((f_X3_appendSite x price).2)), mkC (kA ((f_X4_forgetCuts z x y).2)) (kC y) (kS y) (kW y), ((f_X2_record ho sg hs z x y).1), ((f_X2_record ho sg hs z x y).2.1), ((f_X2_record ho sg hs z x y).2.2)) else ((-3), z, x, y, ho, sg, hs)) else ((-2), z, x, y, ho, sg, hs))
set_option maxHeartbeats 4000000 in
set_option maxRecDepth 100000 in
theorem c_X5_addSite {l : Launch} {dd : va_G} {t : CL4} {N : Nat} {ad : Nat → Nat} {V : Nat → va_E} {b : Nat} {w : ZoC} {z : SoC} {x : PlC} {y : CuC} {ho : HoC} {sg : Nat → Nat} {hs : Nat → StC}  (hi : inj N ad) (hp0 : ZoP N ad V t b w) (hp1 : SoP N ad V t (b + 1) z) (hp2 : PlP N ad V t (b + 2) x) (hp3 : CuP N ad V t (b + 14) y) (hp4 : HoP N ad V t (b + 172) ho) (hp5 : HaP N ad V t (b + 173) sg) (hp6 : HsP N ad V t (b + 174) hs) (price : Int32) (hsg : ∀ j, j < 4 → sg j < 4) : MM l dd t N ad V yX5_addSite cX5_addSite 2 (some .int) rmX5_addSite [.ref (ad b), .int (price)] (fun r V1 => (r = (f_X5_addSite w z x y ho sg hs price).1) ∧ (SoP N ad V1 t (b + 1) ((f_X5_addSite w z x y ho sg hs price).2.1)) ∧ (PlP N ad V1 t (b + 2) ((f_X5_addSite w z x y ho sg hs price).2.2.1)) ∧ (CuP N ad V1 t (b + 14) ((f_X5_addSite w z x y ho sg hs price).2.2.2.1)) ∧ (HoP N ad V1 t (b + 172) ((f_X5_addSite w z x y ho sg hs price).2.2.2.2.1)) ∧ (HaP N ad V1 t (b + 173) ((f_X5_addSite w z x y ho sg hs price).2.2.2.2.2.1)) ∧ (HsP N ad V1 t (b + 174) ((f_X5_addSite w z x y ho sg hs price).2.2.2.2.2.2)) ∧ (∀ k, (k < b + 1 ∨ (b + 58 ≤ k ∧ k < b + 172) ∨ b + 402 ≤ k) → V1 k = V k)) := by
  refine MM.of (by decide +kernel) ⟨rfl, rfl⟩ (Nat.le_of_ble_eq_true rfl) rfl ?_
  intro p e s m as below meth c Q X H hP hS ls hl kr
  have X : WX p s m as c cX5_addSite 2 RX5 dd t := X
  have hx := X.1.1
  have hb := X.1.2.1
  have hl : lv_has ls 2 [(0, .ref (ad b)), (1, .int (price))] := hl
  have hi2_0 := hp2.i0
  have hi2_1 := hp2.i1
  have hi3_0 := hp3.i0
  have hi4_0 := hp4.i0
  have hle0 := hp0.le
  have hle1 := hp1.le
  have hle2 := hp2.le
  have hle3 := hp3.le
  have hle4 := hp4.le
  have hle5 := hp5.1
  have hle6 := hp6.1
  have hfr : ∀ k, (k < b + 1 ∨ (b + 58 ≤ k ∧ k < b + 172) ∨ b + 402 ≤ k) → V k = V k := fun _ _ => rfl
  refine lv_iload_n hx hb dX5_addSite_0 rfl (lv_at hl 1 rfl) ?_
  refine r_callS (As := [.int (price)]) (rest := []) X hP (c_X5_isSitePrice price) o_X5_isSitePrice m95 ⟨rfl, rfl⟩ ⟨Nat.le_of_ble_eq_true rfl, Nat.le_of_ble_eq_true rfl⟩ rfl hl.1 rfl (Nat.le_of_ble_eq_true rfl) ⟨Nat.zero_le _, Nat.zero_le _⟩ dX5_addSite_1 ?_
  refine q_neB (tgt := 10) hx hb dX5_addSite_4 (by decide) (fun c1 => ?_) (fun c1 => ?_)
  · refine lv_aload_n hx hb dX5_addSite_10 rfl (lv_at hl 0 rfl) ?_
    refine g_Zo_now X hP hp0 m15 dX5_addSite_11 ?_
    refine g_So_places X hP hp1 m93 dX5_addSite_14 ?_
    refine g_Pl_siteCount X hP hp2 m94 dX5_addSite_17 ?_
    refine lv_bipush (v := nI 7) hx hb dX5_addSite_20 (by decide) ?_
    refine q_lt (tgt := 28) hx hb (by omega) (by omega) dX5_addSite_22 (by decide) (fun c2 => ?_) (fun c2 => ?_)
    · refine lv_aload_n hx hb dX5_addSite_28 rfl (lv_at hl 0 rfl) ?_
      refine g_Zo_history X hP hp0 m22 dX5_addSite_29 ?_
      refine lv_aload_n hx hb dX5_addSite_32 rfl (lv_at hl 0 rfl) ?_
      refine g_Zo_now X hP hp0 m15 dX5_addSite_33 ?_
      refine r_callW (As := [.ref (ad (b + 1))]) (rest := []) (ci := 2) X hP hS (c_X2_record hi hp4 hp5 hp6 hp1 hp2 hp3 hsg (by omega)) o_X2_record rfl hp4.lt hp4.ob m98 ⟨rfl, rfl⟩ ⟨Nat.le_of_ble_eq_true rfl, Nat.le_of_ble_eq_true rfl⟩ rfl hl.1 rfl (Nat.le_of_ble_eq_true rfl) ⟨Nat.zero_le _, Nat.zero_le _⟩ dX5_addSite_36 (fun V3 H3 locs3 hq hP hS => ?_)
      obtain ⟨hp4, hp5, hp6, h2⟩ := hq
      have hi4_0 := hp4.i0
      have hp0 := hp0.keep (V1 := V3) (fun k h8 h9 => h2 k (by omega))
      have hp1 := hp1.keep (V1 := V3) (fun k h8 h9 => h2 k (by omega))
      have hp2 := hp2.keep (V1 := V3) (fun k h8 h9 => h2 k (by omega))
      have hp3 := hp3.keep (V1 := V3) (fun k h8 h9 => h2 k (by omega))
      have hfr : ∀ k, (k < b + 1 ∨ (b + 58 ≤ k ∧ k < b + 172) ∨ b + 402 ≤ k) → V3 k = V k := fun k hk => (h2 k (by omega)).trans (hfr k hk)
      refine lv_aload_n hx hb dX5_addSite_39 rfl (lv_at hl 0 rfl) ?_
      refine g_Zo_now X hP hp0 m15 dX5_addSite_40 ?_
      refine r_callW (As := []) (rest := []) (ci := 4) X hP hS (c_X4_forgetCuts hi hp1 hp2 hp3) o_X4_forgetCuts rfl hp1.lt hp1.ob m122 ⟨rfl, rfl⟩ ⟨Nat.le_of_ble_eq_true rfl, Nat.le_of_ble_eq_true rfl⟩ rfl hl.1 rfl (Nat.le_of_ble_eq_true rfl) ⟨Nat.zero_le _, Nat.zero_le _⟩ dX5_addSite_43 (fun V4 H4 locs4 hq hP hS => ?_)
      obtain ⟨hp1, hp3, h2⟩ := hq
      have hp1 : SoP N ad V4 t (b + 1) (mkO (uB ((f_X4_forgetCuts z x y).1)) (uT z)) := hp1.ext rfl u_X4_forgetCuts_0_1
      have hp3 : CuP N ad V4 t (b + 14) (mkC (kA ((f_X4_forgetCuts z x y).2)) (kC y) (kS y) (kW y)) := hp3.ext rfl (fun _ _ => congrFun u_X4_forgetCuts_2_1 _) (fun _ _ => congrFun u_X4_forgetCuts_2_2 _) (fun _ _ _ _ => congrFun (congrFun u_X4_forgetCuts_2_3 _) _)
      have hi3_0 := hp3.i0
      have hp0 := hp0.keep (V1 := V4) (fun k h8 h9 => h2 k (by omega))
      have hp2 := hp2.keep (V1 := V4) (fun k h8 h9 => h2 k (by omega))
      have hp4 := hp4.keep (V1 := V4) (fun k h8 h9 => h2 k (by omega))
      have hp5 := hp5.keep (V1 := V4) (fun k h8 h9 => h2 k (by omega))
      have hp6 := hp6.keep (V1 := V4) (fun k h8 h9 => h2 k (by omega))
      have hfr : ∀ k, (k < b + 1 ∨ (b + 58 ≤ k ∧ k < b + 172) ∨ b + 402 ≤ k) → V4 k = V k := fun k hk => (h2 k (by omega)).trans (hfr k hk)
      refine lv_aload_n hx hb dX5_addSite_46 rfl (lv_at hl 0 rfl) ?_
      refine g_Zo_now X hP hp0 m15 dX5_addSite_47 ?_
      refine g_So_places X hP hp1 m93 dX5_addSite_50 ?_
      refine lv_iload_n hx hb dX5_addSite_53 rfl (lv_at hl 1 rfl) ?_
      refine r_callM (As := [.int (price)]) (rest := []) (ci := 3) X hP hS (c_X3_appendSite hi hp2 price) o_X3_appendSite rfl hp2.lt hp2.ob m131 ⟨rfl, rfl⟩ ⟨Nat.le_of_ble_eq_true rfl, Nat.le_of_ble_eq_true rfl⟩ rfl hl.1 rfl (Nat.le_of_ble_eq_true rfl) ⟨Nat.zero_le _, Nat.zero_le _⟩ dX5_addSite_54 (fun r V5 H5 locs5 hq hP hS => ?_)
      obtain ⟨hr, hp2, h2⟩ := hq
      subst hr
      have hp2 : PlP N ad V5 t (b + 2) (mkP (pN ((f_X3_appendSite x price).2)) (pM x) (pO x) (pP ((f_X3_appendSite x price).2)) (pD x) (pR ((f_X3_appendSite x price).2)) (pE ((f_X3_appendSite x price).2))) := hp2.ext rfl u_X3_appendSite_0_1 u_X3_appendSite_0_2 (fun _ _ => rfl) (fun _ _ => congrFun u_X3_appendSite_0_4 _) (fun _ _ _ _ => rfl) (fun _ _ => rfl)
      have hi2_0 := hp2.i0
      have hi2_1 := hp2.i1
      have hp0 := hp0.keep (V1 := V5) (fun k h8 h9 => h2 k (by omega))
      have hp1 := hp1.keep (V1 := V5) (fun k h8 h9 => h2 k (by omega))
      have hp3 := hp3.keep (V1 := V5) (fun k h8 h9 => h2 k (by omega))
      have hp4 := hp4.keep (V1 := V5) (fun k h8 h9 => h2 k (by omega))
      have hp5 := hp5.keep (V1 := V5) (fun k h8 h9 => h2 k (by omega))
      have hp6 := hp6.keep (V1 := V5) (fun k h8 h9 => h2 k (by omega))
      have hfr : ∀ k, (k < b + 1 ∨ (b + 58 ≤ k ∧ k < b + 172) ∨ b + 402 ≤ k) → V5 k = V k := fun k hk => (h2 k (by omega)).trans (hfr k hk)
      have hfin : f_X5_addSite w z x y ho sg hs price = ((f_X3_appendSite x price).1, mkO (uB ((f_X4_forgetCuts z x y).1)) (uT z), mkP (pN ((f_X3_appendSite x price).2)) (pM x) (pO x) (pP ((f_X3_appendSite x price).2)) (pD x) (pR ((f_X3_appendSite x price).2)) (pE ((f_X3_appendSite x price).2)), mkC (kA ((f_X4_forgetCuts z x y).2)) (kC y) (kS y) (kW y), ((f_X2_record ho sg hs z x y).1), ((f_X2_record ho sg hs z x y).2.1), ((f_X2_record ho sg hs z x y).2.2)) := (by rw [f_X5_addSite, if_pos c1, if_pos c2] <;> rfl)
      exact kr 57 ls _ _ _ _ hP hS rfl ⟨by rw [hfin] <;> rfl, by rw [hfin]; exact hp1, by rw [hfin]; exact hp2, by rw [hfin]; exact hp3, by rw [hfin]; exact hp4, by rw [hfin]; exact hp5, by rw [hfin]; exact hp6, hfr⟩ dX5_addSite_57
    · refine lv_bipush (v := (-3)) hx hb dX5_addSite_25 (by decide) ?_
      have hfin : f_X5_addSite w z x y ho sg hs price = ((-3), z, x, y, ho, sg, hs) := (by rw [f_X5_addSite, if_pos c1, if_neg (Nat.not_lt.mpr c2)] <;> rfl)
      exact kr 27 ls _ _ _ _ hP hS rfl ⟨by rw [hfin] <;> rfl, by rw [hfin]; exact hp1, by rw [hfin]; exact hp2, by rw [hfin]; exact hp3, by rw [hfin]; exact hp4, by rw [hfin]; exact hp5, by rw [hfin]; exact hp6, hfr⟩ dX5_addSite_27
  · refine lv_bipush (v := (-2)) hx hb dX5_addSite_7 (by decide) ?_
    have hfin : f_X5_addSite w z x y ho sg hs price = ((-2), z, x, y, ho, sg, hs) := (by rw [f_X5_addSite, if_neg (nt c1)] <;> rfl)
    exact kr 9 ls _ _ _ _ hP hS rfl ⟨by rw [hfin] <;> rfl, by rw [hfin]; exact hp1, by rw [hfin]; exact hp2, by rw [hfin]; exact hp3, by rw [hfin]; exact hp4, by rw [hfin]; exact hp5, by rw [hfin]; exact hp6, hfr⟩ dX5_addSite_9
theorem o_X5_addSite : okV yX5_addSite cX5_addSite 2 (some .int) 1 := ⟨m90, m91, m2, m92, by decide +kernel, by decide +kernel, by decide +kernel⟩
theorem u_X5_addSite_1_1 {w : ZoC} {z : SoC} {x : PlC} {y : CuC} {ho : HoC} {sg : Nat → Nat} {hs : Nat → StC} {price : Int32} : uT ((f_X5_addSite w z x y ho sg hs price).2.1) = uT z := by
  unfold f_X5_addSite
  (repeat' split) <;> rfl
theorem u_X5_addSite_2_1 {w : ZoC} {z : SoC} {x : PlC} {y : CuC} {ho : HoC} {sg : Nat → Nat} {hs : Nat → StC} {price : Int32} : pM ((f_X5_addSite w z x y ho sg hs price).2.2.1) = pM x := by
  unfold f_X5_addSite
  (repeat' split) <;> rfl
theorem u_X5_addSite_2_2 {w : ZoC} {z : SoC} {x : PlC} {y : CuC} {ho : HoC} {sg : Nat → Nat} {hs : Nat → StC} {price : Int32} : pO ((f_X5_addSite w z x y ho sg hs price).2.2.1) = pO x := by
  unfold f_X5_addSite
  (repeat' split) <;> rfl
theorem u_X5_addSite_2_4 {w : ZoC} {z : SoC} {x : PlC} {y : CuC} {ho : HoC} {sg : Nat → Nat} {hs : Nat → StC} {price : Int32} : pD ((f_X5_addSite w z x y ho sg hs price).2.2.1) = pD x := by
  unfold f_X5_addSite
  (repeat' split) <;> rfl
theorem u_X5_addSite_3_1 {w : ZoC} {z : SoC} {x : PlC} {y : CuC} {ho : HoC} {sg : Nat → Nat} {hs : Nat → StC} {price : Int32} : kC ((f_X5_addSite w z x y ho sg hs price).2.2.2.1) = kC y := by
  unfold f_X5_addSite
  (repeat' split) <;> rfl
theorem u_X5_addSite_3_2 {w : ZoC} {z : SoC} {x : PlC} {y : CuC} {ho : HoC} {sg : Nat → Nat} {hs : Nat → StC} {price : Int32} : kS ((f_X5_addSite w z x y ho sg hs price).2.2.2.1) = kS y := by
  unfold f_X5_addSite
  (repeat' split) <;> rfl
theorem u_X5_addSite_3_3 {w : ZoC} {z : SoC} {x : PlC} {y : CuC} {ho : HoC} {sg : Nat → Nat} {hs : Nat → StC} {price : Int32} : kW ((f_X5_addSite w z x y ho sg hs price).2.2.2.1) = kW y := by
  unfold f_X5_addSite
  (repeat' split) <;> rfl
def rmX5_addCustomer : Room := { frames := 4, cells := 0, slots := 0, locals := 88 }
def f_X5_addCustomer (w : ZoC) (z : SoC) (x : PlC) (y : CuC) (ho : HoC) (sg : Nat → Nat) (hs : Nat → StC) (demand : Int32) : Int32 × SoC × PlC × CuC × HoC × (Nat → Nat) × (Nat → StC) :=
  (if (f_X5_isDemand demand) = true then (if (pM x) < 8 then ((f_X3_appendCustomer x demand).1, mkO (uB ((f_X4_forgetCuts z x y).1)) (uT z), mkP (pN x) (pM ((f_X3_appendCustomer x demand).2)) (pO x) (pP x) (pD ((f_X3_appendCustomer x demand).2)) (pR ((f_X3_appendCustomer x demand).2)) (pE x), mkC (kA ((f_X4_forgetCuts z x y).2)) (kC y) (kS y) (kW y), ((f_X2_record ho sg hs z x y).1), ((f_X2_record ho sg hs z x y).2.1), ((f_X2_record ho sg hs z x y).2.2)) else ((-3), z, x, y, ho, sg, hs)) else ((-2), z, x, y, ho, sg, hs))
set_option maxHeartbeats 4000000 in
set_option maxRecDepth 100000 in
theorem c_X5_addCustomer {l : Launch} {dd : va_G} {t : CL4} {N : Nat} {ad : Nat → Nat} {V : Nat → va_E} {b : Nat} {w : ZoC} {z : SoC} {x : PlC} {y : CuC} {ho : HoC} {sg : Nat → Nat} {hs : Nat → StC}  (hi : inj N ad) (hp0 : ZoP N ad V t b w) (hp1 : SoP N ad V t (b + 1) z) (hp2 : PlP N ad V t (b + 2) x) (hp3 : CuP N ad V t (b + 14) y) (hp4 : HoP N ad V t (b + 172) ho) (hp5 : HaP N ad V t (b + 173) sg) (hp6 : HsP N ad V t (b + 174) hs) (demand : Int32) (hsg : ∀ j, j < 4 → sg j < 4) : MM l dd t N ad V yX5_addCustomer cX5_addCustomer 2 (some .int) rmX5_addCustomer [.ref (ad b), .int (demand)] (fun r V1 => (r = (f_X5_addCustomer w z x y ho sg hs demand).1) ∧ (SoP N ad V1 t (b + 1) ((f_X5_addCustomer w z x y ho sg hs demand).2.1)) ∧ (PlP N ad V1 t (b + 2) ((f_X5_addCustomer w z x y ho sg hs demand).2.2.1)) ∧ (CuP N ad V1 t (b + 14) ((f_X5_addCustomer w z x y ho sg hs demand).2.2.2.1)) ∧ (HoP N ad V1 t (b + 172) ((f_X5_addCustomer w z x y ho sg hs demand).2.2.2.2.1)) ∧ (HaP N ad V1 t (b + 173) ((f_X5_addCustomer w z x y ho sg hs demand).2.2.2.2.2.1)) ∧ (HsP N ad V1 t (b + 174) ((f_X5_addCustomer w z x y ho sg hs demand).2.2.2.2.2.2)) ∧ (∀ k, (k < b + 1 ∨ (b + 58 ≤ k ∧ k < b + 172) ∨ b + 402 ≤ k) → V1 k = V k)) := by
  refine MM.of (by decide +kernel) ⟨rfl, rfl⟩ (Nat.le_of_ble_eq_true rfl) rfl ?_
  intro p e s m as below meth c Q X H hP hS ls hl kr
  have X : WX p s m as c cX5_addCustomer 2 RX5 dd t := X
  have hx := X.1.1
  have hb := X.1.2.1
  have hl : lv_has ls 2 [(0, .ref (ad b)), (1, .int (demand))] := hl
  have hi2_0 := hp2.i0
  have hi2_1 := hp2.i1
  have hi3_0 := hp3.i0
  have hi4_0 := hp4.i0
  have hle0 := hp0.le
  have hle1 := hp1.le
  have hle2 := hp2.le
  have hle3 := hp3.le
  have hle4 := hp4.le
  have hle5 := hp5.1
  have hle6 := hp6.1
  have hfr : ∀ k, (k < b + 1 ∨ (b + 58 ≤ k ∧ k < b + 172) ∨ b + 402 ≤ k) → V k = V k := fun _ _ => rfl
  refine lv_iload_n hx hb dX5_addCustomer_0 rfl (lv_at hl 1 rfl) ?_
  refine r_callS (As := [.int (demand)]) (rest := []) X hP (c_X5_isDemand demand) o_X5_isDemand m164 ⟨rfl, rfl⟩ ⟨Nat.le_of_ble_eq_true rfl, Nat.le_of_ble_eq_true rfl⟩ rfl hl.1 rfl (Nat.le_of_ble_eq_true rfl) ⟨Nat.zero_le _, Nat.zero_le _⟩ dX5_addCustomer_1 ?_
  refine q_neB (tgt := 10) hx hb dX5_addCustomer_4 (by decide) (fun c1 => ?_) (fun c1 => ?_)
  · refine lv_aload_n hx hb dX5_addCustomer_10 rfl (lv_at hl 0 rfl) ?_
    refine g_Zo_now X hP hp0 m15 dX5_addCustomer_11 ?_
    refine g_So_places X hP hp1 m93 dX5_addCustomer_14 ?_
    refine g_Pl_customerCount X hP hp2 m163 dX5_addCustomer_17 ?_
    refine lv_bipush (v := nI 8) hx hb dX5_addCustomer_20 (by decide) ?_
    refine q_lt (tgt := 28) hx hb (by omega) (by omega) dX5_addCustomer_22 (by decide) (fun c2 => ?_) (fun c2 => ?_)
    · refine lv_aload_n hx hb dX5_addCustomer_28 rfl (lv_at hl 0 rfl) ?_
      refine g_Zo_history X hP hp0 m22 dX5_addCustomer_29 ?_
      refine lv_aload_n hx hb dX5_addCustomer_32 rfl (lv_at hl 0 rfl) ?_
      refine g_Zo_now X hP hp0 m15 dX5_addCustomer_33 ?_
      refine r_callW (As := [.ref (ad (b + 1))]) (rest := []) (ci := 2) X hP hS (c_X2_record hi hp4 hp5 hp6 hp1 hp2 hp3 hsg (by omega)) o_X2_record rfl hp4.lt hp4.ob m98 ⟨rfl, rfl⟩ ⟨Nat.le_of_ble_eq_true rfl, Nat.le_of_ble_eq_true rfl⟩ rfl hl.1 rfl (Nat.le_of_ble_eq_true rfl) ⟨Nat.zero_le _, Nat.zero_le _⟩ dX5_addCustomer_36 (fun V3 H3 locs3 hq hP hS => ?_)
      obtain ⟨hp4, hp5, hp6, h2⟩ := hq
      have hi4_0 := hp4.i0
      have hp0 := hp0.keep (V1 := V3) (fun k h8 h9 => h2 k (by omega))
      have hp1 := hp1.keep (V1 := V3) (fun k h8 h9 => h2 k (by omega))
      have hp2 := hp2.keep (V1 := V3) (fun k h8 h9 => h2 k (by omega))
      have hp3 := hp3.keep (V1 := V3) (fun k h8 h9 => h2 k (by omega))
      have hfr : ∀ k, (k < b + 1 ∨ (b + 58 ≤ k ∧ k < b + 172) ∨ b + 402 ≤ k) → V3 k = V k := fun k hk => (h2 k (by omega)).trans (hfr k hk)
      refine lv_aload_n hx hb dX5_addCustomer_39 rfl (lv_at hl 0 rfl) ?_
      refine g_Zo_now X hP hp0 m15 dX5_addCustomer_40 ?_
      refine r_callW (As := []) (rest := []) (ci := 4) X hP hS (c_X4_forgetCuts hi hp1 hp2 hp3) o_X4_forgetCuts rfl hp1.lt hp1.ob m122 ⟨rfl, rfl⟩ ⟨Nat.le_of_ble_eq_true rfl, Nat.le_of_ble_eq_true rfl⟩ rfl hl.1 rfl (Nat.le_of_ble_eq_true rfl) ⟨Nat.zero_le _, Nat.zero_le _⟩ dX5_addCustomer_43 (fun V4 H4 locs4 hq hP hS => ?_)
      obtain ⟨hp1, hp3, h2⟩ := hq
      have hp1 : SoP N ad V4 t (b + 1) (mkO (uB ((f_X4_forgetCuts z x y).1)) (uT z)) := hp1.ext rfl u_X4_forgetCuts_0_1
      have hp3 : CuP N ad V4 t (b + 14) (mkC (kA ((f_X4_forgetCuts z x y).2)) (kC y) (kS y) (kW y)) := hp3.ext rfl (fun _ _ => congrFun u_X4_forgetCuts_2_1 _) (fun _ _ => congrFun u_X4_forgetCuts_2_2 _) (fun _ _ _ _ => congrFun (congrFun u_X4_forgetCuts_2_3 _) _)
      have hi3_0 := hp3.i0
      have hp0 := hp0.keep (V1 := V4) (fun k h8 h9 => h2 k (by omega))
      have hp2 := hp2.keep (V1 := V4) (fun k h8 h9 => h2 k (by omega))
      have hp4 := hp4.keep (V1 := V4) (fun k h8 h9 => h2 k (by omega))
      have hp5 := hp5.keep (V1 := V4) (fun k h8 h9 => h2 k (by omega))
      have hp6 := hp6.keep (V1 := V4) (fun k h8 h9 => h2 k (by omega))
      have hfr : ∀ k, (k < b + 1 ∨ (b + 58 ≤ k ∧ k < b + 172) ∨ b + 402 ≤ k) → V4 k = V k := fun k hk => (h2 k (by omega)).trans (hfr k hk)
      refine lv_aload_n hx hb dX5_addCustomer_46 rfl (lv_at hl 0 rfl) ?_
      refine g_Zo_now X hP hp0 m15 dX5_addCustomer_47 ?_
      refine g_So_places X hP hp1 m93 dX5_addCustomer_50 ?_
      refine lv_iload_n hx hb dX5_addCustomer_53 rfl (lv_at hl 1 rfl) ?_
      refine r_callM (As := [.int (demand)]) (rest := []) (ci := 3) X hP hS (c_X3_appendCustomer hi hp2 demand) o_X3_appendCustomer rfl hp2.lt hp2.ob m167 ⟨rfl, rfl⟩ ⟨Nat.le_of_ble_eq_true rfl, Nat.le_of_ble_eq_true rfl⟩ rfl hl.1 rfl (Nat.le_of_ble_eq_true rfl) ⟨Nat.zero_le _, Nat.zero_le _⟩ dX5_addCustomer_54 (fun r V5 H5 locs5 hq hP hS => ?_)
      obtain ⟨hr, hp2, h2⟩ := hq
      subst hr
      have hp2 : PlP N ad V5 t (b + 2) (mkP (pN x) (pM ((f_X3_appendCustomer x demand).2)) (pO x) (pP x) (pD ((f_X3_appendCustomer x demand).2)) (pR ((f_X3_appendCustomer x demand).2)) (pE x)) := hp2.ext u_X3_appendCustomer_0_0 rfl u_X3_appendCustomer_0_2 (fun _ _ => congrFun u_X3_appendCustomer_0_3 _) (fun _ _ => rfl) (fun _ _ _ _ => rfl) (fun _ _ => congrFun u_X3_appendCustomer_0_6 _)
      have hi2_0 := hp2.i0
      have hi2_1 := hp2.i1
      have hp0 := hp0.keep (V1 := V5) (fun k h8 h9 => h2 k (by omega))
      have hp1 := hp1.keep (V1 := V5) (fun k h8 h9 => h2 k (by omega))
      have hp3 := hp3.keep (V1 := V5) (fun k h8 h9 => h2 k (by omega))
      have hp4 := hp4.keep (V1 := V5) (fun k h8 h9 => h2 k (by omega))
      have hp5 := hp5.keep (V1 := V5) (fun k h8 h9 => h2 k (by omega))
      have hp6 := hp6.keep (V1 := V5) (fun k h8 h9 => h2 k (by omega))
      have hfr : ∀ k, (k < b + 1 ∨ (b + 58 ≤ k ∧ k < b + 172) ∨ b + 402 ≤ k) → V5 k = V k := fun k hk => (h2 k (by omega)).trans (hfr k hk)
      have hfin : f_X5_addCustomer w z x y ho sg hs demand = ((f_X3_appendCustomer x demand).1, mkO (uB ((f_X4_forgetCuts z x y).1)) (uT z), mkP (pN x) (pM ((f_X3_appendCustomer x demand).2)) (pO x) (pP x) (pD ((f_X3_appendCustomer x demand).2)) (pR ((f_X3_appendCustomer x demand).2)) (pE x), mkC (kA ((f_X4_forgetCuts z x y).2)) (kC y) (kS y) (kW y), ((f_X2_record ho sg hs z x y).1), ((f_X2_record ho sg hs z x y).2.1), ((f_X2_record ho sg hs z x y).2.2)) := (by rw [f_X5_addCustomer, if_pos c1, if_pos c2] <;> rfl)
      exact kr 57 ls _ _ _ _ hP hS rfl ⟨by rw [hfin] <;> rfl, by rw [hfin]; exact hp1, by rw [hfin]; exact hp2, by rw [hfin]; exact hp3, by rw [hfin]; exact hp4, by rw [hfin]; exact hp5, by rw [hfin]; exact hp6, hfr⟩ dX5_addCustomer_57
    · refine lv_bipush (v := (-3)) hx hb dX5_addCustomer_25 (by decide) ?_
      have hfin : f_X5_addCustomer w z x y ho sg hs demand = ((-3), z, x, y, ho, sg, hs) := (by rw [f_X5_addCustomer, if_pos c1, if_neg (Nat.not_lt.mpr c2)] <;> rfl)
      exact kr 27 ls _ _ _ _ hP hS rfl ⟨by rw [hfin] <;> rfl, by rw [hfin]; exact hp1, by rw [hfin]; exact hp2, by rw [hfin]; exact hp3, by rw [hfin]; exact hp4, by rw [hfin]; exact hp5, by rw [hfin]; exact hp6, hfr⟩ dX5_addCustomer_27
  · refine lv_bipush (v := (-2)) hx hb dX5_addCustomer_7 (by decide) ?_
    have hfin : f_X5_addCustomer w z x y ho sg hs demand = ((-2), z, x, y, ho, sg, hs) := (by rw [f_X5_addCustomer, if_neg (nt c1)] <;> rfl)
    exact kr 9 ls _ _ _ _ hP hS rfl ⟨by rw [hfin] <;> rfl, by rw [hfin]; exact hp1, by rw [hfin]; exact hp2, by rw [hfin]; exact hp3, by rw [hfin]; exact hp4, by rw [hfin]; exact hp5, by rw [hfin]; exact hp6, hfr⟩ dX5_addCustomer_9
theorem o_X5_addCustomer : okV yX5_addCustomer cX5_addCustomer 2 (some .int) 1 := ⟨m160, m161, m2, m162, by decide +kernel, by decide +kernel, by decide +kernel⟩
theorem u_X5_addCustomer_1_1 {w : ZoC} {z : SoC} {x : PlC} {y : CuC} {ho : HoC} {sg : Nat → Nat} {hs : Nat → StC} {demand : Int32} : uT ((f_X5_addCustomer w z x y ho sg hs demand).2.1) = uT z := by
  unfold f_X5_addCustomer
  (repeat' split) <;> rfl
theorem u_X5_addCustomer_2_0 {w : ZoC} {z : SoC} {x : PlC} {y : CuC} {ho : HoC} {sg : Nat → Nat} {hs : Nat → StC} {demand : Int32} : pN ((f_X5_addCustomer w z x y ho sg hs demand).2.2.1) = pN x := by
  unfold f_X5_addCustomer
  (repeat' split) <;> rfl
theorem u_X5_addCustomer_2_2 {w : ZoC} {z : SoC} {x : PlC} {y : CuC} {ho : HoC} {sg : Nat → Nat} {hs : Nat → StC} {demand : Int32} : pO ((f_X5_addCustomer w z x y ho sg hs demand).2.2.1) = pO x := by
  unfold f_X5_addCustomer
  (repeat' split) <;> rfl
theorem u_X5_addCustomer_2_3 {w : ZoC} {z : SoC} {x : PlC} {y : CuC} {ho : HoC} {sg : Nat → Nat} {hs : Nat → StC} {demand : Int32} : pP ((f_X5_addCustomer w z x y ho sg hs demand).2.2.1) = pP x := by
  unfold f_X5_addCustomer
  (repeat' split) <;> rfl
theorem u_X5_addCustomer_2_6 {w : ZoC} {z : SoC} {x : PlC} {y : CuC} {ho : HoC} {sg : Nat → Nat} {hs : Nat → StC} {demand : Int32} : pE ((f_X5_addCustomer w z x y ho sg hs demand).2.2.1) = pE x := by
  unfold f_X5_addCustomer
  (repeat' split) <;> rfl
theorem u_X5_addCustomer_3_1 {w : ZoC} {z : SoC} {x : PlC} {y : CuC} {ho : HoC} {sg : Nat → Nat} {hs : Nat → StC} {demand : Int32} : kC ((f_X5_addCustomer w z x y ho sg hs demand).2.2.2.1) = kC y := by
  unfold f_X5_addCustomer
  (repeat' split) <;> rfl
theorem u_X5_addCustomer_3_2 {w : ZoC} {z : SoC} {x : PlC} {y : CuC} {ho : HoC} {sg : Nat → Nat} {hs : Nat → StC} {demand : Int32} : kS ((f_X5_addCustomer w z x y ho sg hs demand).2.2.2.1) = kS y := by
  unfold f_X5_addCustomer
  (repeat' split) <;> rfl
theorem u_X5_addCustomer_3_3 {w : ZoC} {z : SoC} {x : PlC} {y : CuC} {ho : HoC} {sg : Nat → Nat} {hs : Nat → StC} {demand : Int32} : kW ((f_X5_addCustomer w z x y ho sg hs demand).2.2.2.1) = kW y := by
  unfold f_X5_addCustomer
  (repeat' split) <;> rfl
def rmX5_setPrice : Room := { frames := 4, cells := 0, slots := 0, locals := 88 }
def f_X5_setPrice (w : ZoC) (z : SoC) (x : PlC) (y : CuC) (ho : HoC) (sg : Nat → Nat) (hs : Nat → StC) (site : Int32) (price : Int32) : Int32 × SoC × PlC × CuC × HoC × (Nat → Nat) × (Nat → StC) :=
  (if (f_X3_isSite x site) = true then (if (f_X5_isSitePrice price) = true then (if (pP x (tn site)) = price then ((-5), z, x, y, ho, sg, hs) else (pP x (tn site), mkO (uB ((f_X4_forgetCuts z x y).1)) (uT z), mkP (pN x) (pM x) (pO x) (upd (pP x) (tn site) price) (pD x) (pR x) (pE x), mkC (kA ((f_X4_forgetCuts z x y).2)) (kC y) (kS y) (kW y), ((f_X2_record ho sg hs z x y).1), ((f_X2_record ho sg hs z x y).2.1), ((f_X2_record ho sg hs z x y).2.2))) else ((-2), z, x, y, ho, sg, hs)) else ((-1), z, x, y, ho, sg, hs))
set_option maxHeartbeats 4000000 in
set_option maxRecDepth 100000 in
theorem c_X5_setPrice {l : Launch} {dd : va_G} {t : CL4} {N : Nat} {ad : Nat → Nat} {V : Nat → va_E} {b : Nat} {w : ZoC} {z : SoC} {x : PlC} {y : CuC} {ho : HoC} {sg : Nat → Nat} {hs : Nat → StC}  (hi : inj N ad) (hp0 : ZoP N ad V t b w) (hp1 : SoP N ad V t (b + 1) z) (hp2 : PlP N ad V t (b + 2) x) (hp3 : CuP N ad V t (b + 14) y) (hp4 : HoP N ad V t (b + 172) ho) (hp5 : HaP N ad V t (b + 173) sg) (hp6 : HsP N ad V t (b + 174) hs) (site : Int32) (price : Int32) (hsg : ∀ j, j < 4 → sg j < 4) : MM l dd t N ad V yX5_setPrice cX5_setPrice 4 (some .int) rmX5_setPrice [.ref (ad b), .int (site), .int (price)] (fun r V1 => (r = (f_X5_setPrice w z x y ho sg hs site price).1) ∧ (SoP N ad V1 t (b + 1) ((f_X5_setPrice w z x y ho sg hs site price).2.1)) ∧ (PlP N ad V1 t (b + 2) ((f_X5_setPrice w z x y ho sg hs site price).2.2.1)) ∧ (CuP N ad V1 t (b + 14) ((f_X5_setPrice w z x y ho sg hs site price).2.2.2.1)) ∧ (HoP N ad V1 t (b + 172) ((f_X5_setPrice w z x y ho sg hs site price).2.2.2.2.1)) ∧ (HaP N ad V1 t (b + 173) ((f_X5_setPrice w z x y ho sg hs site price).2.2.2.2.2.1)) ∧ (HsP N ad V1 t (b + 174) ((f_X5_setPrice w z x y ho sg hs site price).2.2.2.2.2.2)) ∧ (∀ k, (k < b + 1 ∨ (b + 58 ≤ k ∧ k < b + 172) ∨ b + 402 ≤ k) → V1 k = V k)) := by
  refine MM.of (by decide +kernel) ⟨rfl, rfl⟩ (Nat.le_of_ble_eq_true rfl) rfl ?_
  intro p e s m as below meth c Q X H hP hS ls hl kr
  have X : WX p s m as c cX5_setPrice 4 RX5 dd t := X
  have hx := X.1.1
  have hb := X.1.2.1
  have hl : lv_has ls 4 [(0, .ref (ad b)), (1, .int (site)), (2, .int (price))] := hl
  have hi2_0 := hp2.i0
  have hi2_1 := hp2.i1
  have hi3_0 := hp3.i0
  have hi4_0 := hp4.i0
  have hle0 := hp0.le
  have hle1 := hp1.le
  have hle2 := hp2.le
  have hle3 := hp3.le
  have hle4 := hp4.le
  have hle5 := hp5.1
  have hle6 := hp6.1
  have hfr : ∀ k, (k < b + 1 ∨ (b + 58 ≤ k ∧ k < b + 172) ∨ b + 402 ≤ k) → V k = V k := fun _ _ => rfl
  refine lv_aload_n hx hb dX5_setPrice_0 rfl (lv_at hl 0 rfl) ?_
  refine g_Zo_now X hP hp0 m15 dX5_setPrice_1 ?_
  refine g_So_places X hP hp1 m93 dX5_setPrice_4 ?_
  refine lv_iload_n hx hb dX5_setPrice_7 rfl (lv_at hl 1 rfl) ?_
  refine r_call (As := [.int (site)]) (rest := []) (ci := 3) X hP (c_X3_isSite hp2 site) o_X3_isSite rfl hp2.lt hp2.ob m180 ⟨rfl, rfl⟩ ⟨Nat.le_of_ble_eq_true rfl, Nat.le_of_ble_eq_true rfl⟩ rfl hl.1 rfl (Nat.le_of_ble_eq_true rfl) ⟨Nat.zero_le _, Nat.zero_le _⟩ dX5_setPrice_8 ?_
  refine q_neB (tgt := 16) hx hb dX5_setPrice_11 (by decide) (fun c1 => ?_) (fun c1 => ?_)
  · have hr2 := isSite_n c1 (by omega)
    have hr2b := hr2.2
    refine lv_iload_n hx hb dX5_setPrice_16 rfl (lv_at hl 2 rfl) ?_
    refine r_callS (As := [.int (price)]) (rest := []) X hP (c_X5_isSitePrice price) o_X5_isSitePrice m95 ⟨rfl, rfl⟩ ⟨Nat.le_of_ble_eq_true rfl, Nat.le_of_ble_eq_true rfl⟩ rfl hl.1 rfl (Nat.le_of_ble_eq_true rfl) ⟨Nat.zero_le _, Nat.zero_le _⟩ dX5_setPrice_17 ?_
    refine q_neB (tgt := 26) hx hb dX5_setPrice_20 (by decide) (fun c3 => ?_) (fun c3 => ?_)
    · refine lv_aload_n hx hb dX5_setPrice_26 rfl (lv_at hl 0 rfl) ?_
      refine g_Zo_now X hP hp0 m15 dX5_setPrice_27 ?_
      refine g_So_places X hP hp1 m93 dX5_setPrice_30 ?_
      refine g_Pl_sitePrices X hP hp2 m179 dX5_setPrice_33 ?_
      refine lv_iload_n hx hb dX5_setPrice_36 rfl (lv_at hl 1 rfl) ?_
      refine q_val (hr2.1 : site = nI (tn site)) ?_
      refine l_Pl_sitePrices X hP hp2 (by omega) dX5_setPrice_37 ?_
      refine lv_istore_n (lv' := [(3, .int (pP x (tn site))), (0, .ref (ad b)), (1, .int (site)), (2, .int (price))]) hx hb dX5_setPrice_38 rfl hl (by decide) rfl (fun ls hl => ?_)
      refine lv_iload_n hx hb dX5_setPrice_39 rfl (lv_at hl 0 rfl) ?_
      refine lv_iload_n hx hb dX5_setPrice_40 rfl (lv_at hl 3 rfl) ?_
      refine lv_icmp_ne (tgt := 47) hx hb dX5_setPrice_41 (by decide) (fun c4 => ?_) (fun c4 => ?_)
      · refine lv_aload_n hx hb dX5_setPrice_47 rfl (lv_at hl 1 rfl) ?_
        refine g_Zo_history X hP hp0 m22 dX5_setPrice_48 ?_
        refine lv_aload_n hx hb dX5_setPrice_51 rfl (lv_at hl 1 rfl) ?_
        refine g_Zo_now X hP hp0 m15 dX5_setPrice_52 ?_
        refine r_callW (As := [.ref (ad (b + 1))]) (rest := []) (ci := 2) X hP hS (c_X2_record hi hp4 hp5 hp6 hp1 hp2 hp3 hsg (by omega)) o_X2_record rfl hp4.lt hp4.ob m98 ⟨rfl, rfl⟩ ⟨Nat.le_of_ble_eq_true rfl, Nat.le_of_ble_eq_true rfl⟩ rfl hl.1 rfl (Nat.le_of_ble_eq_true rfl) ⟨Nat.zero_le _, Nat.zero_le _⟩ dX5_setPrice_55 (fun V5 H5 locs5 hq hP hS => ?_)
        obtain ⟨hp4, hp5, hp6, h2⟩ := hq
        have hi4_0 := hp4.i0
        have hp0 := hp0.keep (V1 := V5) (fun k h8 h9 => h2 k (by omega))
        have hp1 := hp1.keep (V1 := V5) (fun k h8 h9 => h2 k (by omega))
        have hp2 := hp2.keep (V1 := V5) (fun k h8 h9 => h2 k (by omega))
        have hp3 := hp3.keep (V1 := V5) (fun k h8 h9 => h2 k (by omega))
        have hfr : ∀ k, (k < b + 1 ∨ (b + 58 ≤ k ∧ k < b + 172) ∨ b + 402 ≤ k) → V5 k = V k := fun k hk => (h2 k (by omega)).trans (hfr k hk)
        refine lv_aload_n hx hb dX5_setPrice_58 rfl (lv_at hl 1 rfl) ?_
        refine g_Zo_now X hP hp0 m15 dX5_setPrice_59 ?_
        refine r_callW (As := []) (rest := []) (ci := 4) X hP hS (c_X4_forgetCuts hi hp1 hp2 hp3) o_X4_forgetCuts rfl hp1.lt hp1.ob m122 ⟨rfl, rfl⟩ ⟨Nat.le_of_ble_eq_true rfl, Nat.le_of_ble_eq_true rfl⟩ rfl hl.1 rfl (Nat.le_of_ble_eq_true rfl) ⟨Nat.zero_le _, Nat.zero_le _⟩ dX5_setPrice_62 (fun V6 H6 locs6 hq hP hS => ?_)
        obtain ⟨hp1, hp3, h2⟩ := hq
        have hp1 : SoP N ad V6 t (b + 1) (mkO (uB ((f_X4_forgetCuts z x y).1)) (uT z)) := hp1.ext rfl u_X4_forgetCuts_0_1
        have hp3 : CuP N ad V6 t (b + 14) (mkC (kA ((f_X4_forgetCuts z x y).2)) (kC y) (kS y) (kW y)) := hp3.ext rfl (fun _ _ => congrFun u_X4_forgetCuts_2_1 _) (fun _ _ => congrFun u_X4_forgetCuts_2_2 _) (fun _ _ _ _ => congrFun (congrFun u_X4_forgetCuts_2_3 _) _)
        have hi3_0 := hp3.i0
        have hp0 := hp0.keep (V1 := V6) (fun k h8 h9 => h2 k (by omega))
        have hp2 := hp2.keep (V1 := V6) (fun k h8 h9 => h2 k (by omega))
        have hp4 := hp4.keep (V1 := V6) (fun k h8 h9 => h2 k (by omega))
        have hp5 := hp5.keep (V1 := V6) (fun k h8 h9 => h2 k (by omega))
        have hp6 := hp6.keep (V1 := V6) (fun k h8 h9 => h2 k (by omega))
        have hfr : ∀ k, (k < b + 1 ∨ (b + 58 ≤ k ∧ k < b + 172) ∨ b + 402 ≤ k) → V6 k = V k := fun k hk => (h2 k (by omega)).trans (hfr k hk)
        refine lv_aload_n hx hb dX5_setPrice_65 rfl (lv_at hl 1 rfl) ?_
        refine g_Zo_now X hP hp0 m15 dX5_setPrice_66 ?_
        refine g_So_places X hP hp1 m93 dX5_setPrice_69 ?_
        refine g_Pl_sitePrices X hP hp2 m179 dX5_setPrice_72 ?_
        refine lv_iload_n hx hb dX5_setPrice_75 rfl (lv_at hl 2 rfl) ?_
        refine q_val (hr2.1 : site = nI (tn site)) ?_
        refine lv_iload_n hx hb dX5_setPrice_76 rfl (lv_at hl 3 rfl) ?_
        refine s_Pl_sitePrices X hi hP hS hp2 (by omega) dX5_setPrice_77 (fun V7 H7 locs7 hp2 h2 hP hS => ?_)
        have hp2 : PlP N ad V7 t (b + 2) (mkP (pN x) (pM x) (pO x) (upd (pP x) (tn site) price) (pD x) (pR x) (pE x)) := hp2
        have hp0 := hp0.keep (V1 := V7) (fun k h8 h9 => h2 k (by omega))
        have hp1 := hp1.keep (V1 := V7) (fun k h8 h9 => h2 k (by omega))
        have hp3 := hp3.keep (V1 := V7) (fun k h8 h9 => h2 k (by omega))
        have hp4 := hp4.keep (V1 := V7) (fun k h8 h9 => h2 k (by omega))
        have hp5 := hp5.keep (V1 := V7) (fun k h8 h9 => h2 k (by omega))
        have hp6 := hp6.keep (V1 := V7) (fun k h8 h9 => h2 k (by omega))
        have hfr : ∀ k, (k < b + 1 ∨ (b + 58 ≤ k ∧ k < b + 172) ∨ b + 402 ≤ k) → V7 k = V k := fun k hk => (h2 k (by omega)).trans (hfr k hk)
        refine lv_iload_n hx hb dX5_setPrice_78 rfl (lv_at hl 0 rfl) ?_
        have hfin : f_X5_setPrice w z x y ho sg hs site price = (pP x (tn site), mkO (uB ((f_X4_forgetCuts z x y).1)) (uT z), mkP (pN x) (pM x) (pO x) (upd (pP x) (tn site) price) (pD x) (pR x) (pE x), mkC (kA ((f_X4_forgetCuts z x y).2)) (kC y) (kS y) (kW y), ((f_X2_record ho sg hs z x y).1), ((f_X2_record ho sg hs z x y).2.1), ((f_X2_record ho sg hs z x y).2.2)) := (by rw [f_X5_setPrice, if_pos c1, if_pos c3, if_neg c4] <;> rfl)
        exact kr 79 ls _ _ _ _ hP hS rfl ⟨by rw [hfin] <;> rfl, by rw [hfin]; exact hp1, by rw [hfin]; exact hp2, by rw [hfin]; exact hp3, by rw [hfin]; exact hp4, by rw [hfin]; exact hp5, by rw [hfin]; exact hp6, hfr⟩ dX5_setPrice_79
      · refine lv_bipush (v := (-5)) hx hb dX5_setPrice_44 (by decide) ?_
        have hfin : f_X5_setPrice w z x y ho sg hs site price = ((-5), z, x, y, ho, sg, hs) := (by rw [f_X5_setPrice, if_pos c1, if_pos c3, if_pos c4] <;> rfl)
        exact kr 46 ls _ _ _ _ hP hS rfl ⟨by rw [hfin] <;> rfl, by rw [hfin]; exact hp1, by rw [hfin]; exact hp2, by rw [hfin]; exact hp3, by rw [hfin]; exact hp4, by rw [hfin]; exact hp5, by rw [hfin]; exact hp6, hfr⟩ dX5_setPrice_46
    · refine lv_bipush (v := (-2)) hx hb dX5_setPrice_23 (by decide) ?_
      have hfin : f_X5_setPrice w z x y ho sg hs site price = ((-2), z, x, y, ho, sg, hs) := (by rw [f_X5_setPrice, if_pos c1, if_neg (nt c3)] <;> rfl)
      exact kr 25 ls _ _ _ _ hP hS rfl ⟨by rw [hfin] <;> rfl, by rw [hfin]; exact hp1, by rw [hfin]; exact hp2, by rw [hfin]; exact hp3, by rw [hfin]; exact hp4, by rw [hfin]; exact hp5, by rw [hfin]; exact hp6, hfr⟩ dX5_setPrice_25
  · refine lv_iconst (v := (-1)) hx hb dX5_setPrice_14 (by decide) ?_
    have hfin : f_X5_setPrice w z x y ho sg hs site price = ((-1), z, x, y, ho, sg, hs) := (by rw [f_X5_setPrice, if_neg (nt c1)] <;> rfl)
    exact kr 15 ls _ _ _ _ hP hS rfl ⟨by rw [hfin] <;> rfl, by rw [hfin]; exact hp1, by rw [hfin]; exact hp2, by rw [hfin]; exact hp3, by rw [hfin]; exact hp4, by rw [hfin]; exact hp5, by rw [hfin]; exact hp6, hfr⟩ dX5_setPrice_15
theorem o_X5_setPrice : okV yX5_setPrice cX5_setPrice 4 (some .int) 2 := ⟨m176, m177, m2, m178, by decide +kernel, by decide +kernel, by decide +kernel⟩
theorem u_X5_setPrice_1_1 {w : ZoC} {z : SoC} {x : PlC} {y : CuC} {ho : HoC} {sg : Nat → Nat} {hs : Nat → StC} {site : Int32} {price : Int32} : uT ((f_X5_setPrice w z x y ho sg hs site price).2.1) = uT z := by
  unfold f_X5_setPrice
  (repeat' split) <;> rfl
theorem u_X5_setPrice_2_0 {w : ZoC} {z : SoC} {x : PlC} {y : CuC} {ho : HoC} {sg : Nat → Nat} {hs : Nat → StC} {site : Int32} {price : Int32} : pN ((f_X5_setPrice w z x y ho sg hs site price).2.2.1) = pN x := by
  unfold f_X5_setPrice
  (repeat' split) <;> rfl
theorem u_X5_setPrice_2_1 {w : ZoC} {z : SoC} {x : PlC} {y : CuC} {ho : HoC} {sg : Nat → Nat} {hs : Nat → StC} {site : Int32} {price : Int32} : pM ((f_X5_setPrice w z x y ho sg hs site price).2.2.1) = pM x := by
  unfold f_X5_setPrice
  (repeat' split) <;> rfl
theorem u_X5_setPrice_2_2 {w : ZoC} {z : SoC} {x : PlC} {y : CuC} {ho : HoC} {sg : Nat → Nat} {hs : Nat → StC} {site : Int32} {price : Int32} : pO ((f_X5_setPrice w z x y ho sg hs site price).2.2.1) = pO x := by
  unfold f_X5_setPrice
  (repeat' split) <;> rfl
theorem u_X5_setPrice_2_4 {w : ZoC} {z : SoC} {x : PlC} {y : CuC} {ho : HoC} {sg : Nat → Nat} {hs : Nat → StC} {site : Int32} {price : Int32} : pD ((f_X5_setPrice w z x y ho sg hs site price).2.2.1) = pD x := by
  unfold f_X5_setPrice
  (repeat' split) <;> rfl
theorem u_X5_setPrice_2_5 {w : ZoC} {z : SoC} {x : PlC} {y : CuC} {ho : HoC} {sg : Nat → Nat} {hs : Nat → StC} {site : Int32} {price : Int32} : pR ((f_X5_setPrice w z x y ho sg hs site price).2.2.1) = pR x := by
  unfold f_X5_setPrice
  (repeat' split) <;> rfl
theorem u_X5_setPrice_2_6 {w : ZoC} {z : SoC} {x : PlC} {y : CuC} {ho : HoC} {sg : Nat → Nat} {hs : Nat → StC} {site : Int32} {price : Int32} : pE ((f_X5_setPrice w z x y ho sg hs site price).2.2.1) = pE x := by
  unfold f_X5_setPrice
  (repeat' split) <;> rfl
theorem u_X5_setPrice_3_1 {w : ZoC} {z : SoC} {x : PlC} {y : CuC} {ho : HoC} {sg : Nat → Nat} {hs : Nat → StC} {site : Int32} {price : Int32} : kC ((f_X5_setPrice w z x y ho sg hs site price).2.2.2.1) = kC y := by
  unfold f_X5_setPrice
  (repeat' split) <;> rfl
theorem u_X5_setPrice_3_2 {w : ZoC} {z : SoC} {x : PlC} {y : CuC} {ho : HoC} {sg : Nat → Nat} {hs : Nat → StC} {site : Int32} {price : Int32} : kS ((f_X5_setPrice w z x y ho sg hs site price).2.2.2.1) = kS y := by
  unfold f_X5_setPrice
  (repeat' split) <;> rfl
theorem u_X5_setPrice_3_3 {w : ZoC} {z : SoC} {x : PlC} {y : CuC} {ho : HoC} {sg : Nat → Nat} {hs : Nat → StC} {site : Int32} {price : Int32} : kW ((f_X5_setPrice w z x y ho sg hs site price).2.2.2.1) = kW y := by
  unfold f_X5_setPrice
  (repeat' split) <;> rfl
def rmX5_setDemand : Room := { frames := 4, cells := 0, slots := 0, locals := 88 }
def f_X5_setDemand (w : ZoC) (z : SoC) (x : PlC) (y : CuC) (ho : HoC) (sg : Nat → Nat) (hs : Nat → StC) (customer : Int32) (demand : Int32) : Int32 × SoC × PlC × CuC × HoC × (Nat → Nat) × (Nat → StC) :=
  (if (f_X3_isCustomer x customer) = true then (if (f_X5_isDemand demand) = true then (if (pD x (tn customer)) = demand then ((-5), z, x, y, ho, sg, hs) else (pD x (tn customer), mkO (uB ((f_X4_forgetCuts z x y).1)) (uT z), mkP (pN x) (pM x) (pO x) (pP x) (upd (pD x) (tn customer) demand) (pR x) (pE x), mkC (kA ((f_X4_forgetCuts z x y).2)) (kC y) (kS y) (kW y), ((f_X2_record ho sg hs z x y).1), ((f_X2_record ho sg hs z x y).2.1), ((f_X2_record ho sg hs z x y).2.2))) else ((-2), z, x, y, ho, sg, hs)) else ((-1), z, x, y, ho, sg, hs))
set_option maxHeartbeats 4000000 in
set_option maxRecDepth 100000 in
theorem c_X5_setDemand {l : Launch} {dd : va_G} {t : CL4} {N : Nat} {ad : Nat → Nat} {V : Nat → va_E} {b : Nat} {w : ZoC} {z : SoC} {x : PlC} {y : CuC} {ho : HoC} {sg : Nat → Nat} {hs : Nat → StC}  (hi : inj N ad) (hp0 : ZoP N ad V t b w) (hp1 : SoP N ad V t (b + 1) z) (hp2 : PlP N ad V t (b + 2) x) (hp3 : CuP N ad V t (b + 14) y) (hp4 : HoP N ad V t (b + 172) ho) (hp5 : HaP N ad V t (b + 173) sg) (hp6 : HsP N ad V t (b + 174) hs) (customer : Int32) (demand : Int32) (hsg : ∀ j, j < 4 → sg j < 4) : MM l dd t N ad V yX5_setDemand cX5_setDemand 4 (some .int) rmX5_setDemand [.ref (ad b), .int (customer), .int (demand)] (fun r V1 => (r = (f_X5_setDemand w z x y ho sg hs customer demand).1) ∧ (SoP N ad V1 t (b + 1) ((f_X5_setDemand w z x y ho sg hs customer demand).2.1)) ∧ (PlP N ad V1 t (b + 2) ((f_X5_setDemand w z x y ho sg hs customer demand).2.2.1)) ∧ (CuP N ad V1 t (b + 14) ((f_X5_setDemand w z x y ho sg hs customer demand).2.2.2.1)) ∧ (HoP N ad V1 t (b + 172) ((f_X5_setDemand w z x y ho sg hs customer demand).2.2.2.2.1)) ∧ (HaP N ad V1 t (b + 173) ((f_X5_setDemand w z x y ho sg hs customer demand).2.2.2.2.2.1)) ∧ (HsP N ad V1 t (b + 174) ((f_X5_setDemand w z x y ho sg hs customer demand).2.2.2.2.2.2)) ∧ (∀ k, (k < b + 1 ∨ (b + 58 ≤ k ∧ k < b + 172) ∨ b + 402 ≤ k) → V1 k = V k)) := by
  refine MM.of (by decide +kernel) ⟨rfl, rfl⟩ (Nat.le_of_ble_eq_true rfl) rfl ?_
  intro p e s m as below meth c Q X H hP hS ls hl kr
  have X : WX p s m as c cX5_setDemand 4 RX5 dd t := X
  have hx := X.1.1
  have hb := X.1.2.1
  have hl : lv_has ls 4 [(0, .ref (ad b)), (1, .int (customer)), (2, .int (demand))] := hl
  have hi2_0 := hp2.i0
  have hi2_1 := hp2.i1
  have hi3_0 := hp3.i0
  have hi4_0 := hp4.i0
  have hle0 := hp0.le
  have hle1 := hp1.le
  have hle2 := hp2.le
  have hle3 := hp3.le
  have hle4 := hp4.le
  have hle5 := hp5.1
  have hle6 := hp6.1
  have hfr : ∀ k, (k < b + 1 ∨ (b + 58 ≤ k ∧ k < b + 172) ∨ b + 402 ≤ k) → V k = V k := fun _ _ => rfl
  refine lv_aload_n hx hb dX5_setDemand_0 rfl (lv_at hl 0 rfl) ?_
  refine g_Zo_now X hP hp0 m15 dX5_setDemand_1 ?_
  refine g_So_places X hP hp1 m93 dX5_setDemand_4 ?_
  refine lv_iload_n hx hb dX5_setDemand_7 rfl (lv_at hl 1 rfl) ?_
  refine r_call (As := [.int (customer)]) (rest := []) (ci := 3) X hP (c_X3_isCustomer hp2 customer) o_X3_isCustomer rfl hp2.lt hp2.ob m201 ⟨rfl, rfl⟩ ⟨Nat.le_of_ble_eq_true rfl, Nat.le_of_ble_eq_true rfl⟩ rfl hl.1 rfl (Nat.le_of_ble_eq_true rfl) ⟨Nat.zero_le _, Nat.zero_le _⟩ dX5_setDemand_8 ?_
  refine q_neB (tgt := 16) hx hb dX5_setDemand_11 (by decide) (fun c1 => ?_) (fun c1 => ?_)
  · have hr2 := isCust_n c1 (by omega)
    have hr2b := hr2.2
    refine lv_iload_n hx hb dX5_setDemand_16 rfl (lv_at hl 2 rfl) ?_
    refine r_callS (As := [.int (demand)]) (rest := []) X hP (c_X5_isDemand demand) o_X5_isDemand m164 ⟨rfl, rfl⟩ ⟨Nat.le_of_ble_eq_true rfl, Nat.le_of_ble_eq_true rfl⟩ rfl hl.1 rfl (Nat.le_of_ble_eq_true rfl) ⟨Nat.zero_le _, Nat.zero_le _⟩ dX5_setDemand_17 ?_
    refine q_neB (tgt := 26) hx hb dX5_setDemand_20 (by decide) (fun c3 => ?_) (fun c3 => ?_)
    · refine lv_aload_n hx hb dX5_setDemand_26 rfl (lv_at hl 0 rfl) ?_
      refine g_Zo_now X hP hp0 m15 dX5_setDemand_27 ?_
      refine g_So_places X hP hp1 m93 dX5_setDemand_30 ?_
      refine g_Pl_demands X hP hp2 m200 dX5_setDemand_33 ?_
      refine lv_iload_n hx hb dX5_setDemand_36 rfl (lv_at hl 1 rfl) ?_
      refine q_val (hr2.1 : customer = nI (tn customer)) ?_
      refine l_Pl_demands X hP hp2 (by omega) dX5_setDemand_37 ?_
      refine lv_istore_n (lv' := [(3, .int (pD x (tn customer))), (0, .ref (ad b)), (1, .int (customer)), (2, .int (demand))]) hx hb dX5_setDemand_38 rfl hl (by decide) rfl (fun ls hl => ?_)
      refine lv_iload_n hx hb dX5_setDemand_39 rfl (lv_at hl 0 rfl) ?_
      refine lv_iload_n hx hb dX5_setDemand_40 rfl (lv_at hl 3 rfl) ?_
      refine lv_icmp_ne (tgt := 47) hx hb dX5_setDemand_41 (by decide) (fun c4 => ?_) (fun c4 => ?_)
      · refine lv_aload_n hx hb dX5_setDemand_47 rfl (lv_at hl 1 rfl) ?_
        refine g_Zo_history X hP hp0 m22 dX5_setDemand_48 ?_
        refine lv_aload_n hx hb dX5_setDemand_51 rfl (lv_at hl 1 rfl) ?_
        refine g_Zo_now X hP hp0 m15 dX5_setDemand_52 ?_
        refine r_callW (As := [.ref (ad (b + 1))]) (rest := []) (ci := 2) X hP hS (c_X2_record hi hp4 hp5 hp6 hp1 hp2 hp3 hsg (by omega)) o_X2_record rfl hp4.lt hp4.ob m98 ⟨rfl, rfl⟩ ⟨Nat.le_of_ble_eq_true rfl, Nat.le_of_ble_eq_true rfl⟩ rfl hl.1 rfl (Nat.le_of_ble_eq_true rfl) ⟨Nat.zero_le _, Nat.zero_le _⟩ dX5_setDemand_55 (fun V5 H5 locs5 hq hP hS => ?_)
        obtain ⟨hp4, hp5, hp6, h2⟩ := hq
        have hi4_0 := hp4.i0
        have hp0 := hp0.keep (V1 := V5) (fun k h8 h9 => h2 k (by omega))
        have hp1 := hp1.keep (V1 := V5) (fun k h8 h9 => h2 k (by omega))
        have hp2 := hp2.keep (V1 := V5) (fun k h8 h9 => h2 k (by omega))
        have hp3 := hp3.keep (V1 := V5) (fun k h8 h9 => h2 k (by omega))
        have hfr : ∀ k, (k < b + 1 ∨ (b + 58 ≤ k ∧ k < b + 172) ∨ b + 402 ≤ k) → V5 k = V k := fun k hk => (h2 k (by omega)).trans (hfr k hk)
        refine lv_aload_n hx hb dX5_setDemand_58 rfl (lv_at hl 1 rfl) ?_
        refine g_Zo_now X hP hp0 m15 dX5_setDemand_59 ?_
        refine r_callW (As := []) (rest := []) (ci := 4) X hP hS (c_X4_forgetCuts hi hp1 hp2 hp3) o_X4_forgetCuts rfl hp1.lt hp1.ob m122 ⟨rfl, rfl⟩ ⟨Nat.le_of_ble_eq_true rfl, Nat.le_of_ble_eq_true rfl⟩ rfl hl.1 rfl (Nat.le_of_ble_eq_true rfl) ⟨Nat.zero_le _, Nat.zero_le _⟩ dX5_setDemand_62 (fun V6 H6 locs6 hq hP hS => ?_)
        obtain ⟨hp1, hp3, h2⟩ := hq
        have hp1 : SoP N ad V6 t (b + 1) (mkO (uB ((f_X4_forgetCuts z x y).1)) (uT z)) := hp1.ext rfl u_X4_forgetCuts_0_1
        have hp3 : CuP N ad V6 t (b + 14) (mkC (kA ((f_X4_forgetCuts z x y).2)) (kC y) (kS y) (kW y)) := hp3.ext rfl (fun _ _ => congrFun u_X4_forgetCuts_2_1 _) (fun _ _ => congrFun u_X4_forgetCuts_2_2 _) (fun _ _ _ _ => congrFun (congrFun u_X4_forgetCuts_2_3 _) _)
        have hi3_0 := hp3.i0
        have hp0 := hp0.keep (V1 := V6) (fun k h8 h9 => h2 k (by omega))
        have hp2 := hp2.keep (V1 := V6) (fun k h8 h9 => h2 k (by omega))
        have hp4 := hp4.keep (V1 := V6) (fun k h8 h9 => h2 k (by omega))
        have hp5 := hp5.keep (V1 := V6) (fun k h8 h9 => h2 k (by omega))
        have hp6 := hp6.keep (V1 := V6) (fun k h8 h9 => h2 k (by omega))
        have hfr : ∀ k, (k < b + 1 ∨ (b + 58 ≤ k ∧ k < b + 172) ∨ b + 402 ≤ k) → V6 k = V k := fun k hk => (h2 k (by omega)).trans (hfr k hk)
        refine lv_aload_n hx hb dX5_setDemand_65 rfl (lv_at hl 1 rfl) ?_
        refine g_Zo_now X hP hp0 m15 dX5_setDemand_66 ?_
        refine g_So_places X hP hp1 m93 dX5_setDemand_69 ?_
        refine g_Pl_demands X hP hp2 m200 dX5_setDemand_72 ?_
        refine lv_iload_n hx hb dX5_setDemand_75 rfl (lv_at hl 2 rfl) ?_
        refine q_val (hr2.1 : customer = nI (tn customer)) ?_
        refine lv_iload_n hx hb dX5_setDemand_76 rfl (lv_at hl 3 rfl) ?_
        refine s_Pl_demands X hi hP hS hp2 (by omega) dX5_setDemand_77 (fun V7 H7 locs7 hp2 h2 hP hS => ?_)
        have hp2 : PlP N ad V7 t (b + 2) (mkP (pN x) (pM x) (pO x) (pP x) (upd (pD x) (tn customer) demand) (pR x) (pE x)) := hp2
        have hp0 := hp0.keep (V1 := V7) (fun k h8 h9 => h2 k (by omega))
        have hp1 := hp1.keep (V1 := V7) (fun k h8 h9 => h2 k (by omega))
        have hp3 := hp3.keep (V1 := V7) (fun k h8 h9 => h2 k (by omega))
        have hp4 := hp4.keep (V1 := V7) (fun k h8 h9 => h2 k (by omega))
        have hp5 := hp5.keep (V1 := V7) (fun k h8 h9 => h2 k (by omega))
        have hp6 := hp6.keep (V1 := V7) (fun k h8 h9 => h2 k (by omega))
        have hfr : ∀ k, (k < b + 1 ∨ (b + 58 ≤ k ∧ k < b + 172) ∨ b + 402 ≤ k) → V7 k = V k := fun k hk => (h2 k (by omega)).trans (hfr k hk)
        refine lv_iload_n hx hb dX5_setDemand_78 rfl (lv_at hl 0 rfl) ?_
        have hfin : f_X5_setDemand w z x y ho sg hs customer demand = (pD x (tn customer), mkO (uB ((f_X4_forgetCuts z x y).1)) (uT z), mkP (pN x) (pM x) (pO x) (pP x) (upd (pD x) (tn customer) demand) (pR x) (pE x), mkC (kA ((f_X4_forgetCuts z x y).2)) (kC y) (kS y) (kW y), ((f_X2_record ho sg hs z x y).1), ((f_X2_record ho sg hs z x y).2.1), ((f_X2_record ho sg hs z x y).2.2)) := (by rw [f_X5_setDemand, if_pos c1, if_pos c3, if_neg c4] <;> rfl)
        exact kr 79 ls _ _ _ _ hP hS rfl ⟨by rw [hfin] <;> rfl, by rw [hfin]; exact hp1, by rw [hfin]; exact hp2, by rw [hfin]; exact hp3, by rw [hfin]; exact hp4, by rw [hfin]; exact hp5, by rw [hfin]; exact hp6, hfr⟩ dX5_setDemand_79
      · refine lv_bipush (v := (-5)) hx hb dX5_setDemand_44 (by decide) ?_
        have hfin : f_X5_setDemand w z x y ho sg hs customer demand = ((-5), z, x, y, ho, sg, hs) := (by rw [f_X5_setDemand, if_pos c1, if_pos c3, if_pos c4] <;> rfl)
        exact kr 46 ls _ _ _ _ hP hS rfl ⟨by rw [hfin] <;> rfl, by rw [hfin]; exact hp1, by rw [hfin]; exact hp2, by rw [hfin]; exact hp3, by rw [hfin]; exact hp4, by rw [hfin]; exact hp5, by rw [hfin]; exact hp6, hfr⟩ dX5_setDemand_46
    · refine lv_bipush (v := (-2)) hx hb dX5_setDemand_23 (by decide) ?_
      have hfin : f_X5_setDemand w z x y ho sg hs customer demand = ((-2), z, x, y, ho, sg, hs) := (by rw [f_X5_setDemand, if_pos c1, if_neg (nt c3)] <;> rfl)
      exact kr 25 ls _ _ _ _ hP hS rfl ⟨by rw [hfin] <;> rfl, by rw [hfin]; exact hp1, by rw [hfin]; exact hp2, by rw [hfin]; exact hp3, by rw [hfin]; exact hp4, by rw [hfin]; exact hp5, by rw [hfin]; exact hp6, hfr⟩ dX5_setDemand_25
  · refine lv_iconst (v := (-1)) hx hb dX5_setDemand_14 (by decide) ?_
    have hfin : f_X5_setDemand w z x y ho sg hs customer demand = ((-1), z, x, y, ho, sg, hs) := (by rw [f_X5_setDemand, if_neg (nt c1)] <;> rfl)
    exact kr 15 ls _ _ _ _ hP hS rfl ⟨by rw [hfin] <;> rfl, by rw [hfin]; exact hp1, by rw [hfin]; exact hp2, by rw [hfin]; exact hp3, by rw [hfin]; exact hp4, by rw [hfin]; exact hp5, by rw [hfin]; exact hp6, hfr⟩ dX5_setDemand_15
theorem o_X5_setDemand : okV yX5_setDemand cX5_setDemand 4 (some .int) 2 := ⟨m197, m198, m2, m199, by decide +kernel, by decide +kernel, by decide +kernel⟩
theorem u_X5_setDemand_1_1 {w : ZoC} {z : SoC} {x : PlC} {y : CuC} {ho : HoC} {sg : Nat → Nat} {hs : Nat → StC} {customer : Int32} {demand : Int32} : uT ((f_X5_setDemand w z x y ho sg hs customer demand).2.1) = uT z := by
  unfold f_X5_setDemand
  (repeat' split) <;> rfl
theorem u_X5_setDemand_2_0 {w : ZoC} {z : SoC} {x : PlC} {y : CuC} {ho : HoC} {sg : Nat → Nat} {hs : Nat → StC} {customer : Int32} {demand : Int32} : pN ((f_X5_setDemand w z x y ho sg hs customer demand).2.2.1) = pN x := by
  unfold f_X5_setDemand
  (repeat' split) <;> rfl
theorem u_X5_setDemand_2_1 {w : ZoC} {z : SoC} {x : PlC} {y : CuC} {ho : HoC} {sg : Nat → Nat} {hs : Nat → StC} {customer : Int32} {demand : Int32} : pM ((f_X5_setDemand w z x y ho sg hs customer demand).2.2.1) = pM x := by
  unfold f_X5_setDemand
  (repeat' split) <;> rfl
theorem u_X5_setDemand_2_2 {w : ZoC} {z : SoC} {x : PlC} {y : CuC} {ho : HoC} {sg : Nat → Nat} {hs : Nat → StC} {customer : Int32} {demand : Int32} : pO ((f_X5_setDemand w z x y ho sg hs customer demand).2.2.1) = pO x := by
  unfold f_X5_setDemand
  (repeat' split) <;> rfl
theorem u_X5_setDemand_2_3 {w : ZoC} {z : SoC} {x : PlC} {y : CuC} {ho : HoC} {sg : Nat → Nat} {hs : Nat → StC} {customer : Int32} {demand : Int32} : pP ((f_X5_setDemand w z x y ho sg hs customer demand).2.2.1) = pP x := by
  unfold f_X5_setDemand
  (repeat' split) <;> rfl
theorem u_X5_setDemand_2_5 {w : ZoC} {z : SoC} {x : PlC} {y : CuC} {ho : HoC} {sg : Nat → Nat} {hs : Nat → StC} {customer : Int32} {demand : Int32} : pR ((f_X5_setDemand w z x y ho sg hs customer demand).2.2.1) = pR x := by
  unfold f_X5_setDemand
  (repeat' split) <;> rfl
theorem u_X5_setDemand_2_6 {w : ZoC} {z : SoC} {x : PlC} {y : CuC} {ho : HoC} {sg : Nat → Nat} {hs : Nat → StC} {customer : Int32} {demand : Int32} : pE ((f_X5_setDemand w z x y ho sg hs customer demand).2.2.1) = pE x := by
  unfold f_X5_setDemand
  (repeat' split) <;> rfl
theorem u_X5_setDemand_3_1 {w : ZoC} {z : SoC} {x : PlC} {y : CuC} {ho : HoC} {sg : Nat → Nat} {hs : Nat → StC} {customer : Int32} {demand : Int32} : kC ((f_X5_setDemand w z x y ho sg hs customer demand).2.2.2.1) = kC y := by
  unfold f_X5_setDemand
  (repeat' split) <;> rfl
theorem u_X5_setDemand_3_2 {w : ZoC} {z : SoC} {x : PlC} {y : CuC} {ho : HoC} {sg : Nat → Nat} {hs : Nat → StC} {customer : Int32} {demand : Int32} : kS ((f_X5_setDemand w z x y ho sg hs customer demand).2.2.2.1) = kS y := by
  unfold f_X5_setDemand
  (repeat' split) <;> rfl
theorem u_X5_setDemand_3_3 {w : ZoC} {z : SoC} {x : PlC} {y : CuC} {ho : HoC} {sg : Nat → Nat} {hs : Nat → StC} {customer : Int32} {demand : Int32} : kW ((f_X5_setDemand w z x y ho sg hs customer demand).2.2.2.1) = kW y := by
  unfold f_X5_setDemand
  (repeat' split) <;> rfl
def rmX5_setRoute : Room := { frames := 4, cells := 0, slots := 0, locals := 88 }
def f_X5_setRoute (w : ZoC) (z : SoC) (x : PlC) (y : CuC) (ho : HoC) (sg : Nat → Nat) (hs : Nat → StC) (site : Int32) (customer : Int32) (price : Int32) : Int32 × SoC × PlC × CuC × HoC × (Nat → Nat) × (Nat → StC) :=
  (if (f_X3_isSite x site) = true then (if (f_X3_isCustomer x customer) = true then (if price < 0 then ((-2), z, x, y, ho, sg, hs) else (if (nI 100) < price then ((-2), z, x, y, ho, sg, hs) else (if (pR x (tn site) (tn customer)) = price then ((-5), z, x, y, ho, sg, hs) else (pR x (tn site) (tn customer), mkO (uB ((f_X4_forgetCuts z x y).1)) (uT z), mkP (pN x) (pM x) (pO x) (pP x) (pD x) (va_up (pR x) (tn site) (upd ((pR x) (tn site)) (tn customer) price)) (pE x), mkC (kA ((f_X4_forgetCuts z x y).2)) (kC y) (kS y) (kW y), ((f_X2_record ho sg hs z x y).1), ((f_X2_record ho sg hs z x y).2.1), ((f_X2_record ho sg hs z x y).2.2))))) else ((-1), z, x, y, ho, sg, hs)) else ((-1), z, x, y, ho, sg, hs))
set_option maxHeartbeats 4000000 in
set_option maxRecDepth 100000 in
theorem c_X5_setRoute {l : Launch} {dd : va_G} {t : CL4} {N : Nat} {ad : Nat → Nat} {V : Nat → va_E} {b : Nat} {w : ZoC} {z : SoC} {x : PlC} {y : CuC} {ho : HoC} {sg : Nat → Nat} {hs : Nat → StC}  (hi : inj N ad) (hp0 : ZoP N ad V t b w) (hp1 : SoP N ad V t (b + 1) z) (hp2 : PlP N ad V t (b + 2) x) (hp3 : CuP N ad V t (b + 14) y) (hp4 : HoP N ad V t (b + 172) ho) (hp5 : HaP N ad V t (b + 173) sg) (hp6 : HsP N ad V t (b + 174) hs) (site : Int32) (customer : Int32) (price : Int32) (hsg : ∀ j, j < 4 → sg j < 4) : MM l dd t N ad V yX5_setRoute cX5_setRoute 5 (some .int) rmX5_setRoute [.ref (ad b), .int (site), .int (customer), .int (price)] (fun r V1 => (r = (f_X5_setRoute w z x y ho sg hs site customer price).1) ∧ (SoP N ad V1 t (b + 1) ((f_X5_setRoute w z x y ho sg hs site customer price).2.1)) ∧ (PlP N ad V1 t (b + 2) ((f_X5_setRoute w z x y ho sg hs site customer price).2.2.1)) ∧ (CuP N ad V1 t (b + 14) ((f_X5_setRoute w z x y ho sg hs site customer price).2.2.2.1)) ∧ (HoP N ad V1 t (b + 172) ((f_X5_setRoute w z x y ho sg hs site customer price).2.2.2.2.1)) ∧ (HaP N ad V1 t (b + 173) ((f_X5_setRoute w z x y ho sg hs site customer price).2.2.2.2.2.1)) ∧ (HsP N ad V1 t (b + 174) ((f_X5_setRoute w z x y ho sg hs site customer price).2.2.2.2.2.2)) ∧ (∀ k, (k < b + 1 ∨ (b + 58 ≤ k ∧ k < b + 172) ∨ b + 402 ≤ k) → V1 k = V k)) := by
  refine MM.of (by decide +kernel) ⟨rfl, rfl⟩ (Nat.le_of_ble_eq_true rfl) rfl ?_
  intro p e s m as below meth c Q X H hP hS ls hl kr
  have X : WX p s m as c cX5_setRoute 5 RX5 dd t := X
  have hx := X.1.1
  have hb := X.1.2.1
  have hl : lv_has ls 5 [(0, .ref (ad b)), (1, .int (site)), (2, .int (customer)), (3, .int (price))] := hl
  have hi2_0 := hp2.i0
  have hi2_1 := hp2.i1
  have hi3_0 := hp3.i0
  have hi4_0 := hp4.i0
  have hle0 := hp0.le
  have hle1 := hp1.le
  have hle2 := hp2.le
  have hle3 := hp3.le
  have hle4 := hp4.le
  have hle5 := hp5.1
  have hle6 := hp6.1
  have hfr : ∀ k, (k < b + 1 ∨ (b + 58 ≤ k ∧ k < b + 172) ∨ b + 402 ≤ k) → V k = V k := fun _ _ => rfl
  refine lv_aload_n hx hb dX5_setRoute_0 rfl (lv_at hl 0 rfl) ?_
  refine g_Zo_now X hP hp0 m15 dX5_setRoute_1 ?_
  refine g_So_places X hP hp1 m93 dX5_setRoute_4 ?_
  refine lv_iload_n hx hb dX5_setRoute_7 rfl (lv_at hl 1 rfl) ?_
  refine r_call (As := [.int (site)]) (rest := []) (ci := 3) X hP (c_X3_isSite hp2 site) o_X3_isSite rfl hp2.lt hp2.ob m180 ⟨rfl, rfl⟩ ⟨Nat.le_of_ble_eq_true rfl, Nat.le_of_ble_eq_true rfl⟩ rfl hl.1 rfl (Nat.le_of_ble_eq_true rfl) ⟨Nat.zero_le _, Nat.zero_le _⟩ dX5_setRoute_8 ?_
  refine q_eqB (tgt := 28) hx hb dX5_setRoute_11 (by decide) (fun c1 => ?_) (fun c1 => ?_)
  · refine lv_iconst (v := (-1)) hx hb dX5_setRoute_28 (by decide) ?_
    have hfin : f_X5_setRoute w z x y ho sg hs site customer price = ((-1), z, x, y, ho, sg, hs) := (by rw [f_X5_setRoute, if_neg (nt c1)] <;> rfl)
    exact kr 29 ls _ _ _ _ hP hS rfl ⟨by rw [hfin] <;> rfl, by rw [hfin]; exact hp1, by rw [hfin]; exact hp2, by rw [hfin]; exact hp3, by rw [hfin]; exact hp4, by rw [hfin]; exact hp5, by rw [hfin]; exact hp6, hfr⟩ dX5_setRoute_29
  · have hr2 := isSite_n c1 (by omega)
    have hr2b := hr2.2
    refine lv_aload_n hx hb dX5_setRoute_14 rfl (lv_at hl 0 rfl) ?_
    refine g_Zo_now X hP hp0 m15 dX5_setRoute_15 ?_
    refine g_So_places X hP hp1 m93 dX5_setRoute_18 ?_
    refine lv_iload_n hx hb dX5_setRoute_21 rfl (lv_at hl 2 rfl) ?_
    refine r_call (As := [.int (customer)]) (rest := []) (ci := 3) X hP (c_X3_isCustomer hp2 customer) o_X3_isCustomer rfl hp2.lt hp2.ob m201 ⟨rfl, rfl⟩ ⟨Nat.le_of_ble_eq_true rfl, Nat.le_of_ble_eq_true rfl⟩ rfl hl.1 rfl (Nat.le_of_ble_eq_true rfl) ⟨Nat.zero_le _, Nat.zero_le _⟩ dX5_setRoute_22 ?_
    refine q_neB (tgt := 30) hx hb dX5_setRoute_25 (by decide) (fun c3 => ?_) (fun c3 => ?_)
    · have hr4 := isCust_n c3 (by omega)
      have hr4b := hr4.2
      refine lv_iload_n hx hb dX5_setRoute_30 rfl (lv_at hl 3 rfl) ?_
      refine u_lt (tgt := 40) hx hb dX5_setRoute_31 (by decide) (fun c5 => ?_) (fun c5 => ?_)
      · refine lv_bipush (v := (-2)) hx hb dX5_setRoute_40 (by decide) ?_
        have hfin : f_X5_setRoute w z x y ho sg hs site customer price = ((-2), z, x, y, ho, sg, hs) := (by rw [f_X5_setRoute, if_pos c1, if_pos c3, if_pos c5] <;> rfl)
        exact kr 42 ls _ _ _ _ hP hS rfl ⟨by rw [hfin] <;> rfl, by rw [hfin]; exact hp1, by rw [hfin]; exact hp2, by rw [hfin]; exact hp3, by rw [hfin]; exact hp4, by rw [hfin]; exact hp5, by rw [hfin]; exact hp6, hfr⟩ dX5_setRoute_42
      · refine lv_iload_n hx hb dX5_setRoute_34 rfl (lv_at hl 3 rfl) ?_
        refine lv_bipush (v := nI 100) hx hb dX5_setRoute_35 (by decide) ?_
        refine j_le (tgt := 43) hx hb dX5_setRoute_37 (by decide) (fun c6 => ?_) (fun c6 => ?_)
        · refine lv_aload_n hx hb dX5_setRoute_43 rfl (lv_at hl 0 rfl) ?_
          refine g_Zo_now X hP hp0 m15 dX5_setRoute_44 ?_
          refine g_So_places X hP hp1 m93 dX5_setRoute_47 ?_
          refine g_Pl_routePrices X hP hp2 m217 dX5_setRoute_50 ?_
          refine lv_iload_n hx hb dX5_setRoute_53 rfl (lv_at hl 1 rfl) ?_
          refine q_val (hr2.1 : site = nI (tn site)) ?_
          refine l_Pl_routePrices X hP hp2 (by omega) dX5_setRoute_54 ?_
          refine lv_iload_n hx hb dX5_setRoute_55 rfl (lv_at hl 2 rfl) ?_
          refine q_val (hr4.1 : customer = nI (tn customer)) ?_
          refine l_Pl_routePrices_row X hP hp2 (by omega) (by omega) dX5_setRoute_56 ?_
          refine lv_istore (lv' := [(4, .int (pR x (tn site) (tn customer))), (0, .ref (ad b)), (1, .int (site)), (2, .int (customer)), (3, .int (price))]) hx hb dX5_setRoute_57 hl (by decide) rfl (fun ls hl => ?_)
          refine lv_iload hx hb dX5_setRoute_59 (lv_at hl 0 rfl) ?_
          refine lv_iload_n hx hb dX5_setRoute_61 rfl (lv_at hl 4 rfl) ?_
          refine lv_icmp_ne (tgt := 68) hx hb dX5_setRoute_62 (by decide) (fun c7 => ?_) (fun c7 => ?_)
          · refine lv_aload_n hx hb dX5_setRoute_68 rfl (lv_at hl 1 rfl) ?_
            refine g_Zo_history X hP hp0 m22 dX5_setRoute_69 ?_
            refine lv_aload_n hx hb dX5_setRoute_72 rfl (lv_at hl 1 rfl) ?_
            refine g_Zo_now X hP hp0 m15 dX5_setRoute_73 ?_
            refine r_callW (As := [.ref (ad (b + 1))]) (rest := []) (ci := 2) X hP hS (c_X2_record hi hp4 hp5 hp6 hp1 hp2 hp3 hsg (by omega)) o_X2_record rfl hp4.lt hp4.ob m98 ⟨rfl, rfl⟩ ⟨Nat.le_of_ble_eq_true rfl, Nat.le_of_ble_eq_true rfl⟩ rfl hl.1 rfl (Nat.le_of_ble_eq_true rfl) ⟨Nat.zero_le _, Nat.zero_le _⟩ dX5_setRoute_76 (fun V8 H8 locs8 hq hP hS => ?_)
            obtain ⟨hp4, hp5, hp6, h2⟩ := hq
            have hi4_0 := hp4.i0
            have hp0 := hp0.keep (V1 := V8) (fun k h8 h9 => h2 k (by omega))
            have hp1 := hp1.keep (V1 := V8) (fun k h8 h9 => h2 k (by omega))
            have hp2 := hp2.keep (V1 := V8) (fun k h8 h9 => h2 k (by omega))
            have hp3 := hp3.keep (V1 := V8) (fun k h8 h9 => h2 k (by omega))
            have hfr : ∀ k, (k < b + 1 ∨ (b + 58 ≤ k ∧ k < b + 172) ∨ b + 402 ≤ k) → V8 k = V k := fun k hk => (h2 k (by omega)).trans (hfr k hk)
            refine lv_aload_n hx hb dX5_setRoute_79 rfl (lv_at hl 1 rfl) ?_
            refine g_Zo_now X hP hp0 m15 dX5_setRoute_80 ?_
            refine r_callW (As := []) (rest := []) (ci := 4) X hP hS (c_X4_forgetCuts hi hp1 hp2 hp3) o_X4_forgetCuts rfl hp1.lt hp1.ob m122 ⟨rfl, rfl⟩ ⟨Nat.le_of_ble_eq_true rfl, Nat.le_of_ble_eq_true rfl⟩ rfl hl.1 rfl (Nat.le_of_ble_eq_true rfl) ⟨Nat.zero_le _, Nat.zero_le _⟩ dX5_setRoute_83 (fun V9 H9 locs9 hq hP hS => ?_)
            obtain ⟨hp1, hp3, h2⟩ := hq
            have hp1 : SoP N ad V9 t (b + 1) (mkO (uB ((f_X4_forgetCuts z x y).1)) (uT z)) := hp1.ext rfl u_X4_forgetCuts_0_1
            have hp3 : CuP N ad V9 t (b + 14) (mkC (kA ((f_X4_forgetCuts z x y).2)) (kC y) (kS y) (kW y)) := hp3.ext rfl (fun _ _ => congrFun u_X4_forgetCuts_2_1 _) (fun _ _ => congrFun u_X4_forgetCuts_2_2 _) (fun _ _ _ _ => congrFun (congrFun u_X4_forgetCuts_2_3 _) _)
            have hi3_0 := hp3.i0
            have hp0 := hp0.keep (V1 := V9) (fun k h8 h9 => h2 k (by omega))
            have hp2 := hp2.keep (V1 := V9) (fun k h8 h9 => h2 k (by omega))
            have hp4 := hp4.keep (V1 := V9) (fun k h8 h9 => h2 k (by omega))
            have hp5 := hp5.keep (V1 := V9) (fun k h8 h9 => h2 k (by omega))
            have hp6 := hp6.keep (V1 := V9) (fun k h8 h9 => h2 k (by omega))
            have hfr : ∀ k, (k < b + 1 ∨ (b + 58 ≤ k ∧ k < b + 172) ∨ b + 402 ≤ k) → V9 k = V k := fun k hk => (h2 k (by omega)).trans (hfr k hk)
            refine lv_aload_n hx hb dX5_setRoute_86 rfl (lv_at hl 1 rfl) ?_
            refine g_Zo_now X hP hp0 m15 dX5_setRoute_87 ?_
            refine g_So_places X hP hp1 m93 dX5_setRoute_90 ?_
            refine g_Pl_routePrices X hP hp2 m217 dX5_setRoute_93 ?_
            refine lv_iload_n hx hb dX5_setRoute_96 rfl (lv_at hl 2 rfl) ?_
            refine q_val (hr2.1 : site = nI (tn site)) ?_
            refine l_Pl_routePrices X hP hp2 (by omega) dX5_setRoute_97 ?_
            refine lv_iload_n hx hb dX5_setRoute_98 rfl (lv_at hl 3 rfl) ?_
            refine q_val (hr4.1 : customer = nI (tn customer)) ?_
            refine lv_iload_n hx hb dX5_setRoute_99 rfl (lv_at hl 4 rfl) ?_
            refine s_Pl_routePrices_row X hi hP hS hp2 (by omega) (by omega) dX5_setRoute_100 (fun V10 H10 locs10 hp2 h2 hP hS => ?_)
            have hp2 : PlP N ad V10 t (b + 2) (mkP (pN x) (pM x) (pO x) (pP x) (pD x) (va_up (pR x) (tn site) (upd ((pR x) (tn site)) (tn customer) price)) (pE x)) := hp2
            have hp0 := hp0.keep (V1 := V10) (fun k h8 h9 => h2 k (by omega))
            have hp1 := hp1.keep (V1 := V10) (fun k h8 h9 => h2 k (by omega))
            have hp3 := hp3.keep (V1 := V10) (fun k h8 h9 => h2 k (by omega))
            have hp4 := hp4.keep (V1 := V10) (fun k h8 h9 => h2 k (by omega))
            have hp5 := hp5.keep (V1 := V10) (fun k h8 h9 => h2 k (by omega))
            have hp6 := hp6.keep (V1 := V10) (fun k h8 h9 => h2 k (by omega))
            have hfr : ∀ k, (k < b + 1 ∨ (b + 58 ≤ k ∧ k < b + 172) ∨ b + 402 ≤ k) → V10 k = V k := fun k hk => (h2 k (by omega)).trans (hfr k hk)
            refine lv_iload hx hb dX5_setRoute_101 (lv_at hl 0 rfl) ?_
            have hfin : f_X5_setRoute w z x y ho sg hs site customer price = (pR x (tn site) (tn customer), mkO (uB ((f_X4_forgetCuts z x y).1)) (uT z), mkP (pN x) (pM x) (pO x) (pP x) (pD x) (va_up (pR x) (tn site) (upd ((pR x) (tn site)) (tn customer) price)) (pE x), mkC (kA ((f_X4_forgetCuts z x y).2)) (kC y) (kS y) (kW y), ((f_X2_record ho sg hs z x y).1), ((f_X2_record ho sg hs z x y).2.1), ((f_X2_record ho sg hs z x y).2.2)) := (by rw [f_X5_setRoute, if_pos c1, if_pos c3, if_neg c5, if_neg c6, if_neg c7] <;> rfl)
            exact kr 103 ls _ _ _ _ hP hS rfl ⟨by rw [hfin] <;> rfl, by rw [hfin]; exact hp1, by rw [hfin]; exact hp2, by rw [hfin]; exact hp3, by rw [hfin]; exact hp4, by rw [hfin]; exact hp5, by rw [hfin]; exact hp6, hfr⟩ dX5_setRoute_103
          · refine lv_bipush (v := (-5)) hx hb dX5_setRoute_65 (by decide) ?_
            have hfin : f_X5_setRoute w z x y ho sg hs site customer price = ((-5), z, x, y, ho, sg, hs) := (by rw [f_X5_setRoute, if_pos c1, if_pos c3, if_neg c5, if_neg c6, if_pos c7] <;> rfl)
            exact kr 67 ls _ _ _ _ hP hS rfl ⟨by rw [hfin] <;> rfl, by rw [hfin]; exact hp1, by rw [hfin]; exact hp2, by rw [hfin]; exact hp3, by rw [hfin]; exact hp4, by rw [hfin]; exact hp5, by rw [hfin]; exact hp6, hfr⟩ dX5_setRoute_67
        · refine lv_bipush (v := (-2)) hx hb dX5_setRoute_40 (by decide) ?_
          have hfin : f_X5_setRoute w z x y ho sg hs site customer price = ((-2), z, x, y, ho, sg, hs) := (by rw [f_X5_setRoute, if_pos c1, if_pos c3, if_neg c5, if_pos c6] <;> rfl)
          exact kr 42 ls _ _ _ _ hP hS rfl ⟨by rw [hfin] <;> rfl, by rw [hfin]; exact hp1, by rw [hfin]; exact hp2, by rw [hfin]; exact hp3, by rw [hfin]; exact hp4, by rw [hfin]; exact hp5, by rw [hfin]; exact hp6, hfr⟩ dX5_setRoute_42
    · refine lv_iconst (v := (-1)) hx hb dX5_setRoute_28 (by decide) ?_
      have hfin : f_X5_setRoute w z x y ho sg hs site customer price = ((-1), z, x, y, ho, sg, hs) := (by rw [f_X5_setRoute, if_pos c1, if_neg (nt c3)] <;> rfl)
      exact kr 29 ls _ _ _ _ hP hS rfl ⟨by rw [hfin] <;> rfl, by rw [hfin]; exact hp1, by rw [hfin]; exact hp2, by rw [hfin]; exact hp3, by rw [hfin]; exact hp4, by rw [hfin]; exact hp5, by rw [hfin]; exact hp6, hfr⟩ dX5_setRoute_29
theorem o_X5_setRoute : okV yX5_setRoute cX5_setRoute 5 (some .int) 3 := ⟨m214, m215, m2, m216, by decide +kernel, by decide +kernel, by decide +kernel⟩
theorem u_X5_setRoute_1_1 {w : ZoC} {z : SoC} {x : PlC} {y : CuC} {ho : HoC} {sg : Nat → Nat} {hs : Nat → StC} {site : Int32} {customer : Int32} {price : Int32} : uT ((f_X5_setRoute w z x y ho sg hs site customer price).2.1) = uT z := by
  unfold f_X5_setRoute
  (repeat' split) <;> rfl
theorem u_X5_setRoute_2_0 {w : ZoC} {z : SoC} {x : PlC} {y : CuC} {ho : HoC} {sg : Nat → Nat} {hs : Nat → StC} {site : Int32} {customer : Int32} {price : Int32} : pN ((f_X5_setRoute w z x y ho sg hs site customer price).2.2.1) = pN x := by
  unfold f_X5_setRoute
  (repeat' split) <;> rfl
theorem u_X5_setRoute_2_1 {w : ZoC} {z : SoC} {x : PlC} {y : CuC} {ho : HoC} {sg : Nat → Nat} {hs : Nat → StC} {site : Int32} {customer : Int32} {price : Int32} : pM ((f_X5_setRoute w z x y ho sg hs site customer price).2.2.1) = pM x := by
  unfold f_X5_setRoute
  (repeat' split) <;> rfl
theorem u_X5_setRoute_2_2 {w : ZoC} {z : SoC} {x : PlC} {y : CuC} {ho : HoC} {sg : Nat → Nat} {hs : Nat → StC} {site : Int32} {customer : Int32} {price : Int32} : pO ((f_X5_setRoute w z x y ho sg hs site customer price).2.2.1) = pO x := by
  unfold f_X5_setRoute
  (repeat' split) <;> rfl
theorem u_X5_setRoute_2_3 {w : ZoC} {z : SoC} {x : PlC} {y : CuC} {ho : HoC} {sg : Nat → Nat} {hs : Nat → StC} {site : Int32} {customer : Int32} {price : Int32} : pP ((f_X5_setRoute w z x y ho sg hs site customer price).2.2.1) = pP x := by
  unfold f_X5_setRoute
  (repeat' split) <;> rfl
theorem u_X5_setRoute_2_4 {w : ZoC} {z : SoC} {x : PlC} {y : CuC} {ho : HoC} {sg : Nat → Nat} {hs : Nat → StC} {site : Int32} {customer : Int32} {price : Int32} : pD ((f_X5_setRoute w z x y ho sg hs site customer price).2.2.1) = pD x := by
  unfold f_X5_setRoute
  (repeat' split) <;> rfl
theorem u_X5_setRoute_2_6 {w : ZoC} {z : SoC} {x : PlC} {y : CuC} {ho : HoC} {sg : Nat → Nat} {hs : Nat → StC} {site : Int32} {customer : Int32} {price : Int32} : pE ((f_X5_setRoute w z x y ho sg hs site customer price).2.2.1) = pE x := by
  unfold f_X5_setRoute
  (repeat' split) <;> rfl
theorem u_X5_setRoute_3_1 {w : ZoC} {z : SoC} {x : PlC} {y : CuC} {ho : HoC} {sg : Nat → Nat} {hs : Nat → StC} {site : Int32} {customer : Int32} {price : Int32} : kC ((f_X5_setRoute w z x y ho sg hs site customer price).2.2.2.1) = kC y := by
  unfold f_X5_setRoute
  (repeat' split) <;> rfl
theorem u_X5_setRoute_3_2 {w : ZoC} {z : SoC} {x : PlC} {y : CuC} {ho : HoC} {sg : Nat → Nat} {hs : Nat → StC} {site : Int32} {customer : Int32} {price : Int32} : kS ((f_X5_setRoute w z x y ho sg hs site customer price).2.2.2.1) = kS y := by
  unfold f_X5_setRoute
  (repeat' split) <;> rfl
theorem u_X5_setRoute_3_3 {w : ZoC} {z : SoC} {x : PlC} {y : CuC} {ho : HoC} {sg : Nat → Nat} {hs : Nat → StC} {site : Int32} {customer : Int32} {price : Int32} : kW ((f_X5_setRoute w z x y ho sg hs site customer price).2.2.2.1) = kW y := by
  unfold f_X5_setRoute
  (repeat' split) <;> rfl
def rmX5_setMost : Room := { frames := 4, cells := 0, slots := 0, locals := 88 }
def f_X5_setMost (w : ZoC) (z : SoC) (x : PlC) (y : CuC) (ho : HoC) (sg : Nat → Nat) (hs : Nat → StC) (sites : Int32) : Int32 × SoC × PlC × CuC × HoC × (Nat → Nat) × (Nat → StC) :=
  (if sites < (nI 1) then ((-2), z, x, y, ho, sg, hs) else (if (nI 7) < sites then ((-2), z, x, y, ho, sg, hs) else (if (pO x) = sites then ((-5), z, x, y, ho, sg, hs) else (pO x, mkO (uB (f_X4_forgetBest z)) (uT z), mkP (pN x) (pM x) sites (pP x) (pD x) (pR x) (pE x), y, ((f_X2_record ho sg hs z x y).1), ((f_X2_record ho sg hs z x y).2.1), ((f_X2_record ho sg hs z x y).2.2)))))
set_option maxHeartbeats 4000000 in
set_option maxRecDepth 100000 in
theorem c_X5_setMost {l : Launch} {dd : va_G} {t : CL4} {N : Nat} {ad : Nat → Nat} {V : Nat → va_E} {b : Nat} {w : ZoC} {z : SoC} {x : PlC} {y : CuC} {ho : HoC} {sg : Nat → Nat} {hs : Nat → StC}  (hi : inj N ad) (hp0 : ZoP N ad V t b w) (hp1 : SoP N ad V t (b + 1) z) (hp2 : PlP N ad V t (b + 2) x) (hp3 : CuP N ad V t (b + 14) y) (hp4 : HoP N ad V t (b + 172) ho) (hp5 : HaP N ad V t (b + 173) sg) (hp6 : HsP N ad V t (b + 174) hs) (sites : Int32) (hsg : ∀ j, j < 4 → sg j < 4) : MM l dd t N ad V yX5_setMost cX5_setMost 3 (some .int) rmX5_setMost [.ref (ad b), .int (sites)] (fun r V1 => (r = (f_X5_setMost w z x y ho sg hs sites).1) ∧ (SoP N ad V1 t (b + 1) ((f_X5_setMost w z x y ho sg hs sites).2.1)) ∧ (PlP N ad V1 t (b + 2) ((f_X5_setMost w z x y ho sg hs sites).2.2.1)) ∧ (CuP N ad V1 t (b + 14) ((f_X5_setMost w z x y ho sg hs sites).2.2.2.1)) ∧ (HoP N ad V1 t (b + 172) ((f_X5_setMost w z x y ho sg hs sites).2.2.2.2.1)) ∧ (HaP N ad V1 t (b + 173) ((f_X5_setMost w z x y ho sg hs sites).2.2.2.2.2.1)) ∧ (HsP N ad V1 t (b + 174) ((f_X5_setMost w z x y ho sg hs sites).2.2.2.2.2.2)) ∧ (∀ k, (k < b + 1 ∨ (b + 58 ≤ k ∧ k < b + 172) ∨ b + 402 ≤ k) → V1 k = V k)) := by
  refine MM.of (by decide +kernel) ⟨rfl, rfl⟩ (Nat.le_of_ble_eq_true rfl) rfl ?_
  intro p e s m as below meth c Q X H hP hS ls hl kr
  have X : WX p s m as c cX5_setMost 3 RX5 dd t := X
  have hx := X.1.1
  have hb := X.1.2.1
  have hl : lv_has ls 3 [(0, .ref (ad b)), (1, .int (sites))] := hl
  have hi2_0 := hp2.i0
  have hi2_1 := hp2.i1
  have hi3_0 := hp3.i0
  have hi4_0 := hp4.i0
  have hle0 := hp0.le
  have hle1 := hp1.le
  have hle2 := hp2.le
  have hle3 := hp3.le
  have hle4 := hp4.le
  have hle5 := hp5.1
  have hle6 := hp6.1
  have hfr : ∀ k, (k < b + 1 ∨ (b + 58 ≤ k ∧ k < b + 172) ∨ b + 402 ≤ k) → V k = V k := fun _ _ => rfl
  refine lv_iload_n hx hb dX5_setMost_0 rfl (lv_at hl 1 rfl) ?_
  refine lv_iconst (v := nI 1) hx hb dX5_setMost_1 (by decide) ?_
  refine j_lt (tgt := 11) hx hb dX5_setMost_2 (by decide) (fun c1 => ?_) (fun c1 => ?_)
  · refine lv_bipush (v := (-2)) hx hb dX5_setMost_11 (by decide) ?_
    have hfin : f_X5_setMost w z x y ho sg hs sites = ((-2), z, x, y, ho, sg, hs) := (by rw [f_X5_setMost, if_pos c1] <;> rfl)
    exact kr 13 ls _ _ _ _ hP hS rfl ⟨by rw [hfin] <;> rfl, by rw [hfin]; exact hp1, by rw [hfin]; exact hp2, by rw [hfin]; exact hp3, by rw [hfin]; exact hp4, by rw [hfin]; exact hp5, by rw [hfin]; exact hp6, hfr⟩ dX5_setMost_13
  · refine lv_iload_n hx hb dX5_setMost_5 rfl (lv_at hl 1 rfl) ?_
    refine lv_bipush (v := nI 7) hx hb dX5_setMost_6 (by decide) ?_
    refine j_le (tgt := 14) hx hb dX5_setMost_8 (by decide) (fun c2 => ?_) (fun c2 => ?_)
    · refine lv_aload_n hx hb dX5_setMost_14 rfl (lv_at hl 0 rfl) ?_
      refine g_Zo_now X hP hp0 m15 dX5_setMost_15 ?_
      refine g_So_places X hP hp1 m93 dX5_setMost_18 ?_
      refine g_Pl_most X hP hp2 m229 dX5_setMost_21 ?_
      refine lv_istore_n (lv' := [(2, .int (pO x)), (0, .ref (ad b)), (1, .int (sites))]) hx hb dX5_setMost_24 rfl hl (by decide) rfl (fun ls hl => ?_)
      refine lv_iload_n hx hb dX5_setMost_25 rfl (lv_at hl 0 rfl) ?_
      refine lv_iload_n hx hb dX5_setMost_26 rfl (lv_at hl 2 rfl) ?_
      refine lv_icmp_ne (tgt := 33) hx hb dX5_setMost_27 (by decide) (fun c3 => ?_) (fun c3 => ?_)
      · refine lv_aload_n hx hb dX5_setMost_33 rfl (lv_at hl 1 rfl) ?_
        refine g_Zo_history X hP hp0 m22 dX5_setMost_34 ?_
        refine lv_aload_n hx hb dX5_setMost_37 rfl (lv_at hl 1 rfl) ?_
        refine g_Zo_now X hP hp0 m15 dX5_setMost_38 ?_
        refine r_callW (As := [.ref (ad (b + 1))]) (rest := []) (ci := 2) X hP hS (c_X2_record hi hp4 hp5 hp6 hp1 hp2 hp3 hsg (by omega)) o_X2_record rfl hp4.lt hp4.ob m98 ⟨rfl, rfl⟩ ⟨Nat.le_of_ble_eq_true rfl, Nat.le_of_ble_eq_true rfl⟩ rfl hl.1 rfl (Nat.le_of_ble_eq_true rfl) ⟨Nat.zero_le _, Nat.zero_le _⟩ dX5_setMost_41 (fun V4 H4 locs4 hq hP hS => ?_)
        obtain ⟨hp4, hp5, hp6, h2⟩ := hq
        have hi4_0 := hp4.i0
        have hp0 := hp0.keep (V1 := V4) (fun k h8 h9 => h2 k (by omega))
        have hp1 := hp1.keep (V1 := V4) (fun k h8 h9 => h2 k (by omega))
        have hp2 := hp2.keep (V1 := V4) (fun k h8 h9 => h2 k (by omega))
        have hp3 := hp3.keep (V1 := V4) (fun k h8 h9 => h2 k (by omega))
        have hfr : ∀ k, (k < b + 1 ∨ (b + 58 ≤ k ∧ k < b + 172) ∨ b + 402 ≤ k) → V4 k = V k := fun k hk => (h2 k (by omega)).trans (hfr k hk)
        refine lv_aload_n hx hb dX5_setMost_44 rfl (lv_at hl 1 rfl) ?_
        refine g_Zo_now X hP hp0 m15 dX5_setMost_45 ?_
        refine r_callW (As := []) (rest := []) (ci := 4) X hP hS (c_X4_forgetBest hi hp1) o_X4_forgetBest rfl hp1.lt hp1.ob m230 ⟨rfl, rfl⟩ ⟨Nat.le_of_ble_eq_true rfl, Nat.le_of_ble_eq_true rfl⟩ rfl hl.1 rfl (Nat.le_of_ble_eq_true rfl) ⟨Nat.zero_le _, Nat.zero_le _⟩ dX5_setMost_48 (fun V5 H5 locs5 hq hP hS => ?_)
        obtain ⟨hp1, h2⟩ := hq
        have hp1 : SoP N ad V5 t (b + 1) (mkO (uB (f_X4_forgetBest z)) (uT z)) := hp1.ext rfl u_X4_forgetBest_0_1
        have hp0 := hp0.keep (V1 := V5) (fun k h8 h9 => h2 k (by omega))
        have hp2 := hp2.keep (V1 := V5) (fun k h8 h9 => h2 k (by omega))
        have hp3 := hp3.keep (V1 := V5) (fun k h8 h9 => h2 k (by omega))
        have hp4 := hp4.keep (V1 := V5) (fun k h8 h9 => h2 k (by omega))
        have hp5 := hp5.keep (V1 := V5) (fun k h8 h9 => h2 k (by omega))
        have hp6 := hp6.keep (V1 := V5) (fun k h8 h9 => h2 k (by omega))
        have hfr : ∀ k, (k < b + 1 ∨ (b + 58 ≤ k ∧ k < b + 172) ∨ b + 402 ≤ k) → V5 k = V k := fun k hk => (h2 k (by omega)).trans (hfr k hk)
        refine lv_aload_n hx hb dX5_setMost_51 rfl (lv_at hl 1 rfl) ?_
        refine g_Zo_now X hP hp0 m15 dX5_setMost_52 ?_
        refine g_So_places X hP hp1 m93 dX5_setMost_55 ?_
        refine lv_iload_n hx hb dX5_setMost_58 rfl (lv_at hl 2 rfl) ?_
        refine p_Pl_most X hi hP hS hp2 m229 (v := sites) dX5_setMost_59 (fun V6 H6 locs6 hp2 h2 hP hS => ?_)
        have hp2 : PlP N ad V6 t (b + 2) (mkP (pN x) (pM x) sites (pP x) (pD x) (pR x) (pE x)) := hp2
        have hp0 := hp0.keep (V1 := V6) (fun k h8 h9 => h2 k (by omega))
        have hp1 := hp1.keep (V1 := V6) (fun k h8 h9 => h2 k (by omega))
        have hp3 := hp3.keep (V1 := V6) (fun k h8 h9 => h2 k (by omega))
        have hp4 := hp4.keep (V1 := V6) (fun k h8 h9 => h2 k (by omega))
        have hp5 := hp5.keep (V1 := V6) (fun k h8 h9 => h2 k (by omega))
        have hp6 := hp6.keep (V1 := V6) (fun k h8 h9 => h2 k (by omega))
        have hfr : ∀ k, (k < b + 1 ∨ (b + 58 ≤ k ∧ k < b + 172) ∨ b + 402 ≤ k) → V6 k = V k := fun k hk => (h2 k (by omega)).trans (hfr k hk)
        refine lv_iload_n hx hb dX5_setMost_62 rfl (lv_at hl 0 rfl) ?_
        have hfin : f_X5_setMost w z x y ho sg hs sites = (pO x, mkO (uB (f_X4_forgetBest z)) (uT z), mkP (pN x) (pM x) sites (pP x) (pD x) (pR x) (pE x), y, ((f_X2_record ho sg hs z x y).1), ((f_X2_record ho sg hs z x y).2.1), ((f_X2_record ho sg hs z x y).2.2)) := (by rw [f_X5_setMost, if_neg c1, if_neg c2, if_neg c3] <;> rfl)
        exact kr 63 ls _ _ _ _ hP hS rfl ⟨by rw [hfin] <;> rfl, by rw [hfin]; exact hp1, by rw [hfin]; exact hp2, by rw [hfin]; exact hp3, by rw [hfin]; exact hp4, by rw [hfin]; exact hp5, by rw [hfin]; exact hp6, hfr⟩ dX5_setMost_63
      · refine lv_bipush (v := (-5)) hx hb dX5_setMost_30 (by decide) ?_
        have hfin : f_X5_setMost w z x y ho sg hs sites = ((-5), z, x, y, ho, sg, hs) := (by rw [f_X5_setMost, if_neg c1, if_neg c2, if_pos c3] <;> rfl)
        exact kr 32 ls _ _ _ _ hP hS rfl ⟨by rw [hfin] <;> rfl, by rw [hfin]; exact hp1, by rw [hfin]; exact hp2, by rw [hfin]; exact hp3, by rw [hfin]; exact hp4, by rw [hfin]; exact hp5, by rw [hfin]; exact hp6, hfr⟩ dX5_setMost_32
    · refine lv_bipush (v := (-2)) hx hb dX5_setMost_11 (by decide) ?_
      have hfin : f_X5_setMost w z x y ho sg hs sites = ((-2), z, x, y, ho, sg, hs) := (by rw [f_X5_setMost, if_neg c1, if_pos c2] <;> rfl)
      exact kr 13 ls _ _ _ _ hP hS rfl ⟨by rw [hfin] <;> rfl, by rw [hfin]; exact hp1, by rw [hfin]; exact hp2, by rw [hfin]; exact hp3, by rw [hfin]; exact hp4, by rw [hfin]; exact hp5, by rw [hfin]; exact hp6, hfr⟩ dX5_setMost_13
theorem o_X5_setMost : okV yX5_setMost cX5_setMost 3 (some .int) 1 := ⟨m226, m227, m2, m228, by decide +kernel, by decide +kernel, by decide +kernel⟩
theorem u_X5_setMost_1_1 {w : ZoC} {z : SoC} {x : PlC} {y : CuC} {ho : HoC} {sg : Nat → Nat} {hs : Nat → StC} {sites : Int32} : uT ((f_X5_setMost w z x y ho sg hs sites).2.1) = uT z := by
  unfold f_X5_setMost
  (repeat' split) <;> rfl
theorem u_X5_setMost_2_0 {w : ZoC} {z : SoC} {x : PlC} {y : CuC} {ho : HoC} {sg : Nat → Nat} {hs : Nat → StC} {sites : Int32} : pN ((f_X5_setMost w z x y ho sg hs sites).2.2.1) = pN x := by
  unfold f_X5_setMost
  (repeat' split) <;> rfl
theorem u_X5_setMost_2_1 {w : ZoC} {z : SoC} {x : PlC} {y : CuC} {ho : HoC} {sg : Nat → Nat} {hs : Nat → StC} {sites : Int32} : pM ((f_X5_setMost w z x y ho sg hs sites).2.2.1) = pM x := by
  unfold f_X5_setMost
  (repeat' split) <;> rfl
theorem u_X5_setMost_2_3 {w : ZoC} {z : SoC} {x : PlC} {y : CuC} {ho : HoC} {sg : Nat → Nat} {hs : Nat → StC} {sites : Int32} : pP ((f_X5_setMost w z x y ho sg hs sites).2.2.1) = pP x := by
  unfold f_X5_setMost
  (repeat' split) <;> rfl
theorem u_X5_setMost_2_4 {w : ZoC} {z : SoC} {x : PlC} {y : CuC} {ho : HoC} {sg : Nat → Nat} {hs : Nat → StC} {sites : Int32} : pD ((f_X5_setMost w z x y ho sg hs sites).2.2.1) = pD x := by
  unfold f_X5_setMost
  (repeat' split) <;> rfl
theorem u_X5_setMost_2_5 {w : ZoC} {z : SoC} {x : PlC} {y : CuC} {ho : HoC} {sg : Nat → Nat} {hs : Nat → StC} {sites : Int32} : pR ((f_X5_setMost w z x y ho sg hs sites).2.2.1) = pR x := by
  unfold f_X5_setMost
  (repeat' split) <;> rfl
theorem u_X5_setMost_2_6 {w : ZoC} {z : SoC} {x : PlC} {y : CuC} {ho : HoC} {sg : Nat → Nat} {hs : Nat → StC} {sites : Int32} : pE ((f_X5_setMost w z x y ho sg hs sites).2.2.1) = pE x := by
  unfold f_X5_setMost
  (repeat' split) <;> rfl
theorem u_X5_setMost_3_0 {w : ZoC} {z : SoC} {x : PlC} {y : CuC} {ho : HoC} {sg : Nat → Nat} {hs : Nat → StC} {sites : Int32} : kA ((f_X5_setMost w z x y ho sg hs sites).2.2.2.1) = kA y := by
  unfold f_X5_setMost
  (repeat' split) <;> rfl
theorem u_X5_setMost_3_1 {w : ZoC} {z : SoC} {x : PlC} {y : CuC} {ho : HoC} {sg : Nat → Nat} {hs : Nat → StC} {sites : Int32} : kC ((f_X5_setMost w z x y ho sg hs sites).2.2.2.1) = kC y := by
  unfold f_X5_setMost
  (repeat' split) <;> rfl
theorem u_X5_setMost_3_2 {w : ZoC} {z : SoC} {x : PlC} {y : CuC} {ho : HoC} {sg : Nat → Nat} {hs : Nat → StC} {sites : Int32} : kS ((f_X5_setMost w z x y ho sg hs sites).2.2.2.1) = kS y := by
  unfold f_X5_setMost
  (repeat' split) <;> rfl
theorem u_X5_setMost_3_3 {w : ZoC} {z : SoC} {x : PlC} {y : CuC} {ho : HoC} {sg : Nat → Nat} {hs : Nat → StC} {sites : Int32} : kW ((f_X5_setMost w z x y ho sg hs sites).2.2.2.1) = kW y := by
  unfold f_X5_setMost
  (repeat' split) <;> rfl
def rmX5_exclude : Room := { frames := 4, cells := 0, slots := 0, locals := 88 }
def f_X5_exclude (w : ZoC) (z : SoC) (x : PlC) (y : CuC) (ho : HoC) (sg : Nat → Nat) (hs : Nat → StC) (site : Int32) (other : Int32) (isq : Bool) : Int32 × SoC × PlC × CuC × HoC × (Nat → Nat) × (Nat → StC) :=
  (if (f_X3_isSite x site) = true then (if (f_X3_isSite x other) = true then (if (tn site) = (tn other) then ((-2), z, x, y, ho, sg, hs) else (if (b01 (f_X3_areExcluding x (tn site) (tn other))) = (b01 isq) then ((-5), z, x, y, ho, sg, hs) else (f_J6_bitCount_0f7a4 ((pE (f_X3_turnExclusion x (tn site) (tn other))) (tn site)), mkO (uB (f_X4_forgetBest z)) (uT z), mkP (pN x) (pM x) (pO x) (pP x) (pD x) (pR x) (pE (f_X3_turnExclusion x (tn site) (tn other))), y, ((f_X2_record ho sg hs z x y).1), ((f_X2_record ho sg hs z x y).2.1), ((f_X2_record ho sg hs z x y).2.2)))) else ((-1), z, x, y, ho, sg, hs)) else ((-1), z, x, y, ho, sg, hs))
set_option maxHeartbeats 4000000 in
set_option maxRecDepth 100000 in
theorem c_X5_exclude {l : Launch} {dd : va_G} {t : CL4} {N : Nat} {ad : Nat → Nat} {V : Nat → va_E} {b : Nat} {w : ZoC} {z : SoC} {x : PlC} {y : CuC} {ho : HoC} {sg : Nat → Nat} {hs : Nat → StC}  (hi : inj N ad) (hp0 : ZoP N ad V t b w) (hp1 : SoP N ad V t (b + 1) z) (hp2 : PlP N ad V t (b + 2) x) (hp3 : CuP N ad V t (b + 14) y) (hp4 : HoP N ad V t (b + 172) ho) (hp5 : HaP N ad V t (b + 173) sg) (hp6 : HsP N ad V t (b + 174) hs) (site : Int32) (other : Int32) (isq : Bool) (hsg : ∀ j, j < 4 → sg j < 4) : MM l dd t N ad V yX5_exclude cX5_exclude 4 (some .int) rmX5_exclude [.ref (ad b), .int (site), .int (other), .int (b01 isq)] (fun r V1 => (r = (f_X5_exclude w z x y ho sg hs site other isq).1) ∧ (SoP N ad V1 t (b + 1) ((f_X5_exclude w z x y ho sg hs site other isq).2.1)) ∧ (PlP N ad V1 t (b + 2) ((f_X5_exclude w z x y ho sg hs site other isq).2.2.1)) ∧ (CuP N ad V1 t (b + 14) ((f_X5_exclude w z x y ho sg hs site other isq).2.2.2.1)) ∧ (HoP N ad V1 t (b + 172) ((f_X5_exclude w z x y ho sg hs site other isq).2.2.2.2.1)) ∧ (HaP N ad V1 t (b + 173) ((f_X5_exclude w z x y ho sg hs site other isq).2.2.2.2.2.1)) ∧ (HsP N ad V1 t (b + 174) ((f_X5_exclude w z x y ho sg hs site other isq).2.2.2.2.2.2)) ∧ (∀ k, (k < b + 1 ∨ (b + 58 ≤ k ∧ k < b + 172) ∨ b + 402 ≤ k) → V1 k = V k)) := by
  refine MM.of (by decide +kernel) ⟨rfl, rfl⟩ (Nat.le_of_ble_eq_true rfl) rfl ?_
  intro p e s m as below meth c Q X H hP hS ls hl kr
  have X : WX p s m as c cX5_exclude 4 RX5 dd t := X
  have hx := X.1.1
  have hb := X.1.2.1
  have hl : lv_has ls 4 [(0, .ref (ad b)), (1, .int (site)), (2, .int (other)), (3, .int (b01 isq))] := hl
  have hi2_0 := hp2.i0
  have hi2_1 := hp2.i1
  have hi3_0 := hp3.i0
  have hi4_0 := hp4.i0
  have hle0 := hp0.le
  have hle1 := hp1.le
  have hle2 := hp2.le
  have hle3 := hp3.le
  have hle4 := hp4.le
  have hle5 := hp5.1
  have hle6 := hp6.1
  have hfr : ∀ k, (k < b + 1 ∨ (b + 58 ≤ k ∧ k < b + 172) ∨ b + 402 ≤ k) → V k = V k := fun _ _ => rfl
  refine lv_aload_n hx hb dX5_exclude_0 rfl (lv_at hl 0 rfl) ?_
  refine g_Zo_now X hP hp0 m15 dX5_exclude_1 ?_
  refine g_So_places X hP hp1 m93 dX5_exclude_4 ?_
  refine lv_iload_n hx hb dX5_exclude_7 rfl (lv_at hl 1 rfl) ?_
  refine r_call (As := [.int (site)]) (rest := []) (ci := 3) X hP (c_X3_isSite hp2 site) o_X3_isSite rfl hp2.lt hp2.ob m180 ⟨rfl, rfl⟩ ⟨Nat.le_of_ble_eq_true rfl, Nat.le_of_ble_eq_true rfl⟩ rfl hl.1 rfl (Nat.le_of_ble_eq_true rfl) ⟨Nat.zero_le _, Nat.zero_le _⟩ dX5_exclude_8 ?_
  refine q_eqB (tgt := 28) hx hb dX5_exclude_11 (by decide) (fun c1 => ?_) (fun c1 => ?_)
  · refine lv_iconst (v := (-1)) hx hb dX5_exclude_28 (by decide) ?_
    have hfin : f_X5_exclude w z x y ho sg hs site other isq = ((-1), z, x, y, ho, sg, hs) := (by rw [f_X5_exclude, if_neg (nt c1)] <;> rfl)
    exact kr 29 ls _ _ _ _ hP hS rfl ⟨by rw [hfin] <;> rfl, by rw [hfin]; exact hp1, by rw [hfin]; exact hp2, by rw [hfin]; exact hp3, by rw [hfin]; exact hp4, by rw [hfin]; exact hp5, by rw [hfin]; exact hp6, hfr⟩ dX5_exclude_29
  · have hr2 := isSite_n c1 (by omega)
    have hr2b := hr2.2
    refine lv_aload_n hx hb dX5_exclude_14 rfl (lv_at hl 0 rfl) ?_
    refine g_Zo_now X hP hp0 m15 dX5_exclude_15 ?_
    refine g_So_places X hP hp1 m93 dX5_exclude_18 ?_
    refine lv_iload_n hx hb dX5_exclude_21 rfl (lv_at hl 2 rfl) ?_
    refine r_call (As := [.int (other)]) (rest := []) (ci := 3) X hP (c_X3_isSite hp2 other) o_X3_isSite rfl hp2.lt hp2.ob m180 ⟨rfl, rfl⟩ ⟨Nat.le_of_ble_eq_true rfl, Nat.le_of_ble_eq_true rfl⟩ rfl hl.1 rfl (Nat.le_of_ble_eq_true rfl) ⟨Nat.zero_le _, Nat.zero_le _⟩ dX5_exclude_22 ?_
    refine q_neB (tgt := 30) hx hb dX5_exclude_25 (by decide) (fun c3 => ?_) (fun c3 => ?_)
    · have hr4 := isSite_n c3 (by omega)
      have hr4b := hr4.2
      refine lv_iload_n hx hb dX5_exclude_30 rfl (lv_at hl 1 rfl) ?_
      refine q_val (hr2.1 : site = nI (tn site)) ?_
      refine lv_iload_n hx hb dX5_exclude_31 rfl (lv_at hl 2 rfl) ?_
      refine q_val (hr4.1 : other = nI (tn other)) ?_
      refine q_ne (tgt := 38) hx hb (by omega) (by omega) dX5_exclude_32 (by decide) (fun c5 => ?_) (fun c5 => ?_)
      · refine lv_aload_n hx hb dX5_exclude_38 rfl (lv_at hl 0 rfl) ?_
        refine g_Zo_now X hP hp0 m15 dX5_exclude_39 ?_
        refine g_So_places X hP hp1 m93 dX5_exclude_42 ?_
        refine lv_iload_n hx hb dX5_exclude_45 rfl (lv_at hl 1 rfl) ?_
        refine q_val (hr2.1 : site = nI (tn site)) ?_
        refine lv_iload_n hx hb dX5_exclude_46 rfl (lv_at hl 2 rfl) ?_
        refine q_val (hr4.1 : other = nI (tn other)) ?_
        refine r_call (As := [.int (nI (tn site)), .int (nI (tn other))]) (rest := []) (ci := 3) X hP (c_X3_areExcluding hp2 (tn site) (tn other) (by omega)) o_X3_areExcluding rfl hp2.lt hp2.ob m240 ⟨rfl, rfl⟩ ⟨Nat.le_of_ble_eq_true rfl, Nat.le_of_ble_eq_true rfl⟩ rfl hl.1 rfl (Nat.le_of_ble_eq_true rfl) ⟨Nat.zero_le _, Nat.zero_le _⟩ dX5_exclude_47 ?_
        refine lv_iload_n hx hb dX5_exclude_50 rfl (lv_at hl 3 rfl) ?_
        refine lv_icmp_ne (tgt := 57) hx hb dX5_exclude_51 (by decide) (fun c6 => ?_) (fun c6 => ?_)
        · refine lv_aload_n hx hb dX5_exclude_57 rfl (lv_at hl 0 rfl) ?_
          refine g_Zo_history X hP hp0 m22 dX5_exclude_58 ?_
          refine lv_aload_n hx hb dX5_exclude_61 rfl (lv_at hl 0 rfl) ?_
          refine g_Zo_now X hP hp0 m15 dX5_exclude_62 ?_
          refine r_callW (As := [.ref (ad (b + 1))]) (rest := []) (ci := 2) X hP hS (c_X2_record hi hp4 hp5 hp6 hp1 hp2 hp3 hsg (by omega)) o_X2_record rfl hp4.lt hp4.ob m98 ⟨rfl, rfl⟩ ⟨Nat.le_of_ble_eq_true rfl, Nat.le_of_ble_eq_true rfl⟩ rfl hl.1 rfl (Nat.le_of_ble_eq_true rfl) ⟨Nat.zero_le _, Nat.zero_le _⟩ dX5_exclude_65 (fun V7 H7 locs7 hq hP hS => ?_)
          obtain ⟨hp4, hp5, hp6, h2⟩ := hq
          have hi4_0 := hp4.i0
          have hp0 := hp0.keep (V1 := V7) (fun k h8 h9 => h2 k (by omega))
          have hp1 := hp1.keep (V1 := V7) (fun k h8 h9 => h2 k (by omega))
          have hp2 := hp2.keep (V1 := V7) (fun k h8 h9 => h2 k (by omega))
          have hp3 := hp3.keep (V1 := V7) (fun k h8 h9 => h2 k (by omega))
          have hfr : ∀ k, (k < b + 1 ∨ (b + 58 ≤ k ∧ k < b + 172) ∨ b + 402 ≤ k) → V7 k = V k := fun k hk => (h2 k (by omega)).trans (hfr k hk)
          refine lv_aload_n hx hb dX5_exclude_68 rfl (lv_at hl 0 rfl) ?_
          refine g_Zo_now X hP hp0 m15 dX5_exclude_69 ?_
          refine r_callW (As := []) (rest := []) (ci := 4) X hP hS (c_X4_forgetBest hi hp1) o_X4_forgetBest rfl hp1.lt hp1.ob m230 ⟨rfl, rfl⟩ ⟨Nat.le_of_ble_eq_true rfl, Nat.le_of_ble_eq_true rfl⟩ rfl hl.1 rfl (Nat.le_of_ble_eq_true rfl) ⟨Nat.zero_le _, Nat.zero_le _⟩ dX5_exclude_72 (fun V8 H8 locs8 hq hP hS => ?_)
          obtain ⟨hp1, h2⟩ := hq
          have hp1 : SoP N ad V8 t (b + 1) (mkO (uB (f_X4_forgetBest z)) (uT z)) := hp1.ext rfl u_X4_forgetBest_0_1
          have hp0 := hp0.keep (V1 := V8) (fun k h8 h9 => h2 k (by omega))
          have hp2 := hp2.keep (V1 := V8) (fun k h8 h9 => h2 k (by omega))
          have hp3 := hp3.keep (V1 := V8) (fun k h8 h9 => h2 k (by omega))
          have hp4 := hp4.keep (V1 := V8) (fun k h8 h9 => h2 k (by omega))
          have hp5 := hp5.keep (V1 := V8) (fun k h8 h9 => h2 k (by omega))
          have hp6 := hp6.keep (V1 := V8) (fun k h8 h9 => h2 k (by omega))
          have hfr : ∀ k, (k < b + 1 ∨ (b + 58 ≤ k ∧ k < b + 172) ∨ b + 402 ≤ k) → V8 k = V k := fun k hk => (h2 k (by omega)).trans (hfr k hk)
          refine lv_aload_n hx hb dX5_exclude_75 rfl (lv_at hl 0 rfl) ?_
          refine g_Zo_now X hP hp0 m15 dX5_exclude_76 ?_
          refine g_So_places X hP hp1 m93 dX5_exclude_79 ?_
          refine lv_iload_n hx hb dX5_exclude_82 rfl (lv_at hl 1 rfl) ?_
          refine q_val (hr2.1 : site = nI (tn site)) ?_
          refine lv_iload_n hx hb dX5_exclude_83 rfl (lv_at hl 2 rfl) ?_
          refine q_val (hr4.1 : other = nI (tn other)) ?_
          refine r_callW (As := [.int (nI (tn site)), .int (nI (tn other))]) (rest := []) (ci := 3) X hP hS (c_X3_turnExclusion hi hp2 (tn site) (tn other) (by omega) (by omega) (by omega)) o_X3_turnExclusion rfl hp2.lt hp2.ob m246 ⟨rfl, rfl⟩ ⟨Nat.le_of_ble_eq_true rfl, Nat.le_of_ble_eq_true rfl⟩ rfl hl.1 rfl (Nat.le_of_ble_eq_true rfl) ⟨Nat.zero_le _, Nat.zero_le _⟩ dX5_exclude_84 (fun V9 H9 locs9 hq hP hS => ?_)
          obtain ⟨hp2, h2⟩ := hq
          have hp2 : PlP N ad V9 t (b + 2) (mkP (pN x) (pM x) (pO x) (pP x) (pD x) (pR x) (pE (f_X3_turnExclusion x (tn site) (tn other)))) := hp2.ext u_X3_turnExclusion_0_0 u_X3_turnExclusion_0_1 u_X3_turnExclusion_0_2 (fun _ _ => congrFun u_X3_turnExclusion_0_3 _) (fun _ _ => congrFun u_X3_turnExclusion_0_4 _) (fun _ _ _ _ => congrFun (congrFun u_X3_turnExclusion_0_5 _) _) (fun _ _ => rfl)
          have hi2_0 := hp2.i0
          have hi2_1 := hp2.i1
          have hp0 := hp0.keep (V1 := V9) (fun k h8 h9 => h2 k (by omega))
          have hp1 := hp1.keep (V1 := V9) (fun k h8 h9 => h2 k (by omega))
          have hp3 := hp3.keep (V1 := V9) (fun k h8 h9 => h2 k (by omega))
          have hp4 := hp4.keep (V1 := V9) (fun k h8 h9 => h2 k (by omega))
          have hp5 := hp5.keep (V1 := V9) (fun k h8 h9 => h2 k (by omega))
          have hp6 := hp6.keep (V1 := V9) (fun k h8 h9 => h2 k (by omega))
          have hfr : ∀ k, (k < b + 1 ∨ (b + 58 ≤ k ∧ k < b + 172) ∨ b + 402 ≤ k) → V9 k = V k := fun k hk => (h2 k (by omega)).trans (hfr k hk)
          refine lv_aload_n hx hb dX5_exclude_87 rfl (lv_at hl 0 rfl) ?_
          refine g_Zo_now X hP hp0 m15 dX5_exclude_88 ?_
          refine g_So_places X hP hp1 m93 dX5_exclude_91 ?_
          refine g_Pl_excluded X hP hp2 m239 dX5_exclude_94 ?_
          refine lv_iload_n hx hb dX5_exclude_97 rfl (lv_at hl 1 rfl) ?_
          refine q_val (hr2.1 : site = nI (tn site)) ?_
          refine l_Pl_excluded X hP hp2 (by omega) dX5_exclude_98 ?_
          refine W.eq (g2 := F0 m 99 ls [.int ((pE (f_X3_turnExclusion x (tn site) (tn other))) (tn site))]) rfl ?_
          refine r_callS (As := [.int ((pE (f_X3_turnExclusion x (tn site) (tn other))) (tn site))]) (rest := []) X hP (c_J6_bitCount_0f7a4 ((pE (f_X3_turnExclusion x (tn site) (tn other))) (tn site))) o_J6_bitCount_0f7a4 m250 ⟨rfl, rfl⟩ ⟨Nat.le_of_ble_eq_true rfl, Nat.le_of_ble_eq_true rfl⟩ rfl hl.1 rfl (Nat.le_of_ble_eq_true rfl) ⟨Nat.zero_le _, Nat.zero_le _⟩ dX5_exclude_99 ?_
          have hfin : f_X5_exclude w z x y ho sg hs site other isq = (f_J6_bitCount_0f7a4 ((pE (f_X3_turnExclusion x (tn site) (tn other))) (tn site)), mkO (uB (f_X4_forgetBest z)) (uT z), mkP (pN x) (pM x) (pO x) (pP x) (pD x) (pR x) (pE (f_X3_turnExclusion x (tn site) (tn other))), y, ((f_X2_record ho sg hs z x y).1), ((f_X2_record ho sg hs z x y).2.1), ((f_X2_record ho sg hs z x y).2.2)) := (by rw [f_X5_exclude, if_pos c1, if_pos c3, if_neg c5, if_neg c6] <;> rfl)
          exact kr 102 ls _ _ _ _ hP hS rfl ⟨by rw [hfin] <;> rfl, by rw [hfin]; exact hp1, by rw [hfin]; exact hp2, by rw [hfin]; exact hp3, by rw [hfin]; exact hp4, by rw [hfin]; exact hp5, by rw [hfin]; exact hp6, hfr⟩ dX5_exclude_102
        · refine lv_bipush (v := (-5)) hx hb dX5_exclude_54 (by decide) ?_
          have hfin : f_X5_exclude w z x y ho sg hs site other isq = ((-5), z, x, y, ho, sg, hs) := (by rw [f_X5_exclude, if_pos c1, if_pos c3, if_neg c5, if_pos c6] <;> rfl)
          exact kr 56 ls _ _ _ _ hP hS rfl ⟨by rw [hfin] <;> rfl, by rw [hfin]; exact hp1, by rw [hfin]; exact hp2, by rw [hfin]; exact hp3, by rw [hfin]; exact hp4, by rw [hfin]; exact hp5, by rw [hfin]; exact hp6, hfr⟩ dX5_exclude_56
      · refine lv_bipush (v := (-2)) hx hb dX5_exclude_35 (by decide) ?_
        have hfin : f_X5_exclude w z x y ho sg hs site other isq = ((-2), z, x, y, ho, sg, hs) := (by rw [f_X5_exclude, if_pos c1, if_pos c3, if_pos c5] <;> rfl)
        exact kr 37 ls _ _ _ _ hP hS rfl ⟨by rw [hfin] <;> rfl, by rw [hfin]; exact hp1, by rw [hfin]; exact hp2, by rw [hfin]; exact hp3, by rw [hfin]; exact hp4, by rw [hfin]; exact hp5, by rw [hfin]; exact hp6, hfr⟩ dX5_exclude_37
    · refine lv_iconst (v := (-1)) hx hb dX5_exclude_28 (by decide) ?_
      have hfin : f_X5_exclude w z x y ho sg hs site other isq = ((-1), z, x, y, ho, sg, hs) := (by rw [f_X5_exclude, if_pos c1, if_neg (nt c3)] <;> rfl)
      exact kr 29 ls _ _ _ _ hP hS rfl ⟨by rw [hfin] <;> rfl, by rw [hfin]; exact hp1, by rw [hfin]; exact hp2, by rw [hfin]; exact hp3, by rw [hfin]; exact hp4, by rw [hfin]; exact hp5, by rw [hfin]; exact hp6, hfr⟩ dX5_exclude_29
theorem o_X5_exclude : okV yX5_exclude cX5_exclude 4 (some .int) 3 := ⟨m236, m237, m2, m238, by decide +kernel, by decide +kernel, by decide +kernel⟩
theorem u_X5_exclude_1_1 {w : ZoC} {z : SoC} {x : PlC} {y : CuC} {ho : HoC} {sg : Nat → Nat} {hs : Nat → StC} {site : Int32} {other : Int32} {isq : Bool} : uT ((f_X5_exclude w z x y ho sg hs site other isq).2.1) = uT z := by
  unfold f_X5_exclude
  (repeat' split) <;> rfl
theorem u_X5_exclude_2_0 {w : ZoC} {z : SoC} {x : PlC} {y : CuC} {ho : HoC} {sg : Nat → Nat} {hs : Nat → StC} {site : Int32} {other : Int32} {isq : Bool} : pN ((f_X5_exclude w z x y ho sg hs site other isq).2.2.1) = pN x := by
  unfold f_X5_exclude
  (repeat' split) <;> rfl
theorem u_X5_exclude_2_1 {w : ZoC} {z : SoC} {x : PlC} {y : CuC} {ho : HoC} {sg : Nat → Nat} {hs : Nat → StC} {site : Int32} {other : Int32} {isq : Bool} : pM ((f_X5_exclude w z x y ho sg hs site other isq).2.2.1) = pM x := by
  unfold f_X5_exclude
  (repeat' split) <;> rfl
theorem u_X5_exclude_2_2 {w : ZoC} {z : SoC} {x : PlC} {y : CuC} {ho : HoC} {sg : Nat → Nat} {hs : Nat → StC} {site : Int32} {other : Int32} {isq : Bool} : pO ((f_X5_exclude w z x y ho sg hs site other isq).2.2.1) = pO x := by
  unfold f_X5_exclude
  (repeat' split) <;> rfl
theorem u_X5_exclude_2_3 {w : ZoC} {z : SoC} {x : PlC} {y : CuC} {ho : HoC} {sg : Nat → Nat} {hs : Nat → StC} {site : Int32} {other : Int32} {isq : Bool} : pP ((f_X5_exclude w z x y ho sg hs site other isq).2.2.1) = pP x := by
  unfold f_X5_exclude
  (repeat' split) <;> rfl
theorem u_X5_exclude_2_4 {w : ZoC} {z : SoC} {x : PlC} {y : CuC} {ho : HoC} {sg : Nat → Nat} {hs : Nat → StC} {site : Int32} {other : Int32} {isq : Bool} : pD ((f_X5_exclude w z x y ho sg hs site other isq).2.2.1) = pD x := by
  unfold f_X5_exclude
  (repeat' split) <;> rfl
theorem u_X5_exclude_2_5 {w : ZoC} {z : SoC} {x : PlC} {y : CuC} {ho : HoC} {sg : Nat → Nat} {hs : Nat → StC} {site : Int32} {other : Int32} {isq : Bool} : pR ((f_X5_exclude w z x y ho sg hs site other isq).2.2.1) = pR x := by
  unfold f_X5_exclude
  (repeat' split) <;> rfl
theorem u_X5_exclude_3_0 {w : ZoC} {z : SoC} {x : PlC} {y : CuC} {ho : HoC} {sg : Nat → Nat} {hs : Nat → StC} {site : Int32} {other : Int32} {isq : Bool} : kA ((f_X5_exclude w z x y ho sg hs site other isq).2.2.2.1) = kA y := by
  unfold f_X5_exclude
  (repeat' split) <;> rfl
theorem u_X5_exclude_3_1 {w : ZoC} {z : SoC} {x : PlC} {y : CuC} {ho : HoC} {sg : Nat → Nat} {hs : Nat → StC} {site : Int32} {other : Int32} {isq : Bool} : kC ((f_X5_exclude w z x y ho sg hs site other isq).2.2.2.1) = kC y := by
  unfold f_X5_exclude
  (repeat' split) <;> rfl
theorem u_X5_exclude_3_2 {w : ZoC} {z : SoC} {x : PlC} {y : CuC} {ho : HoC} {sg : Nat → Nat} {hs : Nat → StC} {site : Int32} {other : Int32} {isq : Bool} : kS ((f_X5_exclude w z x y ho sg hs site other isq).2.2.2.1) = kS y := by
  unfold f_X5_exclude
  (repeat' split) <;> rfl
theorem u_X5_exclude_3_3 {w : ZoC} {z : SoC} {x : PlC} {y : CuC} {ho : HoC} {sg : Nat → Nat} {hs : Nat → StC} {site : Int32} {other : Int32} {isq : Bool} : kW ((f_X5_exclude w z x y ho sg hs site other isq).2.2.2.1) = kW y := by
  unfold f_X5_exclude
  (repeat' split) <;> rfl
def rmX5_drop : Room := { frames := 4, cells := 0, slots := 0, locals := 88 }
def f_X5_drop (w : ZoC) (z : SoC) (x : PlC) (y : CuC) (ho : HoC) (sg : Nat → Nat) (hs : Nat → StC) (cut : Int32) : Int32 × SoC × PlC × CuC × HoC × (Nat → Nat) × (Nat → StC) :=
  (if (f_X1_isCut y cut) = true then (nI (kA (f_X1_remove y (tn cut))), z, x, (f_X1_remove y (tn cut)), ((f_X2_record ho sg hs z x y).1), ((f_X2_record ho sg hs z x y).2.1), ((f_X2_record ho sg hs z x y).2.2)) else ((-1), z, x, y, ho, sg, hs))
set_option maxHeartbeats 4000000 in
set_option maxRecDepth 100000 in
theorem c_X5_drop {l : Launch} {dd : va_G} {t : CL4} {N : Nat} {ad : Nat → Nat} {V : Nat → va_E} {b : Nat} {w : ZoC} {z : SoC} {x : PlC} {y : CuC} {ho : HoC} {sg : Nat → Nat} {hs : Nat → StC}  (hi : inj N ad) (hp0 : ZoP N ad V t b w) (hp1 : SoP N ad V t (b + 1) z) (hp2 : PlP N ad V t (b + 2) x) (hp3 : CuP N ad V t (b + 14) y) (hp4 : HoP N ad V t (b + 172) ho) (hp5 : HaP N ad V t (b + 173) sg) (hp6 : HsP N ad V t (b + 174) hs) (cut : Int32) (hsg : ∀ j, j < 4 → sg j < 4) : MM l dd t N ad V yX5_drop cX5_drop 2 (some .int) rmX5_drop [.ref (ad b), .int (cut)] (fun r V1 => (r = (f_X5_drop w z x y ho sg hs cut).1) ∧ (SoP N ad V1 t (b + 1) ((f_X5_drop w z x y ho sg hs cut).2.1)) ∧ (PlP N ad V1 t (b + 2) ((f_X5_drop w z x y ho sg hs cut).2.2.1)) ∧ (CuP N ad V1 t (b + 14) ((f_X5_drop w z x y ho sg hs cut).2.2.2.1)) ∧ (HoP N ad V1 t (b + 172) ((f_X5_drop w z x y ho sg hs cut).2.2.2.2.1)) ∧ (HaP N ad V1 t (b + 173) ((f_X5_drop w z x y ho sg hs cut).2.2.2.2.2.1)) ∧ (HsP N ad V1 t (b + 174) ((f_X5_drop w z x y ho sg hs cut).2.2.2.2.2.2)) ∧ (∀ k, (k < b + 1 ∨ (b + 58 ≤ k ∧ k < b + 172) ∨ b + 402 ≤ k) → V1 k = V k)) := by
  refine MM.of (by decide +kernel) ⟨rfl, rfl⟩ (Nat.le_of_ble_eq_true rfl) rfl ?_
  intro p e s m as below meth c Q X H hP hS ls hl kr
  have X : WX p s m as c cX5_drop 2 RX5 dd t := X
  have hx := X.1.1
  have hb := X.1.2.1
  have hl : lv_has ls 2 [(0, .ref (ad b)), (1, .int (cut))] := hl
  have hi2_0 := hp2.i0
  have hi2_1 := hp2.i1
  have hi3_0 := hp3.i0
  have hi4_0 := hp4.i0
  have hle0 := hp0.le
  have hle1 := hp1.le
  have hle2 := hp2.le
  have hle3 := hp3.le
  have hle4 := hp4.le
  have hle5 := hp5.1
  have hle6 := hp6.1
  have hfr : ∀ k, (k < b + 1 ∨ (b + 58 ≤ k ∧ k < b + 172) ∨ b + 402 ≤ k) → V k = V k := fun _ _ => rfl
  refine lv_aload_n hx hb dX5_drop_0 rfl (lv_at hl 0 rfl) ?_
  refine g_Zo_now X hP hp0 m15 dX5_drop_1 ?_
  refine g_So_cuts X hP hp1 m446 dX5_drop_4 ?_
  refine lv_iload_n hx hb dX5_drop_7 rfl (lv_at hl 1 rfl) ?_
  refine r_call (As := [.int (cut)]) (rest := []) (ci := 1) X hP (c_X1_isCut hp3 cut) o_X1_isCut rfl hp3.lt hp3.ob m499 ⟨rfl, rfl⟩ ⟨Nat.le_of_ble_eq_true rfl, Nat.le_of_ble_eq_true rfl⟩ rfl hl.1 rfl (Nat.le_of_ble_eq_true rfl) ⟨Nat.zero_le _, Nat.zero_le _⟩ dX5_drop_8 ?_
  refine q_neB (tgt := 16) hx hb dX5_drop_11 (by decide) (fun c1 => ?_) (fun c1 => ?_)
  · have hr2 := isCut_n c1 (by omega)
    have hr2b := hr2.2
    refine lv_aload_n hx hb dX5_drop_16 rfl (lv_at hl 0 rfl) ?_
    refine g_Zo_history X hP hp0 m22 dX5_drop_17 ?_
    refine lv_aload_n hx hb dX5_drop_20 rfl (lv_at hl 0 rfl) ?_
    refine g_Zo_now X hP hp0 m15 dX5_drop_21 ?_
    refine r_callW (As := [.ref (ad (b + 1))]) (rest := []) (ci := 2) X hP hS (c_X2_record hi hp4 hp5 hp6 hp1 hp2 hp3 hsg (by omega)) o_X2_record rfl hp4.lt hp4.ob m98 ⟨rfl, rfl⟩ ⟨Nat.le_of_ble_eq_true rfl, Nat.le_of_ble_eq_true rfl⟩ rfl hl.1 rfl (Nat.le_of_ble_eq_true rfl) ⟨Nat.zero_le _, Nat.zero_le _⟩ dX5_drop_24 (fun V3 H3 locs3 hq hP hS => ?_)
    obtain ⟨hp4, hp5, hp6, h2⟩ := hq
    have hi4_0 := hp4.i0
    have hp0 := hp0.keep (V1 := V3) (fun k h8 h9 => h2 k (by omega))
    have hp1 := hp1.keep (V1 := V3) (fun k h8 h9 => h2 k (by omega))
    have hp2 := hp2.keep (V1 := V3) (fun k h8 h9 => h2 k (by omega))
    have hp3 := hp3.keep (V1 := V3) (fun k h8 h9 => h2 k (by omega))
    have hfr : ∀ k, (k < b + 1 ∨ (b + 58 ≤ k ∧ k < b + 172) ∨ b + 402 ≤ k) → V3 k = V k := fun k hk => (h2 k (by omega)).trans (hfr k hk)
    refine lv_aload_n hx hb dX5_drop_27 rfl (lv_at hl 0 rfl) ?_
    refine g_Zo_now X hP hp0 m15 dX5_drop_28 ?_
    refine g_So_cuts X hP hp1 m446 dX5_drop_31 ?_
    refine lv_iload_n hx hb dX5_drop_34 rfl (lv_at hl 1 rfl) ?_
    refine q_val (hr2.1 : cut = nI (tn cut)) ?_
    refine r_callW (As := [.int (nI (tn cut))]) (rest := []) (ci := 1) X hP hS (c_X1_remove hi hp3 (tn cut) (by omega)) o_X1_remove rfl hp3.lt hp3.ob m503 ⟨rfl, rfl⟩ ⟨Nat.le_of_ble_eq_true rfl, Nat.le_of_ble_eq_true rfl⟩ rfl hl.1 rfl (Nat.le_of_ble_eq_true rfl) ⟨Nat.zero_le _, Nat.zero_le _⟩ dX5_drop_35 (fun V4 H4 locs4 hq hP hS => ?_)
    obtain ⟨hp3, h2⟩ := hq
    have hi3_0 := hp3.i0
    have hp0 := hp0.keep (V1 := V4) (fun k h8 h9 => h2 k (by omega))
    have hp1 := hp1.keep (V1 := V4) (fun k h8 h9 => h2 k (by omega))
    have hp2 := hp2.keep (V1 := V4) (fun k h8 h9 => h2 k (by omega))
    have hp4 := hp4.keep (V1 := V4) (fun k h8 h9 => h2 k (by omega))
    have hp5 := hp5.keep (V1 := V4) (fun k h8 h9 => h2 k (by omega))
    have hp6 := hp6.keep (V1 := V4) (fun k h8 h9 => h2 k (by omega))
    have hfr : ∀ k, (k < b + 1 ∨ (b + 58 ≤ k ∧ k < b + 172) ∨ b + 402 ≤ k) → V4 k = V k := fun k hk => (h2 k (by omega)).trans (hfr k hk)
    refine lv_aload_n hx hb dX5_drop_38 rfl (lv_at hl 0 rfl) ?_
    refine g_Zo_now X hP hp0 m15 dX5_drop_39 ?_
    refine g_So_cuts X hP hp1 m446 dX5_drop_42 ?_
    refine g_Cu_amount X hP hp3 m447 dX5_drop_45 ?_
    have hfin : f_X5_drop w z x y ho sg hs cut = (nI (kA (f_X1_remove y (tn cut))), z, x, (f_X1_remove y (tn cut)), ((f_X2_record ho sg hs z x y).1), ((f_X2_record ho sg hs z x y).2.1), ((f_X2_record ho sg hs z x y).2.2)) := (by rw [f_X5_drop, if_pos c1] <;> rfl)
    exact kr 48 ls _ _ _ _ hP hS rfl ⟨by rw [hfin] <;> rfl, by rw [hfin]; exact hp1, by rw [hfin]; exact hp2, by rw [hfin]; exact hp3, by rw [hfin]; exact hp4, by rw [hfin]; exact hp5, by rw [hfin]; exact hp6, hfr⟩ dX5_drop_48
  · refine lv_iconst (v := (-1)) hx hb dX5_drop_14 (by decide) ?_
    have hfin : f_X5_drop w z x y ho sg hs cut = ((-1), z, x, y, ho, sg, hs) := (by rw [f_X5_drop, if_neg (nt c1)] <;> rfl)
    exact kr 15 ls _ _ _ _ hP hS rfl ⟨by rw [hfin] <;> rfl, by rw [hfin]; exact hp1, by rw [hfin]; exact hp2, by rw [hfin]; exact hp3, by rw [hfin]; exact hp4, by rw [hfin]; exact hp5, by rw [hfin]; exact hp6, hfr⟩ dX5_drop_15
theorem o_X5_drop : okV yX5_drop cX5_drop 2 (some .int) 1 := ⟨m496, m497, m2, m498, by decide +kernel, by decide +kernel, by decide +kernel⟩
theorem u_X5_drop_1_0 {w : ZoC} {z : SoC} {x : PlC} {y : CuC} {ho : HoC} {sg : Nat → Nat} {hs : Nat → StC} {cut : Int32} : uB ((f_X5_drop w z x y ho sg hs cut).2.1) = uB z := by
  unfold f_X5_drop
  (repeat' split) <;> rfl
theorem u_X5_drop_1_1 {w : ZoC} {z : SoC} {x : PlC} {y : CuC} {ho : HoC} {sg : Nat → Nat} {hs : Nat → StC} {cut : Int32} : uT ((f_X5_drop w z x y ho sg hs cut).2.1) = uT z := by
  unfold f_X5_drop
  (repeat' split) <;> rfl
theorem u_X5_drop_2_0 {w : ZoC} {z : SoC} {x : PlC} {y : CuC} {ho : HoC} {sg : Nat → Nat} {hs : Nat → StC} {cut : Int32} : pN ((f_X5_drop w z x y ho sg hs cut).2.2.1) = pN x := by
  unfold f_X5_drop
  (repeat' split) <;> rfl
theorem u_X5_drop_2_1 {w : ZoC} {z : SoC} {x : PlC} {y : CuC} {ho : HoC} {sg : Nat → Nat} {hs : Nat → StC} {cut : Int32} : pM ((f_X5_drop w z x y ho sg hs cut).2.2.1) = pM x := by
  unfold f_X5_drop
  (repeat' split) <;> rfl
theorem u_X5_drop_2_2 {w : ZoC} {z : SoC} {x : PlC} {y : CuC} {ho : HoC} {sg : Nat → Nat} {hs : Nat → StC} {cut : Int32} : pO ((f_X5_drop w z x y ho sg hs cut).2.2.1) = pO x := by
  unfold f_X5_drop
  (repeat' split) <;> rfl
theorem u_X5_drop_2_3 {w : ZoC} {z : SoC} {x : PlC} {y : CuC} {ho : HoC} {sg : Nat → Nat} {hs : Nat → StC} {cut : Int32} : pP ((f_X5_drop w z x y ho sg hs cut).2.2.1) = pP x := by
  unfold f_X5_drop
  (repeat' split) <;> rfl
theorem u_X5_drop_2_4 {w : ZoC} {z : SoC} {x : PlC} {y : CuC} {ho : HoC} {sg : Nat → Nat} {hs : Nat → StC} {cut : Int32} : pD ((f_X5_drop w z x y ho sg hs cut).2.2.1) = pD x := by
  unfold f_X5_drop
  (repeat' split) <;> rfl
theorem u_X5_drop_2_5 {w : ZoC} {z : SoC} {x : PlC} {y : CuC} {ho : HoC} {sg : Nat → Nat} {hs : Nat → StC} {cut : Int32} : pR ((f_X5_drop w z x y ho sg hs cut).2.2.1) = pR x := by
  unfold f_X5_drop
  (repeat' split) <;> rfl
theorem u_X5_drop_2_6 {w : ZoC} {z : SoC} {x : PlC} {y : CuC} {ho : HoC} {sg : Nat → Nat} {hs : Nat → StC} {cut : Int32} : pE ((f_X5_drop w z x y ho sg hs cut).2.2.1) = pE x := by
  unfold f_X5_drop
  (repeat' split) <;> rfl
def rmX5_dropLoose : Room := { frames := 6, cells := 0, slots := 0, locals := 135 }
def f_X5_dropLoose (w : ZoC) (z : SoC) (x : PlC) (y : CuC) (ho : HoC) (sg : Nat → Nat) (hs : Nat → StC) : Int32 × SoC × PlC × CuC × HoC × (Nat → Nat) × (Nat → StC) :=
  (if (f_X4_findMasterPlan z x y) = (-1) then ((-4), z, x, y, ho, sg, hs) else (if (f_X1_countLoose y (f_X4_findMasterPlan z x y)) = 0 then ((-5), z, x, y, ho, sg, hs) else (f_X1_countLoose y (f_X4_findMasterPlan z x y), z, x, (f_X1_removeLoose y (f_X4_findMasterPlan z x y)), ((f_X2_record ho sg hs z x y).1), ((f_X2_record ho sg hs z x y).2.1), ((f_X2_record ho sg hs z x y).2.2))))
set_option maxHeartbeats 4000000 in
set_option maxRecDepth 100000 in
theorem c_X5_dropLoose {l : Launch} {dd : va_G} {t : CL4} {N : Nat} {ad : Nat → Nat} {V : Nat → va_E} {b : Nat} {w : ZoC} {z : SoC} {x : PlC} {y : CuC} {ho : HoC} {sg : Nat → Nat} {hs : Nat → StC}  (hi : inj N ad) (hp0 : ZoP N ad V t b w) (hp1 : SoP N ad V t (b + 1) z) (hp2 : PlP N ad V t (b + 2) x) (hp3 : CuP N ad V t (b + 14) y) (hp4 : HoP N ad V t (b + 172) ho) (hp5 : HaP N ad V t (b + 173) sg) (hp6 : HsP N ad V t (b + 174) hs)  (hsg : ∀ j, j < 4 → sg j < 4) : MM l dd t N ad V yX5_dropLoose cX5_dropLoose 3 (some .int) rmX5_dropLoose [.ref (ad b)] (fun r V1 => (r = (f_X5_dropLoose w z x y ho sg hs).1) ∧ (SoP N ad V1 t (b + 1) ((f_X5_dropLoose w z x y ho sg hs).2.1)) ∧ (PlP N ad V1 t (b + 2) ((f_X5_dropLoose w z x y ho sg hs).2.2.1)) ∧ (CuP N ad V1 t (b + 14) ((f_X5_dropLoose w z x y ho sg hs).2.2.2.1)) ∧ (HoP N ad V1 t (b + 172) ((f_X5_dropLoose w z x y ho sg hs).2.2.2.2.1)) ∧ (HaP N ad V1 t (b + 173) ((f_X5_dropLoose w z x y ho sg hs).2.2.2.2.2.1)) ∧ (HsP N ad V1 t (b + 174) ((f_X5_dropLoose w z x y ho sg hs).2.2.2.2.2.2)) ∧ (∀ k, (k < b + 1 ∨ (b + 58 ≤ k ∧ k < b + 172) ∨ b + 402 ≤ k) → V1 k = V k)) := by
  refine MM.of (by decide +kernel) ⟨rfl, rfl⟩ (Nat.le_of_ble_eq_true rfl) rfl ?_
  intro p e s m as below meth c Q X H hP hS ls hl kr
  have X : WX p s m as c cX5_dropLoose 3 RX5 dd t := X
  have hx := X.1.1
  have hb := X.1.2.1
  have hl : lv_has ls 3 [(0, .ref (ad b))] := hl
  have hi2_0 := hp2.i0
  have hi2_1 := hp2.i1
  have hi3_0 := hp3.i0
  have hi4_0 := hp4.i0
  have hle0 := hp0.le
  have hle1 := hp1.le
  have hle2 := hp2.le
  have hle3 := hp3.le
  have hle4 := hp4.le
  have hle5 := hp5.1
  have hle6 := hp6.1
  have hfr : ∀ k, (k < b + 1 ∨ (b + 58 ≤ k ∧ k < b + 172) ∨ b + 402 ≤ k) → V k = V k := fun _ _ => rfl
  refine lv_aload_n hx hb dX5_dropLoose_0 rfl (lv_at hl 0 rfl) ?_
  refine g_Zo_now X hP hp0 m15 dX5_dropLoose_1 ?_
  refine r_call (As := []) (rest := []) (ci := 4) X hP (c_X4_findMasterPlan hp1 hp2 hp3) o_X4_findMasterPlan rfl hp1.lt hp1.ob m523 ⟨rfl, rfl⟩ ⟨Nat.le_of_ble_eq_true rfl, Nat.le_of_ble_eq_true rfl⟩ rfl hl.1 rfl (Nat.le_of_ble_eq_true rfl) ⟨Nat.zero_le _, Nat.zero_le _⟩ dX5_dropLoose_4 ?_
  refine lv_istore_n (lv' := [(1, .int (f_X4_findMasterPlan z x y)), (0, .ref (ad b))]) hx hb dX5_dropLoose_7 rfl hl (by decide) rfl (fun ls hl => ?_)
  refine lv_iload_n hx hb dX5_dropLoose_8 rfl (lv_at hl 0 rfl) ?_
  refine lv_iconst (v := (-1)) hx hb dX5_dropLoose_9 (by decide) ?_
  refine lv_icmp_ne (tgt := 16) hx hb dX5_dropLoose_10 (by decide) (fun c1 => ?_) (fun c1 => ?_)
  · refine lv_aload_n hx hb dX5_dropLoose_16 rfl (lv_at hl 1 rfl) ?_
    refine g_Zo_now X hP hp0 m15 dX5_dropLoose_17 ?_
    refine g_So_cuts X hP hp1 m446 dX5_dropLoose_20 ?_
    refine lv_iload_n hx hb dX5_dropLoose_23 rfl (lv_at hl 0 rfl) ?_
    refine r_call (As := [.int (f_X4_findMasterPlan z x y)]) (rest := []) (ci := 1) X hP (c_X1_countLoose hp3 (f_X4_findMasterPlan z x y)) o_X1_countLoose rfl hp3.lt hp3.ob m524 ⟨rfl, rfl⟩ ⟨Nat.le_of_ble_eq_true rfl, Nat.le_of_ble_eq_true rfl⟩ rfl hl.1 rfl (Nat.le_of_ble_eq_true rfl) ⟨Nat.zero_le _, Nat.zero_le _⟩ dX5_dropLoose_24 ?_
    refine lv_istore_n (lv' := [(2, .int (f_X1_countLoose y (f_X4_findMasterPlan z x y))), (1, .int (f_X4_findMasterPlan z x y)), (0, .ref (ad b))]) hx hb dX5_dropLoose_27 rfl hl (by decide) rfl (fun ls hl => ?_)
    refine lv_iload_n hx hb dX5_dropLoose_28 rfl (lv_at hl 0 rfl) ?_
    refine lv_if_ne (tgt := 35) hx hb dX5_dropLoose_29 (by decide) (fun c2 => ?_) (fun c2 => ?_)
    · refine lv_aload_n hx hb dX5_dropLoose_35 rfl (lv_at hl 2 rfl) ?_
      refine g_Zo_history X hP hp0 m22 dX5_dropLoose_36 ?_
      refine lv_aload_n hx hb dX5_dropLoose_39 rfl (lv_at hl 2 rfl) ?_
      refine g_Zo_now X hP hp0 m15 dX5_dropLoose_40 ?_
      refine r_callW (As := [.ref (ad (b + 1))]) (rest := []) (ci := 2) X hP hS (c_X2_record hi hp4 hp5 hp6 hp1 hp2 hp3 hsg (by omega)) o_X2_record rfl hp4.lt hp4.ob m98 ⟨rfl, rfl⟩ ⟨Nat.le_of_ble_eq_true rfl, Nat.le_of_ble_eq_true rfl⟩ rfl hl.1 rfl (Nat.le_of_ble_eq_true rfl) ⟨Nat.zero_le _, Nat.zero_le _⟩ dX5_dropLoose_43 (fun V3 H3 locs3 hq hP hS => ?_)
      obtain ⟨hp4, hp5, hp6, h2⟩ := hq
      have hi4_0 := hp4.i0
      have hp0 := hp0.keep (V1 := V3) (fun k h8 h9 => h2 k (by omega))
      have hp1 := hp1.keep (V1 := V3) (fun k h8 h9 => h2 k (by omega))
      have hp2 := hp2.keep (V1 := V3) (fun k h8 h9 => h2 k (by omega))
      have hp3 := hp3.keep (V1 := V3) (fun k h8 h9 => h2 k (by omega))
      have hfr : ∀ k, (k < b + 1 ∨ (b + 58 ≤ k ∧ k < b + 172) ∨ b + 402 ≤ k) → V3 k = V k := fun k hk => (h2 k (by omega)).trans (hfr k hk)
      refine lv_aload_n hx hb dX5_dropLoose_46 rfl (lv_at hl 2 rfl) ?_
      refine g_Zo_now X hP hp0 m15 dX5_dropLoose_47 ?_
      refine g_So_cuts X hP hp1 m446 dX5_dropLoose_50 ?_
      refine lv_iload_n hx hb dX5_dropLoose_53 rfl (lv_at hl 1 rfl) ?_
      refine r_callW (As := [.int (f_X4_findMasterPlan z x y)]) (rest := []) (ci := 1) X hP hS (c_X1_removeLoose hi hp3 (f_X4_findMasterPlan z x y)) o_X1_removeLoose rfl hp3.lt hp3.ob m533 ⟨rfl, rfl⟩ ⟨Nat.le_of_ble_eq_true rfl, Nat.le_of_ble_eq_true rfl⟩ rfl hl.1 rfl (Nat.le_of_ble_eq_true rfl) ⟨Nat.zero_le _, Nat.zero_le _⟩ dX5_dropLoose_54 (fun V4 H4 locs4 hq hP hS => ?_)
      obtain ⟨hp3, h2⟩ := hq
      have hi3_0 := hp3.i0
      have hp0 := hp0.keep (V1 := V4) (fun k h8 h9 => h2 k (by omega))
      have hp1 := hp1.keep (V1 := V4) (fun k h8 h9 => h2 k (by omega))
      have hp2 := hp2.keep (V1 := V4) (fun k h8 h9 => h2 k (by omega))
      have hp4 := hp4.keep (V1 := V4) (fun k h8 h9 => h2 k (by omega))
      have hp5 := hp5.keep (V1 := V4) (fun k h8 h9 => h2 k (by omega))
      have hp6 := hp6.keep (V1 := V4) (fun k h8 h9 => h2 k (by omega))
      have hfr : ∀ k, (k < b + 1 ∨ (b + 58 ≤ k ∧ k < b + 172) ∨ b + 402 ≤ k) → V4 k = V k := fun k hk => (h2 k (by omega)).trans (hfr k hk)
      refine lv_iload_n hx hb dX5_dropLoose_57 rfl (lv_at hl 0 rfl) ?_
      have hfin : f_X5_dropLoose w z x y ho sg hs = (f_X1_countLoose y (f_X4_findMasterPlan z x y), z, x, (f_X1_removeLoose y (f_X4_findMasterPlan z x y)), ((f_X2_record ho sg hs z x y).1), ((f_X2_record ho sg hs z x y).2.1), ((f_X2_record ho sg hs z x y).2.2)) := (by rw [f_X5_dropLoose, if_neg c1, if_neg c2] <;> rfl)
      exact kr 58 ls _ _ _ _ hP hS rfl ⟨by rw [hfin] <;> rfl, by rw [hfin]; exact hp1, by rw [hfin]; exact hp2, by rw [hfin]; exact hp3, by rw [hfin]; exact hp4, by rw [hfin]; exact hp5, by rw [hfin]; exact hp6, hfr⟩ dX5_dropLoose_58
    · refine lv_bipush (v := (-5)) hx hb dX5_dropLoose_32 (by decide) ?_
      have hfin : f_X5_dropLoose w z x y ho sg hs = ((-5), z, x, y, ho, sg, hs) := (by rw [f_X5_dropLoose, if_neg c1, if_pos c2] <;> rfl)
      exact kr 34 ls _ _ _ _ hP hS rfl ⟨by rw [hfin] <;> rfl, by rw [hfin]; exact hp1, by rw [hfin]; exact hp2, by rw [hfin]; exact hp3, by rw [hfin]; exact hp4, by rw [hfin]; exact hp5, by rw [hfin]; exact hp6, hfr⟩ dX5_dropLoose_34
  · refine lv_bipush (v := (-4)) hx hb dX5_dropLoose_13 (by decide) ?_
    have hfin : f_X5_dropLoose w z x y ho sg hs = ((-4), z, x, y, ho, sg, hs) := (by rw [f_X5_dropLoose, if_pos c1] <;> rfl)
    exact kr 15 ls _ _ _ _ hP hS rfl ⟨by rw [hfin] <;> rfl, by rw [hfin]; exact hp1, by rw [hfin]; exact hp2, by rw [hfin]; exact hp3, by rw [hfin]; exact hp4, by rw [hfin]; exact hp5, by rw [hfin]; exact hp6, hfr⟩ dX5_dropLoose_15
theorem o_X5_dropLoose : okV yX5_dropLoose cX5_dropLoose 3 (some .int) 0 := ⟨m520, m521, m2, m522, by decide +kernel, by decide +kernel, by decide +kernel⟩
theorem u_X5_dropLoose_1_0 {w : ZoC} {z : SoC} {x : PlC} {y : CuC} {ho : HoC} {sg : Nat → Nat} {hs : Nat → StC} : uB ((f_X5_dropLoose w z x y ho sg hs).2.1) = uB z := by
  unfold f_X5_dropLoose
  (repeat' split) <;> rfl
theorem u_X5_dropLoose_1_1 {w : ZoC} {z : SoC} {x : PlC} {y : CuC} {ho : HoC} {sg : Nat → Nat} {hs : Nat → StC} : uT ((f_X5_dropLoose w z x y ho sg hs).2.1) = uT z := by
  unfold f_X5_dropLoose
  (repeat' split) <;> rfl
theorem u_X5_dropLoose_2_0 {w : ZoC} {z : SoC} {x : PlC} {y : CuC} {ho : HoC} {sg : Nat → Nat} {hs : Nat → StC} : pN ((f_X5_dropLoose w z x y ho sg hs).2.2.1) = pN x := by
  unfold f_X5_dropLoose
  (repeat' split) <;> rfl
theorem u_X5_dropLoose_2_1 {w : ZoC} {z : SoC} {x : PlC} {y : CuC} {ho : HoC} {sg : Nat → Nat} {hs : Nat → StC} : pM ((f_X5_dropLoose w z x y ho sg hs).2.2.1) = pM x := by
  unfold f_X5_dropLoose
  (repeat' split) <;> rfl
theorem u_X5_dropLoose_2_2 {w : ZoC} {z : SoC} {x : PlC} {y : CuC} {ho : HoC} {sg : Nat → Nat} {hs : Nat → StC} : pO ((f_X5_dropLoose w z x y ho sg hs).2.2.1) = pO x := by
  unfold f_X5_dropLoose
  (repeat' split) <;> rfl
theorem u_X5_dropLoose_2_3 {w : ZoC} {z : SoC} {x : PlC} {y : CuC} {ho : HoC} {sg : Nat → Nat} {hs : Nat → StC} : pP ((f_X5_dropLoose w z x y ho sg hs).2.2.1) = pP x := by
  unfold f_X5_dropLoose
  (repeat' split) <;> rfl
theorem u_X5_dropLoose_2_4 {w : ZoC} {z : SoC} {x : PlC} {y : CuC} {ho : HoC} {sg : Nat → Nat} {hs : Nat → StC} : pD ((f_X5_dropLoose w z x y ho sg hs).2.2.1) = pD x := by
  unfold f_X5_dropLoose
  (repeat' split) <;> rfl
theorem u_X5_dropLoose_2_5 {w : ZoC} {z : SoC} {x : PlC} {y : CuC} {ho : HoC} {sg : Nat → Nat} {hs : Nat → StC} : pR ((f_X5_dropLoose w z x y ho sg hs).2.2.1) = pR x := by
  unfold f_X5_dropLoose
  (repeat' split) <;> rfl
theorem u_X5_dropLoose_2_6 {w : ZoC} {z : SoC} {x : PlC} {y : CuC} {ho : HoC} {sg : Nat → Nat} {hs : Nat → StC} : pE ((f_X5_dropLoose w z x y ho sg hs).2.2.1) = pE x := by
  unfold f_X5_dropLoose
  (repeat' split) <;> rfl
def rmX5_undo : Room := { frames := 4, cells := 0, slots := 0, locals := 88 }
def f_X5_undo (w : ZoC) (z : SoC) (x : PlC) (y : CuC) (ho : HoC) (sg : Nat → Nat) (hs : Nat → StC) : Int32 × SoC × PlC × CuC × HoC × (Nat → Nat) × (Nat → StC) :=
  (if (hA ho) = 0 then ((-5), z, x, y, ho, sg, hs) else (nI (hA ((f_X2_takeLatest ho sg hs z x y).1)), ((f_X2_takeLatest ho sg hs z x y).2.1), ((f_X2_takeLatest ho sg hs z x y).2.2.1), ((f_X2_takeLatest ho sg hs z x y).2.2.2), ((f_X2_takeLatest ho sg hs z x y).1), sg, hs))
set_option maxHeartbeats 4000000 in
set_option maxRecDepth 100000 in
theorem c_X5_undo {l : Launch} {dd : va_G} {t : CL4} {N : Nat} {ad : Nat → Nat} {V : Nat → va_E} {b : Nat} {w : ZoC} {z : SoC} {x : PlC} {y : CuC} {ho : HoC} {sg : Nat → Nat} {hs : Nat → StC}  (hi : inj N ad) (hp0 : ZoP N ad V t b w) (hp1 : SoP N ad V t (b + 1) z) (hp2 : PlP N ad V t (b + 2) x) (hp3 : CuP N ad V t (b + 14) y) (hp4 : HoP N ad V t (b + 172) ho) (hp5 : HaP N ad V t (b + 173) sg) (hp6 : HsP N ad V t (b + 174) hs)  (hsg : ∀ j, j < 4 → sg j < 4) : MM l dd t N ad V yX5_undo cX5_undo 1 (some .int) rmX5_undo [.ref (ad b)] (fun r V1 => (r = (f_X5_undo w z x y ho sg hs).1) ∧ (SoP N ad V1 t (b + 1) ((f_X5_undo w z x y ho sg hs).2.1)) ∧ (PlP N ad V1 t (b + 2) ((f_X5_undo w z x y ho sg hs).2.2.1)) ∧ (CuP N ad V1 t (b + 14) ((f_X5_undo w z x y ho sg hs).2.2.2.1)) ∧ (HoP N ad V1 t (b + 172) ((f_X5_undo w z x y ho sg hs).2.2.2.2.1)) ∧ (HaP N ad V1 t (b + 173) ((f_X5_undo w z x y ho sg hs).2.2.2.2.2.1)) ∧ (HsP N ad V1 t (b + 174) ((f_X5_undo w z x y ho sg hs).2.2.2.2.2.2)) ∧ (∀ k, (k < b + 1 ∨ (b + 58 ≤ k ∧ k < b + 172) ∨ b + 402 ≤ k) → V1 k = V k)) := by
  refine MM.of (by decide +kernel) ⟨rfl, rfl⟩ (Nat.le_of_ble_eq_true rfl) rfl ?_
  intro p e s m as below meth c Q X H hP hS ls hl kr
  have X : WX p s m as c cX5_undo 1 RX5 dd t := X
  have hx := X.1.1
  have hb := X.1.2.1
  have hl : lv_has ls 1 [(0, .ref (ad b))] := hl
  have hi2_0 := hp2.i0
  have hi2_1 := hp2.i1
  have hi3_0 := hp3.i0
  have hi4_0 := hp4.i0
  have hle0 := hp0.le
  have hle1 := hp1.le
  have hle2 := hp2.le
  have hle3 := hp3.le
  have hle4 := hp4.le
  have hle5 := hp5.1
  have hle6 := hp6.1
  have hfr : ∀ k, (k < b + 1 ∨ (b + 58 ≤ k ∧ k < b + 172) ∨ b + 402 ≤ k) → V k = V k := fun _ _ => rfl
  refine lv_aload_n hx hb dX5_undo_0 rfl (lv_at hl 0 rfl) ?_
  refine g_Zo_history X hP hp0 m22 dX5_undo_1 ?_
  refine g_Ho_amount X hP hp4 m574 dX5_undo_4 ?_
  refine z_ne (tgt := 13) hx hb (by omega) dX5_undo_7 (by decide) (fun c1 => ?_) (fun c1 => ?_)
  · refine lv_aload_n hx hb dX5_undo_13 rfl (lv_at hl 0 rfl) ?_
    refine g_Zo_history X hP hp0 m22 dX5_undo_14 ?_
    refine lv_aload_n hx hb dX5_undo_17 rfl (lv_at hl 0 rfl) ?_
    refine g_Zo_now X hP hp0 m15 dX5_undo_18 ?_
    refine r_callW (As := [.ref (ad (b + 1))]) (rest := []) (ci := 2) X hP hS (c_X2_takeLatest hi hp4 hp5 hp6 hp1 hp2 hp3 hsg (by omega)) o_X2_takeLatest rfl hp4.lt hp4.ob m575 ⟨rfl, rfl⟩ ⟨Nat.le_of_ble_eq_true rfl, Nat.le_of_ble_eq_true rfl⟩ rfl hl.1 rfl (Nat.le_of_ble_eq_true rfl) ⟨Nat.zero_le _, Nat.zero_le _⟩ dX5_undo_21 (fun V2 H2 locs2 hq hP hS => ?_)
    obtain ⟨hp4, hp1, hp2, hp3, h2⟩ := hq
    have hi4_0 := hp4.i0
    have hi2_0 := hp2.i0
    have hi2_1 := hp2.i1
    have hi3_0 := hp3.i0
    have hp0 := hp0.keep (V1 := V2) (fun k h8 h9 => h2 k (by omega))
    have hp5 := hp5.keep (V1 := V2) (fun k h8 h9 => h2 k (by omega))
    have hp6 := hp6.keep (V1 := V2) (fun k h8 h9 => h2 k (by omega))
    have hfr : ∀ k, (k < b + 1 ∨ (b + 58 ≤ k ∧ k < b + 172) ∨ b + 402 ≤ k) → V2 k = V k := fun k hk => (h2 k (by omega)).trans (hfr k hk)
    refine lv_aload_n hx hb dX5_undo_24 rfl (lv_at hl 0 rfl) ?_
    refine g_Zo_history X hP hp0 m22 dX5_undo_25 ?_
    refine g_Ho_amount X hP hp4 m574 dX5_undo_28 ?_
    have hfin : f_X5_undo w z x y ho sg hs = (nI (hA ((f_X2_takeLatest ho sg hs z x y).1)), ((f_X2_takeLatest ho sg hs z x y).2.1), ((f_X2_takeLatest ho sg hs z x y).2.2.1), ((f_X2_takeLatest ho sg hs z x y).2.2.2), ((f_X2_takeLatest ho sg hs z x y).1), sg, hs) := (by rw [f_X5_undo, if_neg c1] <;> rfl)
    exact kr 31 ls _ _ _ _ hP hS rfl ⟨by rw [hfin] <;> rfl, by rw [hfin]; exact hp1, by rw [hfin]; exact hp2, by rw [hfin]; exact hp3, by rw [hfin]; exact hp4, by rw [hfin]; exact hp5, by rw [hfin]; exact hp6, hfr⟩ dX5_undo_31
  · refine lv_bipush (v := (-5)) hx hb dX5_undo_10 (by decide) ?_
    have hfin : f_X5_undo w z x y ho sg hs = ((-5), z, x, y, ho, sg, hs) := (by rw [f_X5_undo, if_pos c1] <;> rfl)
    exact kr 12 ls _ _ _ _ hP hS rfl ⟨by rw [hfin] <;> rfl, by rw [hfin]; exact hp1, by rw [hfin]; exact hp2, by rw [hfin]; exact hp3, by rw [hfin]; exact hp4, by rw [hfin]; exact hp5, by rw [hfin]; exact hp6, hfr⟩ dX5_undo_12
theorem o_X5_undo : okV yX5_undo cX5_undo 1 (some .int) 0 := ⟨m571, m572, m2, m573, by decide +kernel, by decide +kernel, by decide +kernel⟩
def rmX5_step : Room := { frames := 7, cells := 0, slots := 0, locals := 160 }
def f_X5_step (w : ZoC) (z : SoC) (x : PlC) (y : CuC) (ho : HoC) (sg : Nat → Nat) (hs : Nat → StC) (z1 : SoC) (x1 : PlC) (y1 : CuC) (nu : Nat → Int32) : Int32 × SoC × PlC × CuC × HoC × (Nat → Nat) × (Nat → StC) × SoC × PlC × CuC × (Nat → Int32) :=
  (if ((f_X4_makeStep z x y nu).1) < 0 then ((f_X4_makeStep z x y nu).1, ((f_X4_makeStep z x y nu).2.1), x, ((f_X4_makeStep z x y nu).2.2.1), ho, sg, hs, ((f_X4_copyFrom z1 x1 y1 z x y).1), ((f_X4_copyFrom z1 x1 y1 z x y).2.1), ((f_X4_copyFrom z1 x1 y1 z x y).2.2), ((f_X4_makeStep z x y nu).2.2.2)) else ((f_X4_makeStep z x y nu).1, ((f_X4_makeStep z x y nu).2.1), x, ((f_X4_makeStep z x y nu).2.2.1), ((f_X2_record ho sg hs ((f_X4_copyFrom z1 x1 y1 z x y).1) ((f_X4_copyFrom z1 x1 y1 z x y).2.1) ((f_X4_copyFrom z1 x1 y1 z x y).2.2)).1), ((f_X2_record ho sg hs ((f_X4_copyFrom z1 x1 y1 z x y).1) ((f_X4_copyFrom z1 x1 y1 z x y).2.1) ((f_X4_copyFrom z1 x1 y1 z x y).2.2)).2.1), ((f_X2_record ho sg hs ((f_X4_copyFrom z1 x1 y1 z x y).1) ((f_X4_copyFrom z1 x1 y1 z x y).2.1) ((f_X4_copyFrom z1 x1 y1 z x y).2.2)).2.2), ((f_X4_copyFrom z1 x1 y1 z x y).1), ((f_X4_copyFrom z1 x1 y1 z x y).2.1), ((f_X4_copyFrom z1 x1 y1 z x y).2.2), ((f_X4_makeStep z x y nu).2.2.2)))
set_option maxHeartbeats 4000000 in
set_option maxRecDepth 100000 in
theorem c_X5_step {l : Launch} {dd : va_G} {t : CL4} {N : Nat} {ad : Nat → Nat} {V : Nat → va_E} {b : Nat} {w : ZoC} {z : SoC} {x : PlC} {y : CuC} {ho : HoC} {sg : Nat → Nat} {hs : Nat → StC} {z1 : SoC} {x1 : PlC} {y1 : CuC} {nu : Nat → Int32}  (hi : inj N ad) (hp0 : ZoP N ad V t b w) (hp1 : SoP N ad V t (b + 1) z) (hp2 : PlP N ad V t (b + 2) x) (hp3 : CuP N ad V t (b + 14) y) (hp4 : HoP N ad V t (b + 172) ho) (hp5 : HaP N ad V t (b + 173) sg) (hp6 : HsP N ad V t (b + 174) hs) (hp7 : SoP N ad V t (b + 58) z1) (hp8 : PlP N ad V t (b + 59) x1) (hp9 : CuP N ad V t (b + 71) y1) (hp10 : NuP N V t (b + 404) nu)  (hsg : ∀ j, j < 4 → sg j < 4) : MM l dd t N ad V yX5_step cX5_step 2 (some .int) rmX5_step [.ref (ad b)] (fun r V1 => (r = (f_X5_step w z x y ho sg hs z1 x1 y1 nu).1) ∧ (SoP N ad V1 t (b + 1) ((f_X5_step w z x y ho sg hs z1 x1 y1 nu).2.1)) ∧ (PlP N ad V1 t (b + 2) ((f_X5_step w z x y ho sg hs z1 x1 y1 nu).2.2.1)) ∧ (CuP N ad V1 t (b + 14) ((f_X5_step w z x y ho sg hs z1 x1 y1 nu).2.2.2.1)) ∧ (HoP N ad V1 t (b + 172) ((f_X5_step w z x y ho sg hs z1 x1 y1 nu).2.2.2.2.1)) ∧ (HaP N ad V1 t (b + 173) ((f_X5_step w z x y ho sg hs z1 x1 y1 nu).2.2.2.2.2.1)) ∧ (HsP N ad V1 t (b + 174) ((f_X5_step w z x y ho sg hs z1 x1 y1 nu).2.2.2.2.2.2.1)) ∧ (SoP N ad V1 t (b + 58) ((f_X5_step w z x y ho sg hs z1 x1 y1 nu).2.2.2.2.2.2.2.1)) ∧ (PlP N ad V1 t (b + 59) ((f_X5_step w z x y ho sg hs z1 x1 y1 nu).2.2.2.2.2.2.2.2.1)) ∧ (CuP N ad V1 t (b + 71) ((f_X5_step w z x y ho sg hs z1 x1 y1 nu).2.2.2.2.2.2.2.2.2.1)) ∧ (NuP N V1 t (b + 404) ((f_X5_step w z x y ho sg hs z1 x1 y1 nu).2.2.2.2.2.2.2.2.2.2)) ∧ (∀ k, (k < b + 1 ∨ (b + 115 ≤ k ∧ k < b + 172) ∨ (b + 402 ≤ k ∧ k < b + 404) ∨ b + 405 ≤ k) → V1 k = V k)) := by
  refine MM.of (by decide +kernel) ⟨rfl, rfl⟩ (Nat.le_of_ble_eq_true rfl) rfl ?_
  intro p e s m as below meth c Q X H hP hS ls hl kr
  have X : WX p s m as c cX5_step 2 RX5 dd t := X
  have hx := X.1.1
  have hb := X.1.2.1
  have hl : lv_has ls 2 [(0, .ref (ad b))] := hl
  have hi2_0 := hp2.i0
  have hi2_1 := hp2.i1
  have hi3_0 := hp3.i0
  have hi4_0 := hp4.i0
  have hi8_0 := hp8.i0
  have hi8_1 := hp8.i1
  have hi9_0 := hp9.i0
  have hle0 := hp0.le
  have hle1 := hp1.le
  have hle2 := hp2.le
  have hle3 := hp3.le
  have hle4 := hp4.le
  have hle5 := hp5.1
  have hle6 := hp6.1
  have hle7 := hp7.le
  have hle8 := hp8.le
  have hle9 := hp9.le
  have hle10 := hp10.1
  have hfr : ∀ k, (k < b + 1 ∨ (b + 115 ≤ k ∧ k < b + 172) ∨ (b + 402 ≤ k ∧ k < b + 404) ∨ b + 405 ≤ k) → V k = V k := fun _ _ => rfl
  refine lv_aload_n hx hb dX5_step_0 rfl (lv_at hl 0 rfl) ?_
  refine g_Zo_before X hP hp0 m16 dX5_step_1 ?_
  refine lv_aload_n hx hb dX5_step_4 rfl (lv_at hl 0 rfl) ?_
  refine g_Zo_now X hP hp0 m15 dX5_step_5 ?_
  refine r_callW (As := [.ref (ad (b + 1))]) (rest := []) (ci := 4) X hP hS (c_X4_copyFrom hi hp7 hp8 hp9 hp1 hp2 hp3 (by omega)) o_X4_copyFrom rfl hp7.lt hp7.ob m271 ⟨rfl, rfl⟩ ⟨Nat.le_of_ble_eq_true rfl, Nat.le_of_ble_eq_true rfl⟩ rfl hl.1 rfl (Nat.le_of_ble_eq_true rfl) ⟨Nat.zero_le _, Nat.zero_le _⟩ dX5_step_8 (fun V1 H1 locs1 hq hP hS => ?_)
  obtain ⟨hp7, hp8, hp9, h2⟩ := hq
  have hi8_0 := hp8.i0
  have hi8_1 := hp8.i1
  have hi9_0 := hp9.i0
  have hp0 := hp0.keep (V1 := V1) (fun k h8 h9 => h2 k (by omega))
  have hp1 := hp1.keep (V1 := V1) (fun k h8 h9 => h2 k (by omega))
  have hp2 := hp2.keep (V1 := V1) (fun k h8 h9 => h2 k (by omega))
  have hp3 := hp3.keep (V1 := V1) (fun k h8 h9 => h2 k (by omega))
  have hp4 := hp4.keep (V1 := V1) (fun k h8 h9 => h2 k (by omega))
  have hp5 := hp5.keep (V1 := V1) (fun k h8 h9 => h2 k (by omega))
  have hp6 := hp6.keep (V1 := V1) (fun k h8 h9 => h2 k (by omega))
  have hp10 := hp10.keep (V1 := V1) (fun k h8 h9 => h2 k (by omega))
  have hfr : ∀ k, (k < b + 1 ∨ (b + 115 ≤ k ∧ k < b + 172) ∨ (b + 402 ≤ k ∧ k < b + 404) ∨ b + 405 ≤ k) → V1 k = V k := fun k hk => (h2 k (by omega)).trans (hfr k hk)
  refine lv_aload_n hx hb dX5_step_11 rfl (lv_at hl 0 rfl) ?_
  refine g_Zo_now X hP hp0 m15 dX5_step_12 ?_
  refine lv_aload_n hx hb dX5_step_15 rfl (lv_at hl 0 rfl) ?_
  refine g_Zo_numbers X hP hp0 m28 dX5_step_16 ?_
  refine r_callM (As := [.ref (ad (b + 404))]) (rest := []) (ci := 4) X hP hS (c_X4_makeStep hi hp1 hp2 hp3 hp10 (by omega)) o_X4_makeStep rfl hp1.lt hp1.ob m272 ⟨rfl, rfl⟩ ⟨Nat.le_of_ble_eq_true rfl, Nat.le_of_ble_eq_true rfl⟩ rfl hl.1 rfl (Nat.le_of_ble_eq_true rfl) ⟨Nat.zero_le _, Nat.zero_le _⟩ dX5_step_19 (fun r V2 H2 locs2 hq hP hS => ?_)
  obtain ⟨hr, hp1, hp3, hp10, h2⟩ := hq
  subst hr
  have hi3_0 := hp3.i0
  have hp0 := hp0.keep (V1 := V2) (fun k h8 h9 => h2 k (by omega))
  have hp2 := hp2.keep (V1 := V2) (fun k h8 h9 => h2 k (by omega))
  have hp4 := hp4.keep (V1 := V2) (fun k h8 h9 => h2 k (by omega))
  have hp5 := hp5.keep (V1 := V2) (fun k h8 h9 => h2 k (by omega))
  have hp6 := hp6.keep (V1 := V2) (fun k h8 h9 => h2 k (by omega))
  have hp7 := hp7.keep (V1 := V2) (fun k h8 h9 => h2 k (by omega))
  have hp8 := hp8.keep (V1 := V2) (fun k h8 h9 => h2 k (by omega))
  have hp9 := hp9.keep (V1 := V2) (fun k h8 h9 => h2 k (by omega))
  have hfr : ∀ k, (k < b + 1 ∨ (b + 115 ≤ k ∧ k < b + 172) ∨ (b + 402 ≤ k ∧ k < b + 404) ∨ b + 405 ≤ k) → V2 k = V k := fun k hk => (h2 k (by omega)).trans (hfr k hk)
  refine lv_istore_n (lv' := [(1, .int ((f_X4_makeStep z x y nu).1)), (0, .ref (ad b))]) hx hb dX5_step_22 rfl hl (by decide) rfl (fun ls hl => ?_)
  refine lv_iload_n hx hb dX5_step_23 rfl (lv_at hl 0 rfl) ?_
  refine u_ge (tgt := 29) hx hb dX5_step_24 (by decide) (fun c3 => ?_) (fun c3 => ?_)
  · refine lv_aload_n hx hb dX5_step_29 rfl (lv_at hl 1 rfl) ?_
    refine g_Zo_history X hP hp0 m22 dX5_step_30 ?_
    refine lv_aload_n hx hb dX5_step_33 rfl (lv_at hl 1 rfl) ?_
    refine g_Zo_before X hP hp0 m16 dX5_step_34 ?_
    refine r_callW (As := [.ref (ad (b + 58))]) (rest := []) (ci := 2) X hP hS (c_X2_record hi hp4 hp5 hp6 hp7 hp8 hp9 hsg (by omega)) o_X2_record rfl hp4.lt hp4.ob m98 ⟨rfl, rfl⟩ ⟨Nat.le_of_ble_eq_true rfl, Nat.le_of_ble_eq_true rfl⟩ rfl hl.1 rfl (Nat.le_of_ble_eq_true rfl) ⟨Nat.zero_le _, Nat.zero_le _⟩ dX5_step_37 (fun V4 H4 locs4 hq hP hS => ?_)
    obtain ⟨hp4, hp5, hp6, h2⟩ := hq
    have hi4_0 := hp4.i0
    have hp0 := hp0.keep (V1 := V4) (fun k h8 h9 => h2 k (by omega))
    have hp1 := hp1.keep (V1 := V4) (fun k h8 h9 => h2 k (by omega))
    have hp2 := hp2.keep (V1 := V4) (fun k h8 h9 => h2 k (by omega))
    have hp3 := hp3.keep (V1 := V4) (fun k h8 h9 => h2 k (by omega))
    have hp7 := hp7.keep (V1 := V4) (fun k h8 h9 => h2 k (by omega))
    have hp8 := hp8.keep (V1 := V4) (fun k h8 h9 => h2 k (by omega))
    have hp9 := hp9.keep (V1 := V4) (fun k h8 h9 => h2 k (by omega))
    have hp10 := hp10.keep (V1 := V4) (fun k h8 h9 => h2 k (by omega))
    have hfr : ∀ k, (k < b + 1 ∨ (b + 115 ≤ k ∧ k < b + 172) ∨ (b + 402 ≤ k ∧ k < b + 404) ∨ b + 405 ≤ k) → V4 k = V k := fun k hk => (h2 k (by omega)).trans (hfr k hk)
    refine lv_iload_n hx hb dX5_step_40 rfl (lv_at hl 0 rfl) ?_
    have hfin : f_X5_step w z x y ho sg hs z1 x1 y1 nu = ((f_X4_makeStep z x y nu).1, ((f_X4_makeStep z x y nu).2.1), x, ((f_X4_makeStep z x y nu).2.2.1), ((f_X2_record ho sg hs ((f_X4_copyFrom z1 x1 y1 z x y).1) ((f_X4_copyFrom z1 x1 y1 z x y).2.1) ((f_X4_copyFrom z1 x1 y1 z x y).2.2)).1), ((f_X2_record ho sg hs ((f_X4_copyFrom z1 x1 y1 z x y).1) ((f_X4_copyFrom z1 x1 y1 z x y).2.1) ((f_X4_copyFrom z1 x1 y1 z x y).2.2)).2.1), ((f_X2_record ho sg hs ((f_X4_copyFrom z1 x1 y1 z x y).1) ((f_X4_copyFrom z1 x1 y1 z x y).2.1) ((f_X4_copyFrom z1 x1 y1 z x y).2.2)).2.2), ((f_X4_copyFrom z1 x1 y1 z x y).1), ((f_X4_copyFrom z1 x1 y1 z x y).2.1), ((f_X4_copyFrom z1 x1 y1 z x y).2.2), ((f_X4_makeStep z x y nu).2.2.2)) := (by rw [f_X5_step, if_neg c3] <;> rfl)
    exact kr 41 ls _ _ _ _ hP hS rfl ⟨by rw [hfin] <;> rfl, by rw [hfin]; exact hp1, by rw [hfin]; exact hp2, by rw [hfin]; exact hp3, by rw [hfin]; exact hp4, by rw [hfin]; exact hp5, by rw [hfin]; exact hp6, by rw [hfin]; exact hp7, by rw [hfin]; exact hp8, by rw [hfin]; exact hp9, by rw [hfin]; exact hp10, hfr⟩ dX5_step_41
  · refine lv_iload_n hx hb dX5_step_27 rfl (lv_at hl 0 rfl) ?_
    have hfin : f_X5_step w z x y ho sg hs z1 x1 y1 nu = ((f_X4_makeStep z x y nu).1, ((f_X4_makeStep z x y nu).2.1), x, ((f_X4_makeStep z x y nu).2.2.1), ho, sg, hs, ((f_X4_copyFrom z1 x1 y1 z x y).1), ((f_X4_copyFrom z1 x1 y1 z x y).2.1), ((f_X4_copyFrom z1 x1 y1 z x y).2.2), ((f_X4_makeStep z x y nu).2.2.2)) := (by rw [f_X5_step, if_pos c3] <;> rfl)
    exact kr 28 ls _ _ _ _ hP hS rfl ⟨by rw [hfin] <;> rfl, by rw [hfin]; exact hp1, by rw [hfin]; exact hp2, by rw [hfin]; exact hp3, by rw [hfin]; exact hp4, by rw [hfin]; exact hp5, by rw [hfin]; exact hp6, by rw [hfin]; exact hp7, by rw [hfin]; exact hp8, by rw [hfin]; exact hp9, by rw [hfin]; exact hp10, hfr⟩ dX5_step_28
theorem o_X5_step : okV yX5_step cX5_step 2 (some .int) 0 := ⟨m268, m269, m2, m270, by decide +kernel, by decide +kernel, by decide +kernel⟩
theorem u_X5_step_2_0 {w : ZoC} {z : SoC} {x : PlC} {y : CuC} {ho : HoC} {sg : Nat → Nat} {hs : Nat → StC} {z1 : SoC} {x1 : PlC} {y1 : CuC} {nu : Nat → Int32} : pN ((f_X5_step w z x y ho sg hs z1 x1 y1 nu).2.2.1) = pN x := by
  unfold f_X5_step
  (repeat' split) <;> rfl
theorem u_X5_step_2_1 {w : ZoC} {z : SoC} {x : PlC} {y : CuC} {ho : HoC} {sg : Nat → Nat} {hs : Nat → StC} {z1 : SoC} {x1 : PlC} {y1 : CuC} {nu : Nat → Int32} : pM ((f_X5_step w z x y ho sg hs z1 x1 y1 nu).2.2.1) = pM x := by
  unfold f_X5_step
  (repeat' split) <;> rfl
theorem u_X5_step_2_2 {w : ZoC} {z : SoC} {x : PlC} {y : CuC} {ho : HoC} {sg : Nat → Nat} {hs : Nat → StC} {z1 : SoC} {x1 : PlC} {y1 : CuC} {nu : Nat → Int32} : pO ((f_X5_step w z x y ho sg hs z1 x1 y1 nu).2.2.1) = pO x := by
  unfold f_X5_step
  (repeat' split) <;> rfl
theorem u_X5_step_2_3 {w : ZoC} {z : SoC} {x : PlC} {y : CuC} {ho : HoC} {sg : Nat → Nat} {hs : Nat → StC} {z1 : SoC} {x1 : PlC} {y1 : CuC} {nu : Nat → Int32} : pP ((f_X5_step w z x y ho sg hs z1 x1 y1 nu).2.2.1) = pP x := by
  unfold f_X5_step
  (repeat' split) <;> rfl
theorem u_X5_step_2_4 {w : ZoC} {z : SoC} {x : PlC} {y : CuC} {ho : HoC} {sg : Nat → Nat} {hs : Nat → StC} {z1 : SoC} {x1 : PlC} {y1 : CuC} {nu : Nat → Int32} : pD ((f_X5_step w z x y ho sg hs z1 x1 y1 nu).2.2.1) = pD x := by
  unfold f_X5_step
  (repeat' split) <;> rfl
theorem u_X5_step_2_5 {w : ZoC} {z : SoC} {x : PlC} {y : CuC} {ho : HoC} {sg : Nat → Nat} {hs : Nat → StC} {z1 : SoC} {x1 : PlC} {y1 : CuC} {nu : Nat → Int32} : pR ((f_X5_step w z x y ho sg hs z1 x1 y1 nu).2.2.1) = pR x := by
  unfold f_X5_step
  (repeat' split) <;> rfl
theorem u_X5_step_2_6 {w : ZoC} {z : SoC} {x : PlC} {y : CuC} {ho : HoC} {sg : Nat → Nat} {hs : Nat → StC} {z1 : SoC} {x1 : PlC} {y1 : CuC} {nu : Nat → Int32} : pE ((f_X5_step w z x y ho sg hs z1 x1 y1 nu).2.2.1) = pE x := by
  unfold f_X5_step
  (repeat' split) <;> rfl
def rmX5_readCut : Room := { frames := 4, cells := 0, slots := 0, locals := 88 }
def f_X5_readCut (w : ZoC) (z : SoC) (x : PlC) (y : CuC) (ho : HoC) (sg : Nat → Nat) (hs : Nat → StC) (tx : TxC) (nu : Nat → Int32) : Int32 × SoC × PlC × CuC × HoC × (Nat → Nat) × (Nat → StC) × (Nat → Int32) :=
  (if (pM x) = 0 then ((-4), z, x, y, ho, sg, hs, nu) else (if ((f_X0_readNumbers tx nu (pM x)).1) = (-1) then (if (f_X1_isFull y) = true then ((-3), z, x, y, ho, sg, hs, ((f_X0_readNumbers tx nu (pM x)).2)) else ((f_X1_appendPriceCut y x ((f_X0_readNumbers tx nu (pM x)).2)).1, z, x, ((f_X1_appendPriceCut y x ((f_X0_readNumbers tx nu (pM x)).2)).2), ((f_X2_record ho sg hs z x y).1), ((f_X2_record ho sg hs z x y).2.1), ((f_X2_record ho sg hs z x y).2.2), ((f_X0_readNumbers tx nu (pM x)).2))) else ((-100) - ((f_X0_readNumbers tx nu (pM x)).1), z, x, y, ho, sg, hs, ((f_X0_readNumbers tx nu (pM x)).2))))
set_option maxHeartbeats 4000000 in
set_option maxRecDepth 100000 in
theorem c_X5_readCut {l : Launch} {dd : va_G} {t : CL4} {N : Nat} {ad : Nat → Nat} {V : Nat → va_E} {b : Nat} {w : ZoC} {z : SoC} {x : PlC} {y : CuC} {ho : HoC} {sg : Nat → Nat} {hs : Nat → StC} {tx : TxC} {nu : Nat → Int32}  (hi : inj N ad) (hp0 : ZoP N ad V t b w) (hp1 : SoP N ad V t (b + 1) z) (hp2 : PlP N ad V t (b + 2) x) (hp3 : CuP N ad V t (b + 14) y) (hp4 : HoP N ad V t (b + 172) ho) (hp5 : HaP N ad V t (b + 173) sg) (hp6 : HsP N ad V t (b + 174) hs) (hp7 : TxP N ad V t (b + 402) tx) (hp8 : NuP N V t (b + 404) nu)  (hsg : ∀ j, j < 4 → sg j < 4) : MM l dd t N ad V yX5_readCut cX5_readCut 2 (some .int) rmX5_readCut [.ref (ad b)] (fun r V1 => (r = (f_X5_readCut w z x y ho sg hs tx nu).1) ∧ (SoP N ad V1 t (b + 1) ((f_X5_readCut w z x y ho sg hs tx nu).2.1)) ∧ (PlP N ad V1 t (b + 2) ((f_X5_readCut w z x y ho sg hs tx nu).2.2.1)) ∧ (CuP N ad V1 t (b + 14) ((f_X5_readCut w z x y ho sg hs tx nu).2.2.2.1)) ∧ (HoP N ad V1 t (b + 172) ((f_X5_readCut w z x y ho sg hs tx nu).2.2.2.2.1)) ∧ (HaP N ad V1 t (b + 173) ((f_X5_readCut w z x y ho sg hs tx nu).2.2.2.2.2.1)) ∧ (HsP N ad V1 t (b + 174) ((f_X5_readCut w z x y ho sg hs tx nu).2.2.2.2.2.2.1)) ∧ (NuP N V1 t (b + 404) ((f_X5_readCut w z x y ho sg hs tx nu).2.2.2.2.2.2.2)) ∧ (∀ k, (k < b + 1 ∨ (b + 58 ≤ k ∧ k < b + 172) ∨ (b + 402 ≤ k ∧ k < b + 404) ∨ b + 405 ≤ k) → V1 k = V k)) := by
  refine MM.of (by decide +kernel) ⟨rfl, rfl⟩ (Nat.le_of_ble_eq_true rfl) rfl ?_
  intro p e s m as below meth c Q X H hP hS ls hl kr
  have X : WX p s m as c cX5_readCut 2 RX5 dd t := X
  have hx := X.1.1
  have hb := X.1.2.1
  have hl : lv_has ls 2 [(0, .ref (ad b))] := hl
  have hi2_0 := hp2.i0
  have hi2_1 := hp2.i1
  have hi3_0 := hp3.i0
  have hi4_0 := hp4.i0
  have hi7_0 := hp7.i0
  have hle0 := hp0.le
  have hle1 := hp1.le
  have hle2 := hp2.le
  have hle3 := hp3.le
  have hle4 := hp4.le
  have hle5 := hp5.1
  have hle6 := hp6.1
  have hle7 := hp7.le
  have hle8 := hp8.1
  have hfr : ∀ k, (k < b + 1 ∨ (b + 58 ≤ k ∧ k < b + 172) ∨ (b + 402 ≤ k ∧ k < b + 404) ∨ b + 405 ≤ k) → V k = V k := fun _ _ => rfl
  refine lv_aload_n hx hb dX5_readCut_0 rfl (lv_at hl 0 rfl) ?_
  refine g_Zo_now X hP hp0 m15 dX5_readCut_1 ?_
  refine g_So_places X hP hp1 m93 dX5_readCut_4 ?_
  refine g_Pl_customerCount X hP hp2 m163 dX5_readCut_7 ?_
  refine z_ne (tgt := 16) hx hb (by omega) dX5_readCut_10 (by decide) (fun c1 => ?_) (fun c1 => ?_)
  · refine lv_aload_n hx hb dX5_readCut_16 rfl (lv_at hl 0 rfl) ?_
    refine g_Zo_text X hP hp0 m26 dX5_readCut_17 ?_
    refine lv_aload_n hx hb dX5_readCut_20 rfl (lv_at hl 0 rfl) ?_
    refine g_Zo_numbers X hP hp0 m28 dX5_readCut_21 ?_
    refine lv_aload_n hx hb dX5_readCut_24 rfl (lv_at hl 0 rfl) ?_
    refine g_Zo_now X hP hp0 m15 dX5_readCut_25 ?_
    refine g_So_places X hP hp1 m93 dX5_readCut_28 ?_
    refine g_Pl_customerCount X hP hp2 m163 dX5_readCut_31 ?_
    refine r_callM (As := [.ref (ad (b + 404)), .int (nI (pM x))]) (rest := []) (ci := 0) X hP hS (c_X0_readNumbers hi hp7 hp8 (pM x) (by omega) (by omega)) o_X0_readNumbers rfl hp7.lt hp7.ob m463 ⟨rfl, rfl⟩ ⟨Nat.le_of_ble_eq_true rfl, Nat.le_of_ble_eq_true rfl⟩ rfl hl.1 rfl (Nat.le_of_ble_eq_true rfl) ⟨Nat.zero_le _, Nat.zero_le _⟩ dX5_readCut_34 (fun r V2 H2 locs2 hq hP hS => ?_)
    obtain ⟨hr, hp8, h2⟩ := hq
    subst hr
    have hp0 := hp0.keep (V1 := V2) (fun k h8 h9 => h2 k (by omega))
    have hp1 := hp1.keep (V1 := V2) (fun k h8 h9 => h2 k (by omega))
    have hp2 := hp2.keep (V1 := V2) (fun k h8 h9 => h2 k (by omega))
    have hp3 := hp3.keep (V1 := V2) (fun k h8 h9 => h2 k (by omega))
    have hp4 := hp4.keep (V1 := V2) (fun k h8 h9 => h2 k (by omega))
    have hp5 := hp5.keep (V1 := V2) (fun k h8 h9 => h2 k (by omega))
    have hp6 := hp6.keep (V1 := V2) (fun k h8 h9 => h2 k (by omega))
    have hp7 := hp7.keep (V1 := V2) (fun k h8 h9 => h2 k (by omega))
    have hfr : ∀ k, (k < b + 1 ∨ (b + 58 ≤ k ∧ k < b + 172) ∨ (b + 402 ≤ k ∧ k < b + 404) ∨ b + 405 ≤ k) → V2 k = V k := fun k hk => (h2 k (by omega)).trans (hfr k hk)
    refine lv_istore_n (lv' := [(1, .int ((f_X0_readNumbers tx nu (pM x)).1)), (0, .ref (ad b))]) hx hb dX5_readCut_37 rfl hl (by decide) rfl (fun ls hl => ?_)
    refine lv_iload_n hx hb dX5_readCut_38 rfl (lv_at hl 0 rfl) ?_
    refine lv_iconst (v := (-1)) hx hb dX5_readCut_39 (by decide) ?_
    refine lv_icmp_eq (tgt := 48) hx hb dX5_readCut_40 (by decide) (fun c3 => ?_) (fun c3 => ?_)
    · refine lv_aload_n hx hb dX5_readCut_48 rfl (lv_at hl 1 rfl) ?_
      refine g_Zo_now X hP hp0 m15 dX5_readCut_49 ?_
      refine g_So_cuts X hP hp1 m446 dX5_readCut_52 ?_
      refine r_call (As := []) (rest := []) (ci := 1) X hP (c_X1_isFull hp3) o_X1_isFull rfl hp3.lt hp3.ob m479 ⟨rfl, rfl⟩ ⟨Nat.le_of_ble_eq_true rfl, Nat.le_of_ble_eq_true rfl⟩ rfl hl.1 rfl (Nat.le_of_ble_eq_true rfl) ⟨Nat.zero_le _, Nat.zero_le _⟩ dX5_readCut_55 ?_
      refine q_eqB (tgt := 64) hx hb dX5_readCut_58 (by decide) (fun c4 => ?_) (fun c4 => ?_)
      · refine lv_aload_n hx hb dX5_readCut_64 rfl (lv_at hl 1 rfl) ?_
        refine g_Zo_history X hP hp0 m22 dX5_readCut_65 ?_
        refine lv_aload_n hx hb dX5_readCut_68 rfl (lv_at hl 1 rfl) ?_
        refine g_Zo_now X hP hp0 m15 dX5_readCut_69 ?_
        refine r_callW (As := [.ref (ad (b + 1))]) (rest := []) (ci := 2) X hP hS (c_X2_record hi hp4 hp5 hp6 hp1 hp2 hp3 hsg (by omega)) o_X2_record rfl hp4.lt hp4.ob m98 ⟨rfl, rfl⟩ ⟨Nat.le_of_ble_eq_true rfl, Nat.le_of_ble_eq_true rfl⟩ rfl hl.1 rfl (Nat.le_of_ble_eq_true rfl) ⟨Nat.zero_le _, Nat.zero_le _⟩ dX5_readCut_72 (fun V5 H5 locs5 hq hP hS => ?_)
        obtain ⟨hp4, hp5, hp6, h2⟩ := hq
        have hi4_0 := hp4.i0
        have hp0 := hp0.keep (V1 := V5) (fun k h8 h9 => h2 k (by omega))
        have hp1 := hp1.keep (V1 := V5) (fun k h8 h9 => h2 k (by omega))
        have hp2 := hp2.keep (V1 := V5) (fun k h8 h9 => h2 k (by omega))
        have hp3 := hp3.keep (V1 := V5) (fun k h8 h9 => h2 k (by omega))
        have hp7 := hp7.keep (V1 := V5) (fun k h8 h9 => h2 k (by omega))
        have hp8 := hp8.keep (V1 := V5) (fun k h8 h9 => h2 k (by omega))
        have hfr : ∀ k, (k < b + 1 ∨ (b + 58 ≤ k ∧ k < b + 172) ∨ (b + 402 ≤ k ∧ k < b + 404) ∨ b + 405 ≤ k) → V5 k = V k := fun k hk => (h2 k (by omega)).trans (hfr k hk)
        refine lv_aload_n hx hb dX5_readCut_75 rfl (lv_at hl 1 rfl) ?_
        refine g_Zo_now X hP hp0 m15 dX5_readCut_76 ?_
        refine g_So_cuts X hP hp1 m446 dX5_readCut_79 ?_
        refine lv_aload_n hx hb dX5_readCut_82 rfl (lv_at hl 1 rfl) ?_
        refine g_Zo_now X hP hp0 m15 dX5_readCut_83 ?_
        refine g_So_places X hP hp1 m93 dX5_readCut_86 ?_
        refine lv_aload_n hx hb dX5_readCut_89 rfl (lv_at hl 1 rfl) ?_
        refine g_Zo_numbers X hP hp0 m28 dX5_readCut_90 ?_
        refine r_callM (As := [.ref (ad (b + 1 + 1)), .ref (ad (b + 404))]) (rest := []) (ci := 1) X hP hS (c_X1_appendPriceCut hi hp3 hp2 hp8 (by omega) (by omega)) o_X1_appendPriceCut rfl hp3.lt hp3.ob m480 ⟨rfl, rfl⟩ ⟨Nat.le_of_ble_eq_true rfl, Nat.le_of_ble_eq_true rfl⟩ rfl hl.1 rfl (Nat.le_of_ble_eq_true rfl) ⟨Nat.zero_le _, Nat.zero_le _⟩ dX5_readCut_93 (fun r V6 H6 locs6 hq hP hS => ?_)
        obtain ⟨hr, hp3, h2⟩ := hq
        subst hr
        have hi3_0 := hp3.i0
        have hp0 := hp0.keep (V1 := V6) (fun k h8 h9 => h2 k (by omega))
        have hp1 := hp1.keep (V1 := V6) (fun k h8 h9 => h2 k (by omega))
        have hp2 := hp2.keep (V1 := V6) (fun k h8 h9 => h2 k (by omega))
        have hp4 := hp4.keep (V1 := V6) (fun k h8 h9 => h2 k (by omega))
        have hp5 := hp5.keep (V1 := V6) (fun k h8 h9 => h2 k (by omega))
        have hp6 := hp6.keep (V1 := V6) (fun k h8 h9 => h2 k (by omega))
        have hp7 := hp7.keep (V1 := V6) (fun k h8 h9 => h2 k (by omega))
        have hp8 := hp8.keep (V1 := V6) (fun k h8 h9 => h2 k (by omega))
        have hfr : ∀ k, (k < b + 1 ∨ (b + 58 ≤ k ∧ k < b + 172) ∨ (b + 402 ≤ k ∧ k < b + 404) ∨ b + 405 ≤ k) → V6 k = V k := fun k hk => (h2 k (by omega)).trans (hfr k hk)
        have hfin : f_X5_readCut w z x y ho sg hs tx nu = ((f_X1_appendPriceCut y x ((f_X0_readNumbers tx nu (pM x)).2)).1, z, x, ((f_X1_appendPriceCut y x ((f_X0_readNumbers tx nu (pM x)).2)).2), ((f_X2_record ho sg hs z x y).1), ((f_X2_record ho sg hs z x y).2.1), ((f_X2_record ho sg hs z x y).2.2), ((f_X0_readNumbers tx nu (pM x)).2)) := (by rw [f_X5_readCut, if_neg c1, if_pos c3, if_neg (nt c4)] <;> rfl)
        exact kr 96 ls _ _ _ _ hP hS rfl ⟨by rw [hfin] <;> rfl, by rw [hfin]; exact hp1, by rw [hfin]; exact hp2, by rw [hfin]; exact hp3, by rw [hfin]; exact hp4, by rw [hfin]; exact hp5, by rw [hfin]; exact hp6, by rw [hfin]; exact hp8, hfr⟩ dX5_readCut_96
      · refine lv_bipush (v := (-3)) hx hb dX5_readCut_61 (by decide) ?_
        have hfin : f_X5_readCut w z x y ho sg hs tx nu = ((-3), z, x, y, ho, sg, hs, ((f_X0_readNumbers tx nu (pM x)).2)) := (by rw [f_X5_readCut, if_neg c1, if_pos c3, if_pos c4] <;> rfl)
        exact kr 63 ls _ _ _ _ hP hS rfl ⟨by rw [hfin] <;> rfl, by rw [hfin]; exact hp1, by rw [hfin]; exact hp2, by rw [hfin]; exact hp3, by rw [hfin]; exact hp4, by rw [hfin]; exact hp5, by rw [hfin]; exact hp6, by rw [hfin]; exact hp8, hfr⟩ dX5_readCut_63
    · refine lv_bipush (v := (-100)) hx hb dX5_readCut_43 (by decide) ?_
      refine lv_iload_n hx hb dX5_readCut_45 rfl (lv_at hl 0 rfl) ?_
      refine lv_isub hx hb dX5_readCut_46 ?_
      have hfin : f_X5_readCut w z x y ho sg hs tx nu = ((-100) - ((f_X0_readNumbers tx nu (pM x)).1), z, x, y, ho, sg, hs, ((f_X0_readNumbers tx nu (pM x)).2)) := (by rw [f_X5_readCut, if_neg c1, if_neg c3] <;> rfl)
      exact kr 47 ls _ _ _ _ hP hS rfl ⟨by rw [hfin] <;> rfl, by rw [hfin]; exact hp1, by rw [hfin]; exact hp2, by rw [hfin]; exact hp3, by rw [hfin]; exact hp4, by rw [hfin]; exact hp5, by rw [hfin]; exact hp6, by rw [hfin]; exact hp8, hfr⟩ dX5_readCut_47
  · refine lv_bipush (v := (-4)) hx hb dX5_readCut_13 (by decide) ?_
    have hfin : f_X5_readCut w z x y ho sg hs tx nu = ((-4), z, x, y, ho, sg, hs, nu) := (by rw [f_X5_readCut, if_pos c1] <;> rfl)
    exact kr 15 ls _ _ _ _ hP hS rfl ⟨by rw [hfin] <;> rfl, by rw [hfin]; exact hp1, by rw [hfin]; exact hp2, by rw [hfin]; exact hp3, by rw [hfin]; exact hp4, by rw [hfin]; exact hp5, by rw [hfin]; exact hp6, by rw [hfin]; exact hp8, hfr⟩ dX5_readCut_15
theorem o_X5_readCut : okV yX5_readCut cX5_readCut 2 (some .int) 0 := ⟨m460, m461, m2, m462, by decide +kernel, by decide +kernel, by decide +kernel⟩
theorem u_X5_readCut_1_0 {w : ZoC} {z : SoC} {x : PlC} {y : CuC} {ho : HoC} {sg : Nat → Nat} {hs : Nat → StC} {tx : TxC} {nu : Nat → Int32} : uB ((f_X5_readCut w z x y ho sg hs tx nu).2.1) = uB z := by
  unfold f_X5_readCut
  (repeat' split) <;> rfl
theorem u_X5_readCut_1_1 {w : ZoC} {z : SoC} {x : PlC} {y : CuC} {ho : HoC} {sg : Nat → Nat} {hs : Nat → StC} {tx : TxC} {nu : Nat → Int32} : uT ((f_X5_readCut w z x y ho sg hs tx nu).2.1) = uT z := by
  unfold f_X5_readCut
  (repeat' split) <;> rfl
theorem u_X5_readCut_2_0 {w : ZoC} {z : SoC} {x : PlC} {y : CuC} {ho : HoC} {sg : Nat → Nat} {hs : Nat → StC} {tx : TxC} {nu : Nat → Int32} : pN ((f_X5_readCut w z x y ho sg hs tx nu).2.2.1) = pN x := by
  unfold f_X5_readCut
  (repeat' split) <;> rfl
theorem u_X5_readCut_2_1 {w : ZoC} {z : SoC} {x : PlC} {y : CuC} {ho : HoC} {sg : Nat → Nat} {hs : Nat → StC} {tx : TxC} {nu : Nat → Int32} : pM ((f_X5_readCut w z x y ho sg hs tx nu).2.2.1) = pM x := by
  unfold f_X5_readCut
  (repeat' split) <;> rfl
theorem u_X5_readCut_2_2 {w : ZoC} {z : SoC} {x : PlC} {y : CuC} {ho : HoC} {sg : Nat → Nat} {hs : Nat → StC} {tx : TxC} {nu : Nat → Int32} : pO ((f_X5_readCut w z x y ho sg hs tx nu).2.2.1) = pO x := by
  unfold f_X5_readCut
  (repeat' split) <;> rfl
theorem u_X5_readCut_2_3 {w : ZoC} {z : SoC} {x : PlC} {y : CuC} {ho : HoC} {sg : Nat → Nat} {hs : Nat → StC} {tx : TxC} {nu : Nat → Int32} : pP ((f_X5_readCut w z x y ho sg hs tx nu).2.2.1) = pP x := by
  unfold f_X5_readCut
  (repeat' split) <;> rfl
theorem u_X5_readCut_2_4 {w : ZoC} {z : SoC} {x : PlC} {y : CuC} {ho : HoC} {sg : Nat → Nat} {hs : Nat → StC} {tx : TxC} {nu : Nat → Int32} : pD ((f_X5_readCut w z x y ho sg hs tx nu).2.2.1) = pD x := by
  unfold f_X5_readCut
  (repeat' split) <;> rfl
theorem u_X5_readCut_2_5 {w : ZoC} {z : SoC} {x : PlC} {y : CuC} {ho : HoC} {sg : Nat → Nat} {hs : Nat → StC} {tx : TxC} {nu : Nat → Int32} : pR ((f_X5_readCut w z x y ho sg hs tx nu).2.2.1) = pR x := by
  unfold f_X5_readCut
  (repeat' split) <;> rfl
theorem u_X5_readCut_2_6 {w : ZoC} {z : SoC} {x : PlC} {y : CuC} {ho : HoC} {sg : Nat → Nat} {hs : Nat → StC} {tx : TxC} {nu : Nat → Int32} : pE ((f_X5_readCut w z x y ho sg hs tx nu).2.2.1) = pE x := by
  unfold f_X5_readCut
  (repeat' split) <;> rfl
def rmX5_type : Room := { frames := 1, cells := 0, slots := 0, locals := 21 }
def f_X5_type (w : ZoC) (tx : TxC) (character : Int32) : Int32 × TxC :=
  (if (f_X0_isFull tx) = true then ((-3), tx) else (nI (tL (f_X0_append tx character)), (f_X0_append tx character)))
set_option maxHeartbeats 4000000 in
set_option maxRecDepth 100000 in
theorem c_X5_type {l : Launch} {dd : va_G} {t : CL4} {N : Nat} {ad : Nat → Nat} {V : Nat → va_E} {b : Nat} {w : ZoC} {tx : TxC}  (hi : inj N ad) (hp0 : ZoP N ad V t b w) (hp1 : TxP N ad V t (b + 402) tx) (character : Int32)  : MM l dd t N ad V yX5_type cX5_type 2 (some .int) rmX5_type [.ref (ad b), .int (character)] (fun r V1 => (r = (f_X5_type w tx character).1) ∧ (TxP N ad V1 t (b + 402) ((f_X5_type w tx character).2)) ∧ (∀ k, (k < b + 402 ∨ b + 404 ≤ k) → V1 k = V k)) := by
  refine MM.of (by decide +kernel) ⟨rfl, rfl⟩ (Nat.le_of_ble_eq_true rfl) rfl ?_
  intro p e s m as below meth c Q X H hP hS ls hl kr
  have X : WX p s m as c cX5_type 2 RX5 dd t := X
  have hx := X.1.1
  have hb := X.1.2.1
  have hl : lv_has ls 2 [(0, .ref (ad b)), (1, .int (character))] := hl
  have hi1_0 := hp1.i0
  have hle0 := hp0.le
  have hle1 := hp1.le
  have hfr : ∀ k, (k < b + 402 ∨ b + 404 ≤ k) → V k = V k := fun _ _ => rfl
  refine lv_aload_n hx hb dX5_type_0 rfl (lv_at hl 0 rfl) ?_
  refine g_Zo_text X hP hp0 m26 dX5_type_1 ?_
  refine r_call (As := []) (rest := []) (ci := 0) X hP (c_X0_isFull hp1) o_X0_isFull rfl hp1.lt hp1.ob m550 ⟨rfl, rfl⟩ ⟨Nat.le_of_ble_eq_true rfl, Nat.le_of_ble_eq_true rfl⟩ rfl hl.1 rfl (Nat.le_of_ble_eq_true rfl) ⟨Nat.zero_le _, Nat.zero_le _⟩ dX5_type_4 ?_
  refine q_eqB (tgt := 13) hx hb dX5_type_7 (by decide) (fun c1 => ?_) (fun c1 => ?_)
  · refine lv_aload_n hx hb dX5_type_13 rfl (lv_at hl 0 rfl) ?_
    refine g_Zo_text X hP hp0 m26 dX5_type_14 ?_
    refine lv_iload_n hx hb dX5_type_17 rfl (lv_at hl 1 rfl) ?_
    refine r_callW (As := [.int (character)]) (rest := []) (ci := 0) X hP hS (c_X0_append hi hp1 character) o_X0_append rfl hp1.lt hp1.ob m554 ⟨rfl, rfl⟩ ⟨Nat.le_of_ble_eq_true rfl, Nat.le_of_ble_eq_true rfl⟩ rfl hl.1 rfl (Nat.le_of_ble_eq_true rfl) ⟨Nat.zero_le _, Nat.zero_le _⟩ dX5_type_18 (fun V2 H2 locs2 hq hP hS => ?_)
    obtain ⟨hp1, h2⟩ := hq
    have hi1_0 := hp1.i0
    have hp0 := hp0.keep (V1 := V2) (fun k h8 h9 => h2 k (by omega))
    have hfr : ∀ k, (k < b + 402 ∨ b + 404 ≤ k) → V2 k = V k := fun k hk => (h2 k (by omega)).trans (hfr k hk)
    refine lv_aload_n hx hb dX5_type_21 rfl (lv_at hl 0 rfl) ?_
    refine g_Zo_text X hP hp0 m26 dX5_type_22 ?_
    refine g_Tx_length X hP hp1 m549 dX5_type_25 ?_
    have hfin : f_X5_type w tx character = (nI (tL (f_X0_append tx character)), (f_X0_append tx character)) := (by rw [f_X5_type, if_neg (nt c1)] <;> rfl)
    exact kr 28 ls _ _ _ _ hP hS rfl ⟨by rw [hfin] <;> rfl, by rw [hfin]; exact hp1, hfr⟩ dX5_type_28
  · refine lv_bipush (v := (-3)) hx hb dX5_type_10 (by decide) ?_
    have hfin : f_X5_type w tx character = ((-3), tx) := (by rw [f_X5_type, if_pos c1] <;> rfl)
    exact kr 12 ls _ _ _ _ hP hS rfl ⟨by rw [hfin] <;> rfl, by rw [hfin]; exact hp1, hfr⟩ dX5_type_12
theorem o_X5_type : okV yX5_type cX5_type 2 (some .int) 1 := ⟨m546, m547, m2, m548, by decide +kernel, by decide +kernel, by decide +kernel⟩
def rmX5_clearText : Room := { frames := 0, cells := 0, slots := 0, locals := 0 }
def f_X5_clearText (w : ZoC) (tx : TxC) : Int32 × TxC :=
  (nI (tL tx), mkX (tC tx) 0)
set_option maxHeartbeats 4000000 in
set_option maxRecDepth 100000 in
theorem c_X5_clearText {l : Launch} {dd : va_G} {t : CL4} {N : Nat} {ad : Nat → Nat} {V : Nat → va_E} {b : Nat} {w : ZoC} {tx : TxC}  (hi : inj N ad) (hp0 : ZoP N ad V t b w) (hp1 : TxP N ad V t (b + 402) tx)   : MM l dd t N ad V yX5_clearText cX5_clearText 2 (some .int) rmX5_clearText [.ref (ad b)] (fun r V1 => (r = (f_X5_clearText w tx).1) ∧ (TxP N ad V1 t (b + 402) ((f_X5_clearText w tx).2)) ∧ (∀ k, (k < b + 402 ∨ b + 404 ≤ k) → V1 k = V k)) := by
  refine MM.of (by decide +kernel) ⟨rfl, rfl⟩ (Nat.le_of_ble_eq_true rfl) rfl ?_
  intro p e s m as below meth c Q X H hP hS ls hl kr
  have X : WX p s m as c cX5_clearText 2 RX5 dd t := X
  have hx := X.1.1
  have hb := X.1.2.1
  have hl : lv_has ls 2 [(0, .ref (ad b))] := hl
  have hi1_0 := hp1.i0
  have hle0 := hp0.le
  have hle1 := hp1.le
  have hfr : ∀ k, (k < b + 402 ∨ b + 404 ≤ k) → V k = V k := fun _ _ => rfl
  refine lv_aload_n hx hb dX5_clearText_0 rfl (lv_at hl 0 rfl) ?_
  refine g_Zo_text X hP hp0 m26 dX5_clearText_1 ?_
  refine g_Tx_length X hP hp1 m549 dX5_clearText_4 ?_
  refine lv_istore_n (lv' := [(1, .int (nI (tL tx))), (0, .ref (ad b))]) hx hb dX5_clearText_7 rfl hl (by decide) rfl (fun ls hl => ?_)
  refine lv_aload_n hx hb dX5_clearText_8 rfl (lv_at hl 1 rfl) ?_
  refine g_Zo_text X hP hp0 m26 dX5_clearText_9 ?_
  refine lv_iconst (v := nI 0) hx hb dX5_clearText_12 (by decide) ?_
  refine p_Tx_length X hi hP hS hp1 m549 (v := 0) (hv := by omega) dX5_clearText_13 (fun V1 H1 locs1 hp1 h2 hP hS => ?_)
  have hp1 : TxP N ad V1 t (b + 402) (mkX (tC tx) 0) := hp1
  have hp0 := hp0.keep (V1 := V1) (fun k h8 h9 => h2 k (by omega))
  have hfr : ∀ k, (k < b + 402 ∨ b + 404 ≤ k) → V1 k = V k := fun k hk => (h2 k (by omega)).trans (hfr k hk)
  refine lv_iload_n hx hb dX5_clearText_16 rfl (lv_at hl 0 rfl) ?_
  have hfin : f_X5_clearText w tx = (nI (tL tx), mkX (tC tx) 0) := (by rw [f_X5_clearText] <;> rfl)
  exact kr 17 ls _ _ _ _ hP hS rfl ⟨by rw [hfin] <;> rfl, by rw [hfin]; exact hp1, hfr⟩ dX5_clearText_17
theorem o_X5_clearText : okV yX5_clearText cX5_clearText 2 (some .int) 0 := ⟨m563, m564, m2, m565, by decide +kernel, by decide +kernel, by decide +kernel⟩
theorem u_X5_clearText_1_0 {w : ZoC} {tx : TxC} : tC ((f_X5_clearText w tx).2) = tC tx := by
  unfold f_X5_clearText
  (repeat' split) <;> rfl
def rmX5_keep : Room := { frames := 3, cells := 0, slots := 0, locals := 67 }
def f_X5_keep (w : ZoC) (z : SoC) (x : PlC) (y : CuC) (z2 : SoC) (x2 : PlC) (y2 : CuC) : Int32 × ZoC × SoC × PlC × CuC :=
  (nI (kA y), mkZ (nI 1), ((f_X4_copyFrom z2 x2 y2 z x y).1), ((f_X4_copyFrom z2 x2 y2 z x y).2.1), ((f_X4_copyFrom z2 x2 y2 z x y).2.2))
set_option maxHeartbeats 4000000 in
set_option maxRecDepth 100000 in
theorem c_X5_keep {l : Launch} {dd : va_G} {t : CL4} {N : Nat} {ad : Nat → Nat} {V : Nat → va_E} {b : Nat} {w : ZoC} {z : SoC} {x : PlC} {y : CuC} {z2 : SoC} {x2 : PlC} {y2 : CuC}  (hi : inj N ad) (hp0 : ZoP N ad V t b w) (hp1 : SoP N ad V t (b + 1) z) (hp2 : PlP N ad V t (b + 2) x) (hp3 : CuP N ad V t (b + 14) y) (hp4 : SoP N ad V t (b + 115) z2) (hp5 : PlP N ad V t (b + 116) x2) (hp6 : CuP N ad V t (b + 128) y2)   : MM l dd t N ad V yX5_keep cX5_keep 1 (some .int) rmX5_keep [.ref (ad b)] (fun r V1 => (r = (f_X5_keep w z x y z2 x2 y2).1) ∧ (ZoP N ad V1 t b ((f_X5_keep w z x y z2 x2 y2).2.1)) ∧ (SoP N ad V1 t (b + 115) ((f_X5_keep w z x y z2 x2 y2).2.2.1)) ∧ (PlP N ad V1 t (b + 116) ((f_X5_keep w z x y z2 x2 y2).2.2.2.1)) ∧ (CuP N ad V1 t (b + 128) ((f_X5_keep w z x y z2 x2 y2).2.2.2.2)) ∧ (∀ k, (k < b ∨ (b + 1 ≤ k ∧ k < b + 115) ∨ b + 172 ≤ k) → V1 k = V k)) := by
  refine MM.of (by decide +kernel) ⟨rfl, rfl⟩ (Nat.le_of_ble_eq_true rfl) rfl ?_
  intro p e s m as below meth c Q X H hP hS ls hl kr
  have X : WX p s m as c cX5_keep 1 RX5 dd t := X
  have hx := X.1.1
  have hb := X.1.2.1
  have hl : lv_has ls 1 [(0, .ref (ad b))] := hl
  have hi2_0 := hp2.i0
  have hi2_1 := hp2.i1
  have hi3_0 := hp3.i0
  have hi5_0 := hp5.i0
  have hi5_1 := hp5.i1
  have hi6_0 := hp6.i0
  have hle0 := hp0.le
  have hle1 := hp1.le
  have hle2 := hp2.le
  have hle3 := hp3.le
  have hle4 := hp4.le
  have hle5 := hp5.le
  have hle6 := hp6.le
  have hfr : ∀ k, (k < b ∨ (b + 1 ≤ k ∧ k < b + 115) ∨ b + 172 ≤ k) → V k = V k := fun _ _ => rfl
  refine lv_aload_n hx hb dX5_keep_0 rfl (lv_at hl 0 rfl) ?_
  refine g_Zo_snapshot X hP hp0 m17 dX5_keep_1 ?_
  refine lv_aload_n hx hb dX5_keep_4 rfl (lv_at hl 0 rfl) ?_
  refine g_Zo_now X hP hp0 m15 dX5_keep_5 ?_
  refine r_callW (As := [.ref (ad (b + 1))]) (rest := []) (ci := 4) X hP hS (c_X4_copyFrom hi hp4 hp5 hp6 hp1 hp2 hp3 (by omega)) o_X4_copyFrom rfl hp4.lt hp4.ob m271 ⟨rfl, rfl⟩ ⟨Nat.le_of_ble_eq_true rfl, Nat.le_of_ble_eq_true rfl⟩ rfl hl.1 rfl (Nat.le_of_ble_eq_true rfl) ⟨Nat.zero_le _, Nat.zero_le _⟩ dX5_keep_8 (fun V1 H1 locs1 hq hP hS => ?_)
  obtain ⟨hp4, hp5, hp6, h2⟩ := hq
  have hi5_0 := hp5.i0
  have hi5_1 := hp5.i1
  have hi6_0 := hp6.i0
  have hp0 := hp0.keep (V1 := V1) (fun k h8 h9 => h2 k (by omega))
  have hp1 := hp1.keep (V1 := V1) (fun k h8 h9 => h2 k (by omega))
  have hp2 := hp2.keep (V1 := V1) (fun k h8 h9 => h2 k (by omega))
  have hp3 := hp3.keep (V1 := V1) (fun k h8 h9 => h2 k (by omega))
  have hfr : ∀ k, (k < b ∨ (b + 1 ≤ k ∧ k < b + 115) ∨ b + 172 ≤ k) → V1 k = V k := fun k hk => (h2 k (by omega)).trans (hfr k hk)
  refine lv_aload_n hx hb dX5_keep_11 rfl (lv_at hl 0 rfl) ?_
  refine lv_iconst (v := nI 1) hx hb dX5_keep_12 (by decide) ?_
  refine p_Zo_hasSnapshot X hi hP hS hp0 m18 (v := nI 1) (hv := by decide) (hw := by decide) dX5_keep_13 (fun V2 H2 locs2 hp0 h2 hP hS => ?_)
  have hp0 : ZoP N ad V2 t b (mkZ (nI 1)) := hp0
  have hp1 := hp1.keep (V1 := V2) (fun k h8 h9 => h2 k (by omega))
  have hp2 := hp2.keep (V1 := V2) (fun k h8 h9 => h2 k (by omega))
  have hp3 := hp3.keep (V1 := V2) (fun k h8 h9 => h2 k (by omega))
  have hp4 := hp4.keep (V1 := V2) (fun k h8 h9 => h2 k (by omega))
  have hp5 := hp5.keep (V1 := V2) (fun k h8 h9 => h2 k (by omega))
  have hp6 := hp6.keep (V1 := V2) (fun k h8 h9 => h2 k (by omega))
  have hfr : ∀ k, (k < b ∨ (b + 1 ≤ k ∧ k < b + 115) ∨ b + 172 ≤ k) → V2 k = V k := fun k hk => (h2 k (by omega)).trans (hfr k hk)
  refine lv_aload_n hx hb dX5_keep_16 rfl (lv_at hl 0 rfl) ?_
  refine g_Zo_now X hP hp0 m15 dX5_keep_17 ?_
  refine g_So_cuts X hP hp1 m446 dX5_keep_20 ?_
  refine g_Cu_amount X hP hp3 m447 dX5_keep_23 ?_
  have hfin : f_X5_keep w z x y z2 x2 y2 = (nI (kA y), mkZ (nI 1), ((f_X4_copyFrom z2 x2 y2 z x y).1), ((f_X4_copyFrom z2 x2 y2 z x y).2.1), ((f_X4_copyFrom z2 x2 y2 z x y).2.2)) := (by rw [f_X5_keep] <;> rfl)
  exact kr 26 ls _ _ _ _ hP hS rfl ⟨by rw [hfin] <;> rfl, by rw [hfin]; exact hp0, by rw [hfin]; exact hp4, by rw [hfin]; exact hp5, by rw [hfin]; exact hp6, hfr⟩ dX5_keep_26
theorem o_X5_keep : okV yX5_keep cX5_keep 1 (some .int) 0 := ⟨m584, m585, m2, m586, by decide +kernel, by decide +kernel, by decide +kernel⟩
def rmX5_restore : Room := { frames := 4, cells := 0, slots := 0, locals := 88 }
def f_X5_restore (w : ZoC) (z : SoC) (x : PlC) (y : CuC) (ho : HoC) (sg : Nat → Nat) (hs : Nat → StC) (z2 : SoC) (x2 : PlC) (y2 : CuC) : Int32 × SoC × PlC × CuC × HoC × (Nat → Nat) × (Nat → StC) :=
  (if (zS w) = 0 then ((-5), z, x, y, ho, sg, hs) else (nI (kA ((f_X4_copyFrom z x y z2 x2 y2).2.2)), ((f_X4_copyFrom z x y z2 x2 y2).1), ((f_X4_copyFrom z x y z2 x2 y2).2.1), ((f_X4_copyFrom z x y z2 x2 y2).2.2), ((f_X2_record ho sg hs z x y).1), ((f_X2_record ho sg hs z x y).2.1), ((f_X2_record ho sg hs z x y).2.2)))
set_option maxHeartbeats 4000000 in
set_option maxRecDepth 100000 in
theorem c_X5_restore {l : Launch} {dd : va_G} {t : CL4} {N : Nat} {ad : Nat → Nat} {V : Nat → va_E} {b : Nat} {w : ZoC} {z : SoC} {x : PlC} {y : CuC} {ho : HoC} {sg : Nat → Nat} {hs : Nat → StC} {z2 : SoC} {x2 : PlC} {y2 : CuC}  (hi : inj N ad) (hp0 : ZoP N ad V t b w) (hp1 : SoP N ad V t (b + 1) z) (hp2 : PlP N ad V t (b + 2) x) (hp3 : CuP N ad V t (b + 14) y) (hp4 : HoP N ad V t (b + 172) ho) (hp5 : HaP N ad V t (b + 173) sg) (hp6 : HsP N ad V t (b + 174) hs) (hp7 : SoP N ad V t (b + 115) z2) (hp8 : PlP N ad V t (b + 116) x2) (hp9 : CuP N ad V t (b + 128) y2)  (hsg : ∀ j, j < 4 → sg j < 4) : MM l dd t N ad V yX5_restore cX5_restore 1 (some .int) rmX5_restore [.ref (ad b)] (fun r V1 => (r = (f_X5_restore w z x y ho sg hs z2 x2 y2).1) ∧ (SoP N ad V1 t (b + 1) ((f_X5_restore w z x y ho sg hs z2 x2 y2).2.1)) ∧ (PlP N ad V1 t (b + 2) ((f_X5_restore w z x y ho sg hs z2 x2 y2).2.2.1)) ∧ (CuP N ad V1 t (b + 14) ((f_X5_restore w z x y ho sg hs z2 x2 y2).2.2.2.1)) ∧ (HoP N ad V1 t (b + 172) ((f_X5_restore w z x y ho sg hs z2 x2 y2).2.2.2.2.1)) ∧ (HaP N ad V1 t (b + 173) ((f_X5_restore w z x y ho sg hs z2 x2 y2).2.2.2.2.2.1)) ∧ (HsP N ad V1 t (b + 174) ((f_X5_restore w z x y ho sg hs z2 x2 y2).2.2.2.2.2.2)) ∧ (∀ k, (k < b + 1 ∨ (b + 58 ≤ k ∧ k < b + 172) ∨ b + 402 ≤ k) → V1 k = V k)) := by
  refine MM.of (by decide +kernel) ⟨rfl, rfl⟩ (Nat.le_of_ble_eq_true rfl) rfl ?_
  intro p e s m as below meth c Q X H hP hS ls hl kr
  have X : WX p s m as c cX5_restore 1 RX5 dd t := X
  have hx := X.1.1
  have hb := X.1.2.1
  have hl : lv_has ls 1 [(0, .ref (ad b))] := hl
  have hi2_0 := hp2.i0
  have hi2_1 := hp2.i1
  have hi3_0 := hp3.i0
  have hi4_0 := hp4.i0
  have hi8_0 := hp8.i0
  have hi8_1 := hp8.i1
  have hi9_0 := hp9.i0
  have hle0 := hp0.le
  have hle1 := hp1.le
  have hle2 := hp2.le
  have hle3 := hp3.le
  have hle4 := hp4.le
  have hle5 := hp5.1
  have hle6 := hp6.1
  have hle7 := hp7.le
  have hle8 := hp8.le
  have hle9 := hp9.le
  have hfr : ∀ k, (k < b + 1 ∨ (b + 58 ≤ k ∧ k < b + 172) ∨ b + 402 ≤ k) → V k = V k := fun _ _ => rfl
  refine lv_aload_n hx hb dX5_restore_0 rfl (lv_at hl 0 rfl) ?_
  refine g_Zo_hasSnapshot X hP hp0 m18 dX5_restore_1 ?_
  refine lv_if_ne (tgt := 10) hx hb dX5_restore_4 (by decide) (fun c1 => ?_) (fun c1 => ?_)
  · refine lv_aload_n hx hb dX5_restore_10 rfl (lv_at hl 0 rfl) ?_
    refine g_Zo_history X hP hp0 m22 dX5_restore_11 ?_
    refine lv_aload_n hx hb dX5_restore_14 rfl (lv_at hl 0 rfl) ?_
    refine g_Zo_now X hP hp0 m15 dX5_restore_15 ?_
    refine r_callW (As := [.ref (ad (b + 1))]) (rest := []) (ci := 2) X hP hS (c_X2_record hi hp4 hp5 hp6 hp1 hp2 hp3 hsg (by omega)) o_X2_record rfl hp4.lt hp4.ob m98 ⟨rfl, rfl⟩ ⟨Nat.le_of_ble_eq_true rfl, Nat.le_of_ble_eq_true rfl⟩ rfl hl.1 rfl (Nat.le_of_ble_eq_true rfl) ⟨Nat.zero_le _, Nat.zero_le _⟩ dX5_restore_18 (fun V2 H2 locs2 hq hP hS => ?_)
    obtain ⟨hp4, hp5, hp6, h2⟩ := hq
    have hi4_0 := hp4.i0
    have hp0 := hp0.keep (V1 := V2) (fun k h8 h9 => h2 k (by omega))
    have hp1 := hp1.keep (V1 := V2) (fun k h8 h9 => h2 k (by omega))
    have hp2 := hp2.keep (V1 := V2) (fun k h8 h9 => h2 k (by omega))
    have hp3 := hp3.keep (V1 := V2) (fun k h8 h9 => h2 k (by omega))
    have hp7 := hp7.keep (V1 := V2) (fun k h8 h9 => h2 k (by omega))
    have hp8 := hp8.keep (V1 := V2) (fun k h8 h9 => h2 k (by omega))
    have hp9 := hp9.keep (V1 := V2) (fun k h8 h9 => h2 k (by omega))
    have hfr : ∀ k, (k < b + 1 ∨ (b + 58 ≤ k ∧ k < b + 172) ∨ b + 402 ≤ k) → V2 k = V k := fun k hk => (h2 k (by omega)).trans (hfr k hk)
    refine lv_aload_n hx hb dX5_restore_21 rfl (lv_at hl 0 rfl) ?_
    refine g_Zo_now X hP hp0 m15 dX5_restore_22 ?_
    refine lv_aload_n hx hb dX5_restore_25 rfl (lv_at hl 0 rfl) ?_
    refine g_Zo_snapshot X hP hp0 m17 dX5_restore_26 ?_
    refine r_callW (As := [.ref (ad (b + 115))]) (rest := []) (ci := 4) X hP hS (c_X4_copyFrom hi hp1 hp2 hp3 hp7 hp8 hp9 (by omega)) o_X4_copyFrom rfl hp1.lt hp1.ob m271 ⟨rfl, rfl⟩ ⟨Nat.le_of_ble_eq_true rfl, Nat.le_of_ble_eq_true rfl⟩ rfl hl.1 rfl (Nat.le_of_ble_eq_true rfl) ⟨Nat.zero_le _, Nat.zero_le _⟩ dX5_restore_29 (fun V3 H3 locs3 hq hP hS => ?_)
    obtain ⟨hp1, hp2, hp3, h2⟩ := hq
    have hi2_0 := hp2.i0
    have hi2_1 := hp2.i1
    have hi3_0 := hp3.i0
    have hp0 := hp0.keep (V1 := V3) (fun k h8 h9 => h2 k (by omega))
    have hp4 := hp4.keep (V1 := V3) (fun k h8 h9 => h2 k (by omega))
    have hp5 := hp5.keep (V1 := V3) (fun k h8 h9 => h2 k (by omega))
    have hp6 := hp6.keep (V1 := V3) (fun k h8 h9 => h2 k (by omega))
    have hp7 := hp7.keep (V1 := V3) (fun k h8 h9 => h2 k (by omega))
    have hp8 := hp8.keep (V1 := V3) (fun k h8 h9 => h2 k (by omega))
    have hp9 := hp9.keep (V1 := V3) (fun k h8 h9 => h2 k (by omega))
    have hfr : ∀ k, (k < b + 1 ∨ (b + 58 ≤ k ∧ k < b + 172) ∨ b + 402 ≤ k) → V3 k = V k := fun k hk => (h2 k (by omega)).trans (hfr k hk)
    refine lv_aload_n hx hb dX5_restore_32 rfl (lv_at hl 0 rfl) ?_
    refine g_Zo_now X hP hp0 m15 dX5_restore_33 ?_
    refine g_So_cuts X hP hp1 m446 dX5_restore_36 ?_
    refine g_Cu_amount X hP hp3 m447 dX5_restore_39 ?_
    have hfin : f_X5_restore w z x y ho sg hs z2 x2 y2 = (nI (kA ((f_X4_copyFrom z x y z2 x2 y2).2.2)), ((f_X4_copyFrom z x y z2 x2 y2).1), ((f_X4_copyFrom z x y z2 x2 y2).2.1), ((f_X4_copyFrom z x y z2 x2 y2).2.2), ((f_X2_record ho sg hs z x y).1), ((f_X2_record ho sg hs z x y).2.1), ((f_X2_record ho sg hs z x y).2.2)) := (by rw [f_X5_restore, if_neg c1] <;> rfl)
    exact kr 42 ls _ _ _ _ hP hS rfl ⟨by rw [hfin] <;> rfl, by rw [hfin]; exact hp1, by rw [hfin]; exact hp2, by rw [hfin]; exact hp3, by rw [hfin]; exact hp4, by rw [hfin]; exact hp5, by rw [hfin]; exact hp6, hfr⟩ dX5_restore_42
  · refine lv_bipush (v := (-5)) hx hb dX5_restore_7 (by decide) ?_
    have hfin : f_X5_restore w z x y ho sg hs z2 x2 y2 = ((-5), z, x, y, ho, sg, hs) := (by rw [f_X5_restore, if_pos c1] <;> rfl)
    exact kr 9 ls _ _ _ _ hP hS rfl ⟨by rw [hfin] <;> rfl, by rw [hfin]; exact hp1, by rw [hfin]; exact hp2, by rw [hfin]; exact hp3, by rw [hfin]; exact hp4, by rw [hfin]; exact hp5, by rw [hfin]; exact hp6, hfr⟩ dX5_restore_9
theorem o_X5_restore : okV yX5_restore cX5_restore 1 (some .int) 0 := ⟨m593, m594, m2, m595, by decide +kernel, by decide +kernel, by decide +kernel⟩
