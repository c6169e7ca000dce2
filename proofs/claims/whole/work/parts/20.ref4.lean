/-! writers of the reference -/

def rmX6_addSite : Room := { frames := 2, cells := 0, slots := 0, locals := 41 }
def f_X6_addSite (x : MoC) (nn : Nat) (mm : Nat) (kk : Nat) (price : Int32) : Int32 × MoC :=
  (if (f_X6_in price (nI 0) (nI 999)) = true then (if nn = 7 then ((-3), x) else (nI nn, mkM (oR (f_X6_dropAll (mkM (upd (upd (oR x) (6 + nn) price) 0 (nI (nn + 1))) (oP (f_X6_begin x)) (oA x) (oB (f_X6_begin x)) (oS (f_X6_begin x)) (oI x) (oX x) (oL x) (oT x) (oN x)))) (oP (f_X6_begin x)) (oA x) (oB (f_X6_begin x)) (oS (f_X6_begin x)) (oI x) (oX x) (oL x) (oT x) (oN x))) else ((-2), x))
set_option maxHeartbeats 4000000 in
set_option maxRecDepth 100000 in
theorem c_X6_addSite {l : Launch} {dd : va_G} {t : CL4} {N : Nat} {ad : Nat → Nat} {V : Nat → va_E} {b : Nat} {x : MoC} {nn : Nat} {mm : Nat} {kk : Nat} (hi : inj N ad) (hp0 : MoP N ad V t b x) (price : Int32) (h0 : oR x 0 = nI nn) (h1 : oR x 1 = nI mm) (h3 : oR x 3 = nI kk) (hn : nn ≤ 7) (hm : mm ≤ 8) (hk : kk ≤ 40) (hst : oS x ≤ 4) : MM l dd t N ad V yX6_addSite cX6_addSite 3 (some .int) rmX6_addSite [.ref (ad b), .int (price)] (fun r V1 => (r = (f_X6_addSite x nn mm kk price).1) ∧ (MoP N ad V1 t b ((f_X6_addSite x nn mm kk price).2)) ∧ (∀ k, (k < b ∨ b + 7 ≤ k) → V1 k = V k)) := by
  refine MM.of (by decide +kernel) ⟨rfl, rfl⟩ (Nat.le_of_ble_eq_true rfl) rfl ?_
  intro p e s m as below meth c Q X H hP hS ls hl kr
  have X : WX p s m as c cX6_addSite 3 RX6 dd t := X
  have hx := X.1.1
  have hb := X.1.2.1
  have hl : lv_has ls 3 [(0, .ref (ad b)), (1, .int (price))] := hl
  have hle0 := hp0.le
  have hfr : ∀ k, (k < b ∨ b + 7 ≤ k) → V k = V k := fun _ _ => rfl
  refine lv_iload_n hx hb dX6_addSite_0 rfl (lv_at hl 1 rfl) ?_
  refine lv_iconst (v := nI 0) hx hb dX6_addSite_1 (by decide) ?_
  refine lv_sipush (v := nI 999) hx hb dX6_addSite_2 (by decide) ?_
  refine r_callS (As := [.int (price), .int (nI 0), .int (nI 999)]) (rest := []) X hP (c_X6_in price (nI 0) (nI 999)) o_X6_in m139 ⟨rfl, rfl⟩ ⟨Nat.le_of_ble_eq_true rfl, Nat.le_of_ble_eq_true rfl⟩ rfl hl.1 rfl (Nat.le_of_ble_eq_true rfl) ⟨Nat.zero_le _, Nat.zero_le _⟩ dX6_addSite_5 ?_
  refine q_neB (tgt := 14) hx hb dX6_addSite_8 (by decide) (fun c1 => ?_) (fun c1 => ?_)
  · refine lv_aload_n hx hb dX6_addSite_14 rfl (lv_at hl 0 rfl) ?_
    refine g_Mo_row X hP hp0 m83 dX6_addSite_15 ?_
    refine lv_iconst (v := nI 0) hx hb dX6_addSite_18 (by decide) ?_
    refine l_Mo_row X hP hp0 (by decide) dX6_addSite_19 ?_
    refine q_val (h0 : oR x 0 = nI nn) ?_
    refine lv_istore_n (lv' := [(2, .int (nI nn)), (0, .ref (ad b)), (1, .int (price))]) hx hb dX6_addSite_20 rfl hl (by decide) rfl (fun ls hl => ?_)
    refine lv_iload_n hx hb dX6_addSite_21 rfl (lv_at hl 0 rfl) ?_
    refine lv_bipush (v := nI 7) hx hb dX6_addSite_22 (by decide) ?_
    refine q_ne (tgt := 30) hx hb (by omega) (by omega) dX6_addSite_24 (by decide) (fun c2 => ?_) (fun c2 => ?_)
    · refine lv_aload_n hx hb dX6_addSite_30 rfl (lv_at hl 1 rfl) ?_
      refine r_callW (As := []) (rest := []) (ci := 6) X hP hS (c_X6_begin hi hp0 hst) o_X6_begin rfl hp0.lt hp0.ob m142 ⟨rfl, rfl⟩ ⟨Nat.le_of_ble_eq_true rfl, Nat.le_of_ble_eq_true rfl⟩ rfl hl.1 rfl (Nat.le_of_ble_eq_true rfl) ⟨Nat.zero_le _, Nat.zero_le _⟩ dX6_addSite_31 (fun V3 H3 locs3 hq hP hS => ?_)
      obtain ⟨hp0, h2⟩ := hq
      have hp0 : MoP N ad V3 t b (mkM (oR x) (oP (f_X6_begin x)) (oA x) (oB (f_X6_begin x)) (oS (f_X6_begin x)) (oI x) (oX x) (oL x) (oT x) (oN x)) := hp0.ext (fun _ _ => congrFun u_X6_begin_0_0 _) (fun _ _ => rfl) (fun _ _ => congrFun u_X6_begin_0_2 _) (fun _ _ => rfl) rfl u_X6_begin_0_5 (fun _ _ => congrFun u_X6_begin_0_6 _) u_X6_begin_0_7 u_X6_begin_0_8 (fun _ _ => congrFun u_X6_begin_0_9 _)
      have hfr : ∀ k, (k < b ∨ b + 7 ≤ k) → V3 k = V k := fun k hk => (h2 k (by omega)).trans (hfr k hk)
      refine lv_aload_n hx hb dX6_addSite_34 rfl (lv_at hl 1 rfl) ?_
      refine g_Mo_row X hP hp0 m83 dX6_addSite_35 ?_
      refine lv_bipush (v := nI 6) hx hb dX6_addSite_38 (by decide) ?_
      refine lv_iload_n hx hb dX6_addSite_40 rfl (lv_at hl 0 rfl) ?_
      refine q_iadd hx hb dX6_addSite_41 ?_
      refine lv_iload_n hx hb dX6_addSite_42 rfl (lv_at hl 2 rfl) ?_
      refine s_Mo_row X hi hP hS hp0 (by omega) dX6_addSite_43 (fun V4 H4 locs4 hp0 h2 hP hS => ?_)
      have hp0 : MoP N ad V4 t b (mkM (upd (oR x) (6 + nn) price) (oP (f_X6_begin x)) (oA x) (oB (f_X6_begin x)) (oS (f_X6_begin x)) (oI x) (oX x) (oL x) (oT x) (oN x)) := hp0
      have hfr : ∀ k, (k < b ∨ b + 7 ≤ k) → V4 k = V k := fun k hk => (h2 k (by omega)).trans (hfr k hk)
      refine lv_aload_n hx hb dX6_addSite_44 rfl (lv_at hl 1 rfl) ?_
      refine g_Mo_row X hP hp0 m83 dX6_addSite_45 ?_
      refine lv_iconst (v := nI 0) hx hb dX6_addSite_48 (by decide) ?_
      refine lv_dup2_11 hx hb dX6_addSite_49 rfl rfl ?_
      refine l_Mo_row X hP hp0 (by decide) dX6_addSite_50 ?_
      refine W.eq (g2 := F0 m 51 ls [.int ((upd (oR x) (6 + nn) price) 0), .int (nI 0), .ref (ad (b + 1))]) rfl ?_
      refine q_val (upd_ne _ _ (by omega)) ?_
      refine q_val (h0 : oR x 0 = nI nn) ?_
      refine lv_iconst (v := nI 1) hx hb dX6_addSite_51 (by decide) ?_
      refine q_iadd hx hb dX6_addSite_52 ?_
      refine s_Mo_row X hi hP hS hp0 (by decide) dX6_addSite_53 (fun V5 H5 locs5 hp0 h2 hP hS => ?_)
      have hp0 : MoP N ad V5 t b (mkM (upd (upd (oR x) (6 + nn) price) 0 (nI (nn + 1))) (oP (f_X6_begin x)) (oA x) (oB (f_X6_begin x)) (oS (f_X6_begin x)) (oI x) (oX x) (oL x) (oT x) (oN x)) := hp0
      have hfr : ∀ k, (k < b ∨ b + 7 ≤ k) → V5 k = V k := fun k hk => (h2 k (by omega)).trans (hfr k hk)
      refine lv_aload_n hx hb dX6_addSite_54 rfl (lv_at hl 1 rfl) ?_
      refine r_callW (As := []) (rest := []) (ci := 6) X hP hS (c_X6_dropAll hi hp0) o_X6_dropAll rfl hp0.lt hp0.ob m155 ⟨rfl, rfl⟩ ⟨Nat.le_of_ble_eq_true rfl, Nat.le_of_ble_eq_true rfl⟩ rfl hl.1 rfl (Nat.le_of_ble_eq_true rfl) ⟨Nat.zero_le _, Nat.zero_le _⟩ dX6_addSite_55 (fun V6 H6 locs6 hq hP hS => ?_)
      obtain ⟨hp0, h2⟩ := hq
      have hp0 : MoP N ad V6 t b (mkM (oR (f_X6_dropAll (mkM (upd (upd (oR x) (6 + nn) price) 0 (nI (nn + 1))) (oP (f_X6_begin x)) (oA x) (oB (f_X6_begin x)) (oS (f_X6_begin x)) (oI x) (oX x) (oL x) (oT x) (oN x)))) (oP (f_X6_begin x)) (oA x) (oB (f_X6_begin x)) (oS (f_X6_begin x)) (oI x) (oX x) (oL x) (oT x) (oN x)) := hp0.ext (fun _ _ => rfl) (fun _ _ => congrFun u_X6_dropAll_0_1 _) (fun _ _ => congrFun u_X6_dropAll_0_2 _) (fun _ _ => congrFun u_X6_dropAll_0_3 _) u_X6_dropAll_0_4 u_X6_dropAll_0_5 (fun _ _ => congrFun u_X6_dropAll_0_6 _) u_X6_dropAll_0_7 u_X6_dropAll_0_8 (fun _ _ => congrFun u_X6_dropAll_0_9 _)
      have hfr : ∀ k, (k < b ∨ b + 7 ≤ k) → V6 k = V k := fun k hk => (h2 k (by omega)).trans (hfr k hk)
      refine lv_iload_n hx hb dX6_addSite_58 rfl (lv_at hl 0 rfl) ?_
      have hfin : f_X6_addSite x nn mm kk price = (nI nn, mkM (oR (f_X6_dropAll (mkM (upd (upd (oR x) (6 + nn) price) 0 (nI (nn + 1))) (oP (f_X6_begin x)) (oA x) (oB (f_X6_begin x)) (oS (f_X6_begin x)) (oI x) (oX x) (oL x) (oT x) (oN x)))) (oP (f_X6_begin x)) (oA x) (oB (f_X6_begin x)) (oS (f_X6_begin x)) (oI x) (oX x) (oL x) (oT x) (oN x)) := (by rw [f_X6_addSite, if_pos c1, if_neg c2] <;> rfl)
      exact kr 59 ls _ _ _ _ hP hS rfl ⟨by rw [hfin] <;> rfl, by rw [hfin]; exact hp0, hfr⟩ dX6_addSite_59
    · refine lv_bipush (v := (-3)) hx hb dX6_addSite_27 (by decide) ?_
      have hfin : f_X6_addSite x nn mm kk price = ((-3), x) := (by rw [f_X6_addSite, if_pos c1, if_pos c2] <;> rfl)
      exact kr 29 ls _ _ _ _ hP hS rfl ⟨by rw [hfin] <;> rfl, by rw [hfin]; exact hp0, hfr⟩ dX6_addSite_29
  · refine lv_bipush (v := (-2)) hx hb dX6_addSite_11 (by decide) ?_
    have hfin : f_X6_addSite x nn mm kk price = ((-2), x) := (by rw [f_X6_addSite, if_neg (nt c1)] <;> rfl)
    exact kr 13 ls _ _ _ _ hP hS rfl ⟨by rw [hfin] <;> rfl, by rw [hfin]; exact hp0, hfr⟩ dX6_addSite_13
theorem o_X6_addSite : okV yX6_addSite cX6_addSite 3 (some .int) 1 := ⟨m136, m137, m5, m138, by decide +kernel, by decide +kernel, by decide +kernel⟩
theorem u_X6_addSite_0_2 {x : MoC} {nn : Nat} {mm : Nat} {kk : Nat} {price : Int32} : oA ((f_X6_addSite x nn mm kk price).2) = oA x := by
  unfold f_X6_addSite
  (repeat' split) <;> rfl
theorem u_X6_addSite_0_5 {x : MoC} {nn : Nat} {mm : Nat} {kk : Nat} {price : Int32} : oI ((f_X6_addSite x nn mm kk price).2) = oI x := by
  unfold f_X6_addSite
  (repeat' split) <;> rfl
theorem u_X6_addSite_0_6 {x : MoC} {nn : Nat} {mm : Nat} {kk : Nat} {price : Int32} : oX ((f_X6_addSite x nn mm kk price).2) = oX x := by
  unfold f_X6_addSite
  (repeat' split) <;> rfl
theorem u_X6_addSite_0_7 {x : MoC} {nn : Nat} {mm : Nat} {kk : Nat} {price : Int32} : oL ((f_X6_addSite x nn mm kk price).2) = oL x := by
  unfold f_X6_addSite
  (repeat' split) <;> rfl
theorem u_X6_addSite_0_8 {x : MoC} {nn : Nat} {mm : Nat} {kk : Nat} {price : Int32} : oT ((f_X6_addSite x nn mm kk price).2) = oT x := by
  unfold f_X6_addSite
  (repeat' split) <;> rfl
theorem u_X6_addSite_0_9 {x : MoC} {nn : Nat} {mm : Nat} {kk : Nat} {price : Int32} : oN ((f_X6_addSite x nn mm kk price).2) = oN x := by
  unfold f_X6_addSite
  (repeat' split) <;> rfl
def rmX6_addCustomer : Room := { frames := 2, cells := 0, slots := 0, locals := 41 }
def f_X6_addCustomer (x : MoC) (nn : Nat) (mm : Nat) (kk : Nat) (demand : Int32) : Int32 × MoC :=
  (if (f_X6_in demand (nI 1) (nI 20)) = true then (if mm = 8 then ((-3), x) else (nI mm, mkM (oR (f_X6_dropAll (mkM (upd (upd (oR x) (13 + mm) demand) 1 (nI (mm + 1))) (oP (f_X6_begin x)) (oA x) (oB (f_X6_begin x)) (oS (f_X6_begin x)) (oI x) (oX x) (oL x) (oT x) (oN x)))) (oP (f_X6_begin x)) (oA x) (oB (f_X6_begin x)) (oS (f_X6_begin x)) (oI x) (oX x) (oL x) (oT x) (oN x))) else ((-2), x))
set_option maxHeartbeats 4000000 in
set_option maxRecDepth 100000 in
theorem c_X6_addCustomer {l : Launch} {dd : va_G} {t : CL4} {N : Nat} {ad : Nat → Nat} {V : Nat → va_E} {b : Nat} {x : MoC} {nn : Nat} {mm : Nat} {kk : Nat} (hi : inj N ad) (hp0 : MoP N ad V t b x) (demand : Int32) (h0 : oR x 0 = nI nn) (h1 : oR x 1 = nI mm) (h3 : oR x 3 = nI kk) (hn : nn ≤ 7) (hm : mm ≤ 8) (hk : kk ≤ 40) (hst : oS x ≤ 4) : MM l dd t N ad V yX6_addCustomer cX6_addCustomer 3 (some .int) rmX6_addCustomer [.ref (ad b), .int (demand)] (fun r V1 => (r = (f_X6_addCustomer x nn mm kk demand).1) ∧ (MoP N ad V1 t b ((f_X6_addCustomer x nn mm kk demand).2)) ∧ (∀ k, (k < b ∨ b + 7 ≤ k) → V1 k = V k)) := by
  refine MM.of (by decide +kernel) ⟨rfl, rfl⟩ (Nat.le_of_ble_eq_true rfl) rfl ?_
  intro p e s m as below meth c Q X H hP hS ls hl kr
  have X : WX p s m as c cX6_addCustomer 3 RX6 dd t := X
  have hx := X.1.1
  have hb := X.1.2.1
  have hl : lv_has ls 3 [(0, .ref (ad b)), (1, .int (demand))] := hl
  have hle0 := hp0.le
  have hfr : ∀ k, (k < b ∨ b + 7 ≤ k) → V k = V k := fun _ _ => rfl
  refine lv_iload_n hx hb dX6_addCustomer_0 rfl (lv_at hl 1 rfl) ?_
  refine lv_iconst (v := nI 1) hx hb dX6_addCustomer_1 (by decide) ?_
  refine lv_bipush (v := nI 20) hx hb dX6_addCustomer_2 (by decide) ?_
  refine r_callS (As := [.int (demand), .int (nI 1), .int (nI 20)]) (rest := []) X hP (c_X6_in demand (nI 1) (nI 20)) o_X6_in m139 ⟨rfl, rfl⟩ ⟨Nat.le_of_ble_eq_true rfl, Nat.le_of_ble_eq_true rfl⟩ rfl hl.1 rfl (Nat.le_of_ble_eq_true rfl) ⟨Nat.zero_le _, Nat.zero_le _⟩ dX6_addCustomer_4 ?_
  refine q_neB (tgt := 13) hx hb dX6_addCustomer_7 (by decide) (fun c1 => ?_) (fun c1 => ?_)
  · refine lv_aload_n hx hb dX6_addCustomer_13 rfl (lv_at hl 0 rfl) ?_
    refine g_Mo_row X hP hp0 m83 dX6_addCustomer_14 ?_
    refine lv_iconst (v := nI 1) hx hb dX6_addCustomer_17 (by decide) ?_
    refine l_Mo_row X hP hp0 (by decide) dX6_addCustomer_18 ?_
    refine q_val (h1 : oR x 1 = nI mm) ?_
    refine lv_istore_n (lv' := [(2, .int (nI mm)), (0, .ref (ad b)), (1, .int (demand))]) hx hb dX6_addCustomer_19 rfl hl (by decide) rfl (fun ls hl => ?_)
    refine lv_iload_n hx hb dX6_addCustomer_20 rfl (lv_at hl 0 rfl) ?_
    refine lv_bipush (v := nI 8) hx hb dX6_addCustomer_21 (by decide) ?_
    refine q_ne (tgt := 29) hx hb (by omega) (by omega) dX6_addCustomer_23 (by decide) (fun c2 => ?_) (fun c2 => ?_)
    · refine lv_aload_n hx hb dX6_addCustomer_29 rfl (lv_at hl 1 rfl) ?_
      refine r_callW (As := []) (rest := []) (ci := 6) X hP hS (c_X6_begin hi hp0 hst) o_X6_begin rfl hp0.lt hp0.ob m142 ⟨rfl, rfl⟩ ⟨Nat.le_of_ble_eq_true rfl, Nat.le_of_ble_eq_true rfl⟩ rfl hl.1 rfl (Nat.le_of_ble_eq_true rfl) ⟨Nat.zero_le _, Nat.zero_le _⟩ dX6_addCustomer_30 (fun V3 H3 locs3 hq hP hS => ?_)
      obtain ⟨hp0, h2⟩ := hq
      have hp0 : MoP N ad V3 t b (mkM (oR x) (oP (f_X6_begin x)) (oA x) (oB (f_X6_begin x)) (oS (f_X6_begin x)) (oI x) (oX x) (oL x) (oT x) (oN x)) := hp0.ext (fun _ _ => congrFun u_X6_begin_0_0 _) (fun _ _ => rfl) (fun _ _ => congrFun u_X6_begin_0_2 _) (fun _ _ => rfl) rfl u_X6_begin_0_5 (fun _ _ => congrFun u_X6_begin_0_6 _) u_X6_begin_0_7 u_X6_begin_0_8 (fun _ _ => congrFun u_X6_begin_0_9 _)
      have hfr : ∀ k, (k < b ∨ b + 7 ≤ k) → V3 k = V k := fun k hk => (h2 k (by omega)).trans (hfr k hk)
      refine lv_aload_n hx hb dX6_addCustomer_33 rfl (lv_at hl 1 rfl) ?_
      refine g_Mo_row X hP hp0 m83 dX6_addCustomer_34 ?_
      refine lv_bipush (v := nI 13) hx hb dX6_addCustomer_37 (by decide) ?_
      refine lv_iload_n hx hb dX6_addCustomer_39 rfl (lv_at hl 0 rfl) ?_
      refine q_iadd hx hb dX6_addCustomer_40 ?_
      refine lv_iload_n hx hb dX6_addCustomer_41 rfl (lv_at hl 2 rfl) ?_
      refine s_Mo_row X hi hP hS hp0 (by omega) dX6_addCustomer_42 (fun V4 H4 locs4 hp0 h2 hP hS => ?_)
      have hp0 : MoP N ad V4 t b (mkM (upd (oR x) (13 + mm) demand) (oP (f_X6_begin x)) (oA x) (oB (f_X6_begin x)) (oS (f_X6_begin x)) (oI x) (oX x) (oL x) (oT x) (oN x)) := hp0
      have hfr : ∀ k, (k < b ∨ b + 7 ≤ k) → V4 k = V k := fun k hk => (h2 k (by omega)).trans (hfr k hk)
      refine lv_aload_n hx hb dX6_addCustomer_43 rfl (lv_at hl 1 rfl) ?_
      refine g_Mo_row X hP hp0 m83 dX6_addCustomer_44 ?_
      refine lv_iconst (v := nI 1) hx hb dX6_addCustomer_47 (by decide) ?_
      refine lv_dup2_11 hx hb dX6_addCustomer_48 rfl rfl ?_
      refine l_Mo_row X hP hp0 (by decide) dX6_addCustomer_49 ?_
      refine W.eq (g2 := F0 m 50 ls [.int ((upd (oR x) (13 + mm) demand) 1), .int (nI 1), .ref (ad (b + 1))]) rfl ?_
      refine q_val (upd_ne _ _ (by omega)) ?_
      refine q_val (h1 : oR x 1 = nI mm) ?_
      refine lv_iconst (v := nI 1) hx hb dX6_addCustomer_50 (by decide) ?_
      refine q_iadd hx hb dX6_addCustomer_51 ?_
      refine s_Mo_row X hi hP hS hp0 (by decide) dX6_addCustomer_52 (fun V5 H5 locs5 hp0 h2 hP hS => ?_)
      have hp0 : MoP N ad V5 t b (mkM (upd (upd (oR x) (13 + mm) demand) 1 (nI (mm + 1))) (oP (f_X6_begin x)) (oA x) (oB (f_X6_begin x)) (oS (f_X6_begin x)) (oI x) (oX x) (oL x) (oT x) (oN x)) := hp0
      have hfr : ∀ k, (k < b ∨ b + 7 ≤ k) → V5 k = V k := fun k hk => (h2 k (by omega)).trans (hfr k hk)
      refine lv_aload_n hx hb dX6_addCustomer_53 rfl (lv_at hl 1 rfl) ?_
      refine r_callW (As := []) (rest := []) (ci := 6) X hP hS (c_X6_dropAll hi hp0) o_X6_dropAll rfl hp0.lt hp0.ob m155 ⟨rfl, rfl⟩ ⟨Nat.le_of_ble_eq_true rfl, Nat.le_of_ble_eq_true rfl⟩ rfl hl.1 rfl (Nat.le_of_ble_eq_true rfl) ⟨Nat.zero_le _, Nat.zero_le _⟩ dX6_addCustomer_54 (fun V6 H6 locs6 hq hP hS => ?_)
      obtain ⟨hp0, h2⟩ := hq
      have hp0 : MoP N ad V6 t b (mkM (oR (f_X6_dropAll (mkM (upd (upd (oR x) (13 + mm) demand) 1 (nI (mm + 1))) (oP (f_X6_begin x)) (oA x) (oB (f_X6_begin x)) (oS (f_X6_begin x)) (oI x) (oX x) (oL x) (oT x) (oN x)))) (oP (f_X6_begin x)) (oA x) (oB (f_X6_begin x)) (oS (f_X6_begin x)) (oI x) (oX x) (oL x) (oT x) (oN x)) := hp0.ext (fun _ _ => rfl) (fun _ _ => congrFun u_X6_dropAll_0_1 _) (fun _ _ => congrFun u_X6_dropAll_0_2 _) (fun _ _ => congrFun u_X6_dropAll_0_3 _) u_X6_dropAll_0_4 u_X6_dropAll_0_5 (fun _ _ => congrFun u_X6_dropAll_0_6 _) u_X6_dropAll_0_7 u_X6_dropAll_0_8 (fun _ _ => congrFun u_X6_dropAll_0_9 _)
      have hfr : ∀ k, (k < b ∨ b + 7 ≤ k) → V6 k = V k := fun k hk => (h2 k (by omega)).trans (hfr k hk)
      refine lv_iload_n hx hb dX6_addCustomer_57 rfl (lv_at hl 0 rfl) ?_
      have hfin : f_X6_addCustomer x nn mm kk demand = (nI mm, mkM (oR (f_X6_dropAll (mkM (upd (upd (oR x) (13 + mm) demand) 1 (nI (mm + 1))) (oP (f_X6_begin x)) (oA x) (oB (f_X6_begin x)) (oS (f_X6_begin x)) (oI x) (oX x) (oL x) (oT x) (oN x)))) (oP (f_X6_begin x)) (oA x) (oB (f_X6_begin x)) (oS (f_X6_begin x)) (oI x) (oX x) (oL x) (oT x) (oN x)) := (by rw [f_X6_addCustomer, if_pos c1, if_neg c2] <;> rfl)
      exact kr 58 ls _ _ _ _ hP hS rfl ⟨by rw [hfin] <;> rfl, by rw [hfin]; exact hp0, hfr⟩ dX6_addCustomer_58
    · refine lv_bipush (v := (-3)) hx hb dX6_addCustomer_26 (by decide) ?_
      have hfin : f_X6_addCustomer x nn mm kk demand = ((-3), x) := (by rw [f_X6_addCustomer, if_pos c1, if_pos c2] <;> rfl)
      exact kr 28 ls _ _ _ _ hP hS rfl ⟨by rw [hfin] <;> rfl, by rw [hfin]; exact hp0, hfr⟩ dX6_addCustomer_28
  · refine lv_bipush (v := (-2)) hx hb dX6_addCustomer_10 (by decide) ?_
    have hfin : f_X6_addCustomer x nn mm kk demand = ((-2), x) := (by rw [f_X6_addCustomer, if_neg (nt c1)] <;> rfl)
    exact kr 12 ls _ _ _ _ hP hS rfl ⟨by rw [hfin] <;> rfl, by rw [hfin]; exact hp0, hfr⟩ dX6_addCustomer_12
theorem o_X6_addCustomer : okV yX6_addCustomer cX6_addCustomer 3 (some .int) 1 := ⟨m172, m173, m5, m174, by decide +kernel, by decide +kernel, by decide +kernel⟩
theorem u_X6_addCustomer_0_2 {x : MoC} {nn : Nat} {mm : Nat} {kk : Nat} {demand : Int32} : oA ((f_X6_addCustomer x nn mm kk demand).2) = oA x := by
  unfold f_X6_addCustomer
  (repeat' split) <;> rfl
theorem u_X6_addCustomer_0_5 {x : MoC} {nn : Nat} {mm : Nat} {kk : Nat} {demand : Int32} : oI ((f_X6_addCustomer x nn mm kk demand).2) = oI x := by
  unfold f_X6_addCustomer
  (repeat' split) <;> rfl
theorem u_X6_addCustomer_0_6 {x : MoC} {nn : Nat} {mm : Nat} {kk : Nat} {demand : Int32} : oX ((f_X6_addCustomer x nn mm kk demand).2) = oX x := by
  unfold f_X6_addCustomer
  (repeat' split) <;> rfl
theorem u_X6_addCustomer_0_7 {x : MoC} {nn : Nat} {mm : Nat} {kk : Nat} {demand : Int32} : oL ((f_X6_addCustomer x nn mm kk demand).2) = oL x := by
  unfold f_X6_addCustomer
  (repeat' split) <;> rfl
theorem u_X6_addCustomer_0_8 {x : MoC} {nn : Nat} {mm : Nat} {kk : Nat} {demand : Int32} : oT ((f_X6_addCustomer x nn mm kk demand).2) = oT x := by
  unfold f_X6_addCustomer
  (repeat' split) <;> rfl
theorem u_X6_addCustomer_0_9 {x : MoC} {nn : Nat} {mm : Nat} {kk : Nat} {demand : Int32} : oN ((f_X6_addCustomer x nn mm kk demand).2) = oN x := by
  unfold f_X6_addCustomer
  (repeat' split) <;> rfl
def rmX6_setPrice : Room := { frames := 3, cells := 0, slots := 0, locals := 64 }
def f_X6_setPrice (x : MoC) (nn : Nat) (mm : Nat) (kk : Nat) (site : Int32) (price : Int32) : Int32 × MoC :=
  (if (f_X6_noSite x nn mm kk site) = true then ((-1), x) else (if (f_X6_in price (nI 0) (nI 999)) = true then ((f_X6_change x (6 + (tn site)) price).1, mkM (oR ((f_X6_change x (6 + (tn site)) price).2)) (oP ((f_X6_change x (6 + (tn site)) price).2)) (oA x) (oB ((f_X6_change x (6 + (tn site)) price).2)) (oS ((f_X6_change x (6 + (tn site)) price).2)) (oI x) (oX x) (oL x) (oT x) (oN x)) else ((-2), x)))
set_option maxHeartbeats 4000000 in
set_option maxRecDepth 100000 in
theorem c_X6_setPrice {l : Launch} {dd : va_G} {t : CL4} {N : Nat} {ad : Nat → Nat} {V : Nat → va_E} {b : Nat} {x : MoC} {nn : Nat} {mm : Nat} {kk : Nat} (hi : inj N ad) (hp0 : MoP N ad V t b x) (site : Int32) (price : Int32) (h0 : oR x 0 = nI nn) (h1 : oR x 1 = nI mm) (h3 : oR x 3 = nI kk) (hn : nn ≤ 7) (hm : mm ≤ 8) (hk : kk ≤ 40) (hst : oS x ≤ 4) : MM l dd t N ad V yX6_setPrice cX6_setPrice 3 (some .int) rmX6_setPrice [.ref (ad b), .int (site), .int (price)] (fun r V1 => (r = (f_X6_setPrice x nn mm kk site price).1) ∧ (MoP N ad V1 t b ((f_X6_setPrice x nn mm kk site price).2)) ∧ (∀ k, (k < b ∨ b + 7 ≤ k) → V1 k = V k)) := by
  refine MM.of (by decide +kernel) ⟨rfl, rfl⟩ (Nat.le_of_ble_eq_true rfl) rfl ?_
  intro p e s m as below meth c Q X H hP hS ls hl kr
  have X : WX p s m as c cX6_setPrice 3 RX6 dd t := X
  have hx := X.1.1
  have hb := X.1.2.1
  have hl : lv_has ls 3 [(0, .ref (ad b)), (1, .int (site)), (2, .int (price))] := hl
  have hle0 := hp0.le
  have hfr : ∀ k, (k < b ∨ b + 7 ≤ k) → V k = V k := fun _ _ => rfl
  refine lv_aload_n hx hb dX6_setPrice_0 rfl (lv_at hl 0 rfl) ?_
  refine lv_iload_n hx hb dX6_setPrice_1 rfl (lv_at hl 1 rfl) ?_
  refine r_call (As := [.int (site)]) (rest := []) (ci := 6) X hP (c_X6_noSite (nn := nn) (mm := mm) (kk := kk) hp0 site h0 h1 h3 hn hm hk) o_X6_noSite rfl hp0.lt hp0.ob m188 ⟨rfl, rfl⟩ ⟨Nat.le_of_ble_eq_true rfl, Nat.le_of_ble_eq_true rfl⟩ rfl hl.1 rfl (Nat.le_of_ble_eq_true rfl) ⟨Nat.zero_le _, Nat.zero_le _⟩ dX6_setPrice_2 ?_
  refine q_eqB (tgt := 10) hx hb dX6_setPrice_5 (by decide) (fun c1 => ?_) (fun c1 => ?_)
  · have hr2 := noSite_n c1 (by omega)
    have hr2b := hr2.2
    refine lv_iload_n hx hb dX6_setPrice_10 rfl (lv_at hl 2 rfl) ?_
    refine lv_iconst (v := nI 0) hx hb dX6_setPrice_11 (by decide) ?_
    refine lv_sipush (v := nI 999) hx hb dX6_setPrice_12 (by decide) ?_
    refine r_callS (As := [.int (price), .int (nI 0), .int (nI 999)]) (rest := []) X hP (c_X6_in price (nI 0) (nI 999)) o_X6_in m139 ⟨rfl, rfl⟩ ⟨Nat.le_of_ble_eq_true rfl, Nat.le_of_ble_eq_true rfl⟩ rfl hl.1 rfl (Nat.le_of_ble_eq_true rfl) ⟨Nat.zero_le _, Nat.zero_le _⟩ dX6_setPrice_15 ?_
    refine q_eqB (tgt := 33) hx hb dX6_setPrice_18 (by decide) (fun c3 => ?_) (fun c3 => ?_)
    · refine lv_bipush (v := (-2)) hx hb dX6_setPrice_33 (by decide) ?_
      have hfin : f_X6_setPrice x nn mm kk site price = ((-2), x) := (by rw [f_X6_setPrice, if_neg (nt c1), if_neg (nt c3)] <;> rfl)
      exact kr 35 ls _ _ _ _ hP hS rfl ⟨by rw [hfin] <;> rfl, by rw [hfin]; exact hp0, hfr⟩ dX6_setPrice_35
    · refine lv_aload_n hx hb dX6_setPrice_21 rfl (lv_at hl 0 rfl) ?_
      refine lv_bipush (v := nI 6) hx hb dX6_setPrice_22 (by decide) ?_
      refine lv_iload_n hx hb dX6_setPrice_24 rfl (lv_at hl 1 rfl) ?_
      refine q_val (hr2.1 : site = nI (tn site)) ?_
      refine q_iadd hx hb dX6_setPrice_25 ?_
      refine lv_iload_n hx hb dX6_setPrice_26 rfl (lv_at hl 2 rfl) ?_
      refine r_callM (As := [.int (nI (6 + (tn site))), .int (price)]) (rest := []) (ci := 6) X hP hS (c_X6_change hi hp0 (6 + (tn site)) price hst (by omega)) o_X6_change rfl hp0.lt hp0.ob m192 ⟨rfl, rfl⟩ ⟨Nat.le_of_ble_eq_true rfl, Nat.le_of_ble_eq_true rfl⟩ rfl hl.1 rfl (Nat.le_of_ble_eq_true rfl) ⟨Nat.zero_le _, Nat.zero_le _⟩ dX6_setPrice_27 (fun r V4 H4 locs4 hq hP hS => ?_)
      obtain ⟨hr, hp0, h2⟩ := hq
      subst hr
      have hp0 : MoP N ad V4 t b (mkM (oR ((f_X6_change x (6 + (tn site)) price).2)) (oP ((f_X6_change x (6 + (tn site)) price).2)) (oA x) (oB ((f_X6_change x (6 + (tn site)) price).2)) (oS ((f_X6_change x (6 + (tn site)) price).2)) (oI x) (oX x) (oL x) (oT x) (oN x)) := hp0.ext (fun _ _ => rfl) (fun _ _ => rfl) (fun _ _ => congrFun u_X6_change_0_2 _) (fun _ _ => rfl) rfl u_X6_change_0_5 (fun _ _ => congrFun u_X6_change_0_6 _) u_X6_change_0_7 u_X6_change_0_8 (fun _ _ => congrFun u_X6_change_0_9 _)
      have hfr : ∀ k, (k < b ∨ b + 7 ≤ k) → V4 k = V k := fun k hk => (h2 k (by omega)).trans (hfr k hk)
      refine lv_goto (tgt := 35) hx hb dX6_setPrice_30 (by decide) ?_
      have hfin : f_X6_setPrice x nn mm kk site price = ((f_X6_change x (6 + (tn site)) price).1, mkM (oR ((f_X6_change x (6 + (tn site)) price).2)) (oP ((f_X6_change x (6 + (tn site)) price).2)) (oA x) (oB ((f_X6_change x (6 + (tn site)) price).2)) (oS ((f_X6_change x (6 + (tn site)) price).2)) (oI x) (oX x) (oL x) (oT x) (oN x)) := (by rw [f_X6_setPrice, if_neg (nt c1), if_pos c3] <;> rfl)
      exact kr 35 ls _ _ _ _ hP hS rfl ⟨by rw [hfin] <;> rfl, by rw [hfin]; exact hp0, hfr⟩ dX6_setPrice_35
  · refine lv_iconst (v := (-1)) hx hb dX6_setPrice_8 (by decide) ?_
    have hfin : f_X6_setPrice x nn mm kk site price = ((-1), x) := (by rw [f_X6_setPrice, if_pos c1] <;> rfl)
    exact kr 9 ls _ _ _ _ hP hS rfl ⟨by rw [hfin] <;> rfl, by rw [hfin]; exact hp0, hfr⟩ dX6_setPrice_9
theorem o_X6_setPrice : okV yX6_setPrice cX6_setPrice 3 (some .int) 2 := ⟨m185, m186, m5, m187, by decide +kernel, by decide +kernel, by decide +kernel⟩
theorem u_X6_setPrice_0_2 {x : MoC} {nn : Nat} {mm : Nat} {kk : Nat} {site : Int32} {price : Int32} : oA ((f_X6_setPrice x nn mm kk site price).2) = oA x := by
  unfold f_X6_setPrice
  (repeat' split) <;> rfl
theorem u_X6_setPrice_0_5 {x : MoC} {nn : Nat} {mm : Nat} {kk : Nat} {site : Int32} {price : Int32} : oI ((f_X6_setPrice x nn mm kk site price).2) = oI x := by
  unfold f_X6_setPrice
  (repeat' split) <;> rfl
theorem u_X6_setPrice_0_6 {x : MoC} {nn : Nat} {mm : Nat} {kk : Nat} {site : Int32} {price : Int32} : oX ((f_X6_setPrice x nn mm kk site price).2) = oX x := by
  unfold f_X6_setPrice
  (repeat' split) <;> rfl
theorem u_X6_setPrice_0_7 {x : MoC} {nn : Nat} {mm : Nat} {kk : Nat} {site : Int32} {price : Int32} : oL ((f_X6_setPrice x nn mm kk site price).2) = oL x := by
  unfold f_X6_setPrice
  (repeat' split) <;> rfl
theorem u_X6_setPrice_0_8 {x : MoC} {nn : Nat} {mm : Nat} {kk : Nat} {site : Int32} {price : Int32} : oT ((f_X6_setPrice x nn mm kk site price).2) = oT x := by
  unfold f_X6_setPrice
  (repeat' split) <;> rfl
theorem u_X6_setPrice_0_9 {x : MoC} {nn : Nat} {mm : Nat} {kk : Nat} {site : Int32} {price : Int32} : oN ((f_X6_setPrice x nn mm kk site price).2) = oN x := by
  unfold f_X6_setPrice
  (repeat' split) <;> rfl
def rmX6_setDemand : Room := { frames := 3, cells := 0, slots := 0, locals := 64 }
def f_X6_setDemand (x : MoC) (nn : Nat) (mm : Nat) (kk : Nat) (customer : Int32) (demand : Int32) : Int32 × MoC :=
  (if (f_X6_noCustomer x nn mm kk customer) = true then ((-1), x) else (if (f_X6_in demand (nI 1) (nI 20)) = true then ((f_X6_change x (13 + (tn customer)) demand).1, mkM (oR ((f_X6_change x (13 + (tn customer)) demand).2)) (oP ((f_X6_change x (13 + (tn customer)) demand).2)) (oA x) (oB ((f_X6_change x (13 + (tn customer)) demand).2)) (oS ((f_X6_change x (13 + (tn customer)) demand).2)) (oI x) (oX x) (oL x) (oT x) (oN x)) else ((-2), x)))
set_option maxHeartbeats 4000000 in
set_option maxRecDepth 100000 in
theorem c_X6_setDemand {l : Launch} {dd : va_G} {t : CL4} {N : Nat} {ad : Nat → Nat} {V : Nat → va_E} {b : Nat} {x : MoC} {nn : Nat} {mm : Nat} {kk : Nat} (hi : inj N ad) (hp0 : MoP N ad V t b x) (customer : Int32) (demand : Int32) (h0 : oR x 0 = nI nn) (h1 : oR x 1 = nI mm) (h3 : oR x 3 = nI kk) (hn : nn ≤ 7) (hm : mm ≤ 8) (hk : kk ≤ 40) (hst : oS x ≤ 4) : MM l dd t N ad V yX6_setDemand cX6_setDemand 3 (some .int) rmX6_setDemand [.ref (ad b), .int (customer), .int (demand)] (fun r V1 => (r = (f_X6_setDemand x nn mm kk customer demand).1) ∧ (MoP N ad V1 t b ((f_X6_setDemand x nn mm kk customer demand).2)) ∧ (∀ k, (k < b ∨ b + 7 ≤ k) → V1 k = V k)) := by
  refine MM.of (by decide +kernel) ⟨rfl, rfl⟩ (Nat.le_of_ble_eq_true rfl) rfl ?_
  intro p e s m as below meth c Q X H hP hS ls hl kr
  have X : WX p s m as c cX6_setDemand 3 RX6 dd t := X
  have hx := X.1.1
  have hb := X.1.2.1
  have hl : lv_has ls 3 [(0, .ref (ad b)), (1, .int (customer)), (2, .int (demand))] := hl
  have hle0 := hp0.le
  have hfr : ∀ k, (k < b ∨ b + 7 ≤ k) → V k = V k := fun _ _ => rfl
  refine lv_aload_n hx hb dX6_setDemand_0 rfl (lv_at hl 0 rfl) ?_
  refine lv_iload_n hx hb dX6_setDemand_1 rfl (lv_at hl 1 rfl) ?_
  refine r_call (As := [.int (customer)]) (rest := []) (ci := 6) X hP (c_X6_noCustomer (nn := nn) (mm := mm) (kk := kk) hp0 customer h0 h1 h3 hn hm hk) o_X6_noCustomer rfl hp0.lt hp0.ob m209 ⟨rfl, rfl⟩ ⟨Nat.le_of_ble_eq_true rfl, Nat.le_of_ble_eq_true rfl⟩ rfl hl.1 rfl (Nat.le_of_ble_eq_true rfl) ⟨Nat.zero_le _, Nat.zero_le _⟩ dX6_setDemand_2 ?_
  refine q_eqB (tgt := 10) hx hb dX6_setDemand_5 (by decide) (fun c1 => ?_) (fun c1 => ?_)
  · have hr2 := noCust_n c1 (by omega)
    have hr2b := hr2.2
    refine lv_iload_n hx hb dX6_setDemand_10 rfl (lv_at hl 2 rfl) ?_
    refine lv_iconst (v := nI 1) hx hb dX6_setDemand_11 (by decide) ?_
    refine lv_bipush (v := nI 20) hx hb dX6_setDemand_12 (by decide) ?_
    refine r_callS (As := [.int (demand), .int (nI 1), .int (nI 20)]) (rest := []) X hP (c_X6_in demand (nI 1) (nI 20)) o_X6_in m139 ⟨rfl, rfl⟩ ⟨Nat.le_of_ble_eq_true rfl, Nat.le_of_ble_eq_true rfl⟩ rfl hl.1 rfl (Nat.le_of_ble_eq_true rfl) ⟨Nat.zero_le _, Nat.zero_le _⟩ dX6_setDemand_14 ?_
    refine q_eqB (tgt := 32) hx hb dX6_setDemand_17 (by decide) (fun c3 => ?_) (fun c3 => ?_)
    · refine lv_bipush (v := (-2)) hx hb dX6_setDemand_32 (by decide) ?_
      have hfin : f_X6_setDemand x nn mm kk customer demand = ((-2), x) := (by rw [f_X6_setDemand, if_neg (nt c1), if_neg (nt c3)] <;> rfl)
      exact kr 34 ls _ _ _ _ hP hS rfl ⟨by rw [hfin] <;> rfl, by rw [hfin]; exact hp0, hfr⟩ dX6_setDemand_34
    · refine lv_aload_n hx hb dX6_setDemand_20 rfl (lv_at hl 0 rfl) ?_
      refine lv_bipush (v := nI 13) hx hb dX6_setDemand_21 (by decide) ?_
      refine lv_iload_n hx hb dX6_setDemand_23 rfl (lv_at hl 1 rfl) ?_
      refine q_val (hr2.1 : customer = nI (tn customer)) ?_
      refine q_iadd hx hb dX6_setDemand_24 ?_
      refine lv_iload_n hx hb dX6_setDemand_25 rfl (lv_at hl 2 rfl) ?_
      refine r_callM (As := [.int (nI (13 + (tn customer))), .int (demand)]) (rest := []) (ci := 6) X hP hS (c_X6_change hi hp0 (13 + (tn customer)) demand hst (by omega)) o_X6_change rfl hp0.lt hp0.ob m192 ⟨rfl, rfl⟩ ⟨Nat.le_of_ble_eq_true rfl, Nat.le_of_ble_eq_true rfl⟩ rfl hl.1 rfl (Nat.le_of_ble_eq_true rfl) ⟨Nat.zero_le _, Nat.zero_le _⟩ dX6_setDemand_26 (fun r V4 H4 locs4 hq hP hS => ?_)
      obtain ⟨hr, hp0, h2⟩ := hq
      subst hr
      have hp0 : MoP N ad V4 t b (mkM (oR ((f_X6_change x (13 + (tn customer)) demand).2)) (oP ((f_X6_change x (13 + (tn customer)) demand).2)) (oA x) (oB ((f_X6_change x (13 + (tn customer)) demand).2)) (oS ((f_X6_change x (13 + (tn customer)) demand).2)) (oI x) (oX x) (oL x) (oT x) (oN x)) := hp0.ext (fun _ _ => rfl) (fun _ _ => rfl) (fun _ _ => congrFun u_X6_change_0_2 _) (fun _ _ => rfl) rfl u_X6_change_0_5 (fun _ _ => congrFun u_X6_change_0_6 _) u_X6_change_0_7 u_X6_change_0_8 (fun _ _ => congrFun u_X6_change_0_9 _)
      have hfr : ∀ k, (k < b ∨ b + 7 ≤ k) → V4 k = V k := fun k hk => (h2 k (by omega)).trans (hfr k hk)
      refine lv_goto (tgt := 34) hx hb dX6_setDemand_29 (by decide) ?_
      have hfin : f_X6_setDemand x nn mm kk customer demand = ((f_X6_change x (13 + (tn customer)) demand).1, mkM (oR ((f_X6_change x (13 + (tn customer)) demand).2)) (oP ((f_X6_change x (13 + (tn customer)) demand).2)) (oA x) (oB ((f_X6_change x (13 + (tn customer)) demand).2)) (oS ((f_X6_change x (13 + (tn customer)) demand).2)) (oI x) (oX x) (oL x) (oT x) (oN x)) := (by rw [f_X6_setDemand, if_neg (nt c1), if_pos c3] <;> rfl)
      exact kr 34 ls _ _ _ _ hP hS rfl ⟨by rw [hfin] <;> rfl, by rw [hfin]; exact hp0, hfr⟩ dX6_setDemand_34
  · refine lv_iconst (v := (-1)) hx hb dX6_setDemand_8 (by decide) ?_
    have hfin : f_X6_setDemand x nn mm kk customer demand = ((-1), x) := (by rw [f_X6_setDemand, if_pos c1] <;> rfl)
    exact kr 9 ls _ _ _ _ hP hS rfl ⟨by rw [hfin] <;> rfl, by rw [hfin]; exact hp0, hfr⟩ dX6_setDemand_9
theorem o_X6_setDemand : okV yX6_setDemand cX6_setDemand 3 (some .int) 2 := ⟨m206, m207, m5, m208, by decide +kernel, by decide +kernel, by decide +kernel⟩
theorem u_X6_setDemand_0_2 {x : MoC} {nn : Nat} {mm : Nat} {kk : Nat} {customer : Int32} {demand : Int32} : oA ((f_X6_setDemand x nn mm kk customer demand).2) = oA x := by
  unfold f_X6_setDemand
  (repeat' split) <;> rfl
theorem u_X6_setDemand_0_5 {x : MoC} {nn : Nat} {mm : Nat} {kk : Nat} {customer : Int32} {demand : Int32} : oI ((f_X6_setDemand x nn mm kk customer demand).2) = oI x := by
  unfold f_X6_setDemand
  (repeat' split) <;> rfl
theorem u_X6_setDemand_0_6 {x : MoC} {nn : Nat} {mm : Nat} {kk : Nat} {customer : Int32} {demand : Int32} : oX ((f_X6_setDemand x nn mm kk customer demand).2) = oX x := by
  unfold f_X6_setDemand
  (repeat' split) <;> rfl
theorem u_X6_setDemand_0_7 {x : MoC} {nn : Nat} {mm : Nat} {kk : Nat} {customer : Int32} {demand : Int32} : oL ((f_X6_setDemand x nn mm kk customer demand).2) = oL x := by
  unfold f_X6_setDemand
  (repeat' split) <;> rfl
theorem u_X6_setDemand_0_8 {x : MoC} {nn : Nat} {mm : Nat} {kk : Nat} {customer : Int32} {demand : Int32} : oT ((f_X6_setDemand x nn mm kk customer demand).2) = oT x := by
  unfold f_X6_setDemand
  (repeat' split) <;> rfl
theorem u_X6_setDemand_0_9 {x : MoC} {nn : Nat} {mm : Nat} {kk : Nat} {customer : Int32} {demand : Int32} : oN ((f_X6_setDemand x nn mm kk customer demand).2) = oN x := by
  unfold f_X6_setDemand
  (repeat' split) <;> rfl
def rmX6_setRoute : Room := { frames := 3, cells := 0, slots := 0, locals := 64 }
def f_X6_setRoute (x : MoC) (nn : Nat) (mm : Nat) (kk : Nat) (site : Int32) (customer : Int32) (price : Int32) : Int32 × MoC :=
  (if (f_X6_noSite x nn mm kk site) = true then ((-1), x) else (if (f_X6_noCustomer x nn mm kk customer) = true then ((-1), x) else (if (f_X6_in price (nI 0) (nI 100)) = true then ((f_X6_change x (21 + 8 * (tn site) + (tn customer)) price).1, mkM (oR ((f_X6_change x (21 + 8 * (tn site) + (tn customer)) price).2)) (oP ((f_X6_change x (21 + 8 * (tn site) + (tn customer)) price).2)) (oA x) (oB ((f_X6_change x (21 + 8 * (tn site) + (tn customer)) price).2)) (oS ((f_X6_change x (21 + 8 * (tn site) + (tn customer)) price).2)) (oI x) (oX x) (oL x) (oT x) (oN x)) else ((-2), x))))
set_option maxHeartbeats 4000000 in
set_option maxRecDepth 100000 in
theorem c_X6_setRoute {l : Launch} {dd : va_G} {t : CL4} {N : Nat} {ad : Nat → Nat} {V : Nat → va_E} {b : Nat} {x : MoC} {nn : Nat} {mm : Nat} {kk : Nat} (hi : inj N ad) (hp0 : MoP N ad V t b x) (site : Int32) (customer : Int32) (price : Int32) (h0 : oR x 0 = nI nn) (h1 : oR x 1 = nI mm) (h3 : oR x 3 = nI kk) (hn : nn ≤ 7) (hm : mm ≤ 8) (hk : kk ≤ 40) (hst : oS x ≤ 4) : MM l dd t N ad V yX6_setRoute cX6_setRoute 4 (some .int) rmX6_setRoute [.ref (ad b), .int (site), .int (customer), .int (price)] (fun r V1 => (r = (f_X6_setRoute x nn mm kk site customer price).1) ∧ (MoP N ad V1 t b ((f_X6_setRoute x nn mm kk site customer price).2)) ∧ (∀ k, (k < b ∨ b + 7 ≤ k) → V1 k = V k)) := by
  refine MM.of (by decide +kernel) ⟨rfl, rfl⟩ (Nat.le_of_ble_eq_true rfl) rfl ?_
  intro p e s m as below meth c Q X H hP hS ls hl kr
  have X : WX p s m as c cX6_setRoute 4 RX6 dd t := X
  have hx := X.1.1
  have hb := X.1.2.1
  have hl : lv_has ls 4 [(0, .ref (ad b)), (1, .int (site)), (2, .int (customer)), (3, .int (price))] := hl
  have hle0 := hp0.le
  have hfr : ∀ k, (k < b ∨ b + 7 ≤ k) → V k = V k := fun _ _ => rfl
  refine lv_aload_n hx hb dX6_setRoute_0 rfl (lv_at hl 0 rfl) ?_
  refine lv_iload_n hx hb dX6_setRoute_1 rfl (lv_at hl 1 rfl) ?_
  refine r_call (As := [.int (site)]) (rest := []) (ci := 6) X hP (c_X6_noSite (nn := nn) (mm := mm) (kk := kk) hp0 site h0 h1 h3 hn hm hk) o_X6_noSite rfl hp0.lt hp0.ob m188 ⟨rfl, rfl⟩ ⟨Nat.le_of_ble_eq_true rfl, Nat.le_of_ble_eq_true rfl⟩ rfl hl.1 rfl (Nat.le_of_ble_eq_true rfl) ⟨Nat.zero_le _, Nat.zero_le _⟩ dX6_setRoute_2 ?_
  refine q_neB (tgt := 16) hx hb dX6_setRoute_5 (by decide) (fun c1 => ?_) (fun c1 => ?_)
  · refine lv_iconst (v := (-1)) hx hb dX6_setRoute_16 (by decide) ?_
    have hfin : f_X6_setRoute x nn mm kk site customer price = ((-1), x) := (by rw [f_X6_setRoute, if_pos c1] <;> rfl)
    exact kr 17 ls _ _ _ _ hP hS rfl ⟨by rw [hfin] <;> rfl, by rw [hfin]; exact hp0, hfr⟩ dX6_setRoute_17
  · have hr2 := noSite_n c1 (by omega)
    have hr2b := hr2.2
    refine lv_aload_n hx hb dX6_setRoute_8 rfl (lv_at hl 0 rfl) ?_
    refine lv_iload_n hx hb dX6_setRoute_9 rfl (lv_at hl 2 rfl) ?_
    refine r_call (As := [.int (customer)]) (rest := []) (ci := 6) X hP (c_X6_noCustomer (nn := nn) (mm := mm) (kk := kk) hp0 customer h0 h1 h3 hn hm hk) o_X6_noCustomer rfl hp0.lt hp0.ob m209 ⟨rfl, rfl⟩ ⟨Nat.le_of_ble_eq_true rfl, Nat.le_of_ble_eq_true rfl⟩ rfl hl.1 rfl (Nat.le_of_ble_eq_true rfl) ⟨Nat.zero_le _, Nat.zero_le _⟩ dX6_setRoute_10 ?_
    refine q_eqB (tgt := 18) hx hb dX6_setRoute_13 (by decide) (fun c3 => ?_) (fun c3 => ?_)
    · have hr4 := noCust_n c3 (by omega)
      have hr4b := hr4.2
      refine lv_iload_n hx hb dX6_setRoute_18 rfl (lv_at hl 3 rfl) ?_
      refine lv_iconst (v := nI 0) hx hb dX6_setRoute_19 (by decide) ?_
      refine lv_bipush (v := nI 100) hx hb dX6_setRoute_20 (by decide) ?_
      refine r_callS (As := [.int (price), .int (nI 0), .int (nI 100)]) (rest := []) X hP (c_X6_in price (nI 0) (nI 100)) o_X6_in m139 ⟨rfl, rfl⟩ ⟨Nat.le_of_ble_eq_true rfl, Nat.le_of_ble_eq_true rfl⟩ rfl hl.1 rfl (Nat.le_of_ble_eq_true rfl) ⟨Nat.zero_le _, Nat.zero_le _⟩ dX6_setRoute_22 ?_
      refine q_eqB (tgt := 41) hx hb dX6_setRoute_25 (by decide) (fun c5 => ?_) (fun c5 => ?_)
      · refine lv_bipush (v := (-2)) hx hb dX6_setRoute_41 (by decide) ?_
        have hfin : f_X6_setRoute x nn mm kk site customer price = ((-2), x) := (by rw [f_X6_setRoute, if_neg (nt c1), if_neg (nt c3), if_neg (nt c5)] <;> rfl)
        exact kr 43 ls _ _ _ _ hP hS rfl ⟨by rw [hfin] <;> rfl, by rw [hfin]; exact hp0, hfr⟩ dX6_setRoute_43
      · refine lv_aload_n hx hb dX6_setRoute_28 rfl (lv_at hl 0 rfl) ?_
        refine lv_iload_n hx hb dX6_setRoute_29 rfl (lv_at hl 1 rfl) ?_
        refine q_val (hr2.1 : site = nI (tn site)) ?_
        refine lv_iload_n hx hb dX6_setRoute_30 rfl (lv_at hl 2 rfl) ?_
        refine q_val (hr4.1 : customer = nI (tn customer)) ?_
        refine r_callS (As := [.int (nI (tn site)), .int (nI (tn customer))]) (rest := [.ref (ad b)]) X hP (c_X6_route (tn site) (tn customer)) o_X6_route m222 ⟨rfl, rfl⟩ ⟨Nat.le_of_ble_eq_true rfl, Nat.le_of_ble_eq_true rfl⟩ rfl hl.1 rfl (Nat.le_of_ble_eq_true rfl) ⟨Nat.zero_le _, Nat.zero_le _⟩ dX6_setRoute_31 ?_
        refine q_val (show nI (f_X6_route (tn site) (tn customer)) = nI (21 + 8 * (tn site) + (tn customer)) from rfl) ?_
        refine lv_iload_n hx hb dX6_setRoute_34 rfl (lv_at hl 3 rfl) ?_
        refine r_callM (As := [.int (nI (21 + 8 * (tn site) + (tn customer))), .int (price)]) (rest := []) (ci := 6) X hP hS (c_X6_change hi hp0 (21 + 8 * (tn site) + (tn customer)) price hst (by omega)) o_X6_change rfl hp0.lt hp0.ob m192 ⟨rfl, rfl⟩ ⟨Nat.le_of_ble_eq_true rfl, Nat.le_of_ble_eq_true rfl⟩ rfl hl.1 rfl (Nat.le_of_ble_eq_true rfl) ⟨Nat.zero_le _, Nat.zero_le _⟩ dX6_setRoute_35 (fun r V6 H6 locs6 hq hP hS => ?_)
        obtain ⟨hr, hp0, h2⟩ := hq
        subst hr
        have hp0 : MoP N ad V6 t b (mkM (oR ((f_X6_change x (21 + 8 * (tn site) + (tn customer)) price).2)) (oP ((f_X6_change x (21 + 8 * (tn site) + (tn customer)) price).2)) (oA x) (oB ((f_X6_change x (21 + 8 * (tn site) + (tn customer)) price).2)) (oS ((f_X6_change x (21 + 8 * (tn site) + (tn customer)) price).2)) (oI x) (oX x) (oL x) (oT x) (oN x)) := hp0.ext (fun _ _ => rfl) (fun _ _ => rfl) (fun _ _ => congrFun u_X6_change_0_2 _) (fun _ _ => rfl) rfl u_X6_change_0_5 (fun _ _ => congrFun u_X6_change_0_6 _) u_X6_change_0_7 u_X6_change_0_8 (fun _ _ => congrFun u_X6_change_0_9 _)
        have hfr : ∀ k, (k < b ∨ b + 7 ≤ k) → V6 k = V k := fun k hk => (h2 k (by omega)).trans (hfr k hk)
        refine lv_goto (tgt := 43) hx hb dX6_setRoute_38 (by decide) ?_
        have hfin : f_X6_setRoute x nn mm kk site customer price = ((f_X6_change x (21 + 8 * (tn site) + (tn customer)) price).1, mkM (oR ((f_X6_change x (21 + 8 * (tn site) + (tn customer)) price).2)) (oP ((f_X6_change x (21 + 8 * (tn site) + (tn customer)) price).2)) (oA x) (oB ((f_X6_change x (21 + 8 * (tn site) + (tn customer)) price).2)) (oS ((f_X6_change x (21 + 8 * (tn site) + (tn customer)) price).2)) (oI x) (oX x) (oL x) (oT x) (oN x)) := (by rw [f_X6_setRoute, if_neg (nt c1), if_neg (nt c3), if_pos c5] <;> rfl)
        exact kr 43 ls _ _ _ _ hP hS rfl ⟨by rw [hfin] <;> rfl, by rw [hfin]; exact hp0, hfr⟩ dX6_setRoute_43
    · refine lv_iconst (v := (-1)) hx hb dX6_setRoute_16 (by decide) ?_
      have hfin : f_X6_setRoute x nn mm kk site customer price = ((-1), x) := (by rw [f_X6_setRoute, if_neg (nt c1), if_pos c3] <;> rfl)
      exact kr 17 ls _ _ _ _ hP hS rfl ⟨by rw [hfin] <;> rfl, by rw [hfin]; exact hp0, hfr⟩ dX6_setRoute_17
theorem o_X6_setRoute : okV yX6_setRoute cX6_setRoute 4 (some .int) 3 := ⟨m219, m220, m5, m221, by decide +kernel, by decide +kernel, by decide +kernel⟩
theorem u_X6_setRoute_0_2 {x : MoC} {nn : Nat} {mm : Nat} {kk : Nat} {site : Int32} {customer : Int32} {price : Int32} : oA ((f_X6_setRoute x nn mm kk site customer price).2) = oA x := by
  unfold f_X6_setRoute
  (repeat' split) <;> rfl
theorem u_X6_setRoute_0_5 {x : MoC} {nn : Nat} {mm : Nat} {kk : Nat} {site : Int32} {customer : Int32} {price : Int32} : oI ((f_X6_setRoute x nn mm kk site customer price).2) = oI x := by
  unfold f_X6_setRoute
  (repeat' split) <;> rfl
theorem u_X6_setRoute_0_6 {x : MoC} {nn : Nat} {mm : Nat} {kk : Nat} {site : Int32} {customer : Int32} {price : Int32} : oX ((f_X6_setRoute x nn mm kk site customer price).2) = oX x := by
  unfold f_X6_setRoute
  (repeat' split) <;> rfl
theorem u_X6_setRoute_0_7 {x : MoC} {nn : Nat} {mm : Nat} {kk : Nat} {site : Int32} {customer : Int32} {price : Int32} : oL ((f_X6_setRoute x nn mm kk site customer price).2) = oL x := by
  unfold f_X6_setRoute
  (repeat' split) <;> rfl
theorem u_X6_setRoute_0_8 {x : MoC} {nn : Nat} {mm : Nat} {kk : Nat} {site : Int32} {customer : Int32} {price : Int32} : oT ((f_X6_setRoute x nn mm kk site customer price).2) = oT x := by
  unfold f_X6_setRoute
  (repeat' split) <;> rfl
theorem u_X6_setRoute_0_9 {x : MoC} {nn : Nat} {mm : Nat} {kk : Nat} {site : Int32} {customer : Int32} {price : Int32} : oN ((f_X6_setRoute x nn mm kk site customer price).2) = oN x := by
  unfold f_X6_setRoute
  (repeat' split) <;> rfl
def rmX6_setMost : Room := { frames := 2, cells := 0, slots := 0, locals := 41 }
def f_X6_setMost (x : MoC) (nn : Nat) (mm : Nat) (kk : Nat) (sites : Int32) : Int32 × MoC :=
  (if (f_X6_in sites (nI 1) (nI 7)) = true then (if (oR x 2) = sites then ((-5), x) else (oR x 2, mkM (upd (upd (oR x) 2 sites) 4 (-5)) (oP (f_X6_begin x)) (oA x) (oB (f_X6_begin x)) (oS (f_X6_begin x)) (oI x) (oX x) (oL x) (oT x) (oN x))) else ((-2), x))
set_option maxHeartbeats 4000000 in
set_option maxRecDepth 100000 in
theorem c_X6_setMost {l : Launch} {dd : va_G} {t : CL4} {N : Nat} {ad : Nat → Nat} {V : Nat → va_E} {b : Nat} {x : MoC} {nn : Nat} {mm : Nat} {kk : Nat} (hi : inj N ad) (hp0 : MoP N ad V t b x) (sites : Int32) (h0 : oR x 0 = nI nn) (h1 : oR x 1 = nI mm) (h3 : oR x 3 = nI kk) (hn : nn ≤ 7) (hm : mm ≤ 8) (hk : kk ≤ 40) (hst : oS x ≤ 4) : MM l dd t N ad V yX6_setMost cX6_setMost 3 (some .int) rmX6_setMost [.ref (ad b), .int (sites)] (fun r V1 => (r = (f_X6_setMost x nn mm kk sites).1) ∧ (MoP N ad V1 t b ((f_X6_setMost x nn mm kk sites).2)) ∧ (∀ k, (k < b ∨ b + 7 ≤ k) → V1 k = V k)) := by
  refine MM.of (by decide +kernel) ⟨rfl, rfl⟩ (Nat.le_of_ble_eq_true rfl) rfl ?_
  intro p e s m as below meth c Q X H hP hS ls hl kr
  have X : WX p s m as c cX6_setMost 3 RX6 dd t := X
  have hx := X.1.1
  have hb := X.1.2.1
  have hl : lv_has ls 3 [(0, .ref (ad b)), (1, .int (sites))] := hl
  have hle0 := hp0.le
  have hfr : ∀ k, (k < b ∨ b + 7 ≤ k) → V k = V k := fun _ _ => rfl
  refine lv_iload_n hx hb dX6_setMost_0 rfl (lv_at hl 1 rfl) ?_
  refine lv_iconst (v := nI 1) hx hb dX6_setMost_1 (by decide) ?_
  refine lv_bipush (v := nI 7) hx hb dX6_setMost_2 (by decide) ?_
  refine r_callS (As := [.int (sites), .int (nI 1), .int (nI 7)]) (rest := []) X hP (c_X6_in sites (nI 1) (nI 7)) o_X6_in m139 ⟨rfl, rfl⟩ ⟨Nat.le_of_ble_eq_true rfl, Nat.le_of_ble_eq_true rfl⟩ rfl hl.1 rfl (Nat.le_of_ble_eq_true rfl) ⟨Nat.zero_le _, Nat.zero_le _⟩ dX6_setMost_4 ?_
  refine q_neB (tgt := 13) hx hb dX6_setMost_7 (by decide) (fun c1 => ?_) (fun c1 => ?_)
  · refine lv_aload_n hx hb dX6_setMost_13 rfl (lv_at hl 0 rfl) ?_
    refine g_Mo_row X hP hp0 m83 dX6_setMost_14 ?_
    refine lv_iconst (v := nI 2) hx hb dX6_setMost_17 (by decide) ?_
    refine l_Mo_row X hP hp0 (by decide) dX6_setMost_18 ?_
    refine lv_istore_n (lv' := [(2, .int (oR x 2)), (0, .ref (ad b)), (1, .int (sites))]) hx hb dX6_setMost_19 rfl hl (by decide) rfl (fun ls hl => ?_)
    refine lv_iload_n hx hb dX6_setMost_20 rfl (lv_at hl 0 rfl) ?_
    refine lv_iload_n hx hb dX6_setMost_21 rfl (lv_at hl 2 rfl) ?_
    refine lv_icmp_ne (tgt := 28) hx hb dX6_setMost_22 (by decide) (fun c2 => ?_) (fun c2 => ?_)
    · refine lv_aload_n hx hb dX6_setMost_28 rfl (lv_at hl 1 rfl) ?_
      refine r_callW (As := []) (rest := []) (ci := 6) X hP hS (c_X6_begin hi hp0 hst) o_X6_begin rfl hp0.lt hp0.ob m142 ⟨rfl, rfl⟩ ⟨Nat.le_of_ble_eq_true rfl, Nat.le_of_ble_eq_true rfl⟩ rfl hl.1 rfl (Nat.le_of_ble_eq_true rfl) ⟨Nat.zero_le _, Nat.zero_le _⟩ dX6_setMost_29 (fun V3 H3 locs3 hq hP hS => ?_)
      obtain ⟨hp0, h2⟩ := hq
      have hp0 : MoP N ad V3 t b (mkM (oR x) (oP (f_X6_begin x)) (oA x) (oB (f_X6_begin x)) (oS (f_X6_begin x)) (oI x) (oX x) (oL x) (oT x) (oN x)) := hp0.ext (fun _ _ => congrFun u_X6_begin_0_0 _) (fun _ _ => rfl) (fun _ _ => congrFun u_X6_begin_0_2 _) (fun _ _ => rfl) rfl u_X6_begin_0_5 (fun _ _ => congrFun u_X6_begin_0_6 _) u_X6_begin_0_7 u_X6_begin_0_8 (fun _ _ => congrFun u_X6_begin_0_9 _)
      have hfr : ∀ k, (k < b ∨ b + 7 ≤ k) → V3 k = V k := fun k hk => (h2 k (by omega)).trans (hfr k hk)
      refine lv_aload_n hx hb dX6_setMost_32 rfl (lv_at hl 1 rfl) ?_
      refine g_Mo_row X hP hp0 m83 dX6_setMost_33 ?_
      refine lv_iconst (v := nI 2) hx hb dX6_setMost_36 (by decide) ?_
      refine lv_iload_n hx hb dX6_setMost_37 rfl (lv_at hl 2 rfl) ?_
      refine s_Mo_row X hi hP hS hp0 (by decide) dX6_setMost_38 (fun V4 H4 locs4 hp0 h2 hP hS => ?_)
      have hp0 : MoP N ad V4 t b (mkM (upd (oR x) 2 sites) (oP (f_X6_begin x)) (oA x) (oB (f_X6_begin x)) (oS (f_X6_begin x)) (oI x) (oX x) (oL x) (oT x) (oN x)) := hp0
      have hfr : ∀ k, (k < b ∨ b + 7 ≤ k) → V4 k = V k := fun k hk => (h2 k (by omega)).trans (hfr k hk)
      refine lv_aload_n hx hb dX6_setMost_39 rfl (lv_at hl 1 rfl) ?_
      refine g_Mo_row X hP hp0 m83 dX6_setMost_40 ?_
      refine lv_iconst (v := nI 4) hx hb dX6_setMost_43 (by decide) ?_
      refine lv_bipush (v := (-5)) hx hb dX6_setMost_44 (by decide) ?_
      refine s_Mo_row X hi hP hS hp0 (by decide) dX6_setMost_46 (fun V5 H5 locs5 hp0 h2 hP hS => ?_)
      have hp0 : MoP N ad V5 t b (mkM (upd (upd (oR x) 2 sites) 4 (-5)) (oP (f_X6_begin x)) (oA x) (oB (f_X6_begin x)) (oS (f_X6_begin x)) (oI x) (oX x) (oL x) (oT x) (oN x)) := hp0
      have hfr : ∀ k, (k < b ∨ b + 7 ≤ k) → V5 k = V k := fun k hk => (h2 k (by omega)).trans (hfr k hk)
      refine lv_iload_n hx hb dX6_setMost_47 rfl (lv_at hl 0 rfl) ?_
      have hfin : f_X6_setMost x nn mm kk sites = (oR x 2, mkM (upd (upd (oR x) 2 sites) 4 (-5)) (oP (f_X6_begin x)) (oA x) (oB (f_X6_begin x)) (oS (f_X6_begin x)) (oI x) (oX x) (oL x) (oT x) (oN x)) := (by rw [f_X6_setMost, if_pos c1, if_neg c2] <;> rfl)
      exact kr 48 ls _ _ _ _ hP hS rfl ⟨by rw [hfin] <;> rfl, by rw [hfin]; exact hp0, hfr⟩ dX6_setMost_48
    · refine lv_bipush (v := (-5)) hx hb dX6_setMost_25 (by decide) ?_
      have hfin : f_X6_setMost x nn mm kk sites = ((-5), x) := (by rw [f_X6_setMost, if_pos c1, if_pos c2] <;> rfl)
      exact kr 27 ls _ _ _ _ hP hS rfl ⟨by rw [hfin] <;> rfl, by rw [hfin]; exact hp0, hfr⟩ dX6_setMost_27
  · refine lv_bipush (v := (-2)) hx hb dX6_setMost_10 (by decide) ?_
    have hfin : f_X6_setMost x nn mm kk sites = ((-2), x) := (by rw [f_X6_setMost, if_neg (nt c1)] <;> rfl)
    exact kr 12 ls _ _ _ _ hP hS rfl ⟨by rw [hfin] <;> rfl, by rw [hfin]; exact hp0, hfr⟩ dX6_setMost_12
theorem o_X6_setMost : okV yX6_setMost cX6_setMost 3 (some .int) 1 := ⟨m232, m233, m5, m234, by decide +kernel, by decide +kernel, by decide +kernel⟩
theorem u_X6_setMost_0_2 {x : MoC} {nn : Nat} {mm : Nat} {kk : Nat} {sites : Int32} : oA ((f_X6_setMost x nn mm kk sites).2) = oA x := by
  unfold f_X6_setMost
  (repeat' split) <;> rfl
theorem u_X6_setMost_0_5 {x : MoC} {nn : Nat} {mm : Nat} {kk : Nat} {sites : Int32} : oI ((f_X6_setMost x nn mm kk sites).2) = oI x := by
  unfold f_X6_setMost
  (repeat' split) <;> rfl
theorem u_X6_setMost_0_6 {x : MoC} {nn : Nat} {mm : Nat} {kk : Nat} {sites : Int32} : oX ((f_X6_setMost x nn mm kk sites).2) = oX x := by
  unfold f_X6_setMost
  (repeat' split) <;> rfl
theorem u_X6_setMost_0_7 {x : MoC} {nn : Nat} {mm : Nat} {kk : Nat} {sites : Int32} : oL ((f_X6_setMost x nn mm kk sites).2) = oL x := by
  unfold f_X6_setMost
  (repeat' split) <;> rfl
theorem u_X6_setMost_0_8 {x : MoC} {nn : Nat} {mm : Nat} {kk : Nat} {sites : Int32} : oT ((f_X6_setMost x nn mm kk sites).2) = oT x := by
  unfold f_X6_setMost
  (repeat' split) <;> rfl
theorem u_X6_setMost_0_9 {x : MoC} {nn : Nat} {mm : Nat} {kk : Nat} {sites : Int32} : oN ((f_X6_setMost x nn mm kk sites).2) = oN x := by
  unfold f_X6_setMost
  (repeat' split) <;> rfl
def rmX6_exclude : Room := { frames := 2, cells := 0, slots := 0, locals := 43 }
def f_X6_exclude (x : MoC) (nn : Nat) (mm : Nat) (kk : Nat) (site : Int32) (other : Int32) (isq : Bool) : Int32 × MoC :=
  (if (f_X6_noSite x nn mm kk site) = true then ((-1), x) else (if (f_X6_noSite x nn mm kk other) = true then ((-1), x) else (if (tn site) = (tn other) then ((-2), x) else (if (b01 (f_X6_isIn (oR x (77 + (tn site))) (nI (tn other)))) = (b01 isq) then ((-5), x) else (f_X6_many ((oR x (77 + (tn site))) ^^^ (nI (2 ^ (tn other)))), mkM (upd (upd (upd (oR x) (77 + (tn site)) ((oR x (77 + (tn site))) ^^^ (nI (2 ^ (tn other))))) (77 + (tn other)) ((oR x (77 + (tn other))) ^^^ (nI (2 ^ (tn site))))) 4 (-5)) (oP (f_X6_begin x)) (oA x) (oB (f_X6_begin x)) (oS (f_X6_begin x)) (oI x) (oX x) (oL x) (oT x) (oN x))))))
set_option maxHeartbeats 4000000 in
set_option maxRecDepth 100000 in
theorem c_X6_exclude {l : Launch} {dd : va_G} {t : CL4} {N : Nat} {ad : Nat → Nat} {V : Nat → va_E} {b : Nat} {x : MoC} {nn : Nat} {mm : Nat} {kk : Nat} (hi : inj N ad) (hp0 : MoP N ad V t b x) (site : Int32) (other : Int32) (isq : Bool) (h0 : oR x 0 = nI nn) (h1 : oR x 1 = nI mm) (h3 : oR x 3 = nI kk) (hn : nn ≤ 7) (hm : mm ≤ 8) (hk : kk ≤ 40) (hst : oS x ≤ 4) : MM l dd t N ad V yX6_exclude cX6_exclude 4 (some .int) rmX6_exclude [.ref (ad b), .int (site), .int (other), .int (b01 isq)] (fun r V1 => (r = (f_X6_exclude x nn mm kk site other isq).1) ∧ (MoP N ad V1 t b ((f_X6_exclude x nn mm kk site other isq).2)) ∧ (∀ k, (k < b ∨ b + 7 ≤ k) → V1 k = V k)) := by
  refine MM.of (by decide +kernel) ⟨rfl, rfl⟩ (Nat.le_of_ble_eq_true rfl) rfl ?_
  intro p e s m as below meth c Q X H hP hS ls hl kr
  have X : WX p s m as c cX6_exclude 4 RX6 dd t := X
  have hx := X.1.1
  have hb := X.1.2.1
  have hl : lv_has ls 4 [(0, .ref (ad b)), (1, .int (site)), (2, .int (other)), (3, .int (b01 isq))] := hl
  have hle0 := hp0.le
  have hfr : ∀ k, (k < b ∨ b + 7 ≤ k) → V k = V k := fun _ _ => rfl
  refine lv_aload_n hx hb dX6_exclude_0 rfl (lv_at hl 0 rfl) ?_
  refine lv_iload_n hx hb dX6_exclude_1 rfl (lv_at hl 1 rfl) ?_
  refine r_call (As := [.int (site)]) (rest := []) (ci := 6) X hP (c_X6_noSite (nn := nn) (mm := mm) (kk := kk) hp0 site h0 h1 h3 hn hm hk) o_X6_noSite rfl hp0.lt hp0.ob m188 ⟨rfl, rfl⟩ ⟨Nat.le_of_ble_eq_true rfl, Nat.le_of_ble_eq_true rfl⟩ rfl hl.1 rfl (Nat.le_of_ble_eq_true rfl) ⟨Nat.zero_le _, Nat.zero_le _⟩ dX6_exclude_2 ?_
  refine q_neB (tgt := 16) hx hb dX6_exclude_5 (by decide) (fun c1 => ?_) (fun c1 => ?_)
  · refine lv_iconst (v := (-1)) hx hb dX6_exclude_16 (by decide) ?_
    have hfin : f_X6_exclude x nn mm kk site other isq = ((-1), x) := (by rw [f_X6_exclude, if_pos c1] <;> rfl)
    exact kr 17 ls _ _ _ _ hP hS rfl ⟨by rw [hfin] <;> rfl, by rw [hfin]; exact hp0, hfr⟩ dX6_exclude_17
  · have hr2 := noSite_n c1 (by omega)
    have hr2b := hr2.2
    refine lv_aload_n hx hb dX6_exclude_8 rfl (lv_at hl 0 rfl) ?_
    refine lv_iload_n hx hb dX6_exclude_9 rfl (lv_at hl 2 rfl) ?_
    refine r_call (As := [.int (other)]) (rest := []) (ci := 6) X hP (c_X6_noSite (nn := nn) (mm := mm) (kk := kk) hp0 other h0 h1 h3 hn hm hk) o_X6_noSite rfl hp0.lt hp0.ob m188 ⟨rfl, rfl⟩ ⟨Nat.le_of_ble_eq_true rfl, Nat.le_of_ble_eq_true rfl⟩ rfl hl.1 rfl (Nat.le_of_ble_eq_true rfl) ⟨Nat.zero_le _, Nat.zero_le _⟩ dX6_exclude_10 ?_
    refine q_eqB (tgt := 18) hx hb dX6_exclude_13 (by decide) (fun c3 => ?_) (fun c3 => ?_)
    · have hr4 := noSite_n c3 (by omega)
      have hr4b := hr4.2
      refine lv_iload_n hx hb dX6_exclude_18 rfl (lv_at hl 1 rfl) ?_
      refine q_val (hr2.1 : site = nI (tn site)) ?_
      refine lv_iload_n hx hb dX6_exclude_19 rfl (lv_at hl 2 rfl) ?_
      refine q_val (hr4.1 : other = nI (tn other)) ?_
      refine q_ne (tgt := 26) hx hb (by omega) (by omega) dX6_exclude_20 (by decide) (fun c5 => ?_) (fun c5 => ?_)
      · refine lv_aload_n hx hb dX6_exclude_26 rfl (lv_at hl 0 rfl) ?_
        refine g_Mo_row X hP hp0 m83 dX6_exclude_27 ?_
        refine lv_bipush (v := nI 77) hx hb dX6_exclude_30 (by decide) ?_
        refine lv_iload_n hx hb dX6_exclude_32 rfl (lv_at hl 1 rfl) ?_
        refine q_val (hr2.1 : site = nI (tn site)) ?_
        refine q_iadd hx hb dX6_exclude_33 ?_
        refine l_Mo_row X hP hp0 (by omega) dX6_exclude_34 ?_
        refine lv_iload_n hx hb dX6_exclude_35 rfl (lv_at hl 2 rfl) ?_
        refine q_val (hr4.1 : other = nI (tn other)) ?_
        refine r_callS (As := [.int (oR x (77 + (tn site))), .int (nI (tn other))]) (rest := []) X hP (c_X6_isIn (oR x (77 + (tn site))) (nI (tn other))) o_X6_isIn m261 ⟨rfl, rfl⟩ ⟨Nat.le_of_ble_eq_true rfl, Nat.le_of_ble_eq_true rfl⟩ rfl hl.1 rfl (Nat.le_of_ble_eq_true rfl) ⟨Nat.zero_le _, Nat.zero_le _⟩ dX6_exclude_36 ?_
        refine lv_iload_n hx hb dX6_exclude_39 rfl (lv_at hl 3 rfl) ?_
        refine lv_icmp_ne (tgt := 46) hx hb dX6_exclude_40 (by decide) (fun c6 => ?_) (fun c6 => ?_)
        · refine lv_aload_n hx hb dX6_exclude_46 rfl (lv_at hl 0 rfl) ?_
          refine r_callW (As := []) (rest := []) (ci := 6) X hP hS (c_X6_begin hi hp0 hst) o_X6_begin rfl hp0.lt hp0.ob m142 ⟨rfl, rfl⟩ ⟨Nat.le_of_ble_eq_true rfl, Nat.le_of_ble_eq_true rfl⟩ rfl hl.1 rfl (Nat.le_of_ble_eq_true rfl) ⟨Nat.zero_le _, Nat.zero_le _⟩ dX6_exclude_47 (fun V7 H7 locs7 hq hP hS => ?_)
          obtain ⟨hp0, h2⟩ := hq
          have hp0 : MoP N ad V7 t b (mkM (oR x) (oP (f_X6_begin x)) (oA x) (oB (f_X6_begin x)) (oS (f_X6_begin x)) (oI x) (oX x) (oL x) (oT x) (oN x)) := hp0.ext (fun _ _ => congrFun u_X6_begin_0_0 _) (fun _ _ => rfl) (fun _ _ => congrFun u_X6_begin_0_2 _) (fun _ _ => rfl) rfl u_X6_begin_0_5 (fun _ _ => congrFun u_X6_begin_0_6 _) u_X6_begin_0_7 u_X6_begin_0_8 (fun _ _ => congrFun u_X6_begin_0_9 _)
          have hfr : ∀ k, (k < b ∨ b + 7 ≤ k) → V7 k = V k := fun k hk => (h2 k (by omega)).trans (hfr k hk)
          refine lv_aload_n hx hb dX6_exclude_50 rfl (lv_at hl 0 rfl) ?_
          refine g_Mo_row X hP hp0 m83 dX6_exclude_51 ?_
          refine lv_bipush (v := nI 77) hx hb dX6_exclude_54 (by decide) ?_
          refine lv_iload_n hx hb dX6_exclude_56 rfl (lv_at hl 1 rfl) ?_
          refine q_val (hr2.1 : site = nI (tn site)) ?_
          refine q_iadd hx hb dX6_exclude_57 ?_
          refine lv_dup2_11 hx hb dX6_exclude_58 rfl rfl ?_
          refine l_Mo_row X hP hp0 (by omega) dX6_exclude_59 ?_
          refine W.eq (g2 := F0 m 60 ls [.int (oR x (77 + (tn site))), .int (nI (77 + (tn site))), .ref (ad (b + 1))]) rfl ?_
          refine lv_iconst (v := nI 1) hx hb dX6_exclude_60 (by decide) ?_
          refine lv_iload_n hx hb dX6_exclude_61 rfl (lv_at hl 2 rfl) ?_
          refine q_val (hr4.1 : other = nI (tn other)) ?_
          refine q_ishl hx hb (by omega) dX6_exclude_62 ?_
          refine lv_ixor hx hb dX6_exclude_63 ?_
          refine s_Mo_row X hi hP hS hp0 (by omega) dX6_exclude_64 (fun V8 H8 locs8 hp0 h2 hP hS => ?_)
          have hp0 : MoP N ad V8 t b (mkM (upd (oR x) (77 + (tn site)) ((oR x (77 + (tn site))) ^^^ (nI (2 ^ (tn other))))) (oP (f_X6_begin x)) (oA x) (oB (f_X6_begin x)) (oS (f_X6_begin x)) (oI x) (oX x) (oL x) (oT x) (oN x)) := hp0
          have hfr : ∀ k, (k < b ∨ b + 7 ≤ k) → V8 k = V k := fun k hk => (h2 k (by omega)).trans (hfr k hk)
          refine lv_aload_n hx hb dX6_exclude_65 rfl (lv_at hl 0 rfl) ?_
          refine g_Mo_row X hP hp0 m83 dX6_exclude_66 ?_
          refine lv_bipush (v := nI 77) hx hb dX6_exclude_69 (by decide) ?_
          refine lv_iload_n hx hb dX6_exclude_71 rfl (lv_at hl 2 rfl) ?_
          refine q_val (hr4.1 : other = nI (tn other)) ?_
          refine q_iadd hx hb dX6_exclude_72 ?_
          refine lv_dup2_11 hx hb dX6_exclude_73 rfl rfl ?_
          refine l_Mo_row X hP hp0 (by omega) dX6_exclude_74 ?_
          refine W.eq (g2 := F0 m 75 ls [.int ((upd (oR x) (77 + (tn site)) ((oR x (77 + (tn site))) ^^^ (nI (2 ^ (tn other))))) (77 + (tn other))), .int (nI (77 + (tn other))), .ref (ad (b + 1))]) rfl ?_
          refine q_val (upd_ne _ _ (by omega)) ?_
          refine lv_iconst (v := nI 1) hx hb dX6_exclude_75 (by decide) ?_
          refine lv_iload_n hx hb dX6_exclude_76 rfl (lv_at hl 1 rfl) ?_
          refine q_val (hr2.1 : site = nI (tn site)) ?_
          refine q_ishl hx hb (by omega) dX6_exclude_77 ?_
          refine lv_ixor hx hb dX6_exclude_78 ?_
          refine s_Mo_row X hi hP hS hp0 (by omega) dX6_exclude_79 (fun V9 H9 locs9 hp0 h2 hP hS => ?_)
          have hp0 : MoP N ad V9 t b (mkM (upd (upd (oR x) (77 + (tn site)) ((oR x (77 + (tn site))) ^^^ (nI (2 ^ (tn other))))) (77 + (tn other)) ((oR x (77 + (tn other))) ^^^ (nI (2 ^ (tn site))))) (oP (f_X6_begin x)) (oA x) (oB (f_X6_begin x)) (oS (f_X6_begin x)) (oI x) (oX x) (oL x) (oT x) (oN x)) := hp0
          have hfr : ∀ k, (k < b ∨ b + 7 ≤ k) → V9 k = V k := fun k hk => (h2 k (by omega)).trans (hfr k hk)
          refine lv_aload_n hx hb dX6_exclude_80 rfl (lv_at hl 0 rfl) ?_
          refine g_Mo_row X hP hp0 m83 dX6_exclude_81 ?_
          refine lv_iconst (v := nI 4) hx hb dX6_exclude_84 (by decide) ?_
          refine lv_bipush (v := (-5)) hx hb dX6_exclude_85 (by decide) ?_
          refine s_Mo_row X hi hP hS hp0 (by decide) dX6_exclude_87 (fun V10 H10 locs10 hp0 h2 hP hS => ?_)
          have hp0 : MoP N ad V10 t b (mkM (upd (upd (upd (oR x) (77 + (tn site)) ((oR x (77 + (tn site))) ^^^ (nI (2 ^ (tn other))))) (77 + (tn other)) ((oR x (77 + (tn other))) ^^^ (nI (2 ^ (tn site))))) 4 (-5)) (oP (f_X6_begin x)) (oA x) (oB (f_X6_begin x)) (oS (f_X6_begin x)) (oI x) (oX x) (oL x) (oT x) (oN x)) := hp0
          have hfr : ∀ k, (k < b ∨ b + 7 ≤ k) → V10 k = V k := fun k hk => (h2 k (by omega)).trans (hfr k hk)
          refine lv_aload_n hx hb dX6_exclude_88 rfl (lv_at hl 0 rfl) ?_
          refine g_Mo_row X hP hp0 m83 dX6_exclude_89 ?_
          refine lv_bipush (v := nI 77) hx hb dX6_exclude_92 (by decide) ?_
          refine lv_iload_n hx hb dX6_exclude_94 rfl (lv_at hl 1 rfl) ?_
          refine q_val (hr2.1 : site = nI (tn site)) ?_
          refine q_iadd hx hb dX6_exclude_95 ?_
          refine l_Mo_row X hP hp0 (by omega) dX6_exclude_96 ?_
          refine W.eq (g2 := F0 m 97 ls [.int ((upd (upd (upd (oR x) (77 + (tn site)) ((oR x (77 + (tn site))) ^^^ (nI (2 ^ (tn other))))) (77 + (tn other)) ((oR x (77 + (tn other))) ^^^ (nI (2 ^ (tn site))))) 4 (-5)) (77 + (tn site)))]) rfl ?_
          refine q_val (upd_ne _ _ (by omega)) ?_
          refine q_val (upd_ne _ _ (by omega)) ?_
          refine q_val (upd_at _ _ _) ?_
          refine r_callS (As := [.int ((oR x (77 + (tn site))) ^^^ (nI (2 ^ (tn other))))]) (rest := []) X hP (c_X6_many ((oR x (77 + (tn site))) ^^^ (nI (2 ^ (tn other))))) o_X6_many m264 ⟨rfl, rfl⟩ ⟨Nat.le_of_ble_eq_true rfl, Nat.le_of_ble_eq_true rfl⟩ rfl hl.1 rfl (Nat.le_of_ble_eq_true rfl) ⟨Nat.zero_le _, Nat.zero_le _⟩ dX6_exclude_97 ?_
          have hfin : f_X6_exclude x nn mm kk site other isq = (f_X6_many ((oR x (77 + (tn site))) ^^^ (nI (2 ^ (tn other)))), mkM (upd (upd (upd (oR x) (77 + (tn site)) ((oR x (77 + (tn site))) ^^^ (nI (2 ^ (tn other))))) (77 + (tn other)) ((oR x (77 + (tn other))) ^^^ (nI (2 ^ (tn site))))) 4 (-5)) (oP (f_X6_begin x)) (oA x) (oB (f_X6_begin x)) (oS (f_X6_begin x)) (oI x) (oX x) (oL x) (oT x) (oN x)) := (by rw [f_X6_exclude, if_neg (nt c1), if_neg (nt c3), if_neg c5, if_neg c6] <;> rfl)
          exact kr 100 ls _ _ _ _ hP hS rfl ⟨by rw [hfin] <;> rfl, by rw [hfin]; exact hp0, hfr⟩ dX6_exclude_100
        · refine lv_bipush (v := (-5)) hx hb dX6_exclude_43 (by decide) ?_
          have hfin : f_X6_exclude x nn mm kk site other isq = ((-5), x) := (by rw [f_X6_exclude, if_neg (nt c1), if_neg (nt c3), if_neg c5, if_pos c6] <;> rfl)
          exact kr 45 ls _ _ _ _ hP hS rfl ⟨by rw [hfin] <;> rfl, by rw [hfin]; exact hp0, hfr⟩ dX6_exclude_45
      · refine lv_bipush (v := (-2)) hx hb dX6_exclude_23 (by decide) ?_
        have hfin : f_X6_exclude x nn mm kk site other isq = ((-2), x) := (by rw [f_X6_exclude, if_neg (nt c1), if_neg (nt c3), if_pos c5] <;> rfl)
        exact kr 25 ls _ _ _ _ hP hS rfl ⟨by rw [hfin] <;> rfl, by rw [hfin]; exact hp0, hfr⟩ dX6_exclude_25
    · refine lv_iconst (v := (-1)) hx hb dX6_exclude_16 (by decide) ?_
      have hfin : f_X6_exclude x nn mm kk site other isq = ((-1), x) := (by rw [f_X6_exclude, if_neg (nt c1), if_pos c3] <;> rfl)
      exact kr 17 ls _ _ _ _ hP hS rfl ⟨by rw [hfin] <;> rfl, by rw [hfin]; exact hp0, hfr⟩ dX6_exclude_17
theorem o_X6_exclude : okV yX6_exclude cX6_exclude 4 (some .int) 3 := ⟨m258, m259, m5, m260, by decide +kernel, by decide +kernel, by decide +kernel⟩
theorem u_X6_exclude_0_2 {x : MoC} {nn : Nat} {mm : Nat} {kk : Nat} {site : Int32} {other : Int32} {isq : Bool} : oA ((f_X6_exclude x nn mm kk site other isq).2) = oA x := by
  unfold f_X6_exclude
  (repeat' split) <;> rfl
theorem u_X6_exclude_0_5 {x : MoC} {nn : Nat} {mm : Nat} {kk : Nat} {site : Int32} {other : Int32} {isq : Bool} : oI ((f_X6_exclude x nn mm kk site other isq).2) = oI x := by
  unfold f_X6_exclude
  (repeat' split) <;> rfl
theorem u_X6_exclude_0_6 {x : MoC} {nn : Nat} {mm : Nat} {kk : Nat} {site : Int32} {other : Int32} {isq : Bool} : oX ((f_X6_exclude x nn mm kk site other isq).2) = oX x := by
  unfold f_X6_exclude
  (repeat' split) <;> rfl
theorem u_X6_exclude_0_7 {x : MoC} {nn : Nat} {mm : Nat} {kk : Nat} {site : Int32} {other : Int32} {isq : Bool} : oL ((f_X6_exclude x nn mm kk site other isq).2) = oL x := by
  unfold f_X6_exclude
  (repeat' split) <;> rfl
theorem u_X6_exclude_0_8 {x : MoC} {nn : Nat} {mm : Nat} {kk : Nat} {site : Int32} {other : Int32} {isq : Bool} : oT ((f_X6_exclude x nn mm kk site other isq).2) = oT x := by
  unfold f_X6_exclude
  (repeat' split) <;> rfl
theorem u_X6_exclude_0_9 {x : MoC} {nn : Nat} {mm : Nat} {kk : Nat} {site : Int32} {other : Int32} {isq : Bool} : oN ((f_X6_exclude x nn mm kk site other isq).2) = oN x := by
  unfold f_X6_exclude
  (repeat' split) <;> rfl
def rmX6_dropOne : Room := { frames := 0, cells := 0, slots := 0, locals := 0 }
def l_X6_dropOne_8 (x : MoC) (nn : Nat) (mm : Nat) (kk : Nat) (kc : Nat) : Nat → Nat → (Nat → Int32) → (Nat → Int32)
  | 0, ix_1, u0_0_1 => u0_0_1
  | dx_1 + 1, ix_1, u0_0_1 => (if (ix_1 + 9) < 444 then l_X6_dropOne_8 x nn mm kk kc dx_1 (ix_1 + 1) (upd u0_0_1 ix_1 (u0_0_1 (ix_1 + 9))) else l_X6_dropOne_8 x nn mm kk kc dx_1 (ix_1 + 1) (upd u0_0_1 ix_1 (nI 0)))
def f_X6_dropOne (x : MoC) (nn : Nat) (mm : Nat) (kk : Nat) (kc : Nat) : MoC :=
  mkM (upd (l_X6_dropOne_8 x nn mm kk kc (444 - (84 + 9 * kc)) (84 + 9 * kc) (oR x)) 3 (((l_X6_dropOne_8 x nn mm kk kc (444 - (84 + 9 * kc)) (84 + 9 * kc) (oR x)) 3) - (nI 1))) (oP x) (oA x) (oB x) (oS x) (oI x) (oX x) (oL x) (oT x) (oN x)
set_option maxHeartbeats 4000000 in
set_option maxRecDepth 100000 in
theorem c_X6_dropOne {l : Launch} {dd : va_G} {t : CL4} {N : Nat} {ad : Nat → Nat} {V : Nat → va_E} {b : Nat} {x : MoC} {nn : Nat} {mm : Nat} {kk : Nat} (hi : inj N ad) (hp0 : MoP N ad V t b x) (kc : Nat) (h0 : oR x 0 = nI nn) (h1 : oR x 1 = nI mm) (h3 : oR x 3 = nI kk) (hn : nn ≤ 7) (hm : mm ≤ 8) (hk : kk ≤ 40) (h_cut : kc < kk) : MV l dd t N ad V yX6_dropOne cX6_dropOne 3 rmX6_dropOne [.ref (ad b), .int (nI kc)] (fun V1 => (MoP N ad V1 t b (f_X6_dropOne x nn mm kk kc)) ∧ (∀ k, (k < b ∨ b + 7 ≤ k) → V1 k = V k)) := by
  refine MV.of (by decide +kernel) ⟨rfl, rfl⟩ (Nat.le_of_ble_eq_true rfl) ?_
  intro p e s m as below meth c Q X H hP hS ls hl kr
  have X : WX p s m as c cX6_dropOne 3 RX6 dd t := X
  have hx := X.1.1
  have hb := X.1.2.1
  have hl : lv_has ls 3 [(0, .ref (ad b)), (1, .int (nI kc))] := hl
  have hle0 := hp0.le
  have hfr : ∀ k, (k < b ∨ b + 7 ≤ k) → V k = V k := fun _ _ => rfl
  refine lv_bipush (v := nI 84) hx hb dX6_dropOne_0 (by decide) ?_
  refine lv_bipush (v := nI 9) hx hb dX6_dropOne_2 (by decide) ?_
  refine lv_iload_n hx hb dX6_dropOne_4 rfl (lv_at hl 1 rfl) ?_
  refine q_imul hx hb dX6_dropOne_5 ?_
  refine q_iadd hx hb dX6_dropOne_6 ?_
  refine W.eq (g2 := F0 m 7 ls [.int (nI (84 + 9 * kc))]) rfl ?_
  refine lv_istore_n (lv' := [(2, .int (nI (84 + 9 * kc))), (0, .ref (ad b)), (1, .int (nI kc))]) hx hb dX6_dropOne_7 rfl hl (by decide) rfl (fun ls hl => ?_)
  have L1 : ∀ (dx_1 ix_1 : Nat) (u0_0_1 : Nat → Int32) (V1 : Nat → va_E) (H1 : Heap) (locs1 : List Loc) (ls : Array Slot), (ix_1 + dx_1 = 444) → (l_X6_dropOne_8 x nn mm kk kc dx_1 ix_1 u0_0_1 = l_X6_dropOne_8 x nn mm kk kc (444 - (84 + 9 * kc)) (84 + 9 * kc) (oR x)) → (MoP N ad V1 t b (mkM u0_0_1 (oP x) (oA x) (oB x) (oS x) (oI x) (oX x) (oL x) (oT x) (oN x))) → (∀ k, (k < b ∨ b + 7 ≤ k) → V1 k = V k) → (HP dd N ad V1 H1) → (va_S (dm N ad H.size) H H1 locs1) → (lv_has ls 3 [(0, .ref (ad b)), (1, .int (nI kc)), (2, .int (nI ix_1))]) → W p l e rmX6_dropOne s m as below meth c H1 locs1 0 0 Q (F0 m 8 ls []) := by
    intro dx_1
    induction dx_1 with
    | zero =>
      intro ix_1 u0_0_1 V1 H1 locs1 ls hid hvx_1 hp0 hfr hP hS hl
      have hiN : 444 = ix_1 := by omega
      subst hiN
      have hvx_1 : u0_0_1 = l_X6_dropOne_8 x nn mm kk kc (444 - (84 + 9 * kc)) (84 + 9 * kc) (oR x) := hvx_1
      have hh0 : u0_0_1 = l_X6_dropOne_8 x nn mm kk kc (444 - (84 + 9 * kc)) (84 + 9 * kc) (oR x) := hvx_1
      subst hh0
      refine lv_iload_n hx hb dX6_dropOne_8 rfl (lv_at hl 2 rfl) ?_
      refine lv_sipush (v := nI 444) hx hb dX6_dropOne_9 (by decide) ?_
      refine q_ge (tgt := 50) hx hb (by omega) (by omega) dX6_dropOne_12 (by decide) (fun c2 => ?_) (fun h => absurd h (by omega))
      refine lv_aload_n hx hb dX6_dropOne_50 rfl (lv_at hl 0 rfl) ?_
      refine g_Mo_row X hP hp0 m83 dX6_dropOne_51 ?_
      refine lv_iconst (v := nI 3) hx hb dX6_dropOne_54 (by decide) ?_
      refine lv_dup2_11 hx hb dX6_dropOne_55 rfl rfl ?_
      refine l_Mo_row X hP hp0 (by decide) dX6_dropOne_56 ?_
      refine W.eq (g2 := F0 m 57 ls [.int ((l_X6_dropOne_8 x nn mm kk kc (444 - (84 + 9 * kc)) (84 + 9 * kc) (oR x)) 3), .int (nI 3), .ref (ad (b + 1))]) rfl ?_
      refine lv_iconst (v := nI 1) hx hb dX6_dropOne_57 (by decide) ?_
      refine lv_isub hx hb dX6_dropOne_58 ?_
      refine s_Mo_row X hi hP hS hp0 (by decide) dX6_dropOne_59 (fun V3 H3 locs3 hp0 h2 hP hS => ?_)
      have hp0 : MoP N ad V3 t b (mkM (upd (l_X6_dropOne_8 x nn mm kk kc (444 - (84 + 9 * kc)) (84 + 9 * kc) (oR x)) 3 (((l_X6_dropOne_8 x nn mm kk kc (444 - (84 + 9 * kc)) (84 + 9 * kc) (oR x)) 3) - (nI 1))) (oP x) (oA x) (oB x) (oS x) (oI x) (oX x) (oL x) (oT x) (oN x)) := hp0
      have hfr : ∀ k, (k < b ∨ b + 7 ≤ k) → V3 k = V k := fun k hk => (h2 k (by omega)).trans (hfr k hk)
      have hfin : f_X6_dropOne x nn mm kk kc = mkM (upd (l_X6_dropOne_8 x nn mm kk kc (444 - (84 + 9 * kc)) (84 + 9 * kc) (oR x)) 3 (((l_X6_dropOne_8 x nn mm kk kc (444 - (84 + 9 * kc)) (84 + 9 * kc) (oR x)) 3) - (nI 1))) (oP x) (oA x) (oB x) (oS x) (oI x) (oX x) (oL x) (oT x) (oN x) := (by rw [f_X6_dropOne] <;> rfl)
      exact kr 60 ls _ _ _ hP hS ⟨by rw [hfin]; exact hp0, hfr⟩ dX6_dropOne_60
    | succ dx_1 ihx_1 =>
      intro ix_1 u0_0_1 V1 H1 locs1 ls hid hvx_1 hp0 hfr hP hS hl
      refine lv_iload_n hx hb dX6_dropOne_8 rfl (lv_at hl 2 rfl) ?_
      refine lv_sipush (v := nI 444) hx hb dX6_dropOne_9 (by decide) ?_
      refine q_ge (tgt := 50) hx hb (by omega) (by omega) dX6_dropOne_12 (by decide) (fun h => absurd h (by omega)) (fun c4 => ?_)
      refine lv_aload_n hx hb dX6_dropOne_15 rfl (lv_at hl 0 rfl) ?_
      refine g_Mo_row X hP hp0 m83 dX6_dropOne_16 ?_
      refine lv_iload_n hx hb dX6_dropOne_19 rfl (lv_at hl 2 rfl) ?_
      refine lv_iload_n hx hb dX6_dropOne_20 rfl (lv_at hl 2 rfl) ?_
      refine lv_bipush (v := nI 9) hx hb dX6_dropOne_21 (by decide) ?_
      refine q_iadd hx hb dX6_dropOne_23 ?_
      refine lv_sipush (v := nI 444) hx hb dX6_dropOne_24 (by decide) ?_
      refine q_ge (tgt := 42) hx hb (by omega) (by omega) dX6_dropOne_27 (by decide) (fun c5 => ?_) (fun c5 => ?_)
      · refine lv_iconst (v := nI 0) hx hb dX6_dropOne_42 (by decide) ?_
        refine s_Mo_row X hi hP hS hp0 (by omega) dX6_dropOne_43 (fun V6 H6 locs6 hp0 h2 hP hS => ?_)
        have hp0 : MoP N ad V6 t b (mkM (upd u0_0_1 ix_1 (nI 0)) (oP x) (oA x) (oB x) (oS x) (oI x) (oX x) (oL x) (oT x) (oN x)) := hp0
        have hfr : ∀ k, (k < b ∨ b + 7 ≤ k) → V6 k = V k := fun k hk => (h2 k (by omega)).trans (hfr k hk)
        refine lv_iinc (v := nI (ix_1 + 1)) (lv' := [(2, .int (nI (ix_1 + 1))), (0, .ref (ad b)), (1, .int (nI kc))]) hx hb dX6_dropOne_44 hl (k := 2) rfl (nI_inc _) (by decide) rfl (fun ls hl => ?_)
        refine lv_goto (tgt := 8) hx hb dX6_dropOne_47 (by decide) ?_
        exact ihx_1 (ix_1 + 1) (upd u0_0_1 ix_1 (nI 0)) _ _ _ ls (by omega) (Eq.trans (Eq.symm (by rw [l_X6_dropOne_8, if_neg (Nat.not_lt.mpr c5)] <;> rfl)) hvx_1) hp0 hfr hP hS (lv_sub hl [1, 2, 0] rfl)
      · refine lv_aload_n hx hb dX6_dropOne_30 rfl (lv_at hl 0 rfl) ?_
        refine g_Mo_row X hP hp0 m83 dX6_dropOne_31 ?_
        refine lv_iload_n hx hb dX6_dropOne_34 rfl (lv_at hl 2 rfl) ?_
        refine lv_bipush (v := nI 9) hx hb dX6_dropOne_35 (by decide) ?_
        refine q_iadd hx hb dX6_dropOne_37 ?_
        refine l_Mo_row X hP hp0 (by omega) dX6_dropOne_38 ?_
        refine W.eq (g2 := F0 m 39 ls [.int (u0_0_1 (ix_1 + 9)), .int (nI ix_1), .ref (ad (b + 1))]) rfl ?_
        refine lv_goto (tgt := 43) hx hb dX6_dropOne_39 (by decide) ?_
        refine s_Mo_row X hi hP hS hp0 (by omega) dX6_dropOne_43 (fun V7 H7 locs7 hp0 h2 hP hS => ?_)
        have hp0 : MoP N ad V7 t b (mkM (upd u0_0_1 ix_1 (u0_0_1 (ix_1 + 9))) (oP x) (oA x) (oB x) (oS x) (oI x) (oX x) (oL x) (oT x) (oN x)) := hp0
        have hfr : ∀ k, (k < b ∨ b + 7 ≤ k) → V7 k = V k := fun k hk => (h2 k (by omega)).trans (hfr k hk)
        refine lv_iinc (v := nI (ix_1 + 1)) (lv' := [(2, .int (nI (ix_1 + 1))), (0, .ref (ad b)), (1, .int (nI kc))]) hx hb dX6_dropOne_44 hl (k := 2) rfl (nI_inc _) (by decide) rfl (fun ls hl => ?_)
        refine lv_goto (tgt := 8) hx hb dX6_dropOne_47 (by decide) ?_
        exact ihx_1 (ix_1 + 1) (upd u0_0_1 ix_1 (u0_0_1 (ix_1 + 9))) _ _ _ ls (by omega) (Eq.trans (Eq.symm (by rw [l_X6_dropOne_8, if_pos c5] <;> rfl)) hvx_1) hp0 hfr hP hS (lv_sub hl [1, 2, 0] rfl)
  exact L1 (444 - (84 + 9 * kc)) (84 + 9 * kc) (oR x) _ _ _ ls (by omega) rfl hp0 hfr hP hS (lv_sub hl [1, 2, 0] rfl)
theorem o_X6_dropOne : okV yX6_dropOne cX6_dropOne 3 none 1 := ⟨m516, m517, m5, m518, by decide +kernel, by decide +kernel, by decide +kernel⟩
theorem u_X6_dropOne_0_1 {x : MoC} {nn : Nat} {mm : Nat} {kk : Nat} {kc : Nat} : oP (f_X6_dropOne x nn mm kk kc) = oP x := by
  unfold f_X6_dropOne
  (repeat' split) <;> rfl
theorem u_X6_dropOne_0_2 {x : MoC} {nn : Nat} {mm : Nat} {kk : Nat} {kc : Nat} : oA (f_X6_dropOne x nn mm kk kc) = oA x := by
  unfold f_X6_dropOne
  (repeat' split) <;> rfl
theorem u_X6_dropOne_0_3 {x : MoC} {nn : Nat} {mm : Nat} {kk : Nat} {kc : Nat} : oB (f_X6_dropOne x nn mm kk kc) = oB x := by
  unfold f_X6_dropOne
  (repeat' split) <;> rfl
theorem u_X6_dropOne_0_4 {x : MoC} {nn : Nat} {mm : Nat} {kk : Nat} {kc : Nat} : oS (f_X6_dropOne x nn mm kk kc) = oS x := by
  unfold f_X6_dropOne
  (repeat' split) <;> rfl
theorem u_X6_dropOne_0_5 {x : MoC} {nn : Nat} {mm : Nat} {kk : Nat} {kc : Nat} : oI (f_X6_dropOne x nn mm kk kc) = oI x := by
  unfold f_X6_dropOne
  (repeat' split) <;> rfl
theorem u_X6_dropOne_0_6 {x : MoC} {nn : Nat} {mm : Nat} {kk : Nat} {kc : Nat} : oX (f_X6_dropOne x nn mm kk kc) = oX x := by
  unfold f_X6_dropOne
  (repeat' split) <;> rfl
theorem u_X6_dropOne_0_7 {x : MoC} {nn : Nat} {mm : Nat} {kk : Nat} {kc : Nat} : oL (f_X6_dropOne x nn mm kk kc) = oL x := by
  unfold f_X6_dropOne
  (repeat' split) <;> rfl
theorem u_X6_dropOne_0_8 {x : MoC} {nn : Nat} {mm : Nat} {kk : Nat} {kc : Nat} : oT (f_X6_dropOne x nn mm kk kc) = oT x := by
  unfold f_X6_dropOne
  (repeat' split) <;> rfl
theorem u_X6_dropOne_0_9 {x : MoC} {nn : Nat} {mm : Nat} {kk : Nat} {kc : Nat} : oN (f_X6_dropOne x nn mm kk kc) = oN x := by
  unfold f_X6_dropOne
  (repeat' split) <;> rfl
def rmX6_drop : Room := { frames := 2, cells := 0, slots := 0, locals := 43 }
def f_X6_drop (x : MoC) (nn : Nat) (mm : Nat) (kk : Nat) (cut : Int32) : Int32 × MoC :=
  (if (f_X6_noCut x nn mm kk cut) = true then ((-1), x) else ((oR (f_X6_dropOne (mkM (oR x) (oP (f_X6_begin x)) (oA x) (oB (f_X6_begin x)) (oS (f_X6_begin x)) (oI x) (oX x) (oL x) (oT x) (oN x)) nn mm kk (tn cut))) 3, mkM (oR (f_X6_dropOne (mkM (oR x) (oP (f_X6_begin x)) (oA x) (oB (f_X6_begin x)) (oS (f_X6_begin x)) (oI x) (oX x) (oL x) (oT x) (oN x)) nn mm kk (tn cut))) (oP (f_X6_begin x)) (oA x) (oB (f_X6_begin x)) (oS (f_X6_begin x)) (oI x) (oX x) (oL x) (oT x) (oN x)))
set_option maxHeartbeats 4000000 in
set_option maxRecDepth 100000 in
theorem c_X6_drop {l : Launch} {dd : va_G} {t : CL4} {N : Nat} {ad : Nat → Nat} {V : Nat → va_E} {b : Nat} {x : MoC} {nn : Nat} {mm : Nat} {kk : Nat} (hi : inj N ad) (hp0 : MoP N ad V t b x) (cut : Int32) (h0 : oR x 0 = nI nn) (h1 : oR x 1 = nI mm) (h3 : oR x 3 = nI kk) (hn : nn ≤ 7) (hm : mm ≤ 8) (hk : kk ≤ 40) (hst : oS x ≤ 4) : MM l dd t N ad V yX6_drop cX6_drop 2 (some .int) rmX6_drop [.ref (ad b), .int (cut)] (fun r V1 => (r = (f_X6_drop x nn mm kk cut).1) ∧ (MoP N ad V1 t b ((f_X6_drop x nn mm kk cut).2)) ∧ (∀ k, (k < b ∨ b + 7 ≤ k) → V1 k = V k)) := by
  refine MM.of (by decide +kernel) ⟨rfl, rfl⟩ (Nat.le_of_ble_eq_true rfl) rfl ?_
  intro p e s m as below meth c Q X H hP hS ls hl kr
  have X : WX p s m as c cX6_drop 2 RX6 dd t := X
  have hx := X.1.1
  have hb := X.1.2.1
  have hl : lv_has ls 2 [(0, .ref (ad b)), (1, .int (cut))] := hl
  have hle0 := hp0.le
  have hfr : ∀ k, (k < b ∨ b + 7 ≤ k) → V k = V k := fun _ _ => rfl
  refine lv_aload_n hx hb dX6_drop_0 rfl (lv_at hl 0 rfl) ?_
  refine lv_iload_n hx hb dX6_drop_1 rfl (lv_at hl 1 rfl) ?_
  refine r_call (As := [.int (cut)]) (rest := []) (ci := 6) X hP (c_X6_noCut (nn := nn) (mm := mm) (kk := kk) hp0 cut h0 h1 h3 hn hm hk) o_X6_noCut rfl hp0.lt hp0.ob m511 ⟨rfl, rfl⟩ ⟨Nat.le_of_ble_eq_true rfl, Nat.le_of_ble_eq_true rfl⟩ rfl hl.1 rfl (Nat.le_of_ble_eq_true rfl) ⟨Nat.zero_le _, Nat.zero_le _⟩ dX6_drop_2 ?_
  refine q_eqB (tgt := 10) hx hb dX6_drop_5 (by decide) (fun c1 => ?_) (fun c1 => ?_)
  · have hr2 := noCut_n c1 (by omega)
    have hr2b := hr2.2
    refine lv_aload_n hx hb dX6_drop_10 rfl (lv_at hl 0 rfl) ?_
    refine r_callW (As := []) (rest := []) (ci := 6) X hP hS (c_X6_begin hi hp0 hst) o_X6_begin rfl hp0.lt hp0.ob m142 ⟨rfl, rfl⟩ ⟨Nat.le_of_ble_eq_true rfl, Nat.le_of_ble_eq_true rfl⟩ rfl hl.1 rfl (Nat.le_of_ble_eq_true rfl) ⟨Nat.zero_le _, Nat.zero_le _⟩ dX6_drop_11 (fun V3 H3 locs3 hq hP hS => ?_)
    obtain ⟨hp0, h2⟩ := hq
    have hp0 : MoP N ad V3 t b (mkM (oR x) (oP (f_X6_begin x)) (oA x) (oB (f_X6_begin x)) (oS (f_X6_begin x)) (oI x) (oX x) (oL x) (oT x) (oN x)) := hp0.ext (fun _ _ => congrFun u_X6_begin_0_0 _) (fun _ _ => rfl) (fun _ _ => congrFun u_X6_begin_0_2 _) (fun _ _ => rfl) rfl u_X6_begin_0_5 (fun _ _ => congrFun u_X6_begin_0_6 _) u_X6_begin_0_7 u_X6_begin_0_8 (fun _ _ => congrFun u_X6_begin_0_9 _)
    have hfr : ∀ k, (k < b ∨ b + 7 ≤ k) → V3 k = V k := fun k hk => (h2 k (by omega)).trans (hfr k hk)
    refine lv_aload_n hx hb dX6_drop_14 rfl (lv_at hl 0 rfl) ?_
    refine lv_iload_n hx hb dX6_drop_15 rfl (lv_at hl 1 rfl) ?_
    refine q_val (hr2.1 : cut = nI (tn cut)) ?_
    refine r_callW (As := [.int (nI (tn cut))]) (rest := []) (ci := 6) X hP hS (c_X6_dropOne (nn := nn) (mm := mm) (kk := kk) hi hp0 (tn cut) h0 h1 h3 hn hm hk (by omega)) o_X6_dropOne rfl hp0.lt hp0.ob m515 ⟨rfl, rfl⟩ ⟨Nat.le_of_ble_eq_true rfl, Nat.le_of_ble_eq_true rfl⟩ rfl hl.1 rfl (Nat.le_of_ble_eq_true rfl) ⟨Nat.zero_le _, Nat.zero_le _⟩ dX6_drop_16 (fun V4 H4 locs4 hq hP hS => ?_)
    obtain ⟨hp0, h2⟩ := hq
    have hp0 : MoP N ad V4 t b (mkM (oR (f_X6_dropOne (mkM (oR x) (oP (f_X6_begin x)) (oA x) (oB (f_X6_begin x)) (oS (f_X6_begin x)) (oI x) (oX x) (oL x) (oT x) (oN x)) nn mm kk (tn cut))) (oP (f_X6_begin x)) (oA x) (oB (f_X6_begin x)) (oS (f_X6_begin x)) (oI x) (oX x) (oL x) (oT x) (oN x)) := hp0.ext (fun _ _ => rfl) (fun _ _ => congrFun u_X6_dropOne_0_1 _) (fun _ _ => congrFun u_X6_dropOne_0_2 _) (fun _ _ => congrFun u_X6_dropOne_0_3 _) u_X6_dropOne_0_4 u_X6_dropOne_0_5 (fun _ _ => congrFun u_X6_dropOne_0_6 _) u_X6_dropOne_0_7 u_X6_dropOne_0_8 (fun _ _ => congrFun u_X6_dropOne_0_9 _)
    have hfr : ∀ k, (k < b ∨ b + 7 ≤ k) → V4 k = V k := fun k hk => (h2 k (by omega)).trans (hfr k hk)
    refine lv_aload_n hx hb dX6_drop_19 rfl (lv_at hl 0 rfl) ?_
    refine g_Mo_row X hP hp0 m83 dX6_drop_20 ?_
    refine lv_iconst (v := nI 3) hx hb dX6_drop_23 (by decide) ?_
    refine l_Mo_row X hP hp0 (by decide) dX6_drop_24 ?_
    refine W.eq (g2 := F0 m 25 ls [.int ((oR (f_X6_dropOne (mkM (oR x) (oP (f_X6_begin x)) (oA x) (oB (f_X6_begin x)) (oS (f_X6_begin x)) (oI x) (oX x) (oL x) (oT x) (oN x)) nn mm kk (tn cut))) 3)]) rfl ?_
    have hfin : f_X6_drop x nn mm kk cut = ((oR (f_X6_dropOne (mkM (oR x) (oP (f_X6_begin x)) (oA x) (oB (f_X6_begin x)) (oS (f_X6_begin x)) (oI x) (oX x) (oL x) (oT x) (oN x)) nn mm kk (tn cut))) 3, mkM (oR (f_X6_dropOne (mkM (oR x) (oP (f_X6_begin x)) (oA x) (oB (f_X6_begin x)) (oS (f_X6_begin x)) (oI x) (oX x) (oL x) (oT x) (oN x)) nn mm kk (tn cut))) (oP (f_X6_begin x)) (oA x) (oB (f_X6_begin x)) (oS (f_X6_begin x)) (oI x) (oX x) (oL x) (oT x) (oN x)) := (by rw [f_X6_drop, if_neg (nt c1)] <;> rfl)
    exact kr 25 ls _ _ _ _ hP hS rfl ⟨by rw [hfin] <;> rfl, by rw [hfin]; exact hp0, hfr⟩ dX6_drop_25
  · refine lv_iconst (v := (-1)) hx hb dX6_drop_8 (by decide) ?_
    have hfin : f_X6_drop x nn mm kk cut = ((-1), x) := (by rw [f_X6_drop, if_pos c1] <;> rfl)
    exact kr 9 ls _ _ _ _ hP hS rfl ⟨by rw [hfin] <;> rfl, by rw [hfin]; exact hp0, hfr⟩ dX6_drop_9
theorem o_X6_drop : okV yX6_drop cX6_drop 2 (some .int) 1 := ⟨m508, m509, m5, m510, by decide +kernel, by decide +kernel, by decide +kernel⟩
theorem u_X6_drop_0_2 {x : MoC} {nn : Nat} {mm : Nat} {kk : Nat} {cut : Int32} : oA ((f_X6_drop x nn mm kk cut).2) = oA x := by
  unfold f_X6_drop
  (repeat' split) <;> rfl
theorem u_X6_drop_0_5 {x : MoC} {nn : Nat} {mm : Nat} {kk : Nat} {cut : Int32} : oI ((f_X6_drop x nn mm kk cut).2) = oI x := by
  unfold f_X6_drop
  (repeat' split) <;> rfl
theorem u_X6_drop_0_6 {x : MoC} {nn : Nat} {mm : Nat} {kk : Nat} {cut : Int32} : oX ((f_X6_drop x nn mm kk cut).2) = oX x := by
  unfold f_X6_drop
  (repeat' split) <;> rfl
theorem u_X6_drop_0_7 {x : MoC} {nn : Nat} {mm : Nat} {kk : Nat} {cut : Int32} : oL ((f_X6_drop x nn mm kk cut).2) = oL x := by
  unfold f_X6_drop
  (repeat' split) <;> rfl
theorem u_X6_drop_0_8 {x : MoC} {nn : Nat} {mm : Nat} {kk : Nat} {cut : Int32} : oT ((f_X6_drop x nn mm kk cut).2) = oT x := by
  unfold f_X6_drop
  (repeat' split) <;> rfl
theorem u_X6_drop_0_9 {x : MoC} {nn : Nat} {mm : Nat} {kk : Nat} {cut : Int32} : oN ((f_X6_drop x nn mm kk cut).2) = oN x := by
  unfold f_X6_drop
  (repeat' split) <;> rfl
