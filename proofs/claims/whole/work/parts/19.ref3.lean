/-! writers of the reference -/

def rmX6_remember : Room := { frames := 0, cells := 0, slots := 0, locals := 0 }
def l_X6_remember_2 (x : MoC) : Nat → Nat → (Nat → Int32) → (Nat → Int32)
  | 0, ix_1, u0_3_1 => u0_3_1
  | dx_1 + 1, ix_1, u0_3_1 => l_X6_remember_2 x dx_1 (ix_1 + 1) (upd u0_3_1 ix_1 (oR x ix_1))
def f_X6_remember (x : MoC) : MoC :=
  mkM (oR x) (oP x) (oA x) (l_X6_remember_2 x 444 0 (oB x)) (oS x) (oI x) (oX x) (oL x) (oT x) (oN x)
set_option maxHeartbeats 4000000 in
set_option maxRecDepth 100000 in
theorem c_X6_remember {l : Launch} {dd : va_G} {t : CL4} {N : Nat} {ad : Nat → Nat} {V : Nat → va_E} {b : Nat} {x : MoC}  (hi : inj N ad) (hp0 : MoP N ad V t b x)   : MV l dd t N ad V yX6_remember cX6_remember 2 rmX6_remember [.ref (ad b)] (fun V1 => (MoP N ad V1 t b (f_X6_remember x)) ∧ (∀ k, (k < b ∨ b + 7 ≤ k) → V1 k = V k)) := by
  refine MV.of (by decide +kernel) ⟨rfl, rfl⟩ (Nat.le_of_ble_eq_true rfl) ?_
  intro p e s m as below meth c Q X H hP hS ls hl kr
  have X : WX p s m as c cX6_remember 2 RX6 dd t := X
  have hx := X.1.1
  have hb := X.1.2.1
  have hl : lv_has ls 2 [(0, .ref (ad b))] := hl
  have hle0 := hp0.le
  have hfr : ∀ k, (k < b ∨ b + 7 ≤ k) → V k = V k := fun _ _ => rfl
  refine lv_iconst (v := nI 0) hx hb dX6_remember_0 (by decide) ?_
  refine lv_istore_n (lv' := [(1, .int (nI 0)), (0, .ref (ad b))]) hx hb dX6_remember_1 rfl hl (by decide) rfl (fun ls hl => ?_)
  have L1 : ∀ (dx_1 ix_1 : Nat) (u0_3_1 : Nat → Int32) (V1 : Nat → va_E) (H1 : Heap) (locs1 : List Loc) (ls : Array Slot), (ix_1 + dx_1 = 444) → (l_X6_remember_2 x dx_1 ix_1 u0_3_1 = l_X6_remember_2 x 444 0 (oB x)) → (MoP N ad V1 t b (mkM (oR x) (oP x) (oA x) u0_3_1 (oS x) (oI x) (oX x) (oL x) (oT x) (oN x))) → (∀ k, (k < b ∨ b + 7 ≤ k) → V1 k = V k) → (HP dd N ad V1 H1) → (va_S (dm N ad H.size) H H1 locs1) → (lv_has ls 2 [(0, .ref (ad b)), (1, .int (nI ix_1))]) → W p l e rmX6_remember s m as below meth c H1 locs1 0 0 Q (F0 m 2 ls []) := by
    intro dx_1
    induction dx_1 with
    | zero =>
      intro ix_1 u0_3_1 V1 H1 locs1 ls hid hvx_1 hp0 hfr hP hS hl
      have hiN : 444 = ix_1 := by omega
      subst hiN
      have hvx_1 : u0_3_1 = l_X6_remember_2 x 444 0 (oB x) := hvx_1
      have hh0 : u0_3_1 = l_X6_remember_2 x 444 0 (oB x) := hvx_1
      subst hh0
      refine lv_iload_n hx hb dX6_remember_2 rfl (lv_at hl 1 rfl) ?_
      refine lv_sipush (v := nI 444) hx hb dX6_remember_3 (by decide) ?_
      refine q_ge (tgt := 27) hx hb (by omega) (by omega) dX6_remember_6 (by decide) (fun c2 => ?_) (fun h => absurd h (by omega))
      have hfin : f_X6_remember x = mkM (oR x) (oP x) (oA x) (l_X6_remember_2 x 444 0 (oB x)) (oS x) (oI x) (oX x) (oL x) (oT x) (oN x) := (by rw [f_X6_remember] <;> rfl)
      exact kr 27 ls _ _ _ hP hS ⟨by rw [hfin]; exact hp0, hfr⟩ dX6_remember_27
    | succ dx_1 ihx_1 =>
      intro ix_1 u0_3_1 V1 H1 locs1 ls hid hvx_1 hp0 hfr hP hS hl
      refine lv_iload_n hx hb dX6_remember_2 rfl (lv_at hl 1 rfl) ?_
      refine lv_sipush (v := nI 444) hx hb dX6_remember_3 (by decide) ?_
      refine q_ge (tgt := 27) hx hb (by omega) (by omega) dX6_remember_6 (by decide) (fun h => absurd h (by omega)) (fun c3 => ?_)
      refine lv_aload_n hx hb dX6_remember_9 rfl (lv_at hl 0 rfl) ?_
      refine g_Mo_before X hP hp0 m86 dX6_remember_10 ?_
      refine lv_iload_n hx hb dX6_remember_13 rfl (lv_at hl 1 rfl) ?_
      refine lv_aload_n hx hb dX6_remember_14 rfl (lv_at hl 0 rfl) ?_
      refine g_Mo_row X hP hp0 m83 dX6_remember_15 ?_
      refine lv_iload_n hx hb dX6_remember_18 rfl (lv_at hl 1 rfl) ?_
      refine l_Mo_row X hP hp0 (by omega) dX6_remember_19 ?_
      refine W.eq (g2 := F0 m 20 ls [.int (oR x ix_1), .int (nI ix_1), .ref (ad (b + 4))]) rfl ?_
      refine s_Mo_before X hi hP hS hp0 (by omega) dX6_remember_20 (fun V4 H4 locs4 hp0 h2 hP hS => ?_)
      have hp0 : MoP N ad V4 t b (mkM (oR x) (oP x) (oA x) (upd u0_3_1 ix_1 (oR x ix_1)) (oS x) (oI x) (oX x) (oL x) (oT x) (oN x)) := hp0
      have hfr : ∀ k, (k < b ∨ b + 7 ≤ k) → V4 k = V k := fun k hk => (h2 k (by omega)).trans (hfr k hk)
      refine lv_iinc (v := nI (ix_1 + 1)) (lv' := [(1, .int (nI (ix_1 + 1))), (0, .ref (ad b))]) hx hb dX6_remember_21 hl (k := 1) rfl (nI_inc _) (by decide) rfl (fun ls hl => ?_)
      refine lv_goto (tgt := 2) hx hb dX6_remember_24 (by decide) ?_
      exact ihx_1 (ix_1 + 1) (upd u0_3_1 ix_1 (oR x ix_1)) _ _ _ ls (by omega) (Eq.trans (Eq.symm (by rw [l_X6_remember_2] <;> rfl)) hvx_1) hp0 hfr hP hS (lv_sub hl [1, 0] rfl)
  exact L1 444 0 (oB x) _ _ _ ls (by omega) rfl hp0 hfr hP hS (lv_sub hl [1, 0] rfl)
theorem o_X6_remember : okV yX6_remember cX6_remember 2 none 0 := ⟨m147, m148, m5, m149, by decide +kernel, by decide +kernel, by decide +kernel⟩
theorem u_X6_remember_0_0 {x : MoC} : oR (f_X6_remember x) = oR x := by
  unfold f_X6_remember
  (repeat' split) <;> rfl
theorem u_X6_remember_0_1 {x : MoC} : oP (f_X6_remember x) = oP x := by
  unfold f_X6_remember
  (repeat' split) <;> rfl
theorem u_X6_remember_0_2 {x : MoC} : oA (f_X6_remember x) = oA x := by
  unfold f_X6_remember
  (repeat' split) <;> rfl
theorem u_X6_remember_0_4 {x : MoC} : oS (f_X6_remember x) = oS x := by
  unfold f_X6_remember
  (repeat' split) <;> rfl
theorem u_X6_remember_0_5 {x : MoC} : oI (f_X6_remember x) = oI x := by
  unfold f_X6_remember
  (repeat' split) <;> rfl
theorem u_X6_remember_0_6 {x : MoC} : oX (f_X6_remember x) = oX x := by
  unfold f_X6_remember
  (repeat' split) <;> rfl
theorem u_X6_remember_0_7 {x : MoC} : oL (f_X6_remember x) = oL x := by
  unfold f_X6_remember
  (repeat' split) <;> rfl
theorem u_X6_remember_0_8 {x : MoC} : oT (f_X6_remember x) = oT x := by
  unfold f_X6_remember
  (repeat' split) <;> rfl
theorem u_X6_remember_0_9 {x : MoC} : oN (f_X6_remember x) = oN x := by
  unfold f_X6_remember
  (repeat' split) <;> rfl
def rmX6_goBack : Room := { frames := 0, cells := 0, slots := 0, locals := 0 }
def l_X6_goBack_2 (x : MoC) : Nat → Nat → (Nat → Int32) → (Nat → Int32)
  | 0, ix_1, u0_0_1 => u0_0_1
  | dx_1 + 1, ix_1, u0_0_1 => l_X6_goBack_2 x dx_1 (ix_1 + 1) (upd u0_0_1 ix_1 (oB x ix_1))
def f_X6_goBack (x : MoC) : MoC :=
  mkM (l_X6_goBack_2 x 444 0 (oR x)) (oP x) (oA x) (oB x) (oS x) (oI x) (oX x) (oL x) (oT x) (oN x)
set_option maxHeartbeats 4000000 in
set_option maxRecDepth 100000 in
theorem c_X6_goBack {l : Launch} {dd : va_G} {t : CL4} {N : Nat} {ad : Nat → Nat} {V : Nat → va_E} {b : Nat} {x : MoC}  (hi : inj N ad) (hp0 : MoP N ad V t b x)   : MV l dd t N ad V yX6_goBack cX6_goBack 2 rmX6_goBack [.ref (ad b)] (fun V1 => (MoP N ad V1 t b (f_X6_goBack x)) ∧ (∀ k, (k < b ∨ b + 7 ≤ k) → V1 k = V k)) := by
  refine MV.of (by decide +kernel) ⟨rfl, rfl⟩ (Nat.le_of_ble_eq_true rfl) ?_
  intro p e s m as below meth c Q X H hP hS ls hl kr
  have X : WX p s m as c cX6_goBack 2 RX6 dd t := X
  have hx := X.1.1
  have hb := X.1.2.1
  have hl : lv_has ls 2 [(0, .ref (ad b))] := hl
  have hle0 := hp0.le
  have hfr : ∀ k, (k < b ∨ b + 7 ≤ k) → V k = V k := fun _ _ => rfl
  refine lv_iconst (v := nI 0) hx hb dX6_goBack_0 (by decide) ?_
  refine lv_istore_n (lv' := [(1, .int (nI 0)), (0, .ref (ad b))]) hx hb dX6_goBack_1 rfl hl (by decide) rfl (fun ls hl => ?_)
  have L1 : ∀ (dx_1 ix_1 : Nat) (u0_0_1 : Nat → Int32) (V1 : Nat → va_E) (H1 : Heap) (locs1 : List Loc) (ls : Array Slot), (ix_1 + dx_1 = 444) → (l_X6_goBack_2 x dx_1 ix_1 u0_0_1 = l_X6_goBack_2 x 444 0 (oR x)) → (MoP N ad V1 t b (mkM u0_0_1 (oP x) (oA x) (oB x) (oS x) (oI x) (oX x) (oL x) (oT x) (oN x))) → (∀ k, (k < b ∨ b + 7 ≤ k) → V1 k = V k) → (HP dd N ad V1 H1) → (va_S (dm N ad H.size) H H1 locs1) → (lv_has ls 2 [(0, .ref (ad b)), (1, .int (nI ix_1))]) → W p l e rmX6_goBack s m as below meth c H1 locs1 0 0 Q (F0 m 2 ls []) := by
    intro dx_1
    induction dx_1 with
    | zero =>
      intro ix_1 u0_0_1 V1 H1 locs1 ls hid hvx_1 hp0 hfr hP hS hl
      have hiN : 444 = ix_1 := by omega
      subst hiN
      have hvx_1 : u0_0_1 = l_X6_goBack_2 x 444 0 (oR x) := hvx_1
      have hh0 : u0_0_1 = l_X6_goBack_2 x 444 0 (oR x) := hvx_1
      subst hh0
      refine lv_iload_n hx hb dX6_goBack_2 rfl (lv_at hl 1 rfl) ?_
      refine lv_sipush (v := nI 444) hx hb dX6_goBack_3 (by decide) ?_
      refine q_ge (tgt := 27) hx hb (by omega) (by omega) dX6_goBack_6 (by decide) (fun c2 => ?_) (fun h => absurd h (by omega))
      have hfin : f_X6_goBack x = mkM (l_X6_goBack_2 x 444 0 (oR x)) (oP x) (oA x) (oB x) (oS x) (oI x) (oX x) (oL x) (oT x) (oN x) := (by rw [f_X6_goBack] <;> rfl)
      exact kr 27 ls _ _ _ hP hS ⟨by rw [hfin]; exact hp0, hfr⟩ dX6_goBack_27
    | succ dx_1 ihx_1 =>
      intro ix_1 u0_0_1 V1 H1 locs1 ls hid hvx_1 hp0 hfr hP hS hl
      refine lv_iload_n hx hb dX6_goBack_2 rfl (lv_at hl 1 rfl) ?_
      refine lv_sipush (v := nI 444) hx hb dX6_goBack_3 (by decide) ?_
      refine q_ge (tgt := 27) hx hb (by omega) (by omega) dX6_goBack_6 (by decide) (fun h => absurd h (by omega)) (fun c3 => ?_)
      refine lv_aload_n hx hb dX6_goBack_9 rfl (lv_at hl 0 rfl) ?_
      refine g_Mo_row X hP hp0 m83 dX6_goBack_10 ?_
      refine lv_iload_n hx hb dX6_goBack_13 rfl (lv_at hl 1 rfl) ?_
      refine lv_aload_n hx hb dX6_goBack_14 rfl (lv_at hl 0 rfl) ?_
      refine g_Mo_before X hP hp0 m86 dX6_goBack_15 ?_
      refine lv_iload_n hx hb dX6_goBack_18 rfl (lv_at hl 1 rfl) ?_
      refine l_Mo_before X hP hp0 (by omega) dX6_goBack_19 ?_
      refine W.eq (g2 := F0 m 20 ls [.int (oB x ix_1), .int (nI ix_1), .ref (ad (b + 1))]) rfl ?_
      refine s_Mo_row X hi hP hS hp0 (by omega) dX6_goBack_20 (fun V4 H4 locs4 hp0 h2 hP hS => ?_)
      have hp0 : MoP N ad V4 t b (mkM (upd u0_0_1 ix_1 (oB x ix_1)) (oP x) (oA x) (oB x) (oS x) (oI x) (oX x) (oL x) (oT x) (oN x)) := hp0
      have hfr : ∀ k, (k < b ∨ b + 7 ≤ k) → V4 k = V k := fun k hk => (h2 k (by omega)).trans (hfr k hk)
      refine lv_iinc (v := nI (ix_1 + 1)) (lv' := [(1, .int (nI (ix_1 + 1))), (0, .ref (ad b))]) hx hb dX6_goBack_21 hl (k := 1) rfl (nI_inc _) (by decide) rfl (fun ls hl => ?_)
      refine lv_goto (tgt := 2) hx hb dX6_goBack_24 (by decide) ?_
      exact ihx_1 (ix_1 + 1) (upd u0_0_1 ix_1 (oB x ix_1)) _ _ _ ls (by omega) (Eq.trans (Eq.symm (by rw [l_X6_goBack_2] <;> rfl)) hvx_1) hp0 hfr hP hS (lv_sub hl [1, 0] rfl)
  exact L1 444 0 (oR x) _ _ _ ls (by omega) rfl hp0 hfr hP hS (lv_sub hl [1, 0] rfl)
theorem o_X6_goBack : okV yX6_goBack cX6_goBack 2 none 0 := ⟨m456, m457, m5, m458, by decide +kernel, by decide +kernel, by decide +kernel⟩
theorem u_X6_goBack_0_1 {x : MoC} : oP (f_X6_goBack x) = oP x := by
  unfold f_X6_goBack
  (repeat' split) <;> rfl
theorem u_X6_goBack_0_2 {x : MoC} : oA (f_X6_goBack x) = oA x := by
  unfold f_X6_goBack
  (repeat' split) <;> rfl
theorem u_X6_goBack_0_3 {x : MoC} : oB (f_X6_goBack x) = oB x := by
  unfold f_X6_goBack
  (repeat' split) <;> rfl
theorem u_X6_goBack_0_4 {x : MoC} : oS (f_X6_goBack x) = oS x := by
  unfold f_X6_goBack
  (repeat' split) <;> rfl
theorem u_X6_goBack_0_5 {x : MoC} : oI (f_X6_goBack x) = oI x := by
  unfold f_X6_goBack
  (repeat' split) <;> rfl
theorem u_X6_goBack_0_6 {x : MoC} : oX (f_X6_goBack x) = oX x := by
  unfold f_X6_goBack
  (repeat' split) <;> rfl
theorem u_X6_goBack_0_7 {x : MoC} : oL (f_X6_goBack x) = oL x := by
  unfold f_X6_goBack
  (repeat' split) <;> rfl
theorem u_X6_goBack_0_8 {x : MoC} : oT (f_X6_goBack x) = oT x := by
  unfold f_X6_goBack
  (repeat' split) <;> rfl
theorem u_X6_goBack_0_9 {x : MoC} : oN (f_X6_goBack x) = oN x := by
  unfold f_X6_goBack
  (repeat' split) <;> rfl
def rmX6_record : Room := { frames := 0, cells := 0, slots := 0, locals := 0 }
def l_X6_record_51 (x : MoC) : Nat → Nat → (Nat → Int32) → (Nat → Int32)
  | 0, ix_2, u0_1_2 => u0_1_2
  | dx_2 + 1, ix_2, u0_1_2 => l_X6_record_51 x dx_2 (ix_2 + 1) (upd u0_1_2 (444 * (oS x) + ix_2) (oB x ix_2))
def l_X6_record_51a (x : MoC) : Nat → Nat → (Nat → Int32) → (Nat → Int32)
  | 0, ix_10, u0_1_10 => u0_1_10
  | dx_10 + 1, ix_10, u0_1_10 => l_X6_record_51a x dx_10 (ix_10 + 1) (upd u0_1_10 (444 * ((oS x) - 1) + ix_10) (oB x ix_10))
def l_X6_record_10 (x : MoC) : Nat → Nat → (Nat → Int32) → (Nat → Int32)
  | 0, ix_7, u0_1_7 => u0_1_7
  | dx_7 + 1, ix_7, u0_1_7 => l_X6_record_10 x dx_7 (ix_7 + 1) (upd u0_1_7 ix_7 (u0_1_7 (444 + ix_7)))
def f_X6_record (x : MoC) : MoC :=
  (if (oS x) = 4 then mkM (oR x) (l_X6_record_51a x 444 0 (l_X6_record_10 x 1332 0 (oP x))) (oA x) (oB x) ((oS x) - 1 + 1) (oI x) (oX x) (oL x) (oT x) (oN x) else mkM (oR x) (l_X6_record_51 x 444 0 (oP x)) (oA x) (oB x) (oS x + 1) (oI x) (oX x) (oL x) (oT x) (oN x))
set_option maxHeartbeats 4000000 in
set_option maxRecDepth 100000 in
theorem c_X6_record {l : Launch} {dd : va_G} {t : CL4} {N : Nat} {ad : Nat → Nat} {V : Nat → va_E} {b : Nat} {x : MoC}  (hi : inj N ad) (hp0 : MoP N ad V t b x)  (hst : oS x ≤ 4) : MV l dd t N ad V yX6_record cX6_record 2 rmX6_record [.ref (ad b)] (fun V1 => (MoP N ad V1 t b (f_X6_record x)) ∧ (∀ k, (k < b ∨ b + 7 ≤ k) → V1 k = V k)) := by
  refine MV.of (by decide +kernel) ⟨rfl, rfl⟩ (Nat.le_of_ble_eq_true rfl) ?_
  intro p e s m as below meth c Q X H hP hS ls hl kr
  have X : WX p s m as c cX6_record 2 RX6 dd t := X
  have hx := X.1.1
  have hb := X.1.2.1
  have hl : lv_has ls 2 [(0, .ref (ad b))] := hl
  have hle0 := hp0.le
  have hfr : ∀ k, (k < b ∨ b + 7 ≤ k) → V k = V k := fun _ _ => rfl
  refine lv_aload_n hx hb dX6_record_0 rfl (lv_at hl 0 rfl) ?_
  refine g_Mo_states X hP hp0 m154 dX6_record_1 ?_
  refine lv_iconst (v := nI 4) hx hb dX6_record_4 (by decide) ?_
  refine q_ne (tgt := 49) hx hb (by omega) (by omega) dX6_record_5 (by decide) (fun c1 => ?_) (fun c1 => ?_)
  · refine lv_iconst (v := nI 0) hx hb dX6_record_49 (by decide) ?_
    refine lv_istore_n (lv' := [(1, .int (nI 0)), (0, .ref (ad b))]) hx hb dX6_record_50 rfl hl (by decide) rfl (fun ls hl => ?_)
    have L2 : ∀ (dx_2 ix_2 : Nat) (u0_1_2 : Nat → Int32) (V2 : Nat → va_E) (H2 : Heap) (locs2 : List Loc) (ls : Array Slot), (ix_2 + dx_2 = 444) → (l_X6_record_51 x dx_2 ix_2 u0_1_2 = l_X6_record_51 x 444 0 (oP x)) → (MoP N ad V2 t b (mkM (oR x) u0_1_2 (oA x) (oB x) (oS x) (oI x) (oX x) (oL x) (oT x) (oN x))) → (∀ k, (k < b ∨ b + 7 ≤ k) → V2 k = V k) → (HP dd N ad V2 H2) → (va_S (dm N ad H.size) H H2 locs2) → (lv_has ls 2 [(0, .ref (ad b)), (1, .int (nI ix_2))]) → W p l e rmX6_record s m as below meth c H2 locs2 0 0 Q (F0 m 51 ls []) := by
      intro dx_2
      induction dx_2 with
      | zero =>
        intro ix_2 u0_1_2 V2 H2 locs2 ls hid hvx_2 hp0 hfr hP hS hl
        have hiN : 444 = ix_2 := by omega
        subst hiN
        have hvx_2 : u0_1_2 = l_X6_record_51 x 444 0 (oP x) := hvx_2
        have hh0 : u0_1_2 = l_X6_record_51 x 444 0 (oP x) := hvx_2
        subst hh0
        refine lv_iload_n hx hb dX6_record_51 rfl (lv_at hl 1 rfl) ?_
        refine lv_sipush (v := nI 444) hx hb dX6_record_52 (by decide) ?_
        refine q_ge (tgt := 85) hx hb (by omega) (by omega) dX6_record_55 (by decide) (fun c3 => ?_) (fun h => absurd h (by omega))
        refine lv_aload_n hx hb dX6_record_85 rfl (lv_at hl 0 rfl) ?_
        refine lv_dup hx hb dX6_record_86 rfl ?_
        refine g_Mo_states X hP hp0 m154 dX6_record_87 ?_
        refine W.eq (g2 := F0 m 90 ls [.int (nI (oS x)), .ref (ad b)]) rfl ?_
        refine lv_iconst (v := nI 1) hx hb dX6_record_90 (by decide) ?_
        refine q_iadd hx hb dX6_record_91 ?_
        refine W.eq (g2 := F0 m 92 ls [.int (nI (oS x + 1)), .ref (ad b)]) rfl ?_
        refine p_Mo_states X hi hP hS hp0 m154 (v := oS x + 1) dX6_record_92 (fun V4 H4 locs4 hp0 h2 hP hS => ?_)
        have hp0 : MoP N ad V4 t b (mkM (oR x) (l_X6_record_51 x 444 0 (oP x)) (oA x) (oB x) (oS x + 1) (oI x) (oX x) (oL x) (oT x) (oN x)) := hp0
        have hfr : ∀ k, (k < b ∨ b + 7 ≤ k) → V4 k = V k := fun k hk => (h2 k (by omega)).trans (hfr k hk)
        have hfin : f_X6_record x = mkM (oR x) (l_X6_record_51 x 444 0 (oP x)) (oA x) (oB x) (oS x + 1) (oI x) (oX x) (oL x) (oT x) (oN x) := (by rw [f_X6_record, if_neg c1] <;> rfl)
        exact kr 95 ls _ _ _ hP hS ⟨by rw [hfin]; exact hp0, hfr⟩ dX6_record_95
      | succ dx_2 ihx_2 =>
        intro ix_2 u0_1_2 V2 H2 locs2 ls hid hvx_2 hp0 hfr hP hS hl
        refine lv_iload_n hx hb dX6_record_51 rfl (lv_at hl 1 rfl) ?_
        refine lv_sipush (v := nI 444) hx hb dX6_record_52 (by decide) ?_
        refine q_ge (tgt := 85) hx hb (by omega) (by omega) dX6_record_55 (by decide) (fun h => absurd h (by omega)) (fun c5 => ?_)
        refine lv_aload_n hx hb dX6_record_58 rfl (lv_at hl 0 rfl) ?_
        refine g_Mo_past X hP hp0 m84 dX6_record_59 ?_
        refine lv_sipush (v := nI 444) hx hb dX6_record_62 (by decide) ?_
        refine lv_aload_n hx hb dX6_record_65 rfl (lv_at hl 0 rfl) ?_
        refine g_Mo_states X hP hp0 m154 dX6_record_66 ?_
        refine W.eq (g2 := F0 m 69 ls [.int (nI (oS x)), .int (nI 444), .ref (ad (b + 2))]) rfl ?_
        refine q_imul hx hb dX6_record_69 ?_
        refine lv_iload_n hx hb dX6_record_70 rfl (lv_at hl 1 rfl) ?_
        refine q_iadd hx hb dX6_record_71 ?_
        refine W.eq (g2 := F0 m 72 ls [.int (nI (444 * (oS x) + ix_2)), .ref (ad (b + 2))]) rfl ?_
        refine lv_aload_n hx hb dX6_record_72 rfl (lv_at hl 0 rfl) ?_
        refine g_Mo_before X hP hp0 m86 dX6_record_73 ?_
        refine lv_iload_n hx hb dX6_record_76 rfl (lv_at hl 1 rfl) ?_
        refine l_Mo_before X hP hp0 (by omega) dX6_record_77 ?_
        refine W.eq (g2 := F0 m 78 ls [.int (oB x ix_2), .int (nI (444 * (oS x) + ix_2)), .ref (ad (b + 2))]) rfl ?_
        refine s_Mo_past X hi hP hS hp0 (by omega) dX6_record_78 (fun V6 H6 locs6 hp0 h2 hP hS => ?_)
        have hp0 : MoP N ad V6 t b (mkM (oR x) (upd u0_1_2 (444 * (oS x) + ix_2) (oB x ix_2)) (oA x) (oB x) (oS x) (oI x) (oX x) (oL x) (oT x) (oN x)) := hp0
        have hfr : ∀ k, (k < b ∨ b + 7 ≤ k) → V6 k = V k := fun k hk => (h2 k (by omega)).trans (hfr k hk)
        refine lv_iinc (v := nI (ix_2 + 1)) (lv' := [(1, .int (nI (ix_2 + 1))), (0, .ref (ad b))]) hx hb dX6_record_79 hl (k := 1) rfl (nI_inc _) (by decide) rfl (fun ls hl => ?_)
        refine lv_goto (tgt := 51) hx hb dX6_record_82 (by decide) ?_
        exact ihx_2 (ix_2 + 1) (upd u0_1_2 (444 * (oS x) + ix_2) (oB x ix_2)) _ _ _ ls (by omega) (Eq.trans (Eq.symm (by rw [l_X6_record_51] <;> rfl)) hvx_2) hp0 hfr hP hS (lv_sub hl [1, 0] rfl)
    exact L2 444 0 (oP x) _ _ _ ls (by omega) rfl hp0 hfr hP hS (lv_sub hl [1, 0] rfl)
  · refine lv_iconst (v := nI 0) hx hb dX6_record_8 (by decide) ?_
    refine lv_istore_n (lv' := [(1, .int (nI 0)), (0, .ref (ad b))]) hx hb dX6_record_9 rfl hl (by decide) rfl (fun ls hl => ?_)
    have L7 : ∀ (dx_7 ix_7 : Nat) (u0_1_7 : Nat → Int32) (V7 : Nat → va_E) (H7 : Heap) (locs7 : List Loc) (ls : Array Slot), (ix_7 + dx_7 = 1332) → (l_X6_record_10 x dx_7 ix_7 u0_1_7 = l_X6_record_10 x 1332 0 (oP x)) → (MoP N ad V7 t b (mkM (oR x) u0_1_7 (oA x) (oB x) (oS x) (oI x) (oX x) (oL x) (oT x) (oN x))) → (∀ k, (k < b ∨ b + 7 ≤ k) → V7 k = V k) → (HP dd N ad V7 H7) → (va_S (dm N ad H.size) H H7 locs7) → (lv_has ls 2 [(0, .ref (ad b)), (1, .int (nI ix_7))]) → W p l e rmX6_record s m as below meth c H7 locs7 0 0 Q (F0 m 10 ls []) := by
      intro dx_7
      induction dx_7 with
      | zero =>
        intro ix_7 u0_1_7 V7 H7 locs7 ls hid hvx_7 hp0 hfr hP hS hl
        have hiN : 1332 = ix_7 := by omega
        subst hiN
        have hvx_7 : u0_1_7 = l_X6_record_10 x 1332 0 (oP x) := hvx_7
        have hh0 : u0_1_7 = l_X6_record_10 x 1332 0 (oP x) := hvx_7
        subst hh0
        refine lv_iload_n hx hb dX6_record_10 rfl (lv_at hl 1 rfl) ?_
        refine lv_sipush (v := nI 1332) hx hb dX6_record_11 (by decide) ?_
        refine q_ge (tgt := 39) hx hb (by omega) (by omega) dX6_record_14 (by decide) (fun c8 => ?_) (fun h => absurd h (by omega))
        refine lv_aload_n hx hb dX6_record_39 rfl (lv_at hl 0 rfl) ?_
        refine lv_dup hx hb dX6_record_40 rfl ?_
        refine g_Mo_states X hP hp0 m154 dX6_record_41 ?_
        refine W.eq (g2 := F0 m 44 ls [.int (nI (oS x)), .ref (ad b)]) rfl ?_
        refine lv_iconst (v := nI 1) hx hb dX6_record_44 (by decide) ?_
        refine q_isub hx hb (by omega) dX6_record_45 ?_
        refine p_Mo_states X hi hP hS hp0 m154 (v := (oS x) - 1) dX6_record_46 (fun V9 H9 locs9 hp0 h2 hP hS => ?_)
        have hp0 : MoP N ad V9 t b (mkM (oR x) (l_X6_record_10 x 1332 0 (oP x)) (oA x) (oB x) ((oS x) - 1) (oI x) (oX x) (oL x) (oT x) (oN x)) := hp0
        have hfr : ∀ k, (k < b ∨ b + 7 ≤ k) → V9 k = V k := fun k hk => (h2 k (by omega)).trans (hfr k hk)
        refine lv_iconst (v := nI 0) hx hb dX6_record_49 (by decide) ?_
        refine lv_istore_n (lv' := [(1, .int (nI 0)), (0, .ref (ad b))]) hx hb dX6_record_50 rfl hl (by decide) rfl (fun ls hl => ?_)
        have L10 : ∀ (dx_10 ix_10 : Nat) (u0_1_10 : Nat → Int32) (V10 : Nat → va_E) (H10 : Heap) (locs10 : List Loc) (ls : Array Slot), (ix_10 + dx_10 = 444) → (l_X6_record_51a x dx_10 ix_10 u0_1_10 = l_X6_record_51a x 444 0 (l_X6_record_10 x 1332 0 (oP x))) → (MoP N ad V10 t b (mkM (oR x) u0_1_10 (oA x) (oB x) ((oS x) - 1) (oI x) (oX x) (oL x) (oT x) (oN x))) → (∀ k, (k < b ∨ b + 7 ≤ k) → V10 k = V k) → (HP dd N ad V10 H10) → (va_S (dm N ad H.size) H H10 locs10) → (lv_has ls 2 [(0, .ref (ad b)), (1, .int (nI ix_10))]) → W p l e rmX6_record s m as below meth c H10 locs10 0 0 Q (F0 m 51 ls []) := by
          intro dx_10
          induction dx_10 with
          | zero =>
            intro ix_10 u0_1_10 V10 H10 locs10 ls hid hvx_10 hp0 hfr hP hS hl
            have hiN : 444 = ix_10 := by omega
            subst hiN
            have hvx_10 : u0_1_10 = l_X6_record_51a x 444 0 (l_X6_record_10 x 1332 0 (oP x)) := hvx_10
            have hh0 : u0_1_10 = l_X6_record_51a x 444 0 (l_X6_record_10 x 1332 0 (oP x)) := hvx_10
            subst hh0
            refine lv_iload_n hx hb dX6_record_51 rfl (lv_at hl 1 rfl) ?_
            refine lv_sipush (v := nI 444) hx hb dX6_record_52 (by decide) ?_
            refine q_ge (tgt := 85) hx hb (by omega) (by omega) dX6_record_55 (by decide) (fun c11 => ?_) (fun h => absurd h (by omega))
            refine lv_aload_n hx hb dX6_record_85 rfl (lv_at hl 0 rfl) ?_
            refine lv_dup hx hb dX6_record_86 rfl ?_
            refine g_Mo_states X hP hp0 m154 dX6_record_87 ?_
            refine W.eq (g2 := F0 m 90 ls [.int (nI ((oS x) - 1)), .ref (ad b)]) rfl ?_
            refine lv_iconst (v := nI 1) hx hb dX6_record_90 (by decide) ?_
            refine q_iadd hx hb dX6_record_91 ?_
            refine W.eq (g2 := F0 m 92 ls [.int (nI ((oS x) - 1 + 1)), .ref (ad b)]) rfl ?_
            refine p_Mo_states X hi hP hS hp0 m154 (v := (oS x) - 1 + 1) dX6_record_92 (fun V12 H12 locs12 hp0 h2 hP hS => ?_)
            have hp0 : MoP N ad V12 t b (mkM (oR x) (l_X6_record_51a x 444 0 (l_X6_record_10 x 1332 0 (oP x))) (oA x) (oB x) ((oS x) - 1 + 1) (oI x) (oX x) (oL x) (oT x) (oN x)) := hp0
            have hfr : ∀ k, (k < b ∨ b + 7 ≤ k) → V12 k = V k := fun k hk => (h2 k (by omega)).trans (hfr k hk)
            have hfin : f_X6_record x = mkM (oR x) (l_X6_record_51a x 444 0 (l_X6_record_10 x 1332 0 (oP x))) (oA x) (oB x) ((oS x) - 1 + 1) (oI x) (oX x) (oL x) (oT x) (oN x) := (by rw [f_X6_record, if_pos c1] <;> rfl)
            exact kr 95 ls _ _ _ hP hS ⟨by rw [hfin]; exact hp0, hfr⟩ dX6_record_95
          | succ dx_10 ihx_10 =>
            intro ix_10 u0_1_10 V10 H10 locs10 ls hid hvx_10 hp0 hfr hP hS hl
            refine lv_iload_n hx hb dX6_record_51 rfl (lv_at hl 1 rfl) ?_
            refine lv_sipush (v := nI 444) hx hb dX6_record_52 (by decide) ?_
            refine q_ge (tgt := 85) hx hb (by omega) (by omega) dX6_record_55 (by decide) (fun h => absurd h (by omega)) (fun c13 => ?_)
            refine lv_aload_n hx hb dX6_record_58 rfl (lv_at hl 0 rfl) ?_
            refine g_Mo_past X hP hp0 m84 dX6_record_59 ?_
            refine lv_sipush (v := nI 444) hx hb dX6_record_62 (by decide) ?_
            refine lv_aload_n hx hb dX6_record_65 rfl (lv_at hl 0 rfl) ?_
            refine g_Mo_states X hP hp0 m154 dX6_record_66 ?_
            refine W.eq (g2 := F0 m 69 ls [.int (nI ((oS x) - 1)), .int (nI 444), .ref (ad (b + 2))]) rfl ?_
            refine q_imul hx hb dX6_record_69 ?_
            refine lv_iload_n hx hb dX6_record_70 rfl (lv_at hl 1 rfl) ?_
            refine q_iadd hx hb dX6_record_71 ?_
            refine W.eq (g2 := F0 m 72 ls [.int (nI (444 * ((oS x) - 1) + ix_10)), .ref (ad (b + 2))]) rfl ?_
            refine lv_aload_n hx hb dX6_record_72 rfl (lv_at hl 0 rfl) ?_
            refine g_Mo_before X hP hp0 m86 dX6_record_73 ?_
            refine lv_iload_n hx hb dX6_record_76 rfl (lv_at hl 1 rfl) ?_
            refine l_Mo_before X hP hp0 (by omega) dX6_record_77 ?_
            refine W.eq (g2 := F0 m 78 ls [.int (oB x ix_10), .int (nI (444 * ((oS x) - 1) + ix_10)), .ref (ad (b + 2))]) rfl ?_
            refine s_Mo_past X hi hP hS hp0 (by omega) dX6_record_78 (fun V14 H14 locs14 hp0 h2 hP hS => ?_)
            have hp0 : MoP N ad V14 t b (mkM (oR x) (upd u0_1_10 (444 * ((oS x) - 1) + ix_10) (oB x ix_10)) (oA x) (oB x) ((oS x) - 1) (oI x) (oX x) (oL x) (oT x) (oN x)) := hp0
            have hfr : ∀ k, (k < b ∨ b + 7 ≤ k) → V14 k = V k := fun k hk => (h2 k (by omega)).trans (hfr k hk)
            refine lv_iinc (v := nI (ix_10 + 1)) (lv' := [(1, .int (nI (ix_10 + 1))), (0, .ref (ad b))]) hx hb dX6_record_79 hl (k := 1) rfl (nI_inc _) (by decide) rfl (fun ls hl => ?_)
            refine lv_goto (tgt := 51) hx hb dX6_record_82 (by decide) ?_
            exact ihx_10 (ix_10 + 1) (upd u0_1_10 (444 * ((oS x) - 1) + ix_10) (oB x ix_10)) _ _ _ ls (by omega) (Eq.trans (Eq.symm (by rw [l_X6_record_51a] <;> rfl)) hvx_10) hp0 hfr hP hS (lv_sub hl [1, 0] rfl)
        exact L10 444 0 (l_X6_record_10 x 1332 0 (oP x)) _ _ _ ls (by omega) rfl hp0 hfr hP hS (lv_sub hl [1, 0] rfl)
      | succ dx_7 ihx_7 =>
        intro ix_7 u0_1_7 V7 H7 locs7 ls hid hvx_7 hp0 hfr hP hS hl
        refine lv_iload_n hx hb dX6_record_10 rfl (lv_at hl 1 rfl) ?_
        refine lv_sipush (v := nI 1332) hx hb dX6_record_11 (by decide) ?_
        refine q_ge (tgt := 39) hx hb (by omega) (by omega) dX6_record_14 (by decide) (fun h => absurd h (by omega)) (fun c15 => ?_)
        refine lv_aload_n hx hb dX6_record_17 rfl (lv_at hl 0 rfl) ?_
        refine g_Mo_past X hP hp0 m84 dX6_record_18 ?_
        refine lv_iload_n hx hb dX6_record_21 rfl (lv_at hl 1 rfl) ?_
        refine lv_aload_n hx hb dX6_record_22 rfl (lv_at hl 0 rfl) ?_
        refine g_Mo_past X hP hp0 m84 dX6_record_23 ?_
        refine lv_sipush (v := nI 444) hx hb dX6_record_26 (by decide) ?_
        refine lv_iload_n hx hb dX6_record_29 rfl (lv_at hl 1 rfl) ?_
        refine q_iadd hx hb dX6_record_30 ?_
        refine l_Mo_past X hP hp0 (by omega) dX6_record_31 ?_
        refine W.eq (g2 := F0 m 32 ls [.int (u0_1_7 (444 + ix_7)), .int (nI ix_7), .ref (ad (b + 2))]) rfl ?_
        refine s_Mo_past X hi hP hS hp0 (by omega) dX6_record_32 (fun V16 H16 locs16 hp0 h2 hP hS => ?_)
        have hp0 : MoP N ad V16 t b (mkM (oR x) (upd u0_1_7 ix_7 (u0_1_7 (444 + ix_7))) (oA x) (oB x) (oS x) (oI x) (oX x) (oL x) (oT x) (oN x)) := hp0
        have hfr : ∀ k, (k < b ∨ b + 7 ≤ k) → V16 k = V k := fun k hk => (h2 k (by omega)).trans (hfr k hk)
        refine lv_iinc (v := nI (ix_7 + 1)) (lv' := [(1, .int (nI (ix_7 + 1))), (0, .ref (ad b))]) hx hb dX6_record_33 hl (k := 1) rfl (nI_inc _) (by decide) rfl (fun ls hl => ?_)
        refine lv_goto (tgt := 10) hx hb dX6_record_36 (by decide) ?_
        exact ihx_7 (ix_7 + 1) (upd u0_1_7 ix_7 (u0_1_7 (444 + ix_7))) _ _ _ ls (by omega) (Eq.trans (Eq.symm (by rw [l_X6_record_10] <;> rfl)) hvx_7) hp0 hfr hP hS (lv_sub hl [1, 0] rfl)
    exact L7 1332 0 (oP x) _ _ _ ls (by omega) rfl hp0 hfr hP hS (lv_sub hl [1, 0] rfl)
theorem o_X6_record : okV yX6_record cX6_record 2 none 0 := ⟨m151, m152, m5, m153, by decide +kernel, by decide +kernel, by decide +kernel⟩
theorem u_X6_record_0_0 {x : MoC} : oR (f_X6_record x) = oR x := by
  unfold f_X6_record
  (repeat' split) <;> rfl
theorem u_X6_record_0_2 {x : MoC} : oA (f_X6_record x) = oA x := by
  unfold f_X6_record
  (repeat' split) <;> rfl
theorem u_X6_record_0_3 {x : MoC} : oB (f_X6_record x) = oB x := by
  unfold f_X6_record
  (repeat' split) <;> rfl
theorem u_X6_record_0_5 {x : MoC} : oI (f_X6_record x) = oI x := by
  unfold f_X6_record
  (repeat' split) <;> rfl
theorem u_X6_record_0_6 {x : MoC} : oX (f_X6_record x) = oX x := by
  unfold f_X6_record
  (repeat' split) <;> rfl
theorem u_X6_record_0_7 {x : MoC} : oL (f_X6_record x) = oL x := by
  unfold f_X6_record
  (repeat' split) <;> rfl
theorem u_X6_record_0_8 {x : MoC} : oT (f_X6_record x) = oT x := by
  unfold f_X6_record
  (repeat' split) <;> rfl
theorem u_X6_record_0_9 {x : MoC} : oN (f_X6_record x) = oN x := by
  unfold f_X6_record
  (repeat' split) <;> rfl
def rmX6_begin : Room := { frames := 1, cells := 0, slots := 0, locals := 21 }
def f_X6_begin (x : MoC) : MoC :=
  mkM (oR x) (oP (f_X6_record (mkM (oR x) (oP x) (oA x) (oB (f_X6_remember x)) (oS x) (oI x) (oX x) (oL x) (oT x) (oN x)))) (oA x) (oB (f_X6_remember x)) (oS (f_X6_record (mkM (oR x) (oP x) (oA x) (oB (f_X6_remember x)) (oS x) (oI x) (oX x) (oL x) (oT x) (oN x)))) (oI x) (oX x) (oL x) (oT x) (oN x)
set_option maxHeartbeats 4000000 in
set_option maxRecDepth 100000 in
theorem c_X6_begin {l : Launch} {dd : va_G} {t : CL4} {N : Nat} {ad : Nat → Nat} {V : Nat → va_E} {b : Nat} {x : MoC}  (hi : inj N ad) (hp0 : MoP N ad V t b x)  (hst : oS x ≤ 4) : MV l dd t N ad V yX6_begin cX6_begin 1 rmX6_begin [.ref (ad b)] (fun V1 => (MoP N ad V1 t b (f_X6_begin x)) ∧ (∀ k, (k < b ∨ b + 7 ≤ k) → V1 k = V k)) := by
  refine MV.of (by decide +kernel) ⟨rfl, rfl⟩ (Nat.le_of_ble_eq_true rfl) ?_
  intro p e s m as below meth c Q X H hP hS ls hl kr
  have X : WX p s m as c cX6_begin 1 RX6 dd t := X
  have hx := X.1.1
  have hb := X.1.2.1
  have hl : lv_has ls 1 [(0, .ref (ad b))] := hl
  have hle0 := hp0.le
  have hfr : ∀ k, (k < b ∨ b + 7 ≤ k) → V k = V k := fun _ _ => rfl
  refine lv_aload_n hx hb dX6_begin_0 rfl (lv_at hl 0 rfl) ?_
  refine r_callW (As := []) (rest := []) (ci := 6) X hP hS (c_X6_remember hi hp0) o_X6_remember rfl hp0.lt hp0.ob m146 ⟨rfl, rfl⟩ ⟨Nat.le_of_ble_eq_true rfl, Nat.le_of_ble_eq_true rfl⟩ rfl hl.1 rfl (Nat.le_of_ble_eq_true rfl) ⟨Nat.zero_le _, Nat.zero_le _⟩ dX6_begin_1 (fun V1 H1 locs1 hq hP hS => ?_)
  obtain ⟨hp0, h2⟩ := hq
  have hp0 : MoP N ad V1 t b (mkM (oR x) (oP x) (oA x) (oB (f_X6_remember x)) (oS x) (oI x) (oX x) (oL x) (oT x) (oN x)) := hp0.ext (fun _ _ => congrFun u_X6_remember_0_0 _) (fun _ _ => congrFun u_X6_remember_0_1 _) (fun _ _ => congrFun u_X6_remember_0_2 _) (fun _ _ => rfl) u_X6_remember_0_4 u_X6_remember_0_5 (fun _ _ => congrFun u_X6_remember_0_6 _) u_X6_remember_0_7 u_X6_remember_0_8 (fun _ _ => congrFun u_X6_remember_0_9 _)
  have hfr : ∀ k, (k < b ∨ b + 7 ≤ k) → V1 k = V k := fun k hk => (h2 k (by omega)).trans (hfr k hk)
  refine lv_aload_n hx hb dX6_begin_4 rfl (lv_at hl 0 rfl) ?_
  refine r_callW (As := []) (rest := []) (ci := 6) X hP hS (c_X6_record hi hp0 hst) o_X6_record rfl hp0.lt hp0.ob m150 ⟨rfl, rfl⟩ ⟨Nat.le_of_ble_eq_true rfl, Nat.le_of_ble_eq_true rfl⟩ rfl hl.1 rfl (Nat.le_of_ble_eq_true rfl) ⟨Nat.zero_le _, Nat.zero_le _⟩ dX6_begin_5 (fun V2 H2 locs2 hq hP hS => ?_)
  obtain ⟨hp0, h2⟩ := hq
  have hp0 : MoP N ad V2 t b (mkM (oR x) (oP (f_X6_record (mkM (oR x) (oP x) (oA x) (oB (f_X6_remember x)) (oS x) (oI x) (oX x) (oL x) (oT x) (oN x)))) (oA x) (oB (f_X6_remember x)) (oS (f_X6_record (mkM (oR x) (oP x) (oA x) (oB (f_X6_remember x)) (oS x) (oI x) (oX x) (oL x) (oT x) (oN x)))) (oI x) (oX x) (oL x) (oT x) (oN x)) := hp0.ext (fun _ _ => congrFun u_X6_record_0_0 _) (fun _ _ => rfl) (fun _ _ => congrFun u_X6_record_0_2 _) (fun _ _ => congrFun u_X6_record_0_3 _) rfl u_X6_record_0_5 (fun _ _ => congrFun u_X6_record_0_6 _) u_X6_record_0_7 u_X6_record_0_8 (fun _ _ => congrFun u_X6_record_0_9 _)
  have hfr : ∀ k, (k < b ∨ b + 7 ≤ k) → V2 k = V k := fun k hk => (h2 k (by omega)).trans (hfr k hk)
  have hfin : f_X6_begin x = mkM (oR x) (oP (f_X6_record (mkM (oR x) (oP x) (oA x) (oB (f_X6_remember x)) (oS x) (oI x) (oX x) (oL x) (oT x) (oN x)))) (oA x) (oB (f_X6_remember x)) (oS (f_X6_record (mkM (oR x) (oP x) (oA x) (oB (f_X6_remember x)) (oS x) (oI x) (oX x) (oL x) (oT x) (oN x)))) (oI x) (oX x) (oL x) (oT x) (oN x) := (by rw [f_X6_begin] <;> rfl)
  exact kr 8 ls _ _ _ hP hS ⟨by rw [hfin]; exact hp0, hfr⟩ dX6_begin_8
theorem o_X6_begin : okV yX6_begin cX6_begin 1 none 0 := ⟨m143, m144, m5, m145, by decide +kernel, by decide +kernel, by decide +kernel⟩
theorem u_X6_begin_0_0 {x : MoC} : oR (f_X6_begin x) = oR x := by
  unfold f_X6_begin
  (repeat' split) <;> rfl
theorem u_X6_begin_0_2 {x : MoC} : oA (f_X6_begin x) = oA x := by
  unfold f_X6_begin
  (repeat' split) <;> rfl
theorem u_X6_begin_0_5 {x : MoC} : oI (f_X6_begin x) = oI x := by
  unfold f_X6_begin
  (repeat' split) <;> rfl
theorem u_X6_begin_0_6 {x : MoC} : oX (f_X6_begin x) = oX x := by
  unfold f_X6_begin
  (repeat' split) <;> rfl
theorem u_X6_begin_0_7 {x : MoC} : oL (f_X6_begin x) = oL x := by
  unfold f_X6_begin
  (repeat' split) <;> rfl
theorem u_X6_begin_0_8 {x : MoC} : oT (f_X6_begin x) = oT x := by
  unfold f_X6_begin
  (repeat' split) <;> rfl
theorem u_X6_begin_0_9 {x : MoC} : oN (f_X6_begin x) = oN x := by
  unfold f_X6_begin
  (repeat' split) <;> rfl
def rmX6_undo : Room := { frames := 0, cells := 0, slots := 0, locals := 0 }
def l_X6_undo_22 (x : MoC) : Nat → Nat → (Nat → Int32) → (Nat → Int32)
  | 0, ix_3, u0_0_3 => u0_0_3
  | dx_3 + 1, ix_3, u0_0_3 => l_X6_undo_22 x dx_3 (ix_3 + 1) (upd u0_0_3 ix_3 (oP x (444 * ((oS x) - 1) + ix_3)))
def f_X6_undo (x : MoC) : Int32 × MoC :=
  (if (oS x) = 0 then ((-5), x) else (nI ((oS x) - 1), mkM (l_X6_undo_22 x 444 0 (oR x)) (oP x) (oA x) (oB x) ((oS x) - 1) (oI x) (oX x) (oL x) (oT x) (oN x)))
set_option maxHeartbeats 4000000 in
set_option maxRecDepth 100000 in
theorem c_X6_undo {l : Launch} {dd : va_G} {t : CL4} {N : Nat} {ad : Nat → Nat} {V : Nat → va_E} {b : Nat} {x : MoC}  (hi : inj N ad) (hp0 : MoP N ad V t b x)  (hst : oS x ≤ 4) : MM l dd t N ad V yX6_undo cX6_undo 2 (some .int) rmX6_undo [.ref (ad b)] (fun r V1 => (r = (f_X6_undo x).1) ∧ (MoP N ad V1 t b ((f_X6_undo x).2)) ∧ (∀ k, (k < b ∨ b + 7 ≤ k) → V1 k = V k)) := by
  refine MM.of (by decide +kernel) ⟨rfl, rfl⟩ (Nat.le_of_ble_eq_true rfl) rfl ?_
  intro p e s m as below meth c Q X H hP hS ls hl kr
  have X : WX p s m as c cX6_undo 2 RX6 dd t := X
  have hx := X.1.1
  have hb := X.1.2.1
  have hl : lv_has ls 2 [(0, .ref (ad b))] := hl
  have hle0 := hp0.le
  have hfr : ∀ k, (k < b ∨ b + 7 ≤ k) → V k = V k := fun _ _ => rfl
  refine lv_aload_n hx hb dX6_undo_0 rfl (lv_at hl 0 rfl) ?_
  refine g_Mo_states X hP hp0 m154 dX6_undo_1 ?_
  refine z_ne (tgt := 10) hx hb (by omega) dX6_undo_4 (by decide) (fun c1 => ?_) (fun c1 => ?_)
  · refine lv_aload_n hx hb dX6_undo_10 rfl (lv_at hl 0 rfl) ?_
    refine lv_dup hx hb dX6_undo_11 rfl ?_
    refine g_Mo_states X hP hp0 m154 dX6_undo_12 ?_
    refine lv_iconst (v := nI 1) hx hb dX6_undo_15 (by decide) ?_
    refine q_isub hx hb (by omega) dX6_undo_16 ?_
    refine p_Mo_states X hi hP hS hp0 m154 (v := (oS x) - 1) dX6_undo_17 (fun V2 H2 locs2 hp0 h2 hP hS => ?_)
    have hp0 : MoP N ad V2 t b (mkM (oR x) (oP x) (oA x) (oB x) ((oS x) - 1) (oI x) (oX x) (oL x) (oT x) (oN x)) := hp0
    have hfr : ∀ k, (k < b ∨ b + 7 ≤ k) → V2 k = V k := fun k hk => (h2 k (by omega)).trans (hfr k hk)
    refine lv_iconst (v := nI 0) hx hb dX6_undo_20 (by decide) ?_
    refine lv_istore_n (lv' := [(1, .int (nI 0)), (0, .ref (ad b))]) hx hb dX6_undo_21 rfl hl (by decide) rfl (fun ls hl => ?_)
    have L3 : ∀ (dx_3 ix_3 : Nat) (u0_0_3 : Nat → Int32) (V3 : Nat → va_E) (H3 : Heap) (locs3 : List Loc) (ls : Array Slot), (ix_3 + dx_3 = 444) → (l_X6_undo_22 x dx_3 ix_3 u0_0_3 = l_X6_undo_22 x 444 0 (oR x)) → (MoP N ad V3 t b (mkM u0_0_3 (oP x) (oA x) (oB x) ((oS x) - 1) (oI x) (oX x) (oL x) (oT x) (oN x))) → (∀ k, (k < b ∨ b + 7 ≤ k) → V3 k = V k) → (HP dd N ad V3 H3) → (va_S (dm N ad H.size) H H3 locs3) → (lv_has ls 2 [(0, .ref (ad b)), (1, .int (nI ix_3))]) → W p l e rmX6_undo s m as below meth c H3 locs3 0 0 Q (F0 m 22 ls []) := by
      intro dx_3
      induction dx_3 with
      | zero =>
        intro ix_3 u0_0_3 V3 H3 locs3 ls hid hvx_3 hp0 hfr hP hS hl
        have hiN : 444 = ix_3 := by omega
        subst hiN
        have hvx_3 : u0_0_3 = l_X6_undo_22 x 444 0 (oR x) := hvx_3
        have hh0 : u0_0_3 = l_X6_undo_22 x 444 0 (oR x) := hvx_3
        subst hh0
        refine lv_iload_n hx hb dX6_undo_22 rfl (lv_at hl 1 rfl) ?_
        refine lv_sipush (v := nI 444) hx hb dX6_undo_23 (by decide) ?_
        refine q_ge (tgt := 56) hx hb (by omega) (by omega) dX6_undo_26 (by decide) (fun c4 => ?_) (fun h => absurd h (by omega))
        refine lv_aload_n hx hb dX6_undo_56 rfl (lv_at hl 0 rfl) ?_
        refine g_Mo_states X hP hp0 m154 dX6_undo_57 ?_
        refine W.eq (g2 := F0 m 60 ls [.int (nI ((oS x) - 1))]) rfl ?_
        have hfin : f_X6_undo x = (nI ((oS x) - 1), mkM (l_X6_undo_22 x 444 0 (oR x)) (oP x) (oA x) (oB x) ((oS x) - 1) (oI x) (oX x) (oL x) (oT x) (oN x)) := (by rw [f_X6_undo, if_neg c1] <;> rfl)
        exact kr 60 ls _ _ _ _ hP hS rfl ⟨by rw [hfin] <;> rfl, by rw [hfin]; exact hp0, hfr⟩ dX6_undo_60
      | succ dx_3 ihx_3 =>
        intro ix_3 u0_0_3 V3 H3 locs3 ls hid hvx_3 hp0 hfr hP hS hl
        refine lv_iload_n hx hb dX6_undo_22 rfl (lv_at hl 1 rfl) ?_
        refine lv_sipush (v := nI 444) hx hb dX6_undo_23 (by decide) ?_
        refine q_ge (tgt := 56) hx hb (by omega) (by omega) dX6_undo_26 (by decide) (fun h => absurd h (by omega)) (fun c5 => ?_)
        refine lv_aload_n hx hb dX6_undo_29 rfl (lv_at hl 0 rfl) ?_
        refine g_Mo_row X hP hp0 m83 dX6_undo_30 ?_
        refine lv_iload_n hx hb dX6_undo_33 rfl (lv_at hl 1 rfl) ?_
        refine lv_aload_n hx hb dX6_undo_34 rfl (lv_at hl 0 rfl) ?_
        refine g_Mo_past X hP hp0 m84 dX6_undo_35 ?_
        refine lv_sipush (v := nI 444) hx hb dX6_undo_38 (by decide) ?_
        refine lv_aload_n hx hb dX6_undo_41 rfl (lv_at hl 0 rfl) ?_
        refine g_Mo_states X hP hp0 m154 dX6_undo_42 ?_
        refine W.eq (g2 := F0 m 45 ls [.int (nI ((oS x) - 1)), .int (nI 444), .ref (ad (b + 2)), .int (nI ix_3), .ref (ad (b + 1))]) rfl ?_
        refine q_imul hx hb dX6_undo_45 ?_
        refine lv_iload_n hx hb dX6_undo_46 rfl (lv_at hl 1 rfl) ?_
        refine q_iadd hx hb dX6_undo_47 ?_
        refine W.eq (g2 := F0 m 48 ls [.int (nI (444 * ((oS x) - 1) + ix_3)), .ref (ad (b + 2)), .int (nI ix_3), .ref (ad (b + 1))]) rfl ?_
        refine l_Mo_past X hP hp0 (by omega) dX6_undo_48 ?_
        refine W.eq (g2 := F0 m 49 ls [.int (oP x (444 * ((oS x) - 1) + ix_3)), .int (nI ix_3), .ref (ad (b + 1))]) rfl ?_
        refine s_Mo_row X hi hP hS hp0 (by omega) dX6_undo_49 (fun V6 H6 locs6 hp0 h2 hP hS => ?_)
        have hp0 : MoP N ad V6 t b (mkM (upd u0_0_3 ix_3 (oP x (444 * ((oS x) - 1) + ix_3))) (oP x) (oA x) (oB x) ((oS x) - 1) (oI x) (oX x) (oL x) (oT x) (oN x)) := hp0
        have hfr : ∀ k, (k < b ∨ b + 7 ≤ k) → V6 k = V k := fun k hk => (h2 k (by omega)).trans (hfr k hk)
        refine lv_iinc (v := nI (ix_3 + 1)) (lv' := [(1, .int (nI (ix_3 + 1))), (0, .ref (ad b))]) hx hb dX6_undo_50 hl (k := 1) rfl (nI_inc _) (by decide) rfl (fun ls hl => ?_)
        refine lv_goto (tgt := 22) hx hb dX6_undo_53 (by decide) ?_
        exact ihx_3 (ix_3 + 1) (upd u0_0_3 ix_3 (oP x (444 * ((oS x) - 1) + ix_3))) _ _ _ ls (by omega) (Eq.trans (Eq.symm (by rw [l_X6_undo_22] <;> rfl)) hvx_3) hp0 hfr hP hS (lv_sub hl [1, 0] rfl)
    exact L3 444 0 (oR x) _ _ _ ls (by omega) rfl hp0 hfr hP hS (lv_sub hl [1, 0] rfl)
  · refine lv_bipush (v := (-5)) hx hb dX6_undo_7 (by decide) ?_
    have hfin : f_X6_undo x = ((-5), x) := (by rw [f_X6_undo, if_pos c1] <;> rfl)
    exact kr 9 ls _ _ _ _ hP hS rfl ⟨by rw [hfin] <;> rfl, by rw [hfin]; exact hp0, hfr⟩ dX6_undo_9
theorem o_X6_undo : okV yX6_undo cX6_undo 2 (some .int) 0 := ⟨m580, m581, m5, m582, by decide +kernel, by decide +kernel, by decide +kernel⟩
theorem u_X6_undo_0_1 {x : MoC} : oP ((f_X6_undo x).2) = oP x := by
  unfold f_X6_undo
  (repeat' split) <;> rfl
theorem u_X6_undo_0_2 {x : MoC} : oA ((f_X6_undo x).2) = oA x := by
  unfold f_X6_undo
  (repeat' split) <;> rfl
theorem u_X6_undo_0_3 {x : MoC} : oB ((f_X6_undo x).2) = oB x := by
  unfold f_X6_undo
  (repeat' split) <;> rfl
theorem u_X6_undo_0_5 {x : MoC} : oI ((f_X6_undo x).2) = oI x := by
  unfold f_X6_undo
  (repeat' split) <;> rfl
theorem u_X6_undo_0_6 {x : MoC} : oX ((f_X6_undo x).2) = oX x := by
  unfold f_X6_undo
  (repeat' split) <;> rfl
theorem u_X6_undo_0_7 {x : MoC} : oL ((f_X6_undo x).2) = oL x := by
  unfold f_X6_undo
  (repeat' split) <;> rfl
theorem u_X6_undo_0_8 {x : MoC} : oT ((f_X6_undo x).2) = oT x := by
  unfold f_X6_undo
  (repeat' split) <;> rfl
theorem u_X6_undo_0_9 {x : MoC} : oN ((f_X6_undo x).2) = oN x := by
  unfold f_X6_undo
  (repeat' split) <;> rfl
def rmX6_keep : Room := { frames := 0, cells := 0, slots := 0, locals := 0 }
def l_X6_keep_2 (x : MoC) : Nat → Nat → (Nat → Int32) → (Nat → Int32)
  | 0, ix_1, u0_2_1 => u0_2_1
  | dx_1 + 1, ix_1, u0_2_1 => l_X6_keep_2 x dx_1 (ix_1 + 1) (upd u0_2_1 ix_1 (oR x ix_1))
def f_X6_keep (x : MoC) : Int32 × MoC :=
  (oR x 3, mkM (oR x) (oP x) (l_X6_keep_2 x 444 0 (oA x)) (oB x) (oS x) (nI 1) (oX x) (oL x) (oT x) (oN x))
set_option maxHeartbeats 4000000 in
set_option maxRecDepth 100000 in
theorem c_X6_keep {l : Launch} {dd : va_G} {t : CL4} {N : Nat} {ad : Nat → Nat} {V : Nat → va_E} {b : Nat} {x : MoC}  (hi : inj N ad) (hp0 : MoP N ad V t b x)   : MM l dd t N ad V yX6_keep cX6_keep 2 (some .int) rmX6_keep [.ref (ad b)] (fun r V1 => (r = (f_X6_keep x).1) ∧ (MoP N ad V1 t b ((f_X6_keep x).2)) ∧ (∀ k, (k < b ∨ b + 7 ≤ k) → V1 k = V k)) := by
  refine MM.of (by decide +kernel) ⟨rfl, rfl⟩ (Nat.le_of_ble_eq_true rfl) rfl ?_
  intro p e s m as below meth c Q X H hP hS ls hl kr
  have X : WX p s m as c cX6_keep 2 RX6 dd t := X
  have hx := X.1.1
  have hb := X.1.2.1
  have hl : lv_has ls 2 [(0, .ref (ad b))] := hl
  have hle0 := hp0.le
  have hfr : ∀ k, (k < b ∨ b + 7 ≤ k) → V k = V k := fun _ _ => rfl
  refine lv_iconst (v := nI 0) hx hb dX6_keep_0 (by decide) ?_
  refine lv_istore_n (lv' := [(1, .int (nI 0)), (0, .ref (ad b))]) hx hb dX6_keep_1 rfl hl (by decide) rfl (fun ls hl => ?_)
  have L1 : ∀ (dx_1 ix_1 : Nat) (u0_2_1 : Nat → Int32) (V1 : Nat → va_E) (H1 : Heap) (locs1 : List Loc) (ls : Array Slot), (ix_1 + dx_1 = 444) → (l_X6_keep_2 x dx_1 ix_1 u0_2_1 = l_X6_keep_2 x 444 0 (oA x)) → (MoP N ad V1 t b (mkM (oR x) (oP x) u0_2_1 (oB x) (oS x) (oI x) (oX x) (oL x) (oT x) (oN x))) → (∀ k, (k < b ∨ b + 7 ≤ k) → V1 k = V k) → (HP dd N ad V1 H1) → (va_S (dm N ad H.size) H H1 locs1) → (lv_has ls 2 [(0, .ref (ad b)), (1, .int (nI ix_1))]) → W p l e rmX6_keep s m as below meth c H1 locs1 0 0 Q (F0 m 2 ls []) := by
    intro dx_1
    induction dx_1 with
    | zero =>
      intro ix_1 u0_2_1 V1 H1 locs1 ls hid hvx_1 hp0 hfr hP hS hl
      have hiN : 444 = ix_1 := by omega
      subst hiN
      have hvx_1 : u0_2_1 = l_X6_keep_2 x 444 0 (oA x) := hvx_1
      have hh0 : u0_2_1 = l_X6_keep_2 x 444 0 (oA x) := hvx_1
      subst hh0
      refine lv_iload_n hx hb dX6_keep_2 rfl (lv_at hl 1 rfl) ?_
      refine lv_sipush (v := nI 444) hx hb dX6_keep_3 (by decide) ?_
      refine q_ge (tgt := 27) hx hb (by omega) (by omega) dX6_keep_6 (by decide) (fun c2 => ?_) (fun h => absurd h (by omega))
      refine lv_aload_n hx hb dX6_keep_27 rfl (lv_at hl 0 rfl) ?_
      refine lv_iconst (v := nI 1) hx hb dX6_keep_28 (by decide) ?_
      refine p_Mo_isAside X hi hP hS hp0 m591 (v := nI 1) (hv := by decide) (hw := by decide) dX6_keep_29 (fun V3 H3 locs3 hp0 h2 hP hS => ?_)
      have hp0 : MoP N ad V3 t b (mkM (oR x) (oP x) (l_X6_keep_2 x 444 0 (oA x)) (oB x) (oS x) (nI 1) (oX x) (oL x) (oT x) (oN x)) := hp0
      have hfr : ∀ k, (k < b ∨ b + 7 ≤ k) → V3 k = V k := fun k hk => (h2 k (by omega)).trans (hfr k hk)
      refine lv_aload_n hx hb dX6_keep_32 rfl (lv_at hl 0 rfl) ?_
      refine g_Mo_row X hP hp0 m83 dX6_keep_33 ?_
      refine lv_iconst (v := nI 3) hx hb dX6_keep_36 (by decide) ?_
      refine l_Mo_row X hP hp0 (by decide) dX6_keep_37 ?_
      refine W.eq (g2 := F0 m 38 ls [.int (oR x 3)]) rfl ?_
      have hfin : f_X6_keep x = (oR x 3, mkM (oR x) (oP x) (l_X6_keep_2 x 444 0 (oA x)) (oB x) (oS x) (nI 1) (oX x) (oL x) (oT x) (oN x)) := (by rw [f_X6_keep] <;> rfl)
      exact kr 38 ls _ _ _ _ hP hS rfl ⟨by rw [hfin] <;> rfl, by rw [hfin]; exact hp0, hfr⟩ dX6_keep_38
    | succ dx_1 ihx_1 =>
      intro ix_1 u0_2_1 V1 H1 locs1 ls hid hvx_1 hp0 hfr hP hS hl
      refine lv_iload_n hx hb dX6_keep_2 rfl (lv_at hl 1 rfl) ?_
      refine lv_sipush (v := nI 444) hx hb dX6_keep_3 (by decide) ?_
      refine q_ge (tgt := 27) hx hb (by omega) (by omega) dX6_keep_6 (by decide) (fun h => absurd h (by omega)) (fun c4 => ?_)
      refine lv_aload_n hx hb dX6_keep_9 rfl (lv_at hl 0 rfl) ?_
      refine g_Mo_aside X hP hp0 m85 dX6_keep_10 ?_
      refine lv_iload_n hx hb dX6_keep_13 rfl (lv_at hl 1 rfl) ?_
      refine lv_aload_n hx hb dX6_keep_14 rfl (lv_at hl 0 rfl) ?_
      refine g_Mo_row X hP hp0 m83 dX6_keep_15 ?_
      refine lv_iload_n hx hb dX6_keep_18 rfl (lv_at hl 1 rfl) ?_
      refine l_Mo_row X hP hp0 (by omega) dX6_keep_19 ?_
      refine W.eq (g2 := F0 m 20 ls [.int (oR x ix_1), .int (nI ix_1), .ref (ad (b + 3))]) rfl ?_
      refine s_Mo_aside X hi hP hS hp0 (by omega) dX6_keep_20 (fun V5 H5 locs5 hp0 h2 hP hS => ?_)
      have hp0 : MoP N ad V5 t b (mkM (oR x) (oP x) (upd u0_2_1 ix_1 (oR x ix_1)) (oB x) (oS x) (oI x) (oX x) (oL x) (oT x) (oN x)) := hp0
      have hfr : ∀ k, (k < b ∨ b + 7 ≤ k) → V5 k = V k := fun k hk => (h2 k (by omega)).trans (hfr k hk)
      refine lv_iinc (v := nI (ix_1 + 1)) (lv' := [(1, .int (nI (ix_1 + 1))), (0, .ref (ad b))]) hx hb dX6_keep_21 hl (k := 1) rfl (nI_inc _) (by decide) rfl (fun ls hl => ?_)
      refine lv_goto (tgt := 2) hx hb dX6_keep_24 (by decide) ?_
      exact ihx_1 (ix_1 + 1) (upd u0_2_1 ix_1 (oR x ix_1)) _ _ _ ls (by omega) (Eq.trans (Eq.symm (by rw [l_X6_keep_2] <;> rfl)) hvx_1) hp0 hfr hP hS (lv_sub hl [1, 0] rfl)
  exact L1 444 0 (oA x) _ _ _ ls (by omega) rfl hp0 hfr hP hS (lv_sub hl [1, 0] rfl)
theorem o_X6_keep : okV yX6_keep cX6_keep 2 (some .int) 0 := ⟨m588, m589, m5, m590, by decide +kernel, by decide +kernel, by decide +kernel⟩
theorem u_X6_keep_0_0 {x : MoC} : oR ((f_X6_keep x).2) = oR x := by
  unfold f_X6_keep
  (repeat' split) <;> rfl
theorem u_X6_keep_0_1 {x : MoC} : oP ((f_X6_keep x).2) = oP x := by
  unfold f_X6_keep
  (repeat' split) <;> rfl
theorem u_X6_keep_0_3 {x : MoC} : oB ((f_X6_keep x).2) = oB x := by
  unfold f_X6_keep
  (repeat' split) <;> rfl
theorem u_X6_keep_0_4 {x : MoC} : oS ((f_X6_keep x).2) = oS x := by
  unfold f_X6_keep
  (repeat' split) <;> rfl
theorem u_X6_keep_0_6 {x : MoC} : oX ((f_X6_keep x).2) = oX x := by
  unfold f_X6_keep
  (repeat' split) <;> rfl
theorem u_X6_keep_0_7 {x : MoC} : oL ((f_X6_keep x).2) = oL x := by
  unfold f_X6_keep
  (repeat' split) <;> rfl
theorem u_X6_keep_0_8 {x : MoC} : oT ((f_X6_keep x).2) = oT x := by
  unfold f_X6_keep
  (repeat' split) <;> rfl
theorem u_X6_keep_0_9 {x : MoC} : oN ((f_X6_keep x).2) = oN x := by
  unfold f_X6_keep
  (repeat' split) <;> rfl
def rmX6_restore : Room := { frames := 2, cells := 0, slots := 0, locals := 41 }
def l_X6_restore_16 (x : MoC) : Nat → Nat → (Nat → Int32) → (Nat → Int32)
  | 0, ix_3, u0_0_3 => u0_0_3
  | dx_3 + 1, ix_3, u0_0_3 => l_X6_restore_16 x dx_3 (ix_3 + 1) (upd u0_0_3 ix_3 (oA x ix_3))
def f_X6_restore (x : MoC) : Int32 × MoC :=
  (if (oI x) = 0 then ((-5), x) else ((l_X6_restore_16 x 444 0 (oR x)) 3, mkM (l_X6_restore_16 x 444 0 (oR x)) (oP (f_X6_begin x)) (oA x) (oB (f_X6_begin x)) (oS (f_X6_begin x)) (oI x) (oX x) (oL x) (oT x) (oN x)))
set_option maxHeartbeats 4000000 in
set_option maxRecDepth 100000 in
theorem c_X6_restore {l : Launch} {dd : va_G} {t : CL4} {N : Nat} {ad : Nat → Nat} {V : Nat → va_E} {b : Nat} {x : MoC}  (hi : inj N ad) (hp0 : MoP N ad V t b x)  (hst : oS x ≤ 4) : MM l dd t N ad V yX6_restore cX6_restore 2 (some .int) rmX6_restore [.ref (ad b)] (fun r V1 => (r = (f_X6_restore x).1) ∧ (MoP N ad V1 t b ((f_X6_restore x).2)) ∧ (∀ k, (k < b ∨ b + 7 ≤ k) → V1 k = V k)) := by
  refine MM.of (by decide +kernel) ⟨rfl, rfl⟩ (Nat.le_of_ble_eq_true rfl) rfl ?_
  intro p e s m as below meth c Q X H hP hS ls hl kr
  have X : WX p s m as c cX6_restore 2 RX6 dd t := X
  have hx := X.1.1
  have hb := X.1.2.1
  have hl : lv_has ls 2 [(0, .ref (ad b))] := hl
  have hle0 := hp0.le
  have hfr : ∀ k, (k < b ∨ b + 7 ≤ k) → V k = V k := fun _ _ => rfl
  refine lv_aload_n hx hb dX6_restore_0 rfl (lv_at hl 0 rfl) ?_
  refine g_Mo_isAside X hP hp0 m591 dX6_restore_1 ?_
  refine lv_if_ne (tgt := 10) hx hb dX6_restore_4 (by decide) (fun c1 => ?_) (fun c1 => ?_)
  · refine lv_aload_n hx hb dX6_restore_10 rfl (lv_at hl 0 rfl) ?_
    refine r_callW (As := []) (rest := []) (ci := 6) X hP hS (c_X6_begin hi hp0 hst) o_X6_begin rfl hp0.lt hp0.ob m142 ⟨rfl, rfl⟩ ⟨Nat.le_of_ble_eq_true rfl, Nat.le_of_ble_eq_true rfl⟩ rfl hl.1 rfl (Nat.le_of_ble_eq_true rfl) ⟨Nat.zero_le _, Nat.zero_le _⟩ dX6_restore_11 (fun V2 H2 locs2 hq hP hS => ?_)
    obtain ⟨hp0, h2⟩ := hq
    have hp0 : MoP N ad V2 t b (mkM (oR x) (oP (f_X6_begin x)) (oA x) (oB (f_X6_begin x)) (oS (f_X6_begin x)) (oI x) (oX x) (oL x) (oT x) (oN x)) := hp0.ext (fun _ _ => congrFun u_X6_begin_0_0 _) (fun _ _ => rfl) (fun _ _ => congrFun u_X6_begin_0_2 _) (fun _ _ => rfl) rfl u_X6_begin_0_5 (fun _ _ => congrFun u_X6_begin_0_6 _) u_X6_begin_0_7 u_X6_begin_0_8 (fun _ _ => congrFun u_X6_begin_0_9 _)
    have hfr : ∀ k, (k < b ∨ b + 7 ≤ k) → V2 k = V k := fun k hk => (h2 k (by omega)).trans (hfr k hk)
    refine lv_iconst (v := nI 0) hx hb dX6_restore_14 (by decide) ?_
    refine lv_istore_n (lv' := [(1, .int (nI 0)), (0, .ref (ad b))]) hx hb dX6_restore_15 rfl hl (by decide) rfl (fun ls hl => ?_)
    have L3 : ∀ (dx_3 ix_3 : Nat) (u0_0_3 : Nat → Int32) (V3 : Nat → va_E) (H3 : Heap) (locs3 : List Loc) (ls : Array Slot), (ix_3 + dx_3 = 444) → (l_X6_restore_16 x dx_3 ix_3 u0_0_3 = l_X6_restore_16 x 444 0 (oR x)) → (MoP N ad V3 t b (mkM u0_0_3 (oP (f_X6_begin x)) (oA x) (oB (f_X6_begin x)) (oS (f_X6_begin x)) (oI x) (oX x) (oL x) (oT x) (oN x))) → (∀ k, (k < b ∨ b + 7 ≤ k) → V3 k = V k) → (HP dd N ad V3 H3) → (va_S (dm N ad H.size) H H3 locs3) → (lv_has ls 2 [(0, .ref (ad b)), (1, .int (nI ix_3))]) → W p l e rmX6_restore s m as below meth c H3 locs3 0 0 Q (F0 m 16 ls []) := by
      intro dx_3
      induction dx_3 with
      | zero =>
        intro ix_3 u0_0_3 V3 H3 locs3 ls hid hvx_3 hp0 hfr hP hS hl
        have hiN : 444 = ix_3 := by omega
        subst hiN
        have hvx_3 : u0_0_3 = l_X6_restore_16 x 444 0 (oR x) := hvx_3
        have hh0 : u0_0_3 = l_X6_restore_16 x 444 0 (oR x) := hvx_3
        subst hh0
        refine lv_iload_n hx hb dX6_restore_16 rfl (lv_at hl 1 rfl) ?_
        refine lv_sipush (v := nI 444) hx hb dX6_restore_17 (by decide) ?_
        refine q_ge (tgt := 41) hx hb (by omega) (by omega) dX6_restore_20 (by decide) (fun c4 => ?_) (fun h => absurd h (by omega))
        refine lv_aload_n hx hb dX6_restore_41 rfl (lv_at hl 0 rfl) ?_
        refine g_Mo_row X hP hp0 m83 dX6_restore_42 ?_
        refine lv_iconst (v := nI 3) hx hb dX6_restore_45 (by decide) ?_
        refine l_Mo_row X hP hp0 (by decide) dX6_restore_46 ?_
        refine W.eq (g2 := F0 m 47 ls [.int ((l_X6_restore_16 x 444 0 (oR x)) 3)]) rfl ?_
        have hfin : f_X6_restore x = ((l_X6_restore_16 x 444 0 (oR x)) 3, mkM (l_X6_restore_16 x 444 0 (oR x)) (oP (f_X6_begin x)) (oA x) (oB (f_X6_begin x)) (oS (f_X6_begin x)) (oI x) (oX x) (oL x) (oT x) (oN x)) := (by rw [f_X6_restore, if_neg c1] <;> rfl)
        exact kr 47 ls _ _ _ _ hP hS rfl ⟨by rw [hfin] <;> rfl, by rw [hfin]; exact hp0, hfr⟩ dX6_restore_47
      | succ dx_3 ihx_3 =>
        intro ix_3 u0_0_3 V3 H3 locs3 ls hid hvx_3 hp0 hfr hP hS hl
        refine lv_iload_n hx hb dX6_restore_16 rfl (lv_at hl 1 rfl) ?_
        refine lv_sipush (v := nI 444) hx hb dX6_restore_17 (by decide) ?_
        refine q_ge (tgt := 41) hx hb (by omega) (by omega) dX6_restore_20 (by decide) (fun h => absurd h (by omega)) (fun c5 => ?_)
        refine lv_aload_n hx hb dX6_restore_23 rfl (lv_at hl 0 rfl) ?_
        refine g_Mo_row X hP hp0 m83 dX6_restore_24 ?_
        refine lv_iload_n hx hb dX6_restore_27 rfl (lv_at hl 1 rfl) ?_
        refine lv_aload_n hx hb dX6_restore_28 rfl (lv_at hl 0 rfl) ?_
        refine g_Mo_aside X hP hp0 m85 dX6_restore_29 ?_
        refine lv_iload_n hx hb dX6_restore_32 rfl (lv_at hl 1 rfl) ?_
        refine l_Mo_aside X hP hp0 (by omega) dX6_restore_33 ?_
        refine W.eq (g2 := F0 m 34 ls [.int (oA x ix_3), .int (nI ix_3), .ref (ad (b + 1))]) rfl ?_
        refine s_Mo_row X hi hP hS hp0 (by omega) dX6_restore_34 (fun V6 H6 locs6 hp0 h2 hP hS => ?_)
        have hp0 : MoP N ad V6 t b (mkM (upd u0_0_3 ix_3 (oA x ix_3)) (oP (f_X6_begin x)) (oA x) (oB (f_X6_begin x)) (oS (f_X6_begin x)) (oI x) (oX x) (oL x) (oT x) (oN x)) := hp0
        have hfr : ∀ k, (k < b ∨ b + 7 ≤ k) → V6 k = V k := fun k hk => (h2 k (by omega)).trans (hfr k hk)
        refine lv_iinc (v := nI (ix_3 + 1)) (lv' := [(1, .int (nI (ix_3 + 1))), (0, .ref (ad b))]) hx hb dX6_restore_35 hl (k := 1) rfl (nI_inc _) (by decide) rfl (fun ls hl => ?_)
        refine lv_goto (tgt := 16) hx hb dX6_restore_38 (by decide) ?_
        exact ihx_3 (ix_3 + 1) (upd u0_0_3 ix_3 (oA x ix_3)) _ _ _ ls (by omega) (Eq.trans (Eq.symm (by rw [l_X6_restore_16] <;> rfl)) hvx_3) hp0 hfr hP hS (lv_sub hl [1, 0] rfl)
    exact L3 444 0 (oR x) _ _ _ ls (by omega) rfl hp0 hfr hP hS (lv_sub hl [1, 0] rfl)
  · refine lv_bipush (v := (-5)) hx hb dX6_restore_7 (by decide) ?_
    have hfin : f_X6_restore x = ((-5), x) := (by rw [f_X6_restore, if_pos c1] <;> rfl)
    exact kr 9 ls _ _ _ _ hP hS rfl ⟨by rw [hfin] <;> rfl, by rw [hfin]; exact hp0, hfr⟩ dX6_restore_9
theorem o_X6_restore : okV yX6_restore cX6_restore 2 (some .int) 0 := ⟨m597, m598, m5, m599, by decide +kernel, by decide +kernel, by decide +kernel⟩
theorem u_X6_restore_0_2 {x : MoC} : oA ((f_X6_restore x).2) = oA x := by
  unfold f_X6_restore
  (repeat' split) <;> rfl
theorem u_X6_restore_0_5 {x : MoC} : oI ((f_X6_restore x).2) = oI x := by
  unfold f_X6_restore
  (repeat' split) <;> rfl
theorem u_X6_restore_0_6 {x : MoC} : oX ((f_X6_restore x).2) = oX x := by
  unfold f_X6_restore
  (repeat' split) <;> rfl
theorem u_X6_restore_0_7 {x : MoC} : oL ((f_X6_restore x).2) = oL x := by
  unfold f_X6_restore
  (repeat' split) <;> rfl
theorem u_X6_restore_0_8 {x : MoC} : oT ((f_X6_restore x).2) = oT x := by
  unfold f_X6_restore
  (repeat' split) <;> rfl
theorem u_X6_restore_0_9 {x : MoC} : oN ((f_X6_restore x).2) = oN x := by
  unfold f_X6_restore
  (repeat' split) <;> rfl
def rmX6_dropAll : Room := { frames := 0, cells := 0, slots := 0, locals := 0 }
def l_X6_dropAll_18 (x : MoC) : Nat → Nat → (Nat → Int32) → (Nat → Int32)
  | 0, ix_3, u0_0_3 => u0_0_3
  | dx_3 + 1, ix_3, u0_0_3 => l_X6_dropAll_18 x dx_3 (ix_3 + 1) (upd u0_0_3 ix_3 (nI 0))
def f_X6_dropAll (x : MoC) : MoC :=
  mkM (l_X6_dropAll_18 x (444 - 84) 84 (upd (upd (oR x) 3 (nI 0)) 4 (-5))) (oP x) (oA x) (oB x) (oS x) (oI x) (oX x) (oL x) (oT x) (oN x)
set_option maxHeartbeats 4000000 in
set_option maxRecDepth 100000 in
theorem c_X6_dropAll {l : Launch} {dd : va_G} {t : CL4} {N : Nat} {ad : Nat → Nat} {V : Nat → va_E} {b : Nat} {x : MoC}  (hi : inj N ad) (hp0 : MoP N ad V t b x)   : MV l dd t N ad V yX6_dropAll cX6_dropAll 2 rmX6_dropAll [.ref (ad b)] (fun V1 => (MoP N ad V1 t b (f_X6_dropAll x)) ∧ (∀ k, (k < b ∨ b + 7 ≤ k) → V1 k = V k)) := by
  refine MV.of (by decide +kernel) ⟨rfl, rfl⟩ (Nat.le_of_ble_eq_true rfl) ?_
  intro p e s m as below meth c Q X H hP hS ls hl kr
  have X : WX p s m as c cX6_dropAll 2 RX6 dd t := X
  have hx := X.1.1
  have hb := X.1.2.1
  have hl : lv_has ls 2 [(0, .ref (ad b))] := hl
  have hle0 := hp0.le
  have hfr : ∀ k, (k < b ∨ b + 7 ≤ k) → V k = V k := fun _ _ => rfl
  refine lv_aload_n hx hb dX6_dropAll_0 rfl (lv_at hl 0 rfl) ?_
  refine g_Mo_row X hP hp0 m83 dX6_dropAll_1 ?_
  refine lv_iconst (v := nI 3) hx hb dX6_dropAll_4 (by decide) ?_
  refine lv_iconst (v := nI 0) hx hb dX6_dropAll_5 (by decide) ?_
  refine s_Mo_row X hi hP hS hp0 (by decide) dX6_dropAll_6 (fun V1 H1 locs1 hp0 h2 hP hS => ?_)
  have hp0 : MoP N ad V1 t b (mkM (upd (oR x) 3 (nI 0)) (oP x) (oA x) (oB x) (oS x) (oI x) (oX x) (oL x) (oT x) (oN x)) := hp0
  have hfr : ∀ k, (k < b ∨ b + 7 ≤ k) → V1 k = V k := fun k hk => (h2 k (by omega)).trans (hfr k hk)
  refine lv_aload_n hx hb dX6_dropAll_7 rfl (lv_at hl 0 rfl) ?_
  refine g_Mo_row X hP hp0 m83 dX6_dropAll_8 ?_
  refine lv_iconst (v := nI 4) hx hb dX6_dropAll_11 (by decide) ?_
  refine lv_bipush (v := (-5)) hx hb dX6_dropAll_12 (by decide) ?_
  refine s_Mo_row X hi hP hS hp0 (by decide) dX6_dropAll_14 (fun V2 H2 locs2 hp0 h2 hP hS => ?_)
  have hp0 : MoP N ad V2 t b (mkM (upd (upd (oR x) 3 (nI 0)) 4 (-5)) (oP x) (oA x) (oB x) (oS x) (oI x) (oX x) (oL x) (oT x) (oN x)) := hp0
  have hfr : ∀ k, (k < b ∨ b + 7 ≤ k) → V2 k = V k := fun k hk => (h2 k (by omega)).trans (hfr k hk)
  refine lv_bipush (v := nI 84) hx hb dX6_dropAll_15 (by decide) ?_
  refine lv_istore_n (lv' := [(1, .int (nI 84)), (0, .ref (ad b))]) hx hb dX6_dropAll_17 rfl hl (by decide) rfl (fun ls hl => ?_)
  have L3 : ∀ (dx_3 ix_3 : Nat) (u0_0_3 : Nat → Int32) (V3 : Nat → va_E) (H3 : Heap) (locs3 : List Loc) (ls : Array Slot), (ix_3 + dx_3 = 444) → (l_X6_dropAll_18 x dx_3 ix_3 u0_0_3 = l_X6_dropAll_18 x (444 - 84) 84 (upd (upd (oR x) 3 (nI 0)) 4 (-5))) → (MoP N ad V3 t b (mkM u0_0_3 (oP x) (oA x) (oB x) (oS x) (oI x) (oX x) (oL x) (oT x) (oN x))) → (∀ k, (k < b ∨ b + 7 ≤ k) → V3 k = V k) → (HP dd N ad V3 H3) → (va_S (dm N ad H.size) H H3 locs3) → (lv_has ls 2 [(0, .ref (ad b)), (1, .int (nI ix_3))]) → W p l e rmX6_dropAll s m as below meth c H3 locs3 0 0 Q (F0 m 18 ls []) := by
    intro dx_3
    induction dx_3 with
    | zero =>
      intro ix_3 u0_0_3 V3 H3 locs3 ls hid hvx_3 hp0 hfr hP hS hl
      have hiN : 444 = ix_3 := by omega
      subst hiN
      have hvx_3 : u0_0_3 = l_X6_dropAll_18 x (444 - 84) 84 (upd (upd (oR x) 3 (nI 0)) 4 (-5)) := hvx_3
      have hh0 : u0_0_3 = l_X6_dropAll_18 x (444 - 84) 84 (upd (upd (oR x) 3 (nI 0)) 4 (-5)) := hvx_3
      subst hh0
      refine lv_iload_n hx hb dX6_dropAll_18 rfl (lv_at hl 1 rfl) ?_
      refine lv_sipush (v := nI 444) hx hb dX6_dropAll_19 (by decide) ?_
      refine q_ge (tgt := 38) hx hb (by omega) (by omega) dX6_dropAll_22 (by decide) (fun c4 => ?_) (fun h => absurd h (by omega))
      have hfin : f_X6_dropAll x = mkM (l_X6_dropAll_18 x (444 - 84) 84 (upd (upd (oR x) 3 (nI 0)) 4 (-5))) (oP x) (oA x) (oB x) (oS x) (oI x) (oX x) (oL x) (oT x) (oN x) := (by rw [f_X6_dropAll] <;> rfl)
      exact kr 38 ls _ _ _ hP hS ⟨by rw [hfin]; exact hp0, hfr⟩ dX6_dropAll_38
    | succ dx_3 ihx_3 =>
      intro ix_3 u0_0_3 V3 H3 locs3 ls hid hvx_3 hp0 hfr hP hS hl
      refine lv_iload_n hx hb dX6_dropAll_18 rfl (lv_at hl 1 rfl) ?_
      refine lv_sipush (v := nI 444) hx hb dX6_dropAll_19 (by decide) ?_
      refine q_ge (tgt := 38) hx hb (by omega) (by omega) dX6_dropAll_22 (by decide) (fun h => absurd h (by omega)) (fun c5 => ?_)
      refine lv_aload_n hx hb dX6_dropAll_25 rfl (lv_at hl 0 rfl) ?_
      refine g_Mo_row X hP hp0 m83 dX6_dropAll_26 ?_
      refine lv_iload_n hx hb dX6_dropAll_29 rfl (lv_at hl 1 rfl) ?_
      refine lv_iconst (v := nI 0) hx hb dX6_dropAll_30 (by decide) ?_
      refine s_Mo_row X hi hP hS hp0 (by omega) dX6_dropAll_31 (fun V6 H6 locs6 hp0 h2 hP hS => ?_)
      have hp0 : MoP N ad V6 t b (mkM (upd u0_0_3 ix_3 (nI 0)) (oP x) (oA x) (oB x) (oS x) (oI x) (oX x) (oL x) (oT x) (oN x)) := hp0
      have hfr : ∀ k, (k < b ∨ b + 7 ≤ k) → V6 k = V k := fun k hk => (h2 k (by omega)).trans (hfr k hk)
      refine lv_iinc (v := nI (ix_3 + 1)) (lv' := [(1, .int (nI (ix_3 + 1))), (0, .ref (ad b))]) hx hb dX6_dropAll_32 hl (k := 1) rfl (nI_inc _) (by decide) rfl (fun ls hl => ?_)
      refine lv_goto (tgt := 18) hx hb dX6_dropAll_35 (by decide) ?_
      exact ihx_3 (ix_3 + 1) (upd u0_0_3 ix_3 (nI 0)) _ _ _ ls (by omega) (Eq.trans (Eq.symm (by rw [l_X6_dropAll_18] <;> rfl)) hvx_3) hp0 hfr hP hS (lv_sub hl [1, 0] rfl)
  exact L3 (444 - 84) 84 (upd (upd (oR x) 3 (nI 0)) 4 (-5)) _ _ _ ls (by omega) rfl hp0 hfr hP hS (lv_sub hl [1, 0] rfl)
theorem o_X6_dropAll : okV yX6_dropAll cX6_dropAll 2 none 0 := ⟨m156, m157, m5, m158, by decide +kernel, by decide +kernel, by decide +kernel⟩
theorem u_X6_dropAll_0_1 {x : MoC} : oP (f_X6_dropAll x) = oP x := by
  unfold f_X6_dropAll
  (repeat' split) <;> rfl
theorem u_X6_dropAll_0_2 {x : MoC} : oA (f_X6_dropAll x) = oA x := by
  unfold f_X6_dropAll
  (repeat' split) <;> rfl
theorem u_X6_dropAll_0_3 {x : MoC} : oB (f_X6_dropAll x) = oB x := by
  unfold f_X6_dropAll
  (repeat' split) <;> rfl
theorem u_X6_dropAll_0_4 {x : MoC} : oS (f_X6_dropAll x) = oS x := by
  unfold f_X6_dropAll
  (repeat' split) <;> rfl
theorem u_X6_dropAll_0_5 {x : MoC} : oI (f_X6_dropAll x) = oI x := by
  unfold f_X6_dropAll
  (repeat' split) <;> rfl
theorem u_X6_dropAll_0_6 {x : MoC} : oX (f_X6_dropAll x) = oX x := by
  unfold f_X6_dropAll
  (repeat' split) <;> rfl
theorem u_X6_dropAll_0_7 {x : MoC} : oL (f_X6_dropAll x) = oL x := by
  unfold f_X6_dropAll
  (repeat' split) <;> rfl
theorem u_X6_dropAll_0_8 {x : MoC} : oT (f_X6_dropAll x) = oT x := by
  unfold f_X6_dropAll
  (repeat' split) <;> rfl
theorem u_X6_dropAll_0_9 {x : MoC} : oN (f_X6_dropAll x) = oN x := by
  unfold f_X6_dropAll
  (repeat' split) <;> rfl
def rmX6_type : Room := { frames := 0, cells := 0, slots := 0, locals := 0 }
def f_X6_type (x : MoC) (character : Int32) : Int32 × MoC :=
  (if (oL x) = 60 then ((-3), x) else (nI (oL x + 1), mkM (oR x) (oP x) (oA x) (oB x) (oS x) (oI x) (upd (oX x) (oL x) (vp_nar .char character)) (oL x + 1) (oT x) (oN x)))
set_option maxHeartbeats 4000000 in
set_option maxRecDepth 100000 in
theorem c_X6_type {l : Launch} {dd : va_G} {t : CL4} {N : Nat} {ad : Nat → Nat} {V : Nat → va_E} {b : Nat} {x : MoC}  (hi : inj N ad) (hp0 : MoP N ad V t b x) (character : Int32) (htl : oL x ≤ 60) : MM l dd t N ad V yX6_type cX6_type 2 (some .int) rmX6_type [.ref (ad b), .int (character)] (fun r V1 => (r = (f_X6_type x character).1) ∧ (MoP N ad V1 t b ((f_X6_type x character).2)) ∧ (∀ k, (k < b ∨ b + 7 ≤ k) → V1 k = V k)) := by
  refine MM.of (by decide +kernel) ⟨rfl, rfl⟩ (Nat.le_of_ble_eq_true rfl) rfl ?_
  intro p e s m as below meth c Q X H hP hS ls hl kr
  have X : WX p s m as c cX6_type 2 RX6 dd t := X
  have hx := X.1.1
  have hb := X.1.2.1
  have hl : lv_has ls 2 [(0, .ref (ad b)), (1, .int (character))] := hl
  have hle0 := hp0.le
  have hfr : ∀ k, (k < b ∨ b + 7 ≤ k) → V k = V k := fun _ _ => rfl
  refine lv_aload_n hx hb dX6_type_0 rfl (lv_at hl 0 rfl) ?_
  refine g_Mo_length X hP hp0 m490 dX6_type_1 ?_
  refine lv_bipush (v := nI 60) hx hb dX6_type_4 (by decide) ?_
  refine q_ne (tgt := 12) hx hb (by omega) (by omega) dX6_type_6 (by decide) (fun c1 => ?_) (fun c1 => ?_)
  · refine lv_aload_n hx hb dX6_type_12 rfl (lv_at hl 0 rfl) ?_
    refine g_Mo_text X hP hp0 m87 dX6_type_13 ?_
    refine lv_aload_n hx hb dX6_type_16 rfl (lv_at hl 0 rfl) ?_
    refine g_Mo_length X hP hp0 m490 dX6_type_17 ?_
    refine lv_iload_n hx hb dX6_type_20 rfl (lv_at hl 1 rfl) ?_
    refine s_Mo_text X hi hP hS hp0 (by omega) dX6_type_21 (fun V2 H2 locs2 hp0 h2 hP hS => ?_)
    have hp0 : MoP N ad V2 t b (mkM (oR x) (oP x) (oA x) (oB x) (oS x) (oI x) (upd (oX x) (oL x) (vp_nar .char character)) (oL x) (oT x) (oN x)) := hp0
    have hfr : ∀ k, (k < b ∨ b + 7 ≤ k) → V2 k = V k := fun k hk => (h2 k (by omega)).trans (hfr k hk)
    refine lv_aload_n hx hb dX6_type_22 rfl (lv_at hl 0 rfl) ?_
    refine lv_dup hx hb dX6_type_23 rfl ?_
    refine g_Mo_length X hP hp0 m490 dX6_type_24 ?_
    refine W.eq (g2 := F0 m 27 ls [.int (nI (oL x)), .ref (ad b)]) rfl ?_
    refine lv_iconst (v := nI 1) hx hb dX6_type_27 (by decide) ?_
    refine q_iadd hx hb dX6_type_28 ?_
    refine W.eq (g2 := F0 m 29 ls [.int (nI (oL x + 1)), .ref (ad b)]) rfl ?_
    refine p_Mo_length X hi hP hS hp0 m490 (v := oL x + 1) dX6_type_29 (fun V3 H3 locs3 hp0 h2 hP hS => ?_)
    have hp0 : MoP N ad V3 t b (mkM (oR x) (oP x) (oA x) (oB x) (oS x) (oI x) (upd (oX x) (oL x) (vp_nar .char character)) (oL x + 1) (oT x) (oN x)) := hp0
    have hfr : ∀ k, (k < b ∨ b + 7 ≤ k) → V3 k = V k := fun k hk => (h2 k (by omega)).trans (hfr k hk)
    refine lv_aload_n hx hb dX6_type_32 rfl (lv_at hl 0 rfl) ?_
    refine g_Mo_length X hP hp0 m490 dX6_type_33 ?_
    refine W.eq (g2 := F0 m 36 ls [.int (nI (oL x + 1))]) rfl ?_
    have hfin : f_X6_type x character = (nI (oL x + 1), mkM (oR x) (oP x) (oA x) (oB x) (oS x) (oI x) (upd (oX x) (oL x) (vp_nar .char character)) (oL x + 1) (oT x) (oN x)) := (by rw [f_X6_type, if_neg c1] <;> rfl)
    exact kr 36 ls _ _ _ _ hP hS rfl ⟨by rw [hfin] <;> rfl, by rw [hfin]; exact hp0, hfr⟩ dX6_type_36
  · refine lv_bipush (v := (-3)) hx hb dX6_type_9 (by decide) ?_
    have hfin : f_X6_type x character = ((-3), x) := (by rw [f_X6_type, if_pos c1] <;> rfl)
    exact kr 11 ls _ _ _ _ hP hS rfl ⟨by rw [hfin] <;> rfl, by rw [hfin]; exact hp0, hfr⟩ dX6_type_11
theorem o_X6_type : okV yX6_type cX6_type 2 (some .int) 1 := ⟨m559, m560, m5, m561, by decide +kernel, by decide +kernel, by decide +kernel⟩
theorem u_X6_type_0_0 {x : MoC} {character : Int32} : oR ((f_X6_type x character).2) = oR x := by
  unfold f_X6_type
  (repeat' split) <;> rfl
theorem u_X6_type_0_1 {x : MoC} {character : Int32} : oP ((f_X6_type x character).2) = oP x := by
  unfold f_X6_type
  (repeat' split) <;> rfl
theorem u_X6_type_0_2 {x : MoC} {character : Int32} : oA ((f_X6_type x character).2) = oA x := by
  unfold f_X6_type
  (repeat' split) <;> rfl
theorem u_X6_type_0_3 {x : MoC} {character : Int32} : oB ((f_X6_type x character).2) = oB x := by
  unfold f_X6_type
  (repeat' split) <;> rfl
theorem u_X6_type_0_4 {x : MoC} {character : Int32} : oS ((f_X6_type x character).2) = oS x := by
  unfold f_X6_type
  (repeat' split) <;> rfl
theorem u_X6_type_0_5 {x : MoC} {character : Int32} : oI ((f_X6_type x character).2) = oI x := by
  unfold f_X6_type
  (repeat' split) <;> rfl
theorem u_X6_type_0_8 {x : MoC} {character : Int32} : oT ((f_X6_type x character).2) = oT x := by
  unfold f_X6_type
  (repeat' split) <;> rfl
theorem u_X6_type_0_9 {x : MoC} {character : Int32} : oN ((f_X6_type x character).2) = oN x := by
  unfold f_X6_type
  (repeat' split) <;> rfl
def rmX6_clearText : Room := { frames := 0, cells := 0, slots := 0, locals := 0 }
def f_X6_clearText (x : MoC) : Int32 × MoC :=
  (nI (oL x), mkM (oR x) (oP x) (oA x) (oB x) (oS x) (oI x) (oX x) 0 (oT x) (oN x))
set_option maxHeartbeats 4000000 in
set_option maxRecDepth 100000 in
theorem c_X6_clearText {l : Launch} {dd : va_G} {t : CL4} {N : Nat} {ad : Nat → Nat} {V : Nat → va_E} {b : Nat} {x : MoC}  (hi : inj N ad) (hp0 : MoP N ad V t b x)   : MM l dd t N ad V yX6_clearText cX6_clearText 2 (some .int) rmX6_clearText [.ref (ad b)] (fun r V1 => (r = (f_X6_clearText x).1) ∧ (MoP N ad V1 t b ((f_X6_clearText x).2)) ∧ (∀ k, (k < b ∨ b + 7 ≤ k) → V1 k = V k)) := by
  refine MM.of (by decide +kernel) ⟨rfl, rfl⟩ (Nat.le_of_ble_eq_true rfl) rfl ?_
  intro p e s m as below meth c Q X H hP hS ls hl kr
  have X : WX p s m as c cX6_clearText 2 RX6 dd t := X
  have hx := X.1.1
  have hb := X.1.2.1
  have hl : lv_has ls 2 [(0, .ref (ad b))] := hl
  have hle0 := hp0.le
  have hfr : ∀ k, (k < b ∨ b + 7 ≤ k) → V k = V k := fun _ _ => rfl
  refine lv_aload_n hx hb dX6_clearText_0 rfl (lv_at hl 0 rfl) ?_
  refine g_Mo_length X hP hp0 m490 dX6_clearText_1 ?_
  refine lv_istore_n (lv' := [(1, .int (nI (oL x))), (0, .ref (ad b))]) hx hb dX6_clearText_4 rfl hl (by decide) rfl (fun ls hl => ?_)
  refine lv_aload_n hx hb dX6_clearText_5 rfl (lv_at hl 1 rfl) ?_
  refine lv_iconst (v := nI 0) hx hb dX6_clearText_6 (by decide) ?_
  refine p_Mo_length X hi hP hS hp0 m490 (v := 0) dX6_clearText_7 (fun V1 H1 locs1 hp0 h2 hP hS => ?_)
  have hp0 : MoP N ad V1 t b (mkM (oR x) (oP x) (oA x) (oB x) (oS x) (oI x) (oX x) 0 (oT x) (oN x)) := hp0
  have hfr : ∀ k, (k < b ∨ b + 7 ≤ k) → V1 k = V k := fun k hk => (h2 k (by omega)).trans (hfr k hk)
  refine lv_iload_n hx hb dX6_clearText_10 rfl (lv_at hl 0 rfl) ?_
  have hfin : f_X6_clearText x = (nI (oL x), mkM (oR x) (oP x) (oA x) (oB x) (oS x) (oI x) (oX x) 0 (oT x) (oN x)) := (by rw [f_X6_clearText] <;> rfl)
  exact kr 11 ls _ _ _ _ hP hS rfl ⟨by rw [hfin] <;> rfl, by rw [hfin]; exact hp0, hfr⟩ dX6_clearText_11
theorem o_X6_clearText : okV yX6_clearText cX6_clearText 2 (some .int) 0 := ⟨m567, m568, m5, m569, by decide +kernel, by decide +kernel, by decide +kernel⟩
theorem u_X6_clearText_0_0 {x : MoC} : oR ((f_X6_clearText x).2) = oR x := by
  unfold f_X6_clearText
  (repeat' split) <;> rfl
theorem u_X6_clearText_0_1 {x : MoC} : oP ((f_X6_clearText x).2) = oP x := by
  unfold f_X6_clearText
  (repeat' split) <;> rfl
theorem u_X6_clearText_0_2 {x : MoC} : oA ((f_X6_clearText x).2) = oA x := by
  unfold f_X6_clearText
  (repeat' split) <;> rfl
theorem u_X6_clearText_0_3 {x : MoC} : oB ((f_X6_clearText x).2) = oB x := by
  unfold f_X6_clearText
  (repeat' split) <;> rfl
theorem u_X6_clearText_0_4 {x : MoC} : oS ((f_X6_clearText x).2) = oS x := by
  unfold f_X6_clearText
  (repeat' split) <;> rfl
theorem u_X6_clearText_0_5 {x : MoC} : oI ((f_X6_clearText x).2) = oI x := by
  unfold f_X6_clearText
  (repeat' split) <;> rfl
theorem u_X6_clearText_0_6 {x : MoC} : oX ((f_X6_clearText x).2) = oX x := by
  unfold f_X6_clearText
  (repeat' split) <;> rfl
theorem u_X6_clearText_0_8 {x : MoC} : oT ((f_X6_clearText x).2) = oT x := by
  unfold f_X6_clearText
  (repeat' split) <;> rfl
theorem u_X6_clearText_0_9 {x : MoC} : oN ((f_X6_clearText x).2) = oN x := by
  unfold f_X6_clearText
  (repeat' split) <;> rfl
def rmX6_change : Room := { frames := 2, cells := 0, slots := 0, locals := 41 }
def f_X6_change (x : MoC) (place : Nat) (value : Int32) : Int32 × MoC :=
  (if (oR x place) = value then ((-5), x) else (oR x place, mkM (oR (f_X6_dropAll (mkM (upd (oR x) place value) (oP (f_X6_begin x)) (oA x) (oB (f_X6_begin x)) (oS (f_X6_begin x)) (oI x) (oX x) (oL x) (oT x) (oN x)))) (oP (f_X6_begin x)) (oA x) (oB (f_X6_begin x)) (oS (f_X6_begin x)) (oI x) (oX x) (oL x) (oT x) (oN x)))
set_option maxHeartbeats 4000000 in
set_option maxRecDepth 100000 in
theorem c_X6_change {l : Launch} {dd : va_G} {t : CL4} {N : Nat} {ad : Nat → Nat} {V : Nat → va_E} {b : Nat} {x : MoC}  (hi : inj N ad) (hp0 : MoP N ad V t b x) (place : Nat) (value : Int32) (hst : oS x ≤ 4) (h_pl : place < 444) : MM l dd t N ad V yX6_change cX6_change 4 (some .int) rmX6_change [.ref (ad b), .int (nI place), .int (value)] (fun r V1 => (r = (f_X6_change x place value).1) ∧ (MoP N ad V1 t b ((f_X6_change x place value).2)) ∧ (∀ k, (k < b ∨ b + 7 ≤ k) → V1 k = V k)) := by
  refine MM.of (by decide +kernel) ⟨rfl, rfl⟩ (Nat.le_of_ble_eq_true rfl) rfl ?_
  intro p e s m as below meth c Q X H hP hS ls hl kr
  have X : WX p s m as c cX6_change 4 RX6 dd t := X
  have hx := X.1.1
  have hb := X.1.2.1
  have hl : lv_has ls 4 [(0, .ref (ad b)), (1, .int (nI place)), (2, .int (value))] := hl
  have hle0 := hp0.le
  have hfr : ∀ k, (k < b ∨ b + 7 ≤ k) → V k = V k := fun _ _ => rfl
  refine lv_aload_n hx hb dX6_change_0 rfl (lv_at hl 0 rfl) ?_
  refine g_Mo_row X hP hp0 m83 dX6_change_1 ?_
  refine lv_iload_n hx hb dX6_change_4 rfl (lv_at hl 1 rfl) ?_
  refine l_Mo_row X hP hp0 (by omega) dX6_change_5 ?_
  refine lv_istore_n (lv' := [(3, .int (oR x place)), (0, .ref (ad b)), (1, .int (nI place)), (2, .int (value))]) hx hb dX6_change_6 rfl hl (by decide) rfl (fun ls hl => ?_)
  refine lv_iload_n hx hb dX6_change_7 rfl (lv_at hl 0 rfl) ?_
  refine lv_iload_n hx hb dX6_change_8 rfl (lv_at hl 3 rfl) ?_
  refine lv_icmp_ne (tgt := 15) hx hb dX6_change_9 (by decide) (fun c1 => ?_) (fun c1 => ?_)
  · refine lv_aload_n hx hb dX6_change_15 rfl (lv_at hl 1 rfl) ?_
    refine r_callW (As := []) (rest := []) (ci := 6) X hP hS (c_X6_begin hi hp0 hst) o_X6_begin rfl hp0.lt hp0.ob m142 ⟨rfl, rfl⟩ ⟨Nat.le_of_ble_eq_true rfl, Nat.le_of_ble_eq_true rfl⟩ rfl hl.1 rfl (Nat.le_of_ble_eq_true rfl) ⟨Nat.zero_le _, Nat.zero_le _⟩ dX6_change_16 (fun V2 H2 locs2 hq hP hS => ?_)
    obtain ⟨hp0, h2⟩ := hq
    have hp0 : MoP N ad V2 t b (mkM (oR x) (oP (f_X6_begin x)) (oA x) (oB (f_X6_begin x)) (oS (f_X6_begin x)) (oI x) (oX x) (oL x) (oT x) (oN x)) := hp0.ext (fun _ _ => congrFun u_X6_begin_0_0 _) (fun _ _ => rfl) (fun _ _ => congrFun u_X6_begin_0_2 _) (fun _ _ => rfl) rfl u_X6_begin_0_5 (fun _ _ => congrFun u_X6_begin_0_6 _) u_X6_begin_0_7 u_X6_begin_0_8 (fun _ _ => congrFun u_X6_begin_0_9 _)
    have hfr : ∀ k, (k < b ∨ b + 7 ≤ k) → V2 k = V k := fun k hk => (h2 k (by omega)).trans (hfr k hk)
    refine lv_aload_n hx hb dX6_change_19 rfl (lv_at hl 1 rfl) ?_
    refine g_Mo_row X hP hp0 m83 dX6_change_20 ?_
    refine lv_iload_n hx hb dX6_change_23 rfl (lv_at hl 2 rfl) ?_
    refine lv_iload_n hx hb dX6_change_24 rfl (lv_at hl 3 rfl) ?_
    refine s_Mo_row X hi hP hS hp0 (by omega) dX6_change_25 (fun V3 H3 locs3 hp0 h2 hP hS => ?_)
    have hp0 : MoP N ad V3 t b (mkM (upd (oR x) place value) (oP (f_X6_begin x)) (oA x) (oB (f_X6_begin x)) (oS (f_X6_begin x)) (oI x) (oX x) (oL x) (oT x) (oN x)) := hp0
    have hfr : ∀ k, (k < b ∨ b + 7 ≤ k) → V3 k = V k := fun k hk => (h2 k (by omega)).trans (hfr k hk)
    refine lv_aload_n hx hb dX6_change_26 rfl (lv_at hl 1 rfl) ?_
    refine r_callW (As := []) (rest := []) (ci := 6) X hP hS (c_X6_dropAll hi hp0) o_X6_dropAll rfl hp0.lt hp0.ob m155 ⟨rfl, rfl⟩ ⟨Nat.le_of_ble_eq_true rfl, Nat.le_of_ble_eq_true rfl⟩ rfl hl.1 rfl (Nat.le_of_ble_eq_true rfl) ⟨Nat.zero_le _, Nat.zero_le _⟩ dX6_change_27 (fun V4 H4 locs4 hq hP hS => ?_)
    obtain ⟨hp0, h2⟩ := hq
    have hp0 : MoP N ad V4 t b (mkM (oR (f_X6_dropAll (mkM (upd (oR x) place value) (oP (f_X6_begin x)) (oA x) (oB (f_X6_begin x)) (oS (f_X6_begin x)) (oI x) (oX x) (oL x) (oT x) (oN x)))) (oP (f_X6_begin x)) (oA x) (oB (f_X6_begin x)) (oS (f_X6_begin x)) (oI x) (oX x) (oL x) (oT x) (oN x)) := hp0.ext (fun _ _ => rfl) (fun _ _ => congrFun u_X6_dropAll_0_1 _) (fun _ _ => congrFun u_X6_dropAll_0_2 _) (fun _ _ => congrFun u_X6_dropAll_0_3 _) u_X6_dropAll_0_4 u_X6_dropAll_0_5 (fun _ _ => congrFun u_X6_dropAll_0_6 _) u_X6_dropAll_0_7 u_X6_dropAll_0_8 (fun _ _ => congrFun u_X6_dropAll_0_9 _)
    have hfr : ∀ k, (k < b ∨ b + 7 ≤ k) → V4 k = V k := fun k hk => (h2 k (by omega)).trans (hfr k hk)
    refine lv_iload_n hx hb dX6_change_30 rfl (lv_at hl 0 rfl) ?_
    have hfin : f_X6_change x place value = (oR x place, mkM (oR (f_X6_dropAll (mkM (upd (oR x) place value) (oP (f_X6_begin x)) (oA x) (oB (f_X6_begin x)) (oS (f_X6_begin x)) (oI x) (oX x) (oL x) (oT x) (oN x)))) (oP (f_X6_begin x)) (oA x) (oB (f_X6_begin x)) (oS (f_X6_begin x)) (oI x) (oX x) (oL x) (oT x) (oN x)) := (by rw [f_X6_change, if_neg c1] <;> rfl)
    exact kr 31 ls _ _ _ _ hP hS rfl ⟨by rw [hfin] <;> rfl, by rw [hfin]; exact hp0, hfr⟩ dX6_change_31
  · refine lv_bipush (v := (-5)) hx hb dX6_change_12 (by decide) ?_
    have hfin : f_X6_change x place value = ((-5), x) := (by rw [f_X6_change, if_pos c1] <;> rfl)
    exact kr 14 ls _ _ _ _ hP hS rfl ⟨by rw [hfin] <;> rfl, by rw [hfin]; exact hp0, hfr⟩ dX6_change_14
theorem o_X6_change : okV yX6_change cX6_change 4 (some .int) 2 := ⟨m193, m194, m5, m195, by decide +kernel, by decide +kernel, by decide +kernel⟩
theorem u_X6_change_0_2 {x : MoC} {place : Nat} {value : Int32} : oA ((f_X6_change x place value).2) = oA x := by
  unfold f_X6_change
  (repeat' split) <;> rfl
theorem u_X6_change_0_5 {x : MoC} {place : Nat} {value : Int32} : oI ((f_X6_change x place value).2) = oI x := by
  unfold f_X6_change
  (repeat' split) <;> rfl
theorem u_X6_change_0_6 {x : MoC} {place : Nat} {value : Int32} : oX ((f_X6_change x place value).2) = oX x := by
  unfold f_X6_change
  (repeat' split) <;> rfl
theorem u_X6_change_0_7 {x : MoC} {place : Nat} {value : Int32} : oL ((f_X6_change x place value).2) = oL x := by
  unfold f_X6_change
  (repeat' split) <;> rfl
theorem u_X6_change_0_8 {x : MoC} {place : Nat} {value : Int32} : oT ((f_X6_change x place value).2) = oT x := by
  unfold f_X6_change
  (repeat' split) <;> rfl
theorem u_X6_change_0_9 {x : MoC} {place : Nat} {value : Int32} : oN ((f_X6_change x place value).2) = oN x := by
  unfold f_X6_change
  (repeat' split) <;> rfl
