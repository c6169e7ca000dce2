/-! writers of Places, Cuts, State and the text -/
theorem l_lowest_n {x : PlC} {plan : Int32} (hm : pM x ≤ 8) : ∀ (d i : Nat), i + d = pM x → ¬ l_X3_lowestMissedCustomer_2 x plan d i = (-1) → ∃ j, j < pM x ∧ l_X3_lowestMissedCustomer_2 x plan d i = nI j := by
  intro d
  induction d with
  | zero => intro i _ h; exact absurd rfl h
  | succ d ih =>
    intro i hid h
    rw [l_X3_lowestMissedCustomer_2] at h ⊢
    split
    · exact ⟨i, by omega, rfl⟩
    · rename_i c
      rw [if_neg c] at h
      exact ih (i + 1) (by omega) h
theorem lowest_n {x : PlC} {plan : Int32} (hm : pM x ≤ 8) (h : ¬ f_X3_lowestMissedCustomer x plan = (-1)) : f_X3_lowestMissedCustomer x plan = nI (tn (f_X3_lowestMissedCustomer x plan)) ∧ tn (f_X3_lowestMissedCustomer x plan) < pM x := by
  obtain ⟨j, h1, h2⟩ := l_lowest_n hm (pM x) 0 (by omega) h
  have h3 : f_X3_lowestMissedCustomer x plan = nI j := h2
  rw [h3]
  exact nI_inv h1 (by omega)

def rmX3_copyFrom : Room := { frames := 0, cells := 0, slots := 0, locals := 0 }
def l_X3_copyFrom_94 (x : PlC) (x2 : PlC) : Nat → Nat → (Nat → Int32) → (Nat → Int32)
  | 0, ix_6, u0_4_6 => u0_4_6
  | dx_6 + 1, ix_6, u0_4_6 => l_X3_copyFrom_94 x x2 dx_6 (ix_6 + 1) (upd u0_4_6 ix_6 (pD x2 ix_6))
def l_X3_copyFrom_58 (x : PlC) (x2 : PlC) (ix_4 : Nat) (u0_3_4 : Nat → Int32) (u0_5_4 : Nat → Nat → Int32) (u0_6_4 : Nat → Int32) : Nat → Nat → (Nat → Nat → Int32) → (Nat → Nat → Int32)
  | 0, ix_13, u0_5_13 => u0_5_13
  | dx_13 + 1, ix_13, u0_5_13 => l_X3_copyFrom_58 x x2 ix_4 u0_3_4 u0_5_4 u0_6_4 dx_13 (ix_13 + 1) (va_up u0_5_13 ix_4 (upd (u0_5_13 ix_4) ix_13 (pR x2 ix_4 ix_13)))
def l_X3_copyFrom_26 (x : PlC) (x2 : PlC) : Nat → Nat → (Nat → Int32) → (Nat → Nat → Int32) → (Nat → Int32) → (Nat → Int32) × (Nat → Nat → Int32) × (Nat → Int32)
  | 0, ix_4, u0_3_4, u0_5_4, u0_6_4 => (u0_3_4, u0_5_4, u0_6_4)
  | dx_4 + 1, ix_4, u0_3_4, u0_5_4, u0_6_4 => l_X3_copyFrom_26 x x2 dx_4 (ix_4 + 1) (upd u0_3_4 ix_4 (pP x2 ix_4)) (l_X3_copyFrom_58 x x2 ix_4 u0_3_4 u0_5_4 u0_6_4 8 0 u0_5_4) (upd u0_6_4 ix_4 (pE x2 ix_4))
def f_X3_copyFrom (x : PlC) (x2 : PlC) : PlC :=
  mkP (pN x2) (pM x2) (pO x2) ((l_X3_copyFrom_26 x x2 7 0 (pP x) (pR x) (pE x)).1) (l_X3_copyFrom_94 x x2 8 0 (pD x)) ((l_X3_copyFrom_26 x x2 7 0 (pP x) (pR x) (pE x)).2.1) ((l_X3_copyFrom_26 x x2 7 0 (pP x) (pR x) (pE x)).2.2)
set_option maxHeartbeats 4000000 in
set_option maxRecDepth 100000 in
theorem c_X3_copyFrom {l : Launch} {dd : va_G} {t : CL4} {N : Nat} {ad : Nat → Nat} {V : Nat → va_E} {b : Nat} {b2 : Nat} {x : PlC} {x2 : PlC}  (hi : inj N ad) (hp0 : PlP N ad V t b x) (hp1 : PlP N ad V t b2 x2)  (hdj : b + 12 ≤ b2 ∨ b2 + 12 ≤ b) : MV l dd t N ad V yX3_copyFrom cX3_copyFrom 4 rmX3_copyFrom [.ref (ad b), .ref (ad b2)] (fun V1 => (PlP N ad V1 t b (f_X3_copyFrom x x2)) ∧ (∀ k, (k < b ∨ b + 12 ≤ k) → V1 k = V k)) := by
  refine MV.of (by decide +kernel) ⟨rfl, rfl⟩ (Nat.le_of_ble_eq_true rfl) ?_
  intro p e s m as below meth c Q X H hP hS ls hl kr
  have X : WX p s m as c cX3_copyFrom 4 RX3 dd t := X
  have hx := X.1.1
  have hb := X.1.2.1
  have hl : lv_has ls 4 [(0, .ref (ad b)), (1, .ref (ad b2))] := hl
  have hi0_0 := hp0.i0
  have hi0_1 := hp0.i1
  have hi1_0 := hp1.i0
  have hi1_1 := hp1.i1
  have hle0 := hp0.le
  have hle1 := hp1.le
  have hfr : ∀ k, (k < b ∨ b + 12 ≤ k) → V k = V k := fun _ _ => rfl
  refine lv_aload_n hx hb dX3_copyFrom_0 rfl (lv_at hl 0 rfl) ?_
  refine lv_aload_n hx hb dX3_copyFrom_1 rfl (lv_at hl 1 rfl) ?_
  refine g_Pl_siteCount X hP hp1 m47 dX3_copyFrom_2 ?_
  refine p_Pl_siteCount X hi hP hS hp0 m47 (v := pN x2) (hv := by omega) dX3_copyFrom_5 (fun V1 H1 locs1 hp0 h2 hP hS => ?_)
  have hp0 : PlP N ad V1 t b (mkP (pN x2) (pM x) (pO x) (pP x) (pD x) (pR x) (pE x)) := hp0
  have hp1 := hp1.keep (V1 := V1) (fun k h8 h9 => h2 k (by omega))
  have hfr : ∀ k, (k < b ∨ b + 12 ≤ k) → V1 k = V k := fun k hk => (h2 k (by omega)).trans (hfr k hk)
  refine lv_aload_n hx hb dX3_copyFrom_8 rfl (lv_at hl 0 rfl) ?_
  refine lv_aload_n hx hb dX3_copyFrom_9 rfl (lv_at hl 1 rfl) ?_
  refine g_Pl_customerCount X hP hp1 m48 dX3_copyFrom_10 ?_
  refine p_Pl_customerCount X hi hP hS hp0 m48 (v := pM x2) (hv := by omega) dX3_copyFrom_13 (fun V2 H2 locs2 hp0 h2 hP hS => ?_)
  have hp0 : PlP N ad V2 t b (mkP (pN x2) (pM x2) (pO x) (pP x) (pD x) (pR x) (pE x)) := hp0
  have hp1 := hp1.keep (V1 := V2) (fun k h8 h9 => h2 k (by omega))
  have hfr : ∀ k, (k < b ∨ b + 12 ≤ k) → V2 k = V k := fun k hk => (h2 k (by omega)).trans (hfr k hk)
  refine lv_aload_n hx hb dX3_copyFrom_16 rfl (lv_at hl 0 rfl) ?_
  refine lv_aload_n hx hb dX3_copyFrom_17 rfl (lv_at hl 1 rfl) ?_
  refine g_Pl_most X hP hp1 m49 dX3_copyFrom_18 ?_
  refine p_Pl_most X hi hP hS hp0 m49 (v := pO x2) dX3_copyFrom_21 (fun V3 H3 locs3 hp0 h2 hP hS => ?_)
  have hp0 : PlP N ad V3 t b (mkP (pN x2) (pM x2) (pO x2) (pP x) (pD x) (pR x) (pE x)) := hp0
  have hp1 := hp1.keep (V1 := V3) (fun k h8 h9 => h2 k (by omega))
  have hfr : ∀ k, (k < b ∨ b + 12 ≤ k) → V3 k = V k := fun k hk => (h2 k (by omega)).trans (hfr k hk)
  refine lv_iconst (v := nI 0) hx hb dX3_copyFrom_24 (by decide) ?_
  refine lv_istore_n (lv' := [(2, .int (nI 0)), (0, .ref (ad b)), (1, .ref (ad b2))]) hx hb dX3_copyFrom_25 rfl hl (by decide) rfl (fun ls hl => ?_)
  have L4 : ∀ (dx_4 ix_4 : Nat) (u0_3_4 : Nat → Int32) (u0_5_4 : Nat → Nat → Int32) (u0_6_4 : Nat → Int32) (V4 : Nat → va_E) (H4 : Heap) (locs4 : List Loc) (ls : Array Slot), (ix_4 + dx_4 = 7) → (l_X3_copyFrom_26 x x2 dx_4 ix_4 u0_3_4 u0_5_4 u0_6_4 = l_X3_copyFrom_26 x x2 7 0 (pP x) (pR x) (pE x)) → (PlP N ad V4 t b (mkP (pN x2) (pM x2) (pO x2) u0_3_4 (pD x) u0_5_4 u0_6_4)) → (PlP N ad V4 t b2 x2) → (∀ k, (k < b ∨ b + 12 ≤ k) → V4 k = V k) → (HP dd N ad V4 H4) → (va_S (dm N ad H.size) H H4 locs4) → (lv_has ls 4 [(0, .ref (ad b)), (1, .ref (ad b2)), (2, .int (nI ix_4))]) → W p l e rmX3_copyFrom s m as below meth c H4 locs4 0 0 Q (F0 m 26 ls []) := by
    intro dx_4
    induction dx_4 with
    | zero =>
      intro ix_4 u0_3_4 u0_5_4 u0_6_4 V4 H4 locs4 ls hid hvx_4 hp0 hp1 hfr hP hS hl
      have hiN : 7 = ix_4 := by omega
      subst hiN
      have hvx_4 : (u0_3_4, u0_5_4, u0_6_4) = l_X3_copyFrom_26 x x2 7 0 (pP x) (pR x) (pE x) := hvx_4
      have hh0 : u0_3_4 = (l_X3_copyFrom_26 x x2 7 0 (pP x) (pR x) (pE x)).1 := congrArg (fun q => (q).1) hvx_4
      have hh1 : u0_5_4 = (l_X3_copyFrom_26 x x2 7 0 (pP x) (pR x) (pE x)).2.1 := congrArg (fun q => (q).2.1) hvx_4
      have hh2 : u0_6_4 = (l_X3_copyFrom_26 x x2 7 0 (pP x) (pR x) (pE x)).2.2 := congrArg (fun q => (q).2.2) hvx_4
      subst hh0
      subst hh1
      subst hh2
      refine lv_iload_n hx hb dX3_copyFrom_26 rfl (lv_at hl 2 rfl) ?_
      refine lv_bipush (v := nI 7) hx hb dX3_copyFrom_27 (by decide) ?_
      refine q_ge (tgt := 92) hx hb (by omega) (by omega) dX3_copyFrom_29 (by decide) (fun c5 => ?_) (fun h => absurd h (by omega))
      refine lv_iconst (v := nI 0) hx hb dX3_copyFrom_92 (by decide) ?_
      refine lv_istore_n (lv' := [(2, .int (nI 0)), (0, .ref (ad b)), (1, .ref (ad b2))]) hx hb dX3_copyFrom_93 rfl hl (by decide) rfl (fun ls hl => ?_)
      have L6 : ∀ (dx_6 ix_6 : Nat) (u0_4_6 : Nat → Int32) (V6 : Nat → va_E) (H6 : Heap) (locs6 : List Loc) (ls : Array Slot), (ix_6 + dx_6 = 8) → (l_X3_copyFrom_94 x x2 dx_6 ix_6 u0_4_6 = l_X3_copyFrom_94 x x2 8 0 (pD x)) → (PlP N ad V6 t b (mkP (pN x2) (pM x2) (pO x2) ((l_X3_copyFrom_26 x x2 7 0 (pP x) (pR x) (pE x)).1) u0_4_6 ((l_X3_copyFrom_26 x x2 7 0 (pP x) (pR x) (pE x)).2.1) ((l_X3_copyFrom_26 x x2 7 0 (pP x) (pR x) (pE x)).2.2))) → (PlP N ad V6 t b2 x2) → (∀ k, (k < b ∨ b + 12 ≤ k) → V6 k = V k) → (HP dd N ad V6 H6) → (va_S (dm N ad H.size) H H6 locs6) → (lv_has ls 4 [(0, .ref (ad b)), (1, .ref (ad b2)), (2, .int (nI ix_6))]) → W p l e rmX3_copyFrom s m as below meth c H6 locs6 0 0 Q (F0 m 94 ls []) := by
        intro dx_6
        induction dx_6 with
        | zero =>
          intro ix_6 u0_4_6 V6 H6 locs6 ls hid hvx_6 hp0 hp1 hfr hP hS hl
          have hiN : 8 = ix_6 := by omega
          subst hiN
          have hvx_6 : u0_4_6 = l_X3_copyFrom_94 x x2 8 0 (pD x) := hvx_6
          have hh0 : u0_4_6 = l_X3_copyFrom_94 x x2 8 0 (pD x) := hvx_6
          subst hh0
          refine lv_iload_n hx hb dX3_copyFrom_94 rfl (lv_at hl 2 rfl) ?_
          refine lv_bipush (v := nI 8) hx hb dX3_copyFrom_95 (by decide) ?_
          refine q_ge (tgt := 118) hx hb (by omega) (by omega) dX3_copyFrom_97 (by decide) (fun c7 => ?_) (fun h => absurd h (by omega))
          have hfin : f_X3_copyFrom x x2 = mkP (pN x2) (pM x2) (pO x2) ((l_X3_copyFrom_26 x x2 7 0 (pP x) (pR x) (pE x)).1) (l_X3_copyFrom_94 x x2 8 0 (pD x)) ((l_X3_copyFrom_26 x x2 7 0 (pP x) (pR x) (pE x)).2.1) ((l_X3_copyFrom_26 x x2 7 0 (pP x) (pR x) (pE x)).2.2) := (by rw [f_X3_copyFrom] <;> rfl)
          exact kr 118 ls _ _ _ hP hS ⟨by rw [hfin]; exact hp0, hfr⟩ dX3_copyFrom_118
        | succ dx_6 ihx_6 =>
          intro ix_6 u0_4_6 V6 H6 locs6 ls hid hvx_6 hp0 hp1 hfr hP hS hl
          refine lv_iload_n hx hb dX3_copyFrom_94 rfl (lv_at hl 2 rfl) ?_
          refine lv_bipush (v := nI 8) hx hb dX3_copyFrom_95 (by decide) ?_
          refine q_ge (tgt := 118) hx hb (by omega) (by omega) dX3_copyFrom_97 (by decide) (fun h => absurd h (by omega)) (fun c8 => ?_)
          refine lv_aload_n hx hb dX3_copyFrom_100 rfl (lv_at hl 0 rfl) ?_
          refine g_Pl_demands X hP hp0 m51 dX3_copyFrom_101 ?_
          refine lv_iload_n hx hb dX3_copyFrom_104 rfl (lv_at hl 2 rfl) ?_
          refine lv_aload_n hx hb dX3_copyFrom_105 rfl (lv_at hl 1 rfl) ?_
          refine g_Pl_demands X hP hp1 m51 dX3_copyFrom_106 ?_
          refine lv_iload_n hx hb dX3_copyFrom_109 rfl (lv_at hl 2 rfl) ?_
          refine l_Pl_demands X hP hp1 (by omega) dX3_copyFrom_110 ?_
          refine s_Pl_demands X hi hP hS hp0 (by omega) dX3_copyFrom_111 (fun V9 H9 locs9 hp0 h2 hP hS => ?_)
          have hp0 : PlP N ad V9 t b (mkP (pN x2) (pM x2) (pO x2) ((l_X3_copyFrom_26 x x2 7 0 (pP x) (pR x) (pE x)).1) (upd u0_4_6 ix_6 (pD x2 ix_6)) ((l_X3_copyFrom_26 x x2 7 0 (pP x) (pR x) (pE x)).2.1) ((l_X3_copyFrom_26 x x2 7 0 (pP x) (pR x) (pE x)).2.2)) := hp0
          have hp1 := hp1.keep (V1 := V9) (fun k h8 h9 => h2 k (by omega))
          have hfr : ∀ k, (k < b ∨ b + 12 ≤ k) → V9 k = V k := fun k hk => (h2 k (by omega)).trans (hfr k hk)
          refine lv_iinc (v := nI (ix_6 + 1)) (lv' := [(2, .int (nI (ix_6 + 1))), (0, .ref (ad b)), (1, .ref (ad b2))]) hx hb dX3_copyFrom_112 hl (k := 2) rfl (nI_inc _) (by decide) rfl (fun ls hl => ?_)
          refine lv_goto (tgt := 94) hx hb dX3_copyFrom_115 (by decide) ?_
          exact ihx_6 (ix_6 + 1) (upd u0_4_6 ix_6 (pD x2 ix_6)) _ _ _ ls (by omega) (Eq.trans (Eq.symm (by rw [l_X3_copyFrom_94] <;> rfl)) hvx_6) hp0 hp1 hfr hP hS (lv_sub hl [1, 2, 0] rfl)
      exact L6 8 0 (pD x) _ _ _ ls (by omega) rfl hp0 hp1 hfr hP hS (lv_sub hl [1, 2, 0] rfl)
    | succ dx_4 ihx_4 =>
      intro ix_4 u0_3_4 u0_5_4 u0_6_4 V4 H4 locs4 ls hid hvx_4 hp0 hp1 hfr hP hS hl
      refine lv_iload_n hx hb dX3_copyFrom_26 rfl (lv_at hl 2 rfl) ?_
      refine lv_bipush (v := nI 7) hx hb dX3_copyFrom_27 (by decide) ?_
      refine q_ge (tgt := 92) hx hb (by omega) (by omega) dX3_copyFrom_29 (by decide) (fun h => absurd h (by omega)) (fun c10 => ?_)
      refine lv_aload_n hx hb dX3_copyFrom_32 rfl (lv_at hl 0 rfl) ?_
      refine g_Pl_sitePrices X hP hp0 m50 dX3_copyFrom_33 ?_
      refine lv_iload_n hx hb dX3_copyFrom_36 rfl (lv_at hl 2 rfl) ?_
      refine lv_aload_n hx hb dX3_copyFrom_37 rfl (lv_at hl 1 rfl) ?_
      refine g_Pl_sitePrices X hP hp1 m50 dX3_copyFrom_38 ?_
      refine lv_iload_n hx hb dX3_copyFrom_41 rfl (lv_at hl 2 rfl) ?_
      refine l_Pl_sitePrices X hP hp1 (by omega) dX3_copyFrom_42 ?_
      refine s_Pl_sitePrices X hi hP hS hp0 (by omega) dX3_copyFrom_43 (fun V11 H11 locs11 hp0 h2 hP hS => ?_)
      have hp0 : PlP N ad V11 t b (mkP (pN x2) (pM x2) (pO x2) (upd u0_3_4 ix_4 (pP x2 ix_4)) (pD x) u0_5_4 u0_6_4) := hp0
      have hp1 := hp1.keep (V1 := V11) (fun k h8 h9 => h2 k (by omega))
      have hfr : ∀ k, (k < b ∨ b + 12 ≤ k) → V11 k = V k := fun k hk => (h2 k (by omega)).trans (hfr k hk)
      refine lv_aload_n hx hb dX3_copyFrom_44 rfl (lv_at hl 0 rfl) ?_
      refine g_Pl_excluded X hP hp0 m54 dX3_copyFrom_45 ?_
      refine lv_iload_n hx hb dX3_copyFrom_48 rfl (lv_at hl 2 rfl) ?_
      refine lv_aload_n hx hb dX3_copyFrom_49 rfl (lv_at hl 1 rfl) ?_
      refine g_Pl_excluded X hP hp1 m54 dX3_copyFrom_50 ?_
      refine lv_iload_n hx hb dX3_copyFrom_53 rfl (lv_at hl 2 rfl) ?_
      refine l_Pl_excluded X hP hp1 (by omega) dX3_copyFrom_54 ?_
      refine s_Pl_excluded X hi hP hS hp0 (by omega) dX3_copyFrom_55 (fun V12 H12 locs12 hp0 h2 hP hS => ?_)
      have hp0 : PlP N ad V12 t b (mkP (pN x2) (pM x2) (pO x2) (upd u0_3_4 ix_4 (pP x2 ix_4)) (pD x) u0_5_4 (upd u0_6_4 ix_4 (pE x2 ix_4))) := hp0
      have hp1 := hp1.keep (V1 := V12) (fun k h8 h9 => h2 k (by omega))
      have hfr : ∀ k, (k < b ∨ b + 12 ≤ k) → V12 k = V k := fun k hk => (h2 k (by omega)).trans (hfr k hk)
      refine lv_iconst (v := nI 0) hx hb dX3_copyFrom_56 (by decide) ?_
      refine lv_istore_n (lv' := [(3, .int (nI 0)), (0, .ref (ad b)), (1, .ref (ad b2)), (2, .int (nI ix_4))]) hx hb dX3_copyFrom_57 rfl hl (by decide) rfl (fun ls hl => ?_)
      have L13 : ∀ (dx_13 ix_13 : Nat) (u0_5_13 : Nat → Nat → Int32) (V13 : Nat → va_E) (H13 : Heap) (locs13 : List Loc) (ls : Array Slot), (ix_13 + dx_13 = 8) → (l_X3_copyFrom_58 x x2 ix_4 u0_3_4 u0_5_4 u0_6_4 dx_13 ix_13 u0_5_13 = l_X3_copyFrom_58 x x2 ix_4 u0_3_4 u0_5_4 u0_6_4 8 0 u0_5_4) → (PlP N ad V13 t b (mkP (pN x2) (pM x2) (pO x2) (upd u0_3_4 ix_4 (pP x2 ix_4)) (pD x) u0_5_13 (upd u0_6_4 ix_4 (pE x2 ix_4)))) → (PlP N ad V13 t b2 x2) → (∀ k, (k < b ∨ b + 12 ≤ k) → V13 k = V k) → (HP dd N ad V13 H13) → (va_S (dm N ad H.size) H H13 locs13) → (lv_has ls 4 [(0, .ref (ad b)), (1, .ref (ad b2)), (2, .int (nI ix_4)), (3, .int (nI ix_13))]) → W p l e rmX3_copyFrom s m as below meth c H13 locs13 0 0 Q (F0 m 58 ls []) := by
        intro dx_13
        induction dx_13 with
        | zero =>
          intro ix_13 u0_5_13 V13 H13 locs13 ls hid hvx_13 hp0 hp1 hfr hP hS hl
          have hiN : 8 = ix_13 := by omega
          subst hiN
          have hvx_13 : u0_5_13 = l_X3_copyFrom_58 x x2 ix_4 u0_3_4 u0_5_4 u0_6_4 8 0 u0_5_4 := hvx_13
          have hh0 : u0_5_13 = l_X3_copyFrom_58 x x2 ix_4 u0_3_4 u0_5_4 u0_6_4 8 0 u0_5_4 := hvx_13
          subst hh0
          refine lv_iload_n hx hb dX3_copyFrom_58 rfl (lv_at hl 3 rfl) ?_
          refine lv_bipush (v := nI 8) hx hb dX3_copyFrom_59 (by decide) ?_
          refine q_ge (tgt := 86) hx hb (by omega) (by omega) dX3_copyFrom_61 (by decide) (fun c14 => ?_) (fun h => absurd h (by omega))
          refine lv_iinc (v := nI (ix_4 + 1)) (lv' := [(2, .int (nI (ix_4 + 1))), (0, .ref (ad b)), (1, .ref (ad b2)), (3, .int (nI 8))]) hx hb dX3_copyFrom_86 hl (k := 2) rfl (nI_inc _) (by decide) rfl (fun ls hl => ?_)
          refine lv_goto (tgt := 26) hx hb dX3_copyFrom_89 (by decide) ?_
          exact ihx_4 (ix_4 + 1) (upd u0_3_4 ix_4 (pP x2 ix_4)) (l_X3_copyFrom_58 x x2 ix_4 u0_3_4 u0_5_4 u0_6_4 8 0 u0_5_4) (upd u0_6_4 ix_4 (pE x2 ix_4)) _ _ _ ls (by omega) (Eq.trans (Eq.symm (by rw [l_X3_copyFrom_26] <;> rfl)) hvx_4) hp0 hp1 hfr hP hS (lv_sub hl [1, 2, 0] rfl)
        | succ dx_13 ihx_13 =>
          intro ix_13 u0_5_13 V13 H13 locs13 ls hid hvx_13 hp0 hp1 hfr hP hS hl
          refine lv_iload_n hx hb dX3_copyFrom_58 rfl (lv_at hl 3 rfl) ?_
          refine lv_bipush (v := nI 8) hx hb dX3_copyFrom_59 (by decide) ?_
          refine q_ge (tgt := 86) hx hb (by omega) (by omega) dX3_copyFrom_61 (by decide) (fun h => absurd h (by omega)) (fun c15 => ?_)
          refine lv_aload_n hx hb dX3_copyFrom_64 rfl (lv_at hl 0 rfl) ?_
          refine g_Pl_routePrices X hP hp0 m53 dX3_copyFrom_65 ?_
          refine lv_iload_n hx hb dX3_copyFrom_68 rfl (lv_at hl 2 rfl) ?_
          refine l_Pl_routePrices X hP hp0 (by omega) dX3_copyFrom_69 ?_
          refine lv_iload_n hx hb dX3_copyFrom_70 rfl (lv_at hl 3 rfl) ?_
          refine lv_aload_n hx hb dX3_copyFrom_71 rfl (lv_at hl 1 rfl) ?_
          refine g_Pl_routePrices X hP hp1 m53 dX3_copyFrom_72 ?_
          refine lv_iload_n hx hb dX3_copyFrom_75 rfl (lv_at hl 2 rfl) ?_
          refine l_Pl_routePrices X hP hp1 (by omega) dX3_copyFrom_76 ?_
          refine lv_iload_n hx hb dX3_copyFrom_77 rfl (lv_at hl 3 rfl) ?_
          refine l_Pl_routePrices_row X hP hp1 (by omega) (by omega) dX3_copyFrom_78 ?_
          refine s_Pl_routePrices_row X hi hP hS hp0 (by omega) (by omega) dX3_copyFrom_79 (fun V16 H16 locs16 hp0 h2 hP hS => ?_)
          have hp0 : PlP N ad V16 t b (mkP (pN x2) (pM x2) (pO x2) (upd u0_3_4 ix_4 (pP x2 ix_4)) (pD x) (va_up u0_5_13 ix_4 (upd (u0_5_13 ix_4) ix_13 (pR x2 ix_4 ix_13))) (upd u0_6_4 ix_4 (pE x2 ix_4))) := hp0
          have hp1 := hp1.keep (V1 := V16) (fun k h8 h9 => h2 k (by omega))
          have hfr : ∀ k, (k < b ∨ b + 12 ≤ k) → V16 k = V k := fun k hk => (h2 k (by omega)).trans (hfr k hk)
          refine lv_iinc (v := nI (ix_13 + 1)) (lv' := [(3, .int (nI (ix_13 + 1))), (0, .ref (ad b)), (1, .ref (ad b2)), (2, .int (nI ix_4))]) hx hb dX3_copyFrom_80 hl (k := 3) rfl (nI_inc _) (by decide) rfl (fun ls hl => ?_)
          refine lv_goto (tgt := 58) hx hb dX3_copyFrom_83 (by decide) ?_
          exact ihx_13 (ix_13 + 1) (va_up u0_5_13 ix_4 (upd (u0_5_13 ix_4) ix_13 (pR x2 ix_4 ix_13))) _ _ _ ls (by omega) (Eq.trans (Eq.symm (by rw [l_X3_copyFrom_58] <;> rfl)) hvx_13) hp0 hp1 hfr hP hS (lv_sub hl [1, 2, 3, 0] rfl)
      exact L13 8 0 u0_5_4 _ _ _ ls (by omega) rfl hp0 hp1 hfr hP hS (lv_sub hl [1, 2, 3, 0] rfl)
  exact L4 7 0 (pP x) (pR x) (pE x) _ _ _ ls (by omega) rfl hp0 hp1 hfr hP hS (lv_sub hl [1, 2, 0] rfl)
theorem o_X3_copyFrom : okV yX3_copyFrom cX3_copyFrom 4 none 1 := ⟨m111, m112, m35, m113, by decide +kernel, by decide +kernel, by decide +kernel⟩
def rmX3_appendSite : Room := { frames := 0, cells := 0, slots := 0, locals := 0 }
def l_X3_appendSite_30 (x : PlC) (price : Int32) : Nat → Nat → (Nat → Nat → Int32) → (Nat → Nat → Int32)
  | 0, ix_4, u0_5_4 => u0_5_4
  | dx_4 + 1, ix_4, u0_5_4 => l_X3_appendSite_30 x price dx_4 (ix_4 + 1) (va_up u0_5_4 (pN x) (upd (u0_5_4 (pN x)) ix_4 (nI 100)))
def f_X3_appendSite (x : PlC) (price : Int32) : Int32 × PlC :=
  (if (pN x) < 7 then (nI (pN x), mkP (pN x + 1) (pM x) (pO x) (upd (pP x) (pN x) price) (pD x) (l_X3_appendSite_30 x price (pM x) 0 (pR x)) (upd (pE x) (pN x) (nI 0))) else ((-3), x))
set_option maxHeartbeats 4000000 in
set_option maxRecDepth 100000 in
theorem c_X3_appendSite {l : Launch} {dd : va_G} {t : CL4} {N : Nat} {ad : Nat → Nat} {V : Nat → va_E} {b : Nat} {x : PlC}  (hi : inj N ad) (hp0 : PlP N ad V t b x) (price : Int32)  : MM l dd t N ad V yX3_appendSite cX3_appendSite 4 (some .int) rmX3_appendSite [.ref (ad b), .int (price)] (fun r V1 => (r = (f_X3_appendSite x price).1) ∧ (PlP N ad V1 t b ((f_X3_appendSite x price).2)) ∧ (∀ k, (k < b ∨ b + 12 ≤ k) → V1 k = V k)) := by
  refine MM.of (by decide +kernel) ⟨rfl, rfl⟩ (Nat.le_of_ble_eq_true rfl) rfl ?_
  intro p e s m as below meth c Q X H hP hS ls hl kr
  have X : WX p s m as c cX3_appendSite 4 RX3 dd t := X
  have hx := X.1.1
  have hb := X.1.2.1
  have hl : lv_has ls 4 [(0, .ref (ad b)), (1, .int (price))] := hl
  have hi0_0 := hp0.i0
  have hi0_1 := hp0.i1
  have hle0 := hp0.le
  have hfr : ∀ k, (k < b ∨ b + 12 ≤ k) → V k = V k := fun _ _ => rfl
  refine lv_aload_n hx hb dX3_appendSite_0 rfl (lv_at hl 0 rfl) ?_
  refine g_Pl_siteCount X hP hp0 m47 dX3_appendSite_1 ?_
  refine lv_istore_n (lv' := [(2, .int (nI (pN x))), (0, .ref (ad b)), (1, .int (price))]) hx hb dX3_appendSite_4 rfl hl (by decide) rfl (fun ls hl => ?_)
  refine lv_iload_n hx hb dX3_appendSite_5 rfl (lv_at hl 0 rfl) ?_
  refine lv_bipush (v := nI 7) hx hb dX3_appendSite_6 (by decide) ?_
  refine q_lt (tgt := 14) hx hb (by omega) (by omega) dX3_appendSite_8 (by decide) (fun c1 => ?_) (fun c1 => ?_)
  · refine lv_aload_n hx hb dX3_appendSite_14 rfl (lv_at hl 1 rfl) ?_
    refine g_Pl_sitePrices X hP hp0 m50 dX3_appendSite_15 ?_
    refine lv_iload_n hx hb dX3_appendSite_18 rfl (lv_at hl 0 rfl) ?_
    refine lv_iload_n hx hb dX3_appendSite_19 rfl (lv_at hl 2 rfl) ?_
    refine s_Pl_sitePrices X hi hP hS hp0 (by omega) dX3_appendSite_20 (fun V2 H2 locs2 hp0 h2 hP hS => ?_)
    have hp0 : PlP N ad V2 t b (mkP (pN x) (pM x) (pO x) (upd (pP x) (pN x) price) (pD x) (pR x) (pE x)) := hp0
    have hfr : ∀ k, (k < b ∨ b + 12 ≤ k) → V2 k = V k := fun k hk => (h2 k (by omega)).trans (hfr k hk)
    refine lv_aload_n hx hb dX3_appendSite_21 rfl (lv_at hl 1 rfl) ?_
    refine g_Pl_excluded X hP hp0 m54 dX3_appendSite_22 ?_
    refine lv_iload_n hx hb dX3_appendSite_25 rfl (lv_at hl 0 rfl) ?_
    refine lv_iconst (v := nI 0) hx hb dX3_appendSite_26 (by decide) ?_
    refine s_Pl_excluded X hi hP hS hp0 (by omega) dX3_appendSite_27 (fun V3 H3 locs3 hp0 h2 hP hS => ?_)
    have hp0 : PlP N ad V3 t b (mkP (pN x) (pM x) (pO x) (upd (pP x) (pN x) price) (pD x) (pR x) (upd (pE x) (pN x) (nI 0))) := hp0
    have hfr : ∀ k, (k < b ∨ b + 12 ≤ k) → V3 k = V k := fun k hk => (h2 k (by omega)).trans (hfr k hk)
    refine lv_iconst (v := nI 0) hx hb dX3_appendSite_28 (by decide) ?_
    refine lv_istore_n (lv' := [(3, .int (nI 0)), (2, .int (nI (pN x))), (0, .ref (ad b)), (1, .int (price))]) hx hb dX3_appendSite_29 rfl hl (by decide) rfl (fun ls hl => ?_)
    have L4 : ∀ (dx_4 ix_4 : Nat) (u0_5_4 : Nat → Nat → Int32) (V4 : Nat → va_E) (H4 : Heap) (locs4 : List Loc) (ls : Array Slot), (ix_4 + dx_4 = pM x) → (l_X3_appendSite_30 x price dx_4 ix_4 u0_5_4 = l_X3_appendSite_30 x price (pM x) 0 (pR x)) → (PlP N ad V4 t b (mkP (pN x) (pM x) (pO x) (upd (pP x) (pN x) price) (pD x) u0_5_4 (upd (pE x) (pN x) (nI 0)))) → (∀ k, (k < b ∨ b + 12 ≤ k) → V4 k = V k) → (HP dd N ad V4 H4) → (va_S (dm N ad H.size) H H4 locs4) → (lv_has ls 4 [(0, .ref (ad b)), (1, .int (price)), (2, .int (nI (pN x))), (3, .int (nI ix_4))]) → W p l e rmX3_appendSite s m as below meth c H4 locs4 0 0 Q (F0 m 30 ls []) := by
      intro dx_4
      induction dx_4 with
      | zero =>
        intro ix_4 u0_5_4 V4 H4 locs4 ls hid hvx_4 hp0 hfr hP hS hl
        have hiN : pM x = ix_4 := by omega
        subst hiN
        have hvx_4 : u0_5_4 = l_X3_appendSite_30 x price (pM x) 0 (pR x) := hvx_4
        have hh0 : u0_5_4 = l_X3_appendSite_30 x price (pM x) 0 (pR x) := hvx_4
        subst hh0
        refine lv_iload_n hx hb dX3_appendSite_30 rfl (lv_at hl 3 rfl) ?_
        refine lv_aload_n hx hb dX3_appendSite_31 rfl (lv_at hl 0 rfl) ?_
        refine g_Pl_customerCount X hP hp0 m48 dX3_appendSite_32 ?_
        refine W.eq (g2 := F0 m 35 ls [.int (nI (pM x)), .int (nI (pM x))]) rfl ?_
        refine q_ge (tgt := 54) hx hb (by omega) (by omega) dX3_appendSite_35 (by decide) (fun c5 => ?_) (fun h => absurd h (by omega))
        refine lv_aload_n hx hb dX3_appendSite_54 rfl (lv_at hl 0 rfl) ?_
        refine lv_dup hx hb dX3_appendSite_55 rfl ?_
        refine g_Pl_siteCount X hP hp0 m47 dX3_appendSite_56 ?_
        refine W.eq (g2 := F0 m 59 ls [.int (nI (pN x)), .ref (ad b)]) rfl ?_
        refine lv_iconst (v := nI 1) hx hb dX3_appendSite_59 (by decide) ?_
        refine q_iadd hx hb dX3_appendSite_60 ?_
        refine W.eq (g2 := F0 m 61 ls [.int (nI (pN x + 1)), .ref (ad b)]) rfl ?_
        refine p_Pl_siteCount X hi hP hS hp0 m47 (v := pN x + 1) (hv := by omega) dX3_appendSite_61 (fun V6 H6 locs6 hp0 h2 hP hS => ?_)
        have hp0 : PlP N ad V6 t b (mkP (pN x + 1) (pM x) (pO x) (upd (pP x) (pN x) price) (pD x) (l_X3_appendSite_30 x price (pM x) 0 (pR x)) (upd (pE x) (pN x) (nI 0))) := hp0
        have hfr : ∀ k, (k < b ∨ b + 12 ≤ k) → V6 k = V k := fun k hk => (h2 k (by omega)).trans (hfr k hk)
        refine lv_iload_n hx hb dX3_appendSite_64 rfl (lv_at hl 2 rfl) ?_
        have hfin : f_X3_appendSite x price = (nI (pN x), mkP (pN x + 1) (pM x) (pO x) (upd (pP x) (pN x) price) (pD x) (l_X3_appendSite_30 x price (pM x) 0 (pR x)) (upd (pE x) (pN x) (nI 0))) := (by rw [f_X3_appendSite, if_pos c1] <;> rfl)
        exact kr 65 ls _ _ _ _ hP hS rfl ⟨by rw [hfin] <;> rfl, by rw [hfin]; exact hp0, hfr⟩ dX3_appendSite_65
      | succ dx_4 ihx_4 =>
        intro ix_4 u0_5_4 V4 H4 locs4 ls hid hvx_4 hp0 hfr hP hS hl
        refine lv_iload_n hx hb dX3_appendSite_30 rfl (lv_at hl 3 rfl) ?_
        refine lv_aload_n hx hb dX3_appendSite_31 rfl (lv_at hl 0 rfl) ?_
        refine g_Pl_customerCount X hP hp0 m48 dX3_appendSite_32 ?_
        refine W.eq (g2 := F0 m 35 ls [.int (nI (pM x)), .int (nI ix_4)]) rfl ?_
        refine q_ge (tgt := 54) hx hb (by omega) (by omega) dX3_appendSite_35 (by decide) (fun h => absurd h (by omega)) (fun c7 => ?_)
        refine lv_aload_n hx hb dX3_appendSite_38 rfl (lv_at hl 0 rfl) ?_
        refine g_Pl_routePrices X hP hp0 m53 dX3_appendSite_39 ?_
        refine lv_iload_n hx hb dX3_appendSite_42 rfl (lv_at hl 2 rfl) ?_
        refine l_Pl_routePrices X hP hp0 (by omega) dX3_appendSite_43 ?_
        refine lv_iload_n hx hb dX3_appendSite_44 rfl (lv_at hl 3 rfl) ?_
        refine lv_bipush (v := nI 100) hx hb dX3_appendSite_45 (by decide) ?_
        refine s_Pl_routePrices_row X hi hP hS hp0 (by omega) (by omega) dX3_appendSite_47 (fun V8 H8 locs8 hp0 h2 hP hS => ?_)
        have hp0 : PlP N ad V8 t b (mkP (pN x) (pM x) (pO x) (upd (pP x) (pN x) price) (pD x) (va_up u0_5_4 (pN x) (upd (u0_5_4 (pN x)) ix_4 (nI 100))) (upd (pE x) (pN x) (nI 0))) := hp0
        have hfr : ∀ k, (k < b ∨ b + 12 ≤ k) → V8 k = V k := fun k hk => (h2 k (by omega)).trans (hfr k hk)
        refine lv_iinc (v := nI (ix_4 + 1)) (lv' := [(3, .int (nI (ix_4 + 1))), (0, .ref (ad b)), (1, .int (price)), (2, .int (nI (pN x)))]) hx hb dX3_appendSite_48 hl (k := 3) rfl (nI_inc _) (by decide) rfl (fun ls hl => ?_)
        refine lv_goto (tgt := 30) hx hb dX3_appendSite_51 (by decide) ?_
        exact ihx_4 (ix_4 + 1) (va_up u0_5_4 (pN x) (upd (u0_5_4 (pN x)) ix_4 (nI 100))) _ _ _ ls (by omega) (Eq.trans (Eq.symm (by rw [l_X3_appendSite_30] <;> rfl)) hvx_4) hp0 hfr hP hS (lv_sub hl [1, 2, 3, 0] rfl)
    exact L4 (pM x) 0 (pR x) _ _ _ ls (by omega) rfl hp0 hfr hP hS (lv_sub hl [2, 3, 1, 0] rfl)
  · refine lv_bipush (v := (-3)) hx hb dX3_appendSite_11 (by decide) ?_
    have hfin : f_X3_appendSite x price = ((-3), x) := (by rw [f_X3_appendSite, if_neg (Nat.not_lt.mpr c1)] <;> rfl)
    exact kr 13 ls _ _ _ _ hP hS rfl ⟨by rw [hfin] <;> rfl, by rw [hfin]; exact hp0, hfr⟩ dX3_appendSite_13
theorem o_X3_appendSite : okV yX3_appendSite cX3_appendSite 4 (some .int) 1 := ⟨m132, m133, m35, m134, by decide +kernel, by decide +kernel, by decide +kernel⟩
theorem u_X3_appendSite_0_1 {x : PlC} {price : Int32} : pM ((f_X3_appendSite x price).2) = pM x := by
  unfold f_X3_appendSite
  (repeat' split) <;> rfl
theorem u_X3_appendSite_0_2 {x : PlC} {price : Int32} : pO ((f_X3_appendSite x price).2) = pO x := by
  unfold f_X3_appendSite
  (repeat' split) <;> rfl
theorem u_X3_appendSite_0_4 {x : PlC} {price : Int32} : pD ((f_X3_appendSite x price).2) = pD x := by
  unfold f_X3_appendSite
  (repeat' split) <;> rfl
def rmX3_appendCustomer : Room := { frames := 0, cells := 0, slots := 0, locals := 0 }
def l_X3_appendCustomer_23 (x : PlC) (demand : Int32) : Nat → Nat → (Nat → Nat → Int32) → (Nat → Nat → Int32)
  | 0, ix_3, u0_5_3 => u0_5_3
  | dx_3 + 1, ix_3, u0_5_3 => l_X3_appendCustomer_23 x demand dx_3 (ix_3 + 1) (va_up u0_5_3 ix_3 (upd (u0_5_3 ix_3) (pM x) (nI 100)))
def f_X3_appendCustomer (x : PlC) (demand : Int32) : Int32 × PlC :=
  (if (pM x) < 8 then (nI (pM x), mkP (pN x) (pM x + 1) (pO x) (pP x) (upd (pD x) (pM x) demand) (l_X3_appendCustomer_23 x demand (pN x) 0 (pR x)) (pE x)) else ((-3), x))
set_option maxHeartbeats 4000000 in
set_option maxRecDepth 100000 in
theorem c_X3_appendCustomer {l : Launch} {dd : va_G} {t : CL4} {N : Nat} {ad : Nat → Nat} {V : Nat → va_E} {b : Nat} {x : PlC}  (hi : inj N ad) (hp0 : PlP N ad V t b x) (demand : Int32)  : MM l dd t N ad V yX3_appendCustomer cX3_appendCustomer 4 (some .int) rmX3_appendCustomer [.ref (ad b), .int (demand)] (fun r V1 => (r = (f_X3_appendCustomer x demand).1) ∧ (PlP N ad V1 t b ((f_X3_appendCustomer x demand).2)) ∧ (∀ k, (k < b ∨ b + 12 ≤ k) → V1 k = V k)) := by
  refine MM.of (by decide +kernel) ⟨rfl, rfl⟩ (Nat.le_of_ble_eq_true rfl) rfl ?_
  intro p e s m as below meth c Q X H hP hS ls hl kr
  have X : WX p s m as c cX3_appendCustomer 4 RX3 dd t := X
  have hx := X.1.1
  have hb := X.1.2.1
  have hl : lv_has ls 4 [(0, .ref (ad b)), (1, .int (demand))] := hl
  have hi0_0 := hp0.i0
  have hi0_1 := hp0.i1
  have hle0 := hp0.le
  have hfr : ∀ k, (k < b ∨ b + 12 ≤ k) → V k = V k := fun _ _ => rfl
  refine lv_aload_n hx hb dX3_appendCustomer_0 rfl (lv_at hl 0 rfl) ?_
  refine g_Pl_customerCount X hP hp0 m48 dX3_appendCustomer_1 ?_
  refine lv_istore_n (lv' := [(2, .int (nI (pM x))), (0, .ref (ad b)), (1, .int (demand))]) hx hb dX3_appendCustomer_4 rfl hl (by decide) rfl (fun ls hl => ?_)
  refine lv_iload_n hx hb dX3_appendCustomer_5 rfl (lv_at hl 0 rfl) ?_
  refine lv_bipush (v := nI 8) hx hb dX3_appendCustomer_6 (by decide) ?_
  refine q_lt (tgt := 14) hx hb (by omega) (by omega) dX3_appendCustomer_8 (by decide) (fun c1 => ?_) (fun c1 => ?_)
  · refine lv_aload_n hx hb dX3_appendCustomer_14 rfl (lv_at hl 1 rfl) ?_
    refine g_Pl_demands X hP hp0 m51 dX3_appendCustomer_15 ?_
    refine lv_iload_n hx hb dX3_appendCustomer_18 rfl (lv_at hl 0 rfl) ?_
    refine lv_iload_n hx hb dX3_appendCustomer_19 rfl (lv_at hl 2 rfl) ?_
    refine s_Pl_demands X hi hP hS hp0 (by omega) dX3_appendCustomer_20 (fun V2 H2 locs2 hp0 h2 hP hS => ?_)
    have hp0 : PlP N ad V2 t b (mkP (pN x) (pM x) (pO x) (pP x) (upd (pD x) (pM x) demand) (pR x) (pE x)) := hp0
    have hfr : ∀ k, (k < b ∨ b + 12 ≤ k) → V2 k = V k := fun k hk => (h2 k (by omega)).trans (hfr k hk)
    refine lv_iconst (v := nI 0) hx hb dX3_appendCustomer_21 (by decide) ?_
    refine lv_istore_n (lv' := [(3, .int (nI 0)), (2, .int (nI (pM x))), (0, .ref (ad b)), (1, .int (demand))]) hx hb dX3_appendCustomer_22 rfl hl (by decide) rfl (fun ls hl => ?_)
    have L3 : ∀ (dx_3 ix_3 : Nat) (u0_5_3 : Nat → Nat → Int32) (V3 : Nat → va_E) (H3 : Heap) (locs3 : List Loc) (ls : Array Slot), (ix_3 + dx_3 = pN x) → (l_X3_appendCustomer_23 x demand dx_3 ix_3 u0_5_3 = l_X3_appendCustomer_23 x demand (pN x) 0 (pR x)) → (PlP N ad V3 t b (mkP (pN x) (pM x) (pO x) (pP x) (upd (pD x) (pM x) demand) u0_5_3 (pE x))) → (∀ k, (k < b ∨ b + 12 ≤ k) → V3 k = V k) → (HP dd N ad V3 H3) → (va_S (dm N ad H.size) H H3 locs3) → (lv_has ls 4 [(0, .ref (ad b)), (1, .int (demand)), (2, .int (nI (pM x))), (3, .int (nI ix_3))]) → W p l e rmX3_appendCustomer s m as below meth c H3 locs3 0 0 Q (F0 m 23 ls []) := by
      intro dx_3
      induction dx_3 with
      | zero =>
        intro ix_3 u0_5_3 V3 H3 locs3 ls hid hvx_3 hp0 hfr hP hS hl
        have hiN : pN x = ix_3 := by omega
        subst hiN
        have hvx_3 : u0_5_3 = l_X3_appendCustomer_23 x demand (pN x) 0 (pR x) := hvx_3
        have hh0 : u0_5_3 = l_X3_appendCustomer_23 x demand (pN x) 0 (pR x) := hvx_3
        subst hh0
        refine lv_iload_n hx hb dX3_appendCustomer_23 rfl (lv_at hl 3 rfl) ?_
        refine lv_aload_n hx hb dX3_appendCustomer_24 rfl (lv_at hl 0 rfl) ?_
        refine g_Pl_siteCount X hP hp0 m47 dX3_appendCustomer_25 ?_
        refine W.eq (g2 := F0 m 28 ls [.int (nI (pN x)), .int (nI (pN x))]) rfl ?_
        refine q_ge (tgt := 47) hx hb (by omega) (by omega) dX3_appendCustomer_28 (by decide) (fun c4 => ?_) (fun h => absurd h (by omega))
        refine lv_aload_n hx hb dX3_appendCustomer_47 rfl (lv_at hl 0 rfl) ?_
        refine lv_dup hx hb dX3_appendCustomer_48 rfl ?_
        refine g_Pl_customerCount X hP hp0 m48 dX3_appendCustomer_49 ?_
        refine W.eq (g2 := F0 m 52 ls [.int (nI (pM x)), .ref (ad b)]) rfl ?_
        refine lv_iconst (v := nI 1) hx hb dX3_appendCustomer_52 (by decide) ?_
        refine q_iadd hx hb dX3_appendCustomer_53 ?_
        refine W.eq (g2 := F0 m 54 ls [.int (nI (pM x + 1)), .ref (ad b)]) rfl ?_
        refine p_Pl_customerCount X hi hP hS hp0 m48 (v := pM x + 1) (hv := by omega) dX3_appendCustomer_54 (fun V5 H5 locs5 hp0 h2 hP hS => ?_)
        have hp0 : PlP N ad V5 t b (mkP (pN x) (pM x + 1) (pO x) (pP x) (upd (pD x) (pM x) demand) (l_X3_appendCustomer_23 x demand (pN x) 0 (pR x)) (pE x)) := hp0
        have hfr : ∀ k, (k < b ∨ b + 12 ≤ k) → V5 k = V k := fun k hk => (h2 k (by omega)).trans (hfr k hk)
        refine lv_iload_n hx hb dX3_appendCustomer_57 rfl (lv_at hl 2 rfl) ?_
        have hfin : f_X3_appendCustomer x demand = (nI (pM x), mkP (pN x) (pM x + 1) (pO x) (pP x) (upd (pD x) (pM x) demand) (l_X3_appendCustomer_23 x demand (pN x) 0 (pR x)) (pE x)) := (by rw [f_X3_appendCustomer, if_pos c1] <;> rfl)
        exact kr 58 ls _ _ _ _ hP hS rfl ⟨by rw [hfin] <;> rfl, by rw [hfin]; exact hp0, hfr⟩ dX3_appendCustomer_58
      | succ dx_3 ihx_3 =>
        intro ix_3 u0_5_3 V3 H3 locs3 ls hid hvx_3 hp0 hfr hP hS hl
        refine lv_iload_n hx hb dX3_appendCustomer_23 rfl (lv_at hl 3 rfl) ?_
        refine lv_aload_n hx hb dX3_appendCustomer_24 rfl (lv_at hl 0 rfl) ?_
        refine g_Pl_siteCount X hP hp0 m47 dX3_appendCustomer_25 ?_
        refine W.eq (g2 := F0 m 28 ls [.int (nI (pN x)), .int (nI ix_3)]) rfl ?_
        refine q_ge (tgt := 47) hx hb (by omega) (by omega) dX3_appendCustomer_28 (by decide) (fun h => absurd h (by omega)) (fun c6 => ?_)
        refine lv_aload_n hx hb dX3_appendCustomer_31 rfl (lv_at hl 0 rfl) ?_
        refine g_Pl_routePrices X hP hp0 m53 dX3_appendCustomer_32 ?_
        refine lv_iload_n hx hb dX3_appendCustomer_35 rfl (lv_at hl 3 rfl) ?_
        refine l_Pl_routePrices X hP hp0 (by omega) dX3_appendCustomer_36 ?_
        refine lv_iload_n hx hb dX3_appendCustomer_37 rfl (lv_at hl 2 rfl) ?_
        refine lv_bipush (v := nI 100) hx hb dX3_appendCustomer_38 (by decide) ?_
        refine s_Pl_routePrices_row X hi hP hS hp0 (by omega) (by omega) dX3_appendCustomer_40 (fun V7 H7 locs7 hp0 h2 hP hS => ?_)
        have hp0 : PlP N ad V7 t b (mkP (pN x) (pM x) (pO x) (pP x) (upd (pD x) (pM x) demand) (va_up u0_5_3 ix_3 (upd (u0_5_3 ix_3) (pM x) (nI 100))) (pE x)) := hp0
        have hfr : ∀ k, (k < b ∨ b + 12 ≤ k) → V7 k = V k := fun k hk => (h2 k (by omega)).trans (hfr k hk)
        refine lv_iinc (v := nI (ix_3 + 1)) (lv' := [(3, .int (nI (ix_3 + 1))), (0, .ref (ad b)), (1, .int (demand)), (2, .int (nI (pM x)))]) hx hb dX3_appendCustomer_41 hl (k := 3) rfl (nI_inc _) (by decide) rfl (fun ls hl => ?_)
        refine lv_goto (tgt := 23) hx hb dX3_appendCustomer_44 (by decide) ?_
        exact ihx_3 (ix_3 + 1) (va_up u0_5_3 ix_3 (upd (u0_5_3 ix_3) (pM x) (nI 100))) _ _ _ ls (by omega) (Eq.trans (Eq.symm (by rw [l_X3_appendCustomer_23] <;> rfl)) hvx_3) hp0 hfr hP hS (lv_sub hl [1, 2, 3, 0] rfl)
    exact L3 (pN x) 0 (pR x) _ _ _ ls (by omega) rfl hp0 hfr hP hS (lv_sub hl [2, 3, 1, 0] rfl)
  · refine lv_bipush (v := (-3)) hx hb dX3_appendCustomer_11 (by decide) ?_
    have hfin : f_X3_appendCustomer x demand = ((-3), x) := (by rw [f_X3_appendCustomer, if_neg (Nat.not_lt.mpr c1)] <;> rfl)
    exact kr 13 ls _ _ _ _ hP hS rfl ⟨by rw [hfin] <;> rfl, by rw [hfin]; exact hp0, hfr⟩ dX3_appendCustomer_13
theorem o_X3_appendCustomer : okV yX3_appendCustomer cX3_appendCustomer 4 (some .int) 1 := ⟨m168, m169, m35, m170, by decide +kernel, by decide +kernel, by decide +kernel⟩
theorem u_X3_appendCustomer_0_0 {x : PlC} {demand : Int32} : pN ((f_X3_appendCustomer x demand).2) = pN x := by
  unfold f_X3_appendCustomer
  (repeat' split) <;> rfl
theorem u_X3_appendCustomer_0_2 {x : PlC} {demand : Int32} : pO ((f_X3_appendCustomer x demand).2) = pO x := by
  unfold f_X3_appendCustomer
  (repeat' split) <;> rfl
theorem u_X3_appendCustomer_0_3 {x : PlC} {demand : Int32} : pP ((f_X3_appendCustomer x demand).2) = pP x := by
  unfold f_X3_appendCustomer
  (repeat' split) <;> rfl
theorem u_X3_appendCustomer_0_6 {x : PlC} {demand : Int32} : pE ((f_X3_appendCustomer x demand).2) = pE x := by
  unfold f_X3_appendCustomer
  (repeat' split) <;> rfl
def rmX3_turnExclusion : Room := { frames := 0, cells := 0, slots := 0, locals := 0 }
def f_X3_turnExclusion (x : PlC) (site : Nat) (other : Nat) : PlC :=
  mkP (pN x) (pM x) (pO x) (pP x) (pD x) (pR x) (upd (upd (pE x) site ((pE x site) ^^^ (nI (2 ^ other)))) other ((pE x other) ^^^ (nI (2 ^ site))))
set_option maxHeartbeats 4000000 in
set_option maxRecDepth 100000 in
theorem c_X3_turnExclusion {l : Launch} {dd : va_G} {t : CL4} {N : Nat} {ad : Nat → Nat} {V : Nat → va_E} {b : Nat} {x : PlC}  (hi : inj N ad) (hp0 : PlP N ad V t b x) (site : Nat) (other : Nat) (h_site : site < pN x) (h_oth : other < pN x) (h_ne : site ≠ other) : MV l dd t N ad V yX3_turnExclusion cX3_turnExclusion 3 rmX3_turnExclusion [.ref (ad b), .int (nI site), .int (nI other)] (fun V1 => (PlP N ad V1 t b (f_X3_turnExclusion x site other)) ∧ (∀ k, (k < b ∨ b + 12 ≤ k) → V1 k = V k)) := by
  refine MV.of (by decide +kernel) ⟨rfl, rfl⟩ (Nat.le_of_ble_eq_true rfl) ?_
  intro p e s m as below meth c Q X H hP hS ls hl kr
  have X : WX p s m as c cX3_turnExclusion 3 RX3 dd t := X
  have hx := X.1.1
  have hb := X.1.2.1
  have hl : lv_has ls 3 [(0, .ref (ad b)), (1, .int (nI site)), (2, .int (nI other))] := hl
  have hi0_0 := hp0.i0
  have hi0_1 := hp0.i1
  have hle0 := hp0.le
  have hfr : ∀ k, (k < b ∨ b + 12 ≤ k) → V k = V k := fun _ _ => rfl
  refine lv_aload_n hx hb dX3_turnExclusion_0 rfl (lv_at hl 0 rfl) ?_
  refine g_Pl_excluded X hP hp0 m54 dX3_turnExclusion_1 ?_
  refine lv_iload_n hx hb dX3_turnExclusion_4 rfl (lv_at hl 1 rfl) ?_
  refine lv_dup2_11 hx hb dX3_turnExclusion_5 rfl rfl ?_
  refine l_Pl_excluded X hP hp0 (by omega) dX3_turnExclusion_6 ?_
  refine lv_iconst (v := nI 1) hx hb dX3_turnExclusion_7 (by decide) ?_
  refine lv_iload_n hx hb dX3_turnExclusion_8 rfl (lv_at hl 2 rfl) ?_
  refine q_ishl hx hb (by omega) dX3_turnExclusion_9 ?_
  refine lv_ixor hx hb dX3_turnExclusion_10 ?_
  refine s_Pl_excluded X hi hP hS hp0 (by omega) dX3_turnExclusion_11 (fun V1 H1 locs1 hp0 h2 hP hS => ?_)
  have hp0 : PlP N ad V1 t b (mkP (pN x) (pM x) (pO x) (pP x) (pD x) (pR x) (upd (pE x) site ((pE x site) ^^^ (nI (2 ^ other))))) := hp0
  have hfr : ∀ k, (k < b ∨ b + 12 ≤ k) → V1 k = V k := fun k hk => (h2 k (by omega)).trans (hfr k hk)
  refine lv_aload_n hx hb dX3_turnExclusion_12 rfl (lv_at hl 0 rfl) ?_
  refine g_Pl_excluded X hP hp0 m54 dX3_turnExclusion_13 ?_
  refine lv_iload_n hx hb dX3_turnExclusion_16 rfl (lv_at hl 2 rfl) ?_
  refine lv_dup2_11 hx hb dX3_turnExclusion_17 rfl rfl ?_
  refine l_Pl_excluded X hP hp0 (by omega) dX3_turnExclusion_18 ?_
  refine W.eq (g2 := F0 m 19 ls [.int ((upd (pE x) site ((pE x site) ^^^ (nI (2 ^ other)))) other), .int (nI other), .ref (ad (b + 11))]) rfl ?_
  refine q_val (upd_ne _ _ (by omega)) ?_
  refine lv_iconst (v := nI 1) hx hb dX3_turnExclusion_19 (by decide) ?_
  refine lv_iload_n hx hb dX3_turnExclusion_20 rfl (lv_at hl 1 rfl) ?_
  refine q_ishl hx hb (by omega) dX3_turnExclusion_21 ?_
  refine lv_ixor hx hb dX3_turnExclusion_22 ?_
  refine s_Pl_excluded X hi hP hS hp0 (by omega) dX3_turnExclusion_23 (fun V2 H2 locs2 hp0 h2 hP hS => ?_)
  have hp0 : PlP N ad V2 t b (mkP (pN x) (pM x) (pO x) (pP x) (pD x) (pR x) (upd (upd (pE x) site ((pE x site) ^^^ (nI (2 ^ other)))) other ((pE x other) ^^^ (nI (2 ^ site))))) := hp0
  have hfr : ∀ k, (k < b ∨ b + 12 ≤ k) → V2 k = V k := fun k hk => (h2 k (by omega)).trans (hfr k hk)
  have hfin : f_X3_turnExclusion x site other = mkP (pN x) (pM x) (pO x) (pP x) (pD x) (pR x) (upd (upd (pE x) site ((pE x site) ^^^ (nI (2 ^ other)))) other ((pE x other) ^^^ (nI (2 ^ site)))) := (by rw [f_X3_turnExclusion] <;> rfl)
  exact kr 24 ls _ _ _ hP hS ⟨by rw [hfin]; exact hp0, hfr⟩ dX3_turnExclusion_24
theorem o_X3_turnExclusion : okV yX3_turnExclusion cX3_turnExclusion 3 none 2 := ⟨m247, m248, m35, m249, by decide +kernel, by decide +kernel, by decide +kernel⟩
theorem u_X3_turnExclusion_0_0 {x : PlC} {site : Nat} {other : Nat} : pN (f_X3_turnExclusion x site other) = pN x := by
  unfold f_X3_turnExclusion
  (repeat' split) <;> rfl
theorem u_X3_turnExclusion_0_1 {x : PlC} {site : Nat} {other : Nat} : pM (f_X3_turnExclusion x site other) = pM x := by
  unfold f_X3_turnExclusion
  (repeat' split) <;> rfl
theorem u_X3_turnExclusion_0_2 {x : PlC} {site : Nat} {other : Nat} : pO (f_X3_turnExclusion x site other) = pO x := by
  unfold f_X3_turnExclusion
  (repeat' split) <;> rfl
theorem u_X3_turnExclusion_0_3 {x : PlC} {site : Nat} {other : Nat} : pP (f_X3_turnExclusion x site other) = pP x := by
  unfold f_X3_turnExclusion
  (repeat' split) <;> rfl
theorem u_X3_turnExclusion_0_4 {x : PlC} {site : Nat} {other : Nat} : pD (f_X3_turnExclusion x site other) = pD x := by
  unfold f_X3_turnExclusion
  (repeat' split) <;> rfl
theorem u_X3_turnExclusion_0_5 {x : PlC} {site : Nat} {other : Nat} : pR (f_X3_turnExclusion x site other) = pR x := by
  unfold f_X3_turnExclusion
  (repeat' split) <;> rfl
def rmX1_copyCut : Room := { frames := 0, cells := 0, slots := 0, locals := 0 }
def l_X1_copyCut_27 (y : CuC) (y2 : CuC) (fromC : Nat) (toC : Nat) : Nat → Nat → (Nat → Nat → Int32) → (Nat → Nat → Int32)
  | 0, ix_3, u0_3_3 => u0_3_3
  | dx_3 + 1, ix_3, u0_3_3 => l_X1_copyCut_27 y y2 fromC toC dx_3 (ix_3 + 1) (va_up u0_3_3 toC (upd (u0_3_3 toC) ix_3 (kW y2 fromC ix_3)))
def f_X1_copyCut (y : CuC) (y2 : CuC) (fromC : Nat) (toC : Nat) : CuC :=
  mkC (kA y) (upd (kC y) toC (kC y2 fromC)) (upd (kS y) toC (kS y2 fromC)) (l_X1_copyCut_27 y y2 fromC toC 7 0 (kW y))
set_option maxHeartbeats 4000000 in
set_option maxRecDepth 100000 in
theorem c_X1_copyCut {l : Launch} {dd : va_G} {t : CL4} {N : Nat} {ad : Nat → Nat} {V : Nat → va_E} {b : Nat} {b2 : Nat} {y : CuC} {y2 : CuC}  (hi : inj N ad) (hp0 : CuP N ad V t b y) (hp1 : CuP N ad V t b2 y2) (fromC : Nat) (toC : Nat) (hdj : b + 44 ≤ b2 ∨ b2 + 44 ≤ b) (h_f : fromC < 40) (h_t : toC < 40) : MV l dd t N ad V yX1_copyCut cX1_copyCut 5 rmX1_copyCut [.ref (ad b), .ref (ad b2), .int (nI fromC), .int (nI toC)] (fun V1 => (CuP N ad V1 t b (f_X1_copyCut y y2 fromC toC)) ∧ (∀ k, (k < b ∨ b + 44 ≤ k) → V1 k = V k)) := by
  refine MV.of (by decide +kernel) ⟨rfl, rfl⟩ (Nat.le_of_ble_eq_true rfl) ?_
  intro p e s m as below meth c Q X H hP hS ls hl kr
  have X : WX p s m as c cX1_copyCut 5 RX1 dd t := X
  have hx := X.1.1
  have hb := X.1.2.1
  have hl : lv_has ls 5 [(0, .ref (ad b)), (1, .ref (ad b2)), (2, .int (nI fromC)), (3, .int (nI toC))] := hl
  have hi0_0 := hp0.i0
  have hi1_0 := hp1.i0
  have hle0 := hp0.le
  have hle1 := hp1.le
  have hfr : ∀ k, (k < b ∨ b + 44 ≤ k) → V k = V k := fun _ _ => rfl
  refine lv_aload_n hx hb dX1_copyCut_0 rfl (lv_at hl 0 rfl) ?_
  refine g_Cu_customers X hP hp0 m60 dX1_copyCut_1 ?_
  refine lv_iload_n hx hb dX1_copyCut_4 rfl (lv_at hl 3 rfl) ?_
  refine lv_aload_n hx hb dX1_copyCut_5 rfl (lv_at hl 1 rfl) ?_
  refine g_Cu_customers X hP hp1 m60 dX1_copyCut_6 ?_
  refine lv_iload_n hx hb dX1_copyCut_9 rfl (lv_at hl 2 rfl) ?_
  refine l_Cu_customers X hP hp1 (by omega) dX1_copyCut_10 ?_
  refine s_Cu_customers X hi hP hS hp0 (by omega) dX1_copyCut_11 (fun V1 H1 locs1 hp0 h2 hP hS => ?_)
  have hp0 : CuP N ad V1 t b (mkC (kA y) (upd (kC y) toC (kC y2 fromC)) (kS y) (kW y)) := hp0
  have hp1 := hp1.keep (V1 := V1) (fun k h8 h9 => h2 k (by omega))
  have hfr : ∀ k, (k < b ∨ b + 44 ≤ k) → V1 k = V k := fun k hk => (h2 k (by omega)).trans (hfr k hk)
  refine lv_aload_n hx hb dX1_copyCut_12 rfl (lv_at hl 0 rfl) ?_
  refine g_Cu_starts X hP hp0 m61 dX1_copyCut_13 ?_
  refine lv_iload_n hx hb dX1_copyCut_16 rfl (lv_at hl 3 rfl) ?_
  refine lv_aload_n hx hb dX1_copyCut_17 rfl (lv_at hl 1 rfl) ?_
  refine g_Cu_starts X hP hp1 m61 dX1_copyCut_18 ?_
  refine lv_iload_n hx hb dX1_copyCut_21 rfl (lv_at hl 2 rfl) ?_
  refine l_Cu_starts X hP hp1 (by omega) dX1_copyCut_22 ?_
  refine s_Cu_starts X hi hP hS hp0 (by omega) dX1_copyCut_23 (fun V2 H2 locs2 hp0 h2 hP hS => ?_)
  have hp0 : CuP N ad V2 t b (mkC (kA y) (upd (kC y) toC (kC y2 fromC)) (upd (kS y) toC (kS y2 fromC)) (kW y)) := hp0
  have hp1 := hp1.keep (V1 := V2) (fun k h8 h9 => h2 k (by omega))
  have hfr : ∀ k, (k < b ∨ b + 44 ≤ k) → V2 k = V k := fun k hk => (h2 k (by omega)).trans (hfr k hk)
  refine lv_iconst (v := nI 0) hx hb dX1_copyCut_24 (by decide) ?_
  refine lv_istore (lv' := [(4, .int (nI 0)), (0, .ref (ad b)), (1, .ref (ad b2)), (2, .int (nI fromC)), (3, .int (nI toC))]) hx hb dX1_copyCut_25 hl (by decide) rfl (fun ls hl => ?_)
  have L3 : ∀ (dx_3 ix_3 : Nat) (u0_3_3 : Nat → Nat → Int32) (V3 : Nat → va_E) (H3 : Heap) (locs3 : List Loc) (ls : Array Slot), (ix_3 + dx_3 = 7) → (l_X1_copyCut_27 y y2 fromC toC dx_3 ix_3 u0_3_3 = l_X1_copyCut_27 y y2 fromC toC 7 0 (kW y)) → (CuP N ad V3 t b (mkC (kA y) (upd (kC y) toC (kC y2 fromC)) (upd (kS y) toC (kS y2 fromC)) u0_3_3)) → (CuP N ad V3 t b2 y2) → (∀ k, (k < b ∨ b + 44 ≤ k) → V3 k = V k) → (HP dd N ad V3 H3) → (va_S (dm N ad H.size) H H3 locs3) → (lv_has ls 5 [(0, .ref (ad b)), (1, .ref (ad b2)), (2, .int (nI fromC)), (3, .int (nI toC)), (4, .int (nI ix_3))]) → W p l e rmX1_copyCut s m as below meth c H3 locs3 0 0 Q (F0 m 27 ls []) := by
    intro dx_3
    induction dx_3 with
    | zero =>
      intro ix_3 u0_3_3 V3 H3 locs3 ls hid hvx_3 hp0 hp1 hfr hP hS hl
      have hiN : 7 = ix_3 := by omega
      subst hiN
      have hvx_3 : u0_3_3 = l_X1_copyCut_27 y y2 fromC toC 7 0 (kW y) := hvx_3
      have hh0 : u0_3_3 = l_X1_copyCut_27 y y2 fromC toC 7 0 (kW y) := hvx_3
      subst hh0
      refine lv_iload hx hb dX1_copyCut_27 (lv_at hl 4 rfl) ?_
      refine lv_bipush (v := nI 7) hx hb dX1_copyCut_29 (by decide) ?_
      refine q_ge (tgt := 58) hx hb (by omega) (by omega) dX1_copyCut_31 (by decide) (fun c4 => ?_) (fun h => absurd h (by omega))
      have hfin : f_X1_copyCut y y2 fromC toC = mkC (kA y) (upd (kC y) toC (kC y2 fromC)) (upd (kS y) toC (kS y2 fromC)) (l_X1_copyCut_27 y y2 fromC toC 7 0 (kW y)) := (by rw [f_X1_copyCut] <;> rfl)
      exact kr 58 ls _ _ _ hP hS ⟨by rw [hfin]; exact hp0, hfr⟩ dX1_copyCut_58
    | succ dx_3 ihx_3 =>
      intro ix_3 u0_3_3 V3 H3 locs3 ls hid hvx_3 hp0 hp1 hfr hP hS hl
      refine lv_iload hx hb dX1_copyCut_27 (lv_at hl 4 rfl) ?_
      refine lv_bipush (v := nI 7) hx hb dX1_copyCut_29 (by decide) ?_
      refine q_ge (tgt := 58) hx hb (by omega) (by omega) dX1_copyCut_31 (by decide) (fun h => absurd h (by omega)) (fun c5 => ?_)
      refine lv_aload_n hx hb dX1_copyCut_34 rfl (lv_at hl 0 rfl) ?_
      refine g_Cu_weights X hP hp0 m63 dX1_copyCut_35 ?_
      refine lv_iload_n hx hb dX1_copyCut_38 rfl (lv_at hl 3 rfl) ?_
      refine l_Cu_weights X hP hp0 (by omega) dX1_copyCut_39 ?_
      refine lv_iload hx hb dX1_copyCut_40 (lv_at hl 4 rfl) ?_
      refine lv_aload_n hx hb dX1_copyCut_42 rfl (lv_at hl 1 rfl) ?_
      refine g_Cu_weights X hP hp1 m63 dX1_copyCut_43 ?_
      refine lv_iload_n hx hb dX1_copyCut_46 rfl (lv_at hl 2 rfl) ?_
      refine l_Cu_weights X hP hp1 (by omega) dX1_copyCut_47 ?_
      refine lv_iload hx hb dX1_copyCut_48 (lv_at hl 4 rfl) ?_
      refine l_Cu_weights_row X hP hp1 (by omega) (by omega) dX1_copyCut_50 ?_
      refine s_Cu_weights_row X hi hP hS hp0 (by omega) (by omega) dX1_copyCut_51 (fun V6 H6 locs6 hp0 h2 hP hS => ?_)
      have hp0 : CuP N ad V6 t b (mkC (kA y) (upd (kC y) toC (kC y2 fromC)) (upd (kS y) toC (kS y2 fromC)) (va_up u0_3_3 toC (upd (u0_3_3 toC) ix_3 (kW y2 fromC ix_3)))) := hp0
      have hp1 := hp1.keep (V1 := V6) (fun k h8 h9 => h2 k (by omega))
      have hfr : ∀ k, (k < b ∨ b + 44 ≤ k) → V6 k = V k := fun k hk => (h2 k (by omega)).trans (hfr k hk)
      refine lv_iinc (v := nI (ix_3 + 1)) (lv' := [(4, .int (nI (ix_3 + 1))), (0, .ref (ad b)), (1, .ref (ad b2)), (2, .int (nI fromC)), (3, .int (nI toC))]) hx hb dX1_copyCut_52 hl (k := 4) rfl (nI_inc _) (by decide) rfl (fun ls hl => ?_)
      refine lv_goto (tgt := 27) hx hb dX1_copyCut_55 (by decide) ?_
      exact ihx_3 (ix_3 + 1) (va_up u0_3_3 toC (upd (u0_3_3 toC) ix_3 (kW y2 fromC ix_3))) _ _ _ ls (by omega) (Eq.trans (Eq.symm (by rw [l_X1_copyCut_27] <;> rfl)) hvx_3) hp0 hp1 hfr hP hS (lv_sub hl [1, 2, 3, 4, 0] rfl)
  exact L3 7 0 (kW y) _ _ _ ls (by omega) rfl hp0 hp1 hfr hP hS (lv_sub hl [1, 2, 3, 4, 0] rfl)
theorem o_X1_copyCut : okV yX1_copyCut cX1_copyCut 5 none 3 := ⟨m119, m120, m39, m121, by decide +kernel, by decide +kernel, by decide +kernel⟩
theorem u_X1_copyCut_0_0 {y : CuC} {y2 : CuC} {fromC : Nat} {toC : Nat} : kA (f_X1_copyCut y y2 fromC toC) = kA y := by
  unfold f_X1_copyCut
  (repeat' split) <;> rfl
def rmX1_copyCut_s : Room := { frames := 0, cells := 0, slots := 0, locals := 0 }
def l_X1_copyCut_s_27 (y : CuC) (fromC : Nat) (toC : Nat) : Nat → Nat → (Nat → Nat → Int32) → (Nat → Nat → Int32)
  | 0, ix_3, u0_3_3 => u0_3_3
  | dx_3 + 1, ix_3, u0_3_3 => l_X1_copyCut_s_27 y fromC toC dx_3 (ix_3 + 1) (va_up u0_3_3 toC (upd (u0_3_3 toC) ix_3 (u0_3_3 fromC ix_3)))
def f_X1_copyCut_s (y : CuC) (fromC : Nat) (toC : Nat) : CuC :=
  mkC (kA y) (upd (kC y) toC (kC y fromC)) (upd (kS y) toC (kS y fromC)) (l_X1_copyCut_s_27 y fromC toC 7 0 (kW y))
set_option maxHeartbeats 4000000 in
set_option maxRecDepth 100000 in
theorem c_X1_copyCut_s {l : Launch} {dd : va_G} {t : CL4} {N : Nat} {ad : Nat → Nat} {V : Nat → va_E} {b : Nat} {y : CuC}  (hi : inj N ad) (hp0 : CuP N ad V t b y) (fromC : Nat) (toC : Nat) (h_f : fromC < 40) (h_t : toC < 40) : MV l dd t N ad V yX1_copyCut cX1_copyCut 5 rmX1_copyCut_s [.ref (ad b), .ref (ad b), .int (nI fromC), .int (nI toC)] (fun V1 => (CuP N ad V1 t b (f_X1_copyCut_s y fromC toC)) ∧ (∀ k, (k < b ∨ b + 44 ≤ k) → V1 k = V k)) := by
  refine MV.of (by decide +kernel) ⟨rfl, rfl⟩ (Nat.le_of_ble_eq_true rfl) ?_
  intro p e s m as below meth c Q X H hP hS ls hl kr
  have X : WX p s m as c cX1_copyCut 5 RX1 dd t := X
  have hx := X.1.1
  have hb := X.1.2.1
  have hl : lv_has ls 5 [(0, .ref (ad b)), (1, .ref (ad b)), (2, .int (nI fromC)), (3, .int (nI toC))] := hl
  have hi0_0 := hp0.i0
  have hle0 := hp0.le
  have hfr : ∀ k, (k < b ∨ b + 44 ≤ k) → V k = V k := fun _ _ => rfl
  refine lv_aload_n hx hb dX1_copyCut_0 rfl (lv_at hl 0 rfl) ?_
  refine g_Cu_customers X hP hp0 m60 dX1_copyCut_1 ?_
  refine lv_iload_n hx hb dX1_copyCut_4 rfl (lv_at hl 3 rfl) ?_
  refine lv_aload_n hx hb dX1_copyCut_5 rfl (lv_at hl 1 rfl) ?_
  refine g_Cu_customers X hP hp0 m60 dX1_copyCut_6 ?_
  refine lv_iload_n hx hb dX1_copyCut_9 rfl (lv_at hl 2 rfl) ?_
  refine l_Cu_customers X hP hp0 (by omega) dX1_copyCut_10 ?_
  refine s_Cu_customers X hi hP hS hp0 (by omega) dX1_copyCut_11 (fun V1 H1 locs1 hp0 h2 hP hS => ?_)
  have hp0 : CuP N ad V1 t b (mkC (kA y) (upd (kC y) toC (kC y fromC)) (kS y) (kW y)) := hp0
  have hfr : ∀ k, (k < b ∨ b + 44 ≤ k) → V1 k = V k := fun k hk => (h2 k (by omega)).trans (hfr k hk)
  refine lv_aload_n hx hb dX1_copyCut_12 rfl (lv_at hl 0 rfl) ?_
  refine g_Cu_starts X hP hp0 m61 dX1_copyCut_13 ?_
  refine lv_iload_n hx hb dX1_copyCut_16 rfl (lv_at hl 3 rfl) ?_
  refine lv_aload_n hx hb dX1_copyCut_17 rfl (lv_at hl 1 rfl) ?_
  refine g_Cu_starts X hP hp0 m61 dX1_copyCut_18 ?_
  refine lv_iload_n hx hb dX1_copyCut_21 rfl (lv_at hl 2 rfl) ?_
  refine l_Cu_starts X hP hp0 (by omega) dX1_copyCut_22 ?_
  refine W.eq (g2 := F0 m 23 ls [.int (kS y fromC), .int (nI toC), .ref (ad (b + 2))]) rfl ?_
  refine s_Cu_starts X hi hP hS hp0 (by omega) dX1_copyCut_23 (fun V2 H2 locs2 hp0 h2 hP hS => ?_)
  have hp0 : CuP N ad V2 t b (mkC (kA y) (upd (kC y) toC (kC y fromC)) (upd (kS y) toC (kS y fromC)) (kW y)) := hp0
  have hfr : ∀ k, (k < b ∨ b + 44 ≤ k) → V2 k = V k := fun k hk => (h2 k (by omega)).trans (hfr k hk)
  refine lv_iconst (v := nI 0) hx hb dX1_copyCut_24 (by decide) ?_
  refine lv_istore (lv' := [(4, .int (nI 0)), (0, .ref (ad b)), (1, .ref (ad b)), (2, .int (nI fromC)), (3, .int (nI toC))]) hx hb dX1_copyCut_25 hl (by decide) rfl (fun ls hl => ?_)
  have L3 : ∀ (dx_3 ix_3 : Nat) (u0_3_3 : Nat → Nat → Int32) (V3 : Nat → va_E) (H3 : Heap) (locs3 : List Loc) (ls : Array Slot), (ix_3 + dx_3 = 7) → (l_X1_copyCut_s_27 y fromC toC dx_3 ix_3 u0_3_3 = l_X1_copyCut_s_27 y fromC toC 7 0 (kW y)) → (CuP N ad V3 t b (mkC (kA y) (upd (kC y) toC (kC y fromC)) (upd (kS y) toC (kS y fromC)) u0_3_3)) → (∀ k, (k < b ∨ b + 44 ≤ k) → V3 k = V k) → (HP dd N ad V3 H3) → (va_S (dm N ad H.size) H H3 locs3) → (lv_has ls 5 [(0, .ref (ad b)), (1, .ref (ad b)), (2, .int (nI fromC)), (3, .int (nI toC)), (4, .int (nI ix_3))]) → W p l e rmX1_copyCut_s s m as below meth c H3 locs3 0 0 Q (F0 m 27 ls []) := by
    intro dx_3
    induction dx_3 with
    | zero =>
      intro ix_3 u0_3_3 V3 H3 locs3 ls hid hvx_3 hp0 hfr hP hS hl
      have hiN : 7 = ix_3 := by omega
      subst hiN
      have hvx_3 : u0_3_3 = l_X1_copyCut_s_27 y fromC toC 7 0 (kW y) := hvx_3
      have hh0 : u0_3_3 = l_X1_copyCut_s_27 y fromC toC 7 0 (kW y) := hvx_3
      subst hh0
      refine lv_iload hx hb dX1_copyCut_27 (lv_at hl 4 rfl) ?_
      refine lv_bipush (v := nI 7) hx hb dX1_copyCut_29 (by decide) ?_
      refine q_ge (tgt := 58) hx hb (by omega) (by omega) dX1_copyCut_31 (by decide) (fun c4 => ?_) (fun h => absurd h (by omega))
      have hfin : f_X1_copyCut_s y fromC toC = mkC (kA y) (upd (kC y) toC (kC y fromC)) (upd (kS y) toC (kS y fromC)) (l_X1_copyCut_s_27 y fromC toC 7 0 (kW y)) := (by rw [f_X1_copyCut_s] <;> rfl)
      exact kr 58 ls _ _ _ hP hS ⟨by rw [hfin]; exact hp0, hfr⟩ dX1_copyCut_58
    | succ dx_3 ihx_3 =>
      intro ix_3 u0_3_3 V3 H3 locs3 ls hid hvx_3 hp0 hfr hP hS hl
      refine lv_iload hx hb dX1_copyCut_27 (lv_at hl 4 rfl) ?_
      refine lv_bipush (v := nI 7) hx hb dX1_copyCut_29 (by decide) ?_
      refine q_ge (tgt := 58) hx hb (by omega) (by omega) dX1_copyCut_31 (by decide) (fun h => absurd h (by omega)) (fun c5 => ?_)
      refine lv_aload_n hx hb dX1_copyCut_34 rfl (lv_at hl 0 rfl) ?_
      refine g_Cu_weights X hP hp0 m63 dX1_copyCut_35 ?_
      refine lv_iload_n hx hb dX1_copyCut_38 rfl (lv_at hl 3 rfl) ?_
      refine l_Cu_weights X hP hp0 (by omega) dX1_copyCut_39 ?_
      refine lv_iload hx hb dX1_copyCut_40 (lv_at hl 4 rfl) ?_
      refine lv_aload_n hx hb dX1_copyCut_42 rfl (lv_at hl 1 rfl) ?_
      refine g_Cu_weights X hP hp0 m63 dX1_copyCut_43 ?_
      refine lv_iload_n hx hb dX1_copyCut_46 rfl (lv_at hl 2 rfl) ?_
      refine l_Cu_weights X hP hp0 (by omega) dX1_copyCut_47 ?_
      refine lv_iload hx hb dX1_copyCut_48 (lv_at hl 4 rfl) ?_
      refine l_Cu_weights_row X hP hp0 (by omega) (by omega) dX1_copyCut_50 ?_
      refine s_Cu_weights_row X hi hP hS hp0 (by omega) (by omega) dX1_copyCut_51 (fun V6 H6 locs6 hp0 h2 hP hS => ?_)
      have hp0 : CuP N ad V6 t b (mkC (kA y) (upd (kC y) toC (kC y fromC)) (upd (kS y) toC (kS y fromC)) (va_up u0_3_3 toC (upd (u0_3_3 toC) ix_3 (u0_3_3 fromC ix_3)))) := hp0
      have hfr : ∀ k, (k < b ∨ b + 44 ≤ k) → V6 k = V k := fun k hk => (h2 k (by omega)).trans (hfr k hk)
      refine lv_iinc (v := nI (ix_3 + 1)) (lv' := [(4, .int (nI (ix_3 + 1))), (0, .ref (ad b)), (1, .ref (ad b)), (2, .int (nI fromC)), (3, .int (nI toC))]) hx hb dX1_copyCut_52 hl (k := 4) rfl (nI_inc _) (by decide) rfl (fun ls hl => ?_)
      refine lv_goto (tgt := 27) hx hb dX1_copyCut_55 (by decide) ?_
      exact ihx_3 (ix_3 + 1) (va_up u0_3_3 toC (upd (u0_3_3 toC) ix_3 (u0_3_3 fromC ix_3))) _ _ _ ls (by omega) (Eq.trans (Eq.symm (by rw [l_X1_copyCut_s_27] <;> rfl)) hvx_3) hp0 hfr hP hS (lv_sub hl [1, 2, 3, 4, 0] rfl)
  exact L3 7 0 (kW y) _ _ _ ls (by omega) rfl hp0 hfr hP hS (lv_sub hl [1, 2, 3, 4, 0] rfl)
theorem u_X1_copyCut_s_0_0 {y : CuC} {fromC : Nat} {toC : Nat} : kA (f_X1_copyCut_s y fromC toC) = kA y := by
  unfold f_X1_copyCut_s
  (repeat' split) <;> rfl
def rmX1_copyFrom : Room := { frames := 1, cells := 0, slots := 0, locals := 24 }
def l_X1_copyFrom_10 (y : CuC) (y2 : CuC) : Nat → Nat → (Nat → Int32) → (Nat → Int32) → (Nat → Nat → Int32) → (Nat → Int32) × (Nat → Int32) × (Nat → Nat → Int32)
  | 0, ix_2, u0_1_2, u0_2_2, u0_3_2 => (u0_1_2, u0_2_2, u0_3_2)
  | dx_2 + 1, ix_2, u0_1_2, u0_2_2, u0_3_2 => l_X1_copyFrom_10 y y2 dx_2 (ix_2 + 1) (kC (f_X1_copyCut (mkC (kA y2) u0_1_2 u0_2_2 u0_3_2) y2 ix_2 ix_2)) (kS (f_X1_copyCut (mkC (kA y2) u0_1_2 u0_2_2 u0_3_2) y2 ix_2 ix_2)) (kW (f_X1_copyCut (mkC (kA y2) u0_1_2 u0_2_2 u0_3_2) y2 ix_2 ix_2))
def f_X1_copyFrom (y : CuC) (y2 : CuC) : CuC :=
  mkC (kA y2) ((l_X1_copyFrom_10 y y2 (kA y2) 0 (kC y) (kS y) (kW y)).1) ((l_X1_copyFrom_10 y y2 (kA y2) 0 (kC y) (kS y) (kW y)).2.1) ((l_X1_copyFrom_10 y y2 (kA y2) 0 (kC y) (kS y) (kW y)).2.2)
set_option maxHeartbeats 4000000 in
set_option maxRecDepth 100000 in
theorem c_X1_copyFrom {l : Launch} {dd : va_G} {t : CL4} {N : Nat} {ad : Nat → Nat} {V : Nat → va_E} {b : Nat} {b2 : Nat} {y : CuC} {y2 : CuC}  (hi : inj N ad) (hp0 : CuP N ad V t b y) (hp1 : CuP N ad V t b2 y2)  (hdj : b + 44 ≤ b2 ∨ b2 + 44 ≤ b) : MV l dd t N ad V yX1_copyFrom cX1_copyFrom 3 rmX1_copyFrom [.ref (ad b), .ref (ad b2)] (fun V1 => (CuP N ad V1 t b (f_X1_copyFrom y y2)) ∧ (∀ k, (k < b ∨ b + 44 ≤ k) → V1 k = V k)) := by
  refine MV.of (by decide +kernel) ⟨rfl, rfl⟩ (Nat.le_of_ble_eq_true rfl) ?_
  intro p e s m as below meth c Q X H hP hS ls hl kr
  have X : WX p s m as c cX1_copyFrom 3 RX1 dd t := X
  have hx := X.1.1
  have hb := X.1.2.1
  have hl : lv_has ls 3 [(0, .ref (ad b)), (1, .ref (ad b2))] := hl
  have hi0_0 := hp0.i0
  have hi1_0 := hp1.i0
  have hle0 := hp0.le
  have hle1 := hp1.le
  have hfr : ∀ k, (k < b ∨ b + 44 ≤ k) → V k = V k := fun _ _ => rfl
  refine lv_aload_n hx hb dX1_copyFrom_0 rfl (lv_at hl 0 rfl) ?_
  refine lv_aload_n hx hb dX1_copyFrom_1 rfl (lv_at hl 1 rfl) ?_
  refine g_Cu_amount X hP hp1 m59 dX1_copyFrom_2 ?_
  refine p_Cu_amount X hi hP hS hp0 m59 (v := kA y2) (hv := by omega) dX1_copyFrom_5 (fun V1 H1 locs1 hp0 h2 hP hS => ?_)
  have hp0 : CuP N ad V1 t b (mkC (kA y2) (kC y) (kS y) (kW y)) := hp0
  have hp1 := hp1.keep (V1 := V1) (fun k h8 h9 => h2 k (by omega))
  have hfr : ∀ k, (k < b ∨ b + 44 ≤ k) → V1 k = V k := fun k hk => (h2 k (by omega)).trans (hfr k hk)
  refine lv_iconst (v := nI 0) hx hb dX1_copyFrom_8 (by decide) ?_
  refine lv_istore_n (lv' := [(2, .int (nI 0)), (0, .ref (ad b)), (1, .ref (ad b2))]) hx hb dX1_copyFrom_9 rfl hl (by decide) rfl (fun ls hl => ?_)
  have L2 : ∀ (dx_2 ix_2 : Nat) (u0_1_2 : Nat → Int32) (u0_2_2 : Nat → Int32) (u0_3_2 : Nat → Nat → Int32) (V2 : Nat → va_E) (H2 : Heap) (locs2 : List Loc) (ls : Array Slot), (ix_2 + dx_2 = kA y2) → (l_X1_copyFrom_10 y y2 dx_2 ix_2 u0_1_2 u0_2_2 u0_3_2 = l_X1_copyFrom_10 y y2 (kA y2) 0 (kC y) (kS y) (kW y)) → (CuP N ad V2 t b (mkC (kA y2) u0_1_2 u0_2_2 u0_3_2)) → (CuP N ad V2 t b2 y2) → (∀ k, (k < b ∨ b + 44 ≤ k) → V2 k = V k) → (HP dd N ad V2 H2) → (va_S (dm N ad H.size) H H2 locs2) → (lv_has ls 3 [(0, .ref (ad b)), (1, .ref (ad b2)), (2, .int (nI ix_2))]) → W p l e rmX1_copyFrom s m as below meth c H2 locs2 0 0 Q (F0 m 10 ls []) := by
    intro dx_2
    induction dx_2 with
    | zero =>
      intro ix_2 u0_1_2 u0_2_2 u0_3_2 V2 H2 locs2 ls hid hvx_2 hp0 hp1 hfr hP hS hl
      have hiN : kA y2 = ix_2 := by omega
      subst hiN
      have hvx_2 : (u0_1_2, u0_2_2, u0_3_2) = l_X1_copyFrom_10 y y2 (kA y2) 0 (kC y) (kS y) (kW y) := hvx_2
      have hh0 : u0_1_2 = (l_X1_copyFrom_10 y y2 (kA y2) 0 (kC y) (kS y) (kW y)).1 := congrArg (fun q => (q).1) hvx_2
      have hh1 : u0_2_2 = (l_X1_copyFrom_10 y y2 (kA y2) 0 (kC y) (kS y) (kW y)).2.1 := congrArg (fun q => (q).2.1) hvx_2
      have hh2 : u0_3_2 = (l_X1_copyFrom_10 y y2 (kA y2) 0 (kC y) (kS y) (kW y)).2.2 := congrArg (fun q => (q).2.2) hvx_2
      subst hh0
      subst hh1
      subst hh2
      refine lv_iload_n hx hb dX1_copyFrom_10 rfl (lv_at hl 2 rfl) ?_
      refine lv_aload_n hx hb dX1_copyFrom_11 rfl (lv_at hl 0 rfl) ?_
      refine g_Cu_amount X hP hp0 m59 dX1_copyFrom_12 ?_
      refine W.eq (g2 := F0 m 15 ls [.int (nI (kA y2)), .int (nI (kA y2))]) rfl ?_
      refine q_ge (tgt := 37) hx hb (by omega) (by omega) dX1_copyFrom_15 (by decide) (fun c3 => ?_) (fun h => absurd h (by omega))
      have hfin : f_X1_copyFrom y y2 = mkC (kA y2) ((l_X1_copyFrom_10 y y2 (kA y2) 0 (kC y) (kS y) (kW y)).1) ((l_X1_copyFrom_10 y y2 (kA y2) 0 (kC y) (kS y) (kW y)).2.1) ((l_X1_copyFrom_10 y y2 (kA y2) 0 (kC y) (kS y) (kW y)).2.2) := (by rw [f_X1_copyFrom] <;> rfl)
      exact kr 37 ls _ _ _ hP hS ⟨by rw [hfin]; exact hp0, hfr⟩ dX1_copyFrom_37
    | succ dx_2 ihx_2 =>
      intro ix_2 u0_1_2 u0_2_2 u0_3_2 V2 H2 locs2 ls hid hvx_2 hp0 hp1 hfr hP hS hl
      refine lv_iload_n hx hb dX1_copyFrom_10 rfl (lv_at hl 2 rfl) ?_
      refine lv_aload_n hx hb dX1_copyFrom_11 rfl (lv_at hl 0 rfl) ?_
      refine g_Cu_amount X hP hp0 m59 dX1_copyFrom_12 ?_
      refine W.eq (g2 := F0 m 15 ls [.int (nI (kA y2)), .int (nI ix_2)]) rfl ?_
      refine q_ge (tgt := 37) hx hb (by omega) (by omega) dX1_copyFrom_15 (by decide) (fun h => absurd h (by omega)) (fun c4 => ?_)
      refine lv_iload_n hx hb dX1_copyFrom_18 rfl (lv_at hl 2 rfl) ?_
      refine lv_bipush (v := nI 40) hx hb dX1_copyFrom_19 (by decide) ?_
      refine q_ge (tgt := 37) hx hb (by omega) (by omega) dX1_copyFrom_21 (by decide) (fun h => absurd h (by omega)) (fun c5 => ?_)
      refine lv_aload_n hx hb dX1_copyFrom_24 rfl (lv_at hl 0 rfl) ?_
      refine lv_aload_n hx hb dX1_copyFrom_25 rfl (lv_at hl 1 rfl) ?_
      refine lv_iload_n hx hb dX1_copyFrom_26 rfl (lv_at hl 2 rfl) ?_
      refine lv_iload_n hx hb dX1_copyFrom_27 rfl (lv_at hl 2 rfl) ?_
      refine r_callW (As := [.ref (ad b2), .int (nI ix_2), .int (nI ix_2)]) (rest := []) (ci := 1) X hP hS (c_X1_copyCut hi hp0 hp1 ix_2 ix_2 (by omega) (by omega) (by omega)) o_X1_copyCut rfl hp0.lt hp0.ob m118 ⟨rfl, rfl⟩ ⟨Nat.le_of_ble_eq_true rfl, Nat.le_of_ble_eq_true rfl⟩ rfl hl.1 rfl (Nat.le_of_ble_eq_true rfl) ⟨Nat.zero_le _, Nat.zero_le _⟩ dX1_copyFrom_28 (fun V6 H6 locs6 hq hP hS => ?_)
      obtain ⟨hp0, h2⟩ := hq
      have hp0 : CuP N ad V6 t b (mkC (kA y2) (kC (f_X1_copyCut (mkC (kA y2) u0_1_2 u0_2_2 u0_3_2) y2 ix_2 ix_2)) (kS (f_X1_copyCut (mkC (kA y2) u0_1_2 u0_2_2 u0_3_2) y2 ix_2 ix_2)) (kW (f_X1_copyCut (mkC (kA y2) u0_1_2 u0_2_2 u0_3_2) y2 ix_2 ix_2))) := hp0.ext u_X1_copyCut_0_0 (fun _ _ => rfl) (fun _ _ => rfl) (fun _ _ _ _ => rfl)
      have hi0_0 := hp0.i0
      have hp1 := hp1.keep (V1 := V6) (fun k h8 h9 => h2 k (by omega))
      have hfr : ∀ k, (k < b ∨ b + 44 ≤ k) → V6 k = V k := fun k hk => (h2 k (by omega)).trans (hfr k hk)
      refine lv_iinc (v := nI (ix_2 + 1)) (lv' := [(2, .int (nI (ix_2 + 1))), (0, .ref (ad b)), (1, .ref (ad b2))]) hx hb dX1_copyFrom_31 hl (k := 2) rfl (nI_inc _) (by decide) rfl (fun ls hl => ?_)
      refine lv_goto (tgt := 10) hx hb dX1_copyFrom_34 (by decide) ?_
      exact ihx_2 (ix_2 + 1) (kC (f_X1_copyCut (mkC (kA y2) u0_1_2 u0_2_2 u0_3_2) y2 ix_2 ix_2)) (kS (f_X1_copyCut (mkC (kA y2) u0_1_2 u0_2_2 u0_3_2) y2 ix_2 ix_2)) (kW (f_X1_copyCut (mkC (kA y2) u0_1_2 u0_2_2 u0_3_2) y2 ix_2 ix_2)) _ _ _ ls (by omega) (Eq.trans (Eq.symm (by rw [l_X1_copyFrom_10] <;> rfl)) hvx_2) hp0 hp1 hfr hP hS (lv_sub hl [1, 2, 0] rfl)
  exact L2 (kA y2) 0 (kC y) (kS y) (kW y) _ _ _ ls (by omega) rfl hp0 hp1 hfr hP hS (lv_sub hl [1, 2, 0] rfl)
theorem o_X1_copyFrom : okV yX1_copyFrom cX1_copyFrom 3 none 1 := ⟨m115, m116, m39, m117, by decide +kernel, by decide +kernel, by decide +kernel⟩
def rmX1_appendRay : Room := { frames := 1, cells := 0, slots := 0, locals := 22 }
def l_X1_appendRay_31 (y : CuC) (x : PlC) (customer : Nat) : Nat → Nat → (Nat → Nat → Int32) → (Nat → Nat → Int32)
  | 0, ix_4, u0_3_4 => u0_3_4
  | dx_4 + 1, ix_4, u0_3_4 => (if (f_X3_hasRoute x ix_4 customer) = true then l_X1_appendRay_31 y x customer dx_4 (ix_4 + 1) (va_up u0_3_4 (kA y) (upd (u0_3_4 (kA y)) ix_4 (nI 1))) else l_X1_appendRay_31 y x customer dx_4 (ix_4 + 1) (va_up u0_3_4 (kA y) (upd (u0_3_4 (kA y)) ix_4 (nI 0))))
def f_X1_appendRay (y : CuC) (x : PlC) (customer : Nat) : Int32 × CuC :=
  (if (kA y) < 40 then (nI (kA y), mkC (kA y + 1) (upd (kC y) (kA y) (nI customer)) (upd (kS y) (kA y) (nI 1)) (l_X1_appendRay_31 y x customer (pN x) 0 (kW y))) else ((-3), y))
set_option maxHeartbeats 4000000 in
set_option maxRecDepth 100000 in
theorem c_X1_appendRay {l : Launch} {dd : va_G} {t : CL4} {N : Nat} {ad : Nat → Nat} {V : Nat → va_E} {b : Nat} {b2 : Nat} {y : CuC} {x : PlC}  (hi : inj N ad) (hp0 : CuP N ad V t b y) (hp1 : PlP N ad V t b2 x) (customer : Nat) (hdj : b + 44 ≤ b2 ∨ b2 + 12 ≤ b) (h_cust : customer < pM x) : MM l dd t N ad V yX1_appendRay cX1_appendRay 5 (some .int) rmX1_appendRay [.ref (ad b), .ref (ad b2), .int (nI customer)] (fun r V1 => (r = (f_X1_appendRay y x customer).1) ∧ (CuP N ad V1 t b ((f_X1_appendRay y x customer).2)) ∧ (∀ k, (k < b ∨ b + 44 ≤ k) → V1 k = V k)) := by
  refine MM.of (by decide +kernel) ⟨rfl, rfl⟩ (Nat.le_of_ble_eq_true rfl) rfl ?_
  intro p e s m as below meth c Q X H hP hS ls hl kr
  have X : WX p s m as c cX1_appendRay 5 RX1 dd t := X
  have hx := X.1.1
  have hb := X.1.2.1
  have hl : lv_has ls 5 [(0, .ref (ad b)), (1, .ref (ad b2)), (2, .int (nI customer))] := hl
  have hi0_0 := hp0.i0
  have hi1_0 := hp1.i0
  have hi1_1 := hp1.i1
  have hle0 := hp0.le
  have hle1 := hp1.le
  have hfr : ∀ k, (k < b ∨ b + 44 ≤ k) → V k = V k := fun _ _ => rfl
  refine lv_aload_n hx hb dX1_appendRay_0 rfl (lv_at hl 0 rfl) ?_
  refine g_Cu_amount X hP hp0 m59 dX1_appendRay_1 ?_
  refine lv_istore_n (lv' := [(3, .int (nI (kA y))), (0, .ref (ad b)), (1, .ref (ad b2)), (2, .int (nI customer))]) hx hb dX1_appendRay_4 rfl hl (by decide) rfl (fun ls hl => ?_)
  refine lv_iload_n hx hb dX1_appendRay_5 rfl (lv_at hl 0 rfl) ?_
  refine lv_bipush (v := nI 40) hx hb dX1_appendRay_6 (by decide) ?_
  refine q_lt (tgt := 14) hx hb (by omega) (by omega) dX1_appendRay_8 (by decide) (fun c1 => ?_) (fun c1 => ?_)
  · refine lv_aload_n hx hb dX1_appendRay_14 rfl (lv_at hl 1 rfl) ?_
    refine g_Cu_customers X hP hp0 m60 dX1_appendRay_15 ?_
    refine lv_iload_n hx hb dX1_appendRay_18 rfl (lv_at hl 0 rfl) ?_
    refine lv_iload_n hx hb dX1_appendRay_19 rfl (lv_at hl 3 rfl) ?_
    refine s_Cu_customers X hi hP hS hp0 (by omega) dX1_appendRay_20 (fun V2 H2 locs2 hp0 h2 hP hS => ?_)
    have hp0 : CuP N ad V2 t b (mkC (kA y) (upd (kC y) (kA y) (nI customer)) (kS y) (kW y)) := hp0
    have hp1 := hp1.keep (V1 := V2) (fun k h8 h9 => h2 k (by omega))
    have hfr : ∀ k, (k < b ∨ b + 44 ≤ k) → V2 k = V k := fun k hk => (h2 k (by omega)).trans (hfr k hk)
    refine lv_aload_n hx hb dX1_appendRay_21 rfl (lv_at hl 1 rfl) ?_
    refine g_Cu_starts X hP hp0 m61 dX1_appendRay_22 ?_
    refine lv_iload_n hx hb dX1_appendRay_25 rfl (lv_at hl 0 rfl) ?_
    refine lv_iconst (v := nI 1) hx hb dX1_appendRay_26 (by decide) ?_
    refine s_Cu_starts X hi hP hS hp0 (by omega) dX1_appendRay_27 (fun V3 H3 locs3 hp0 h2 hP hS => ?_)
    have hp0 : CuP N ad V3 t b (mkC (kA y) (upd (kC y) (kA y) (nI customer)) (upd (kS y) (kA y) (nI 1)) (kW y)) := hp0
    have hp1 := hp1.keep (V1 := V3) (fun k h8 h9 => h2 k (by omega))
    have hfr : ∀ k, (k < b ∨ b + 44 ≤ k) → V3 k = V k := fun k hk => (h2 k (by omega)).trans (hfr k hk)
    refine lv_iconst (v := nI 0) hx hb dX1_appendRay_28 (by decide) ?_
    refine lv_istore (lv' := [(4, .int (nI 0)), (3, .int (nI (kA y))), (0, .ref (ad b)), (1, .ref (ad b2)), (2, .int (nI customer))]) hx hb dX1_appendRay_29 hl (by decide) rfl (fun ls hl => ?_)
    have L4 : ∀ (dx_4 ix_4 : Nat) (u0_3_4 : Nat → Nat → Int32) (V4 : Nat → va_E) (H4 : Heap) (locs4 : List Loc) (ls : Array Slot), (ix_4 + dx_4 = pN x) → (l_X1_appendRay_31 y x customer dx_4 ix_4 u0_3_4 = l_X1_appendRay_31 y x customer (pN x) 0 (kW y)) → (CuP N ad V4 t b (mkC (kA y) (upd (kC y) (kA y) (nI customer)) (upd (kS y) (kA y) (nI 1)) u0_3_4)) → (PlP N ad V4 t b2 x) → (∀ k, (k < b ∨ b + 44 ≤ k) → V4 k = V k) → (HP dd N ad V4 H4) → (va_S (dm N ad H.size) H H4 locs4) → (lv_has ls 5 [(0, .ref (ad b)), (1, .ref (ad b2)), (2, .int (nI customer)), (3, .int (nI (kA y))), (4, .int (nI ix_4))]) → W p l e rmX1_appendRay s m as below meth c H4 locs4 0 0 Q (F0 m 31 ls []) := by
      intro dx_4
      induction dx_4 with
      | zero =>
        intro ix_4 u0_3_4 V4 H4 locs4 ls hid hvx_4 hp0 hp1 hfr hP hS hl
        have hiN : pN x = ix_4 := by omega
        subst hiN
        have hvx_4 : u0_3_4 = l_X1_appendRay_31 y x customer (pN x) 0 (kW y) := hvx_4
        have hh0 : u0_3_4 = l_X1_appendRay_31 y x customer (pN x) 0 (kW y) := hvx_4
        subst hh0
        refine lv_iload hx hb dX1_appendRay_31 (lv_at hl 4 rfl) ?_
        refine lv_aload_n hx hb dX1_appendRay_33 rfl (lv_at hl 1 rfl) ?_
        refine g_Pl_siteCount X hP hp1 m358 dX1_appendRay_34 ?_
        refine q_ge (tgt := 70) hx hb (by omega) (by omega) dX1_appendRay_37 (by decide) (fun c5 => ?_) (fun h => absurd h (by omega))
        refine lv_aload_n hx hb dX1_appendRay_70 rfl (lv_at hl 0 rfl) ?_
        refine lv_dup hx hb dX1_appendRay_71 rfl ?_
        refine g_Cu_amount X hP hp0 m59 dX1_appendRay_72 ?_
        refine W.eq (g2 := F0 m 75 ls [.int (nI (kA y)), .ref (ad b)]) rfl ?_
        refine lv_iconst (v := nI 1) hx hb dX1_appendRay_75 (by decide) ?_
        refine q_iadd hx hb dX1_appendRay_76 ?_
        refine W.eq (g2 := F0 m 77 ls [.int (nI (kA y + 1)), .ref (ad b)]) rfl ?_
        refine p_Cu_amount X hi hP hS hp0 m59 (v := kA y + 1) (hv := by omega) dX1_appendRay_77 (fun V6 H6 locs6 hp0 h2 hP hS => ?_)
        have hp0 : CuP N ad V6 t b (mkC (kA y + 1) (upd (kC y) (kA y) (nI customer)) (upd (kS y) (kA y) (nI 1)) (l_X1_appendRay_31 y x customer (pN x) 0 (kW y))) := hp0
        have hp1 := hp1.keep (V1 := V6) (fun k h8 h9 => h2 k (by omega))
        have hfr : ∀ k, (k < b ∨ b + 44 ≤ k) → V6 k = V k := fun k hk => (h2 k (by omega)).trans (hfr k hk)
        refine lv_iload_n hx hb dX1_appendRay_80 rfl (lv_at hl 3 rfl) ?_
        have hfin : f_X1_appendRay y x customer = (nI (kA y), mkC (kA y + 1) (upd (kC y) (kA y) (nI customer)) (upd (kS y) (kA y) (nI 1)) (l_X1_appendRay_31 y x customer (pN x) 0 (kW y))) := (by rw [f_X1_appendRay, if_pos c1] <;> rfl)
        exact kr 81 ls _ _ _ _ hP hS rfl ⟨by rw [hfin] <;> rfl, by rw [hfin]; exact hp0, hfr⟩ dX1_appendRay_81
      | succ dx_4 ihx_4 =>
        intro ix_4 u0_3_4 V4 H4 locs4 ls hid hvx_4 hp0 hp1 hfr hP hS hl
        refine lv_iload hx hb dX1_appendRay_31 (lv_at hl 4 rfl) ?_
        refine lv_aload_n hx hb dX1_appendRay_33 rfl (lv_at hl 1 rfl) ?_
        refine g_Pl_siteCount X hP hp1 m358 dX1_appendRay_34 ?_
        refine q_ge (tgt := 70) hx hb (by omega) (by omega) dX1_appendRay_37 (by decide) (fun h => absurd h (by omega)) (fun c7 => ?_)
        refine lv_aload_n hx hb dX1_appendRay_40 rfl (lv_at hl 0 rfl) ?_
        refine g_Cu_weights X hP hp0 m63 dX1_appendRay_41 ?_
        refine lv_iload_n hx hb dX1_appendRay_44 rfl (lv_at hl 3 rfl) ?_
        refine l_Cu_weights X hP hp0 (by omega) dX1_appendRay_45 ?_
        refine lv_iload hx hb dX1_appendRay_46 (lv_at hl 4 rfl) ?_
        refine lv_aload_n hx hb dX1_appendRay_48 rfl (lv_at hl 1 rfl) ?_
        refine lv_iload hx hb dX1_appendRay_49 (lv_at hl 4 rfl) ?_
        refine lv_iload_n hx hb dX1_appendRay_51 rfl (lv_at hl 2 rfl) ?_
        refine r_call (As := [.int (nI ix_4), .int (nI customer)]) (rest := [.int (nI ix_4), .ref (ad (b + 4 + (kA y)))]) (ci := 3) X hP (c_X3_hasRoute hp1 ix_4 customer (by omega) (by omega)) o_X3_hasRoute rfl hp1.lt hp1.ob m359 ⟨rfl, rfl⟩ ⟨Nat.le_of_ble_eq_true rfl, Nat.le_of_ble_eq_true rfl⟩ rfl hl.1 rfl (Nat.le_of_ble_eq_true rfl) ⟨Nat.zero_le _, Nat.zero_le _⟩ dX1_appendRay_52 ?_
        refine q_eqB (tgt := 62) hx hb dX1_appendRay_55 (by decide) (fun c8 => ?_) (fun c8 => ?_)
        · refine lv_iconst (v := nI 0) hx hb dX1_appendRay_62 (by decide) ?_
          refine s_Cu_weights_row X hi hP hS hp0 (by omega) (by omega) dX1_appendRay_63 (fun V9 H9 locs9 hp0 h2 hP hS => ?_)
          have hp0 : CuP N ad V9 t b (mkC (kA y) (upd (kC y) (kA y) (nI customer)) (upd (kS y) (kA y) (nI 1)) (va_up u0_3_4 (kA y) (upd (u0_3_4 (kA y)) ix_4 (nI 0)))) := hp0
          have hp1 := hp1.keep (V1 := V9) (fun k h8 h9 => h2 k (by omega))
          have hfr : ∀ k, (k < b ∨ b + 44 ≤ k) → V9 k = V k := fun k hk => (h2 k (by omega)).trans (hfr k hk)
          refine lv_iinc (v := nI (ix_4 + 1)) (lv' := [(4, .int (nI (ix_4 + 1))), (0, .ref (ad b)), (1, .ref (ad b2)), (2, .int (nI customer)), (3, .int (nI (kA y)))]) hx hb dX1_appendRay_64 hl (k := 4) rfl (nI_inc _) (by decide) rfl (fun ls hl => ?_)
          refine lv_goto (tgt := 31) hx hb dX1_appendRay_67 (by decide) ?_
          exact ihx_4 (ix_4 + 1) (va_up u0_3_4 (kA y) (upd (u0_3_4 (kA y)) ix_4 (nI 0))) _ _ _ ls (by omega) (Eq.trans (Eq.symm (by rw [l_X1_appendRay_31, if_neg (nt c8)] <;> rfl)) hvx_4) hp0 hp1 hfr hP hS (lv_sub hl [1, 2, 3, 4, 0] rfl)
        · refine lv_iconst (v := nI 1) hx hb dX1_appendRay_58 (by decide) ?_
          refine lv_goto (tgt := 63) hx hb dX1_appendRay_59 (by decide) ?_
          refine s_Cu_weights_row X hi hP hS hp0 (by omega) (by omega) dX1_appendRay_63 (fun V10 H10 locs10 hp0 h2 hP hS => ?_)
          have hp0 : CuP N ad V10 t b (mkC (kA y) (upd (kC y) (kA y) (nI customer)) (upd (kS y) (kA y) (nI 1)) (va_up u0_3_4 (kA y) (upd (u0_3_4 (kA y)) ix_4 (nI 1)))) := hp0
          have hp1 := hp1.keep (V1 := V10) (fun k h8 h9 => h2 k (by omega))
          have hfr : ∀ k, (k < b ∨ b + 44 ≤ k) → V10 k = V k := fun k hk => (h2 k (by omega)).trans (hfr k hk)
          refine lv_iinc (v := nI (ix_4 + 1)) (lv' := [(4, .int (nI (ix_4 + 1))), (0, .ref (ad b)), (1, .ref (ad b2)), (2, .int (nI customer)), (3, .int (nI (kA y)))]) hx hb dX1_appendRay_64 hl (k := 4) rfl (nI_inc _) (by decide) rfl (fun ls hl => ?_)
          refine lv_goto (tgt := 31) hx hb dX1_appendRay_67 (by decide) ?_
          exact ihx_4 (ix_4 + 1) (va_up u0_3_4 (kA y) (upd (u0_3_4 (kA y)) ix_4 (nI 1))) _ _ _ ls (by omega) (Eq.trans (Eq.symm (by rw [l_X1_appendRay_31, if_pos c8] <;> rfl)) hvx_4) hp0 hp1 hfr hP hS (lv_sub hl [1, 2, 3, 4, 0] rfl)
    exact L4 (pN x) 0 (kW y) _ _ _ ls (by omega) rfl hp0 hp1 hfr hP hS (lv_sub hl [2, 3, 4, 1, 0] rfl)
  · refine lv_bipush (v := (-3)) hx hb dX1_appendRay_11 (by decide) ?_
    have hfin : f_X1_appendRay y x customer = ((-3), y) := (by rw [f_X1_appendRay, if_neg (Nat.not_lt.mpr c1)] <;> rfl)
    exact kr 13 ls _ _ _ _ hP hS rfl ⟨by rw [hfin] <;> rfl, by rw [hfin]; exact hp0, hfr⟩ dX1_appendRay_13
theorem o_X1_appendRay : okV yX1_appendRay cX1_appendRay 5 (some .int) 2 := ⟨m355, m356, m39, m357, by decide +kernel, by decide +kernel, by decide +kernel⟩
def rmX1_appendPriceCut : Room := { frames := 2, cells := 0, slots := 0, locals := 40 }
def l_X1_appendPriceCut_70 (y : CuC) (x : PlC) (nu : Nat → Int32) : Nat → Nat → (Nat → Nat → Int32) → (Nat → Nat → Int32)
  | 0, ix_6, u0_3_6 => u0_3_6
  | dx_6 + 1, ix_6, u0_3_6 => l_X1_appendPriceCut_70 y x nu dx_6 (ix_6 + 1) (va_up u0_3_6 (kA y) (upd (u0_3_6 (kA y)) ix_6 (f_X1_savedBy x nu ix_6)))
def l_X1_appendPriceCut_31 (y : CuC) (x : PlC) (nu : Nat → Int32) : Nat → Nat → (Nat → Int32) → (Nat → Int32)
  | 0, ix_4, u0_2_4 => u0_2_4
  | dx_4 + 1, ix_4, u0_2_4 => l_X1_appendPriceCut_31 y x nu dx_4 (ix_4 + 1) (upd u0_2_4 (kA y) ((u0_2_4 (kA y)) + ((pD x ix_4) * (nu ix_4))))
def f_X1_appendPriceCut (y : CuC) (x : PlC) (nu : Nat → Int32) : Int32 × CuC :=
  (if (kA y) < 40 then (nI (kA y), mkC (kA y + 1) (upd (kC y) (kA y) (-1)) (l_X1_appendPriceCut_31 y x nu (pM x) 0 (upd (kS y) (kA y) (nI 0))) (l_X1_appendPriceCut_70 y x nu (pN x) 0 (kW y))) else ((-3), y))
set_option maxHeartbeats 4000000 in
set_option maxRecDepth 100000 in
theorem c_X1_appendPriceCut {l : Launch} {dd : va_G} {t : CL4} {N : Nat} {ad : Nat → Nat} {V : Nat → va_E} {b : Nat} {b2 : Nat} {q : Nat} {y : CuC} {x : PlC} {nu : Nat → Int32}  (hi : inj N ad) (hp0 : CuP N ad V t b y) (hp1 : PlP N ad V t b2 x) (hp2 : NuP N V t q nu)  (hdj : b + 44 ≤ b2 ∨ b2 + 12 ≤ b) (hq : q < b ∨ b + 44 ≤ q) : MM l dd t N ad V yX1_appendPriceCut cX1_appendPriceCut 5 (some .int) rmX1_appendPriceCut [.ref (ad b), .ref (ad b2), .ref (ad q)] (fun r V1 => (r = (f_X1_appendPriceCut y x nu).1) ∧ (CuP N ad V1 t b ((f_X1_appendPriceCut y x nu).2)) ∧ (∀ k, (k < b ∨ b + 44 ≤ k) → V1 k = V k)) := by
  refine MM.of (by decide +kernel) ⟨rfl, rfl⟩ (Nat.le_of_ble_eq_true rfl) rfl ?_
  intro p e s m as below meth c Q X H hP hS ls hl kr
  have X : WX p s m as c cX1_appendPriceCut 5 RX1 dd t := X
  have hx := X.1.1
  have hb := X.1.2.1
  have hl : lv_has ls 5 [(0, .ref (ad b)), (1, .ref (ad b2)), (2, .ref (ad q))] := hl
  have hi0_0 := hp0.i0
  have hi1_0 := hp1.i0
  have hi1_1 := hp1.i1
  have hle0 := hp0.le
  have hle1 := hp1.le
  have hle2 := hp2.1
  have hfr : ∀ k, (k < b ∨ b + 44 ≤ k) → V k = V k := fun _ _ => rfl
  refine lv_aload_n hx hb dX1_appendPriceCut_0 rfl (lv_at hl 0 rfl) ?_
  refine g_Cu_amount X hP hp0 m59 dX1_appendPriceCut_1 ?_
  refine lv_istore_n (lv' := [(3, .int (nI (kA y))), (0, .ref (ad b)), (1, .ref (ad b2)), (2, .ref (ad q))]) hx hb dX1_appendPriceCut_4 rfl hl (by decide) rfl (fun ls hl => ?_)
  refine lv_iload_n hx hb dX1_appendPriceCut_5 rfl (lv_at hl 0 rfl) ?_
  refine lv_bipush (v := nI 40) hx hb dX1_appendPriceCut_6 (by decide) ?_
  refine q_lt (tgt := 14) hx hb (by omega) (by omega) dX1_appendPriceCut_8 (by decide) (fun c1 => ?_) (fun c1 => ?_)
  · refine lv_aload_n hx hb dX1_appendPriceCut_14 rfl (lv_at hl 1 rfl) ?_
    refine g_Cu_customers X hP hp0 m60 dX1_appendPriceCut_15 ?_
    refine lv_iload_n hx hb dX1_appendPriceCut_18 rfl (lv_at hl 0 rfl) ?_
    refine lv_iconst (v := (-1)) hx hb dX1_appendPriceCut_19 (by decide) ?_
    refine s_Cu_customers X hi hP hS hp0 (by omega) dX1_appendPriceCut_20 (fun V2 H2 locs2 hp0 h2 hP hS => ?_)
    have hp0 : CuP N ad V2 t b (mkC (kA y) (upd (kC y) (kA y) (-1)) (kS y) (kW y)) := hp0
    have hp1 := hp1.keep (V1 := V2) (fun k h8 h9 => h2 k (by omega))
    have hp2 := hp2.keep (V1 := V2) (fun k h8 h9 => h2 k (by omega))
    have hfr : ∀ k, (k < b ∨ b + 44 ≤ k) → V2 k = V k := fun k hk => (h2 k (by omega)).trans (hfr k hk)
    refine lv_aload_n hx hb dX1_appendPriceCut_21 rfl (lv_at hl 1 rfl) ?_
    refine g_Cu_starts X hP hp0 m61 dX1_appendPriceCut_22 ?_
    refine lv_iload_n hx hb dX1_appendPriceCut_25 rfl (lv_at hl 0 rfl) ?_
    refine lv_iconst (v := nI 0) hx hb dX1_appendPriceCut_26 (by decide) ?_
    refine s_Cu_starts X hi hP hS hp0 (by omega) dX1_appendPriceCut_27 (fun V3 H3 locs3 hp0 h2 hP hS => ?_)
    have hp0 : CuP N ad V3 t b (mkC (kA y) (upd (kC y) (kA y) (-1)) (upd (kS y) (kA y) (nI 0)) (kW y)) := hp0
    have hp1 := hp1.keep (V1 := V3) (fun k h8 h9 => h2 k (by omega))
    have hp2 := hp2.keep (V1 := V3) (fun k h8 h9 => h2 k (by omega))
    have hfr : ∀ k, (k < b ∨ b + 44 ≤ k) → V3 k = V k := fun k hk => (h2 k (by omega)).trans (hfr k hk)
    refine lv_iconst (v := nI 0) hx hb dX1_appendPriceCut_28 (by decide) ?_
    refine lv_istore (lv' := [(4, .int (nI 0)), (3, .int (nI (kA y))), (0, .ref (ad b)), (1, .ref (ad b2)), (2, .ref (ad q))]) hx hb dX1_appendPriceCut_29 hl (by decide) rfl (fun ls hl => ?_)
    have L4 : ∀ (dx_4 ix_4 : Nat) (u0_2_4 : Nat → Int32) (V4 : Nat → va_E) (H4 : Heap) (locs4 : List Loc) (ls : Array Slot), (ix_4 + dx_4 = pM x) → (l_X1_appendPriceCut_31 y x nu dx_4 ix_4 u0_2_4 = l_X1_appendPriceCut_31 y x nu (pM x) 0 (upd (kS y) (kA y) (nI 0))) → (CuP N ad V4 t b (mkC (kA y) (upd (kC y) (kA y) (-1)) u0_2_4 (kW y))) → (PlP N ad V4 t b2 x) → (NuP N V4 t q nu) → (∀ k, (k < b ∨ b + 44 ≤ k) → V4 k = V k) → (HP dd N ad V4 H4) → (va_S (dm N ad H.size) H H4 locs4) → (lv_has ls 5 [(0, .ref (ad b)), (1, .ref (ad b2)), (2, .ref (ad q)), (3, .int (nI (kA y))), (4, .int (nI ix_4))]) → W p l e rmX1_appendPriceCut s m as below meth c H4 locs4 0 0 Q (F0 m 31 ls []) := by
      intro dx_4
      induction dx_4 with
      | zero =>
        intro ix_4 u0_2_4 V4 H4 locs4 ls hid hvx_4 hp0 hp1 hp2 hfr hP hS hl
        have hiN : pM x = ix_4 := by omega
        subst hiN
        have hvx_4 : u0_2_4 = l_X1_appendPriceCut_31 y x nu (pM x) 0 (upd (kS y) (kA y) (nI 0)) := hvx_4
        have hh0 : u0_2_4 = l_X1_appendPriceCut_31 y x nu (pM x) 0 (upd (kS y) (kA y) (nI 0)) := hvx_4
        subst hh0
        refine lv_iload hx hb dX1_appendPriceCut_31 (lv_at hl 4 rfl) ?_
        refine lv_aload_n hx hb dX1_appendPriceCut_33 rfl (lv_at hl 1 rfl) ?_
        refine g_Pl_customerCount X hP hp1 m372 dX1_appendPriceCut_34 ?_
        refine q_ge (tgt := 67) hx hb (by omega) (by omega) dX1_appendPriceCut_37 (by decide) (fun c5 => ?_) (fun h => absurd h (by omega))
        refine lv_iconst (v := nI 0) hx hb dX1_appendPriceCut_67 (by decide) ?_
        refine lv_istore (lv' := [(4, .int (nI 0)), (0, .ref (ad b)), (1, .ref (ad b2)), (2, .ref (ad q)), (3, .int (nI (kA y)))]) hx hb dX1_appendPriceCut_68 hl (by decide) rfl (fun ls hl => ?_)
        have L6 : ∀ (dx_6 ix_6 : Nat) (u0_3_6 : Nat → Nat → Int32) (V6 : Nat → va_E) (H6 : Heap) (locs6 : List Loc) (ls : Array Slot), (ix_6 + dx_6 = pN x) → (l_X1_appendPriceCut_70 y x nu dx_6 ix_6 u0_3_6 = l_X1_appendPriceCut_70 y x nu (pN x) 0 (kW y)) → (CuP N ad V6 t b (mkC (kA y) (upd (kC y) (kA y) (-1)) (l_X1_appendPriceCut_31 y x nu (pM x) 0 (upd (kS y) (kA y) (nI 0))) u0_3_6)) → (PlP N ad V6 t b2 x) → (NuP N V6 t q nu) → (∀ k, (k < b ∨ b + 44 ≤ k) → V6 k = V k) → (HP dd N ad V6 H6) → (va_S (dm N ad H.size) H H6 locs6) → (lv_has ls 5 [(0, .ref (ad b)), (1, .ref (ad b2)), (2, .ref (ad q)), (3, .int (nI (kA y))), (4, .int (nI ix_6))]) → W p l e rmX1_appendPriceCut s m as below meth c H6 locs6 0 0 Q (F0 m 70 ls []) := by
          intro dx_6
          induction dx_6 with
          | zero =>
            intro ix_6 u0_3_6 V6 H6 locs6 ls hid hvx_6 hp0 hp1 hp2 hfr hP hS hl
            have hiN : pN x = ix_6 := by omega
            subst hiN
            have hvx_6 : u0_3_6 = l_X1_appendPriceCut_70 y x nu (pN x) 0 (kW y) := hvx_6
            have hh0 : u0_3_6 = l_X1_appendPriceCut_70 y x nu (pN x) 0 (kW y) := hvx_6
            subst hh0
            refine lv_iload hx hb dX1_appendPriceCut_70 (lv_at hl 4 rfl) ?_
            refine lv_aload_n hx hb dX1_appendPriceCut_72 rfl (lv_at hl 1 rfl) ?_
            refine g_Pl_siteCount X hP hp1 m358 dX1_appendPriceCut_73 ?_
            refine q_ge (tgt := 101) hx hb (by omega) (by omega) dX1_appendPriceCut_76 (by decide) (fun c7 => ?_) (fun h => absurd h (by omega))
            refine lv_aload_n hx hb dX1_appendPriceCut_101 rfl (lv_at hl 0 rfl) ?_
            refine lv_dup hx hb dX1_appendPriceCut_102 rfl ?_
            refine g_Cu_amount X hP hp0 m59 dX1_appendPriceCut_103 ?_
            refine W.eq (g2 := F0 m 106 ls [.int (nI (kA y)), .ref (ad b)]) rfl ?_
            refine lv_iconst (v := nI 1) hx hb dX1_appendPriceCut_106 (by decide) ?_
            refine q_iadd hx hb dX1_appendPriceCut_107 ?_
            refine W.eq (g2 := F0 m 108 ls [.int (nI (kA y + 1)), .ref (ad b)]) rfl ?_
            refine p_Cu_amount X hi hP hS hp0 m59 (v := kA y + 1) (hv := by omega) dX1_appendPriceCut_108 (fun V8 H8 locs8 hp0 h2 hP hS => ?_)
            have hp0 : CuP N ad V8 t b (mkC (kA y + 1) (upd (kC y) (kA y) (-1)) (l_X1_appendPriceCut_31 y x nu (pM x) 0 (upd (kS y) (kA y) (nI 0))) (l_X1_appendPriceCut_70 y x nu (pN x) 0 (kW y))) := hp0
            have hp1 := hp1.keep (V1 := V8) (fun k h8 h9 => h2 k (by omega))
            have hp2 := hp2.keep (V1 := V8) (fun k h8 h9 => h2 k (by omega))
            have hfr : ∀ k, (k < b ∨ b + 44 ≤ k) → V8 k = V k := fun k hk => (h2 k (by omega)).trans (hfr k hk)
            refine lv_iload_n hx hb dX1_appendPriceCut_111 rfl (lv_at hl 3 rfl) ?_
            have hfin : f_X1_appendPriceCut y x nu = (nI (kA y), mkC (kA y + 1) (upd (kC y) (kA y) (-1)) (l_X1_appendPriceCut_31 y x nu (pM x) 0 (upd (kS y) (kA y) (nI 0))) (l_X1_appendPriceCut_70 y x nu (pN x) 0 (kW y))) := (by rw [f_X1_appendPriceCut, if_pos c1] <;> rfl)
            exact kr 112 ls _ _ _ _ hP hS rfl ⟨by rw [hfin] <;> rfl, by rw [hfin]; exact hp0, hfr⟩ dX1_appendPriceCut_112
          | succ dx_6 ihx_6 =>
            intro ix_6 u0_3_6 V6 H6 locs6 ls hid hvx_6 hp0 hp1 hp2 hfr hP hS hl
            refine lv_iload hx hb dX1_appendPriceCut_70 (lv_at hl 4 rfl) ?_
            refine lv_aload_n hx hb dX1_appendPriceCut_72 rfl (lv_at hl 1 rfl) ?_
            refine g_Pl_siteCount X hP hp1 m358 dX1_appendPriceCut_73 ?_
            refine q_ge (tgt := 101) hx hb (by omega) (by omega) dX1_appendPriceCut_76 (by decide) (fun h => absurd h (by omega)) (fun c9 => ?_)
            refine lv_aload_n hx hb dX1_appendPriceCut_79 rfl (lv_at hl 0 rfl) ?_
            refine g_Cu_weights X hP hp0 m63 dX1_appendPriceCut_80 ?_
            refine lv_iload_n hx hb dX1_appendPriceCut_83 rfl (lv_at hl 3 rfl) ?_
            refine l_Cu_weights X hP hp0 (by omega) dX1_appendPriceCut_84 ?_
            refine lv_iload hx hb dX1_appendPriceCut_85 (lv_at hl 4 rfl) ?_
            refine lv_aload_n hx hb dX1_appendPriceCut_87 rfl (lv_at hl 1 rfl) ?_
            refine lv_iload hx hb dX1_appendPriceCut_88 (lv_at hl 4 rfl) ?_
            refine lv_aload_n hx hb dX1_appendPriceCut_90 rfl (lv_at hl 2 rfl) ?_
            refine r_callS (As := [.ref (ad b2), .int (nI ix_6), .ref (ad q)]) (rest := [.int (nI ix_6), .ref (ad (b + 4 + (kA y)))]) X hP (c_X1_savedBy hp1 hp2 ix_6 (by omega)) o_X1_savedBy m374 ⟨rfl, rfl⟩ ⟨Nat.le_of_ble_eq_true rfl, Nat.le_of_ble_eq_true rfl⟩ rfl hl.1 rfl (Nat.le_of_ble_eq_true rfl) ⟨Nat.zero_le _, Nat.zero_le _⟩ dX1_appendPriceCut_91 ?_
            refine s_Cu_weights_row X hi hP hS hp0 (by omega) (by omega) dX1_appendPriceCut_94 (fun V10 H10 locs10 hp0 h2 hP hS => ?_)
            have hp0 : CuP N ad V10 t b (mkC (kA y) (upd (kC y) (kA y) (-1)) (l_X1_appendPriceCut_31 y x nu (pM x) 0 (upd (kS y) (kA y) (nI 0))) (va_up u0_3_6 (kA y) (upd (u0_3_6 (kA y)) ix_6 (f_X1_savedBy x nu ix_6)))) := hp0
            have hp1 := hp1.keep (V1 := V10) (fun k h8 h9 => h2 k (by omega))
            have hp2 := hp2.keep (V1 := V10) (fun k h8 h9 => h2 k (by omega))
            have hfr : ∀ k, (k < b ∨ b + 44 ≤ k) → V10 k = V k := fun k hk => (h2 k (by omega)).trans (hfr k hk)
            refine lv_iinc (v := nI (ix_6 + 1)) (lv' := [(4, .int (nI (ix_6 + 1))), (0, .ref (ad b)), (1, .ref (ad b2)), (2, .ref (ad q)), (3, .int (nI (kA y)))]) hx hb dX1_appendPriceCut_95 hl (k := 4) rfl (nI_inc _) (by decide) rfl (fun ls hl => ?_)
            refine lv_goto (tgt := 70) hx hb dX1_appendPriceCut_98 (by decide) ?_
            exact ihx_6 (ix_6 + 1) (va_up u0_3_6 (kA y) (upd (u0_3_6 (kA y)) ix_6 (f_X1_savedBy x nu ix_6))) _ _ _ ls (by omega) (Eq.trans (Eq.symm (by rw [l_X1_appendPriceCut_70] <;> rfl)) hvx_6) hp0 hp1 hp2 hfr hP hS (lv_sub hl [1, 2, 3, 4, 0] rfl)
        exact L6 (pN x) 0 (kW y) _ _ _ ls (by omega) rfl hp0 hp1 hp2 hfr hP hS (lv_sub hl [1, 2, 3, 4, 0] rfl)
      | succ dx_4 ihx_4 =>
        intro ix_4 u0_2_4 V4 H4 locs4 ls hid hvx_4 hp0 hp1 hp2 hfr hP hS hl
        refine lv_iload hx hb dX1_appendPriceCut_31 (lv_at hl 4 rfl) ?_
        refine lv_aload_n hx hb dX1_appendPriceCut_33 rfl (lv_at hl 1 rfl) ?_
        refine g_Pl_customerCount X hP hp1 m372 dX1_appendPriceCut_34 ?_
        refine q_ge (tgt := 67) hx hb (by omega) (by omega) dX1_appendPriceCut_37 (by decide) (fun h => absurd h (by omega)) (fun c11 => ?_)
        refine lv_aload_n hx hb dX1_appendPriceCut_40 rfl (lv_at hl 0 rfl) ?_
        refine g_Cu_starts X hP hp0 m61 dX1_appendPriceCut_41 ?_
        refine lv_iload_n hx hb dX1_appendPriceCut_44 rfl (lv_at hl 3 rfl) ?_
        refine lv_dup2_11 hx hb dX1_appendPriceCut_45 rfl rfl ?_
        refine l_Cu_starts X hP hp0 (by omega) dX1_appendPriceCut_46 ?_
        refine W.eq (g2 := F0 m 47 ls [.int (u0_2_4 (kA y)), .int (nI (kA y)), .ref (ad (b + 2))]) rfl ?_
        refine lv_aload_n hx hb dX1_appendPriceCut_47 rfl (lv_at hl 1 rfl) ?_
        refine g_Pl_demands X hP hp1 m373 dX1_appendPriceCut_48 ?_
        refine lv_iload hx hb dX1_appendPriceCut_51 (lv_at hl 4 rfl) ?_
        refine l_Pl_demands X hP hp1 (by omega) dX1_appendPriceCut_53 ?_
        refine lv_aload_n hx hb dX1_appendPriceCut_54 rfl (lv_at hl 2 rfl) ?_
        refine lv_iload hx hb dX1_appendPriceCut_55 (lv_at hl 4 rfl) ?_
        refine a_nld X hP hp2 (by omega) dX1_appendPriceCut_57 ?_
        refine lv_imul hx hb dX1_appendPriceCut_58 ?_
        refine lv_iadd hx hb dX1_appendPriceCut_59 ?_
        refine s_Cu_starts X hi hP hS hp0 (by omega) dX1_appendPriceCut_60 (fun V12 H12 locs12 hp0 h2 hP hS => ?_)
        have hp0 : CuP N ad V12 t b (mkC (kA y) (upd (kC y) (kA y) (-1)) (upd u0_2_4 (kA y) ((u0_2_4 (kA y)) + ((pD x ix_4) * (nu ix_4)))) (kW y)) := hp0
        have hp1 := hp1.keep (V1 := V12) (fun k h8 h9 => h2 k (by omega))
        have hp2 := hp2.keep (V1 := V12) (fun k h8 h9 => h2 k (by omega))
        have hfr : ∀ k, (k < b ∨ b + 44 ≤ k) → V12 k = V k := fun k hk => (h2 k (by omega)).trans (hfr k hk)
        refine lv_iinc (v := nI (ix_4 + 1)) (lv' := [(4, .int (nI (ix_4 + 1))), (0, .ref (ad b)), (1, .ref (ad b2)), (2, .ref (ad q)), (3, .int (nI (kA y)))]) hx hb dX1_appendPriceCut_61 hl (k := 4) rfl (nI_inc _) (by decide) rfl (fun ls hl => ?_)
        refine lv_goto (tgt := 31) hx hb dX1_appendPriceCut_64 (by decide) ?_
        exact ihx_4 (ix_4 + 1) (upd u0_2_4 (kA y) ((u0_2_4 (kA y)) + ((pD x ix_4) * (nu ix_4)))) _ _ _ ls (by omega) (Eq.trans (Eq.symm (by rw [l_X1_appendPriceCut_31] <;> rfl)) hvx_4) hp0 hp1 hp2 hfr hP hS (lv_sub hl [1, 2, 3, 4, 0] rfl)
    exact L4 (pM x) 0 (upd (kS y) (kA y) (nI 0)) _ _ _ ls (by omega) rfl hp0 hp1 hp2 hfr hP hS (lv_sub hl [2, 3, 4, 1, 0] rfl)
  · refine lv_bipush (v := (-3)) hx hb dX1_appendPriceCut_11 (by decide) ?_
    have hfin : f_X1_appendPriceCut y x nu = ((-3), y) := (by rw [f_X1_appendPriceCut, if_neg (Nat.not_lt.mpr c1)] <;> rfl)
    exact kr 13 ls _ _ _ _ hP hS rfl ⟨by rw [hfin] <;> rfl, by rw [hfin]; exact hp0, hfr⟩ dX1_appendPriceCut_13
theorem o_X1_appendPriceCut : okV yX1_appendPriceCut cX1_appendPriceCut 5 (some .int) 2 := ⟨m369, m370, m39, m371, by decide +kernel, by decide +kernel, by decide +kernel⟩
def rmX1_remove : Room := { frames := 1, cells := 0, slots := 0, locals := 24 }
def l_X1_remove_4 (y : CuC) (cut : Nat) : Nat → Nat → (Nat → Int32) → (Nat → Int32) → (Nat → Nat → Int32) → (Nat → Int32) × (Nat → Int32) × (Nat → Nat → Int32)
  | 0, ix_1, u0_1_1, u0_2_1, u0_3_1 => (u0_1_1, u0_2_1, u0_3_1)
  | dx_1 + 1, ix_1, u0_1_1, u0_2_1, u0_3_1 => l_X1_remove_4 y cut dx_1 (ix_1 + 1) (kC (f_X1_copyCut_s (mkC (kA y) u0_1_1 u0_2_1 u0_3_1) ix_1 (ix_1 - 1))) (kS (f_X1_copyCut_s (mkC (kA y) u0_1_1 u0_2_1 u0_3_1) ix_1 (ix_1 - 1))) (kW (f_X1_copyCut_s (mkC (kA y) u0_1_1 u0_2_1 u0_3_1) ix_1 (ix_1 - 1)))
def f_X1_remove (y : CuC) (cut : Nat) : CuC :=
  mkC ((kA y) - 1) ((l_X1_remove_4 y cut ((kA y) - (cut + 1)) (cut + 1) (kC y) (kS y) (kW y)).1) ((l_X1_remove_4 y cut ((kA y) - (cut + 1)) (cut + 1) (kC y) (kS y) (kW y)).2.1) ((l_X1_remove_4 y cut ((kA y) - (cut + 1)) (cut + 1) (kC y) (kS y) (kW y)).2.2)
set_option maxHeartbeats 4000000 in
set_option maxRecDepth 100000 in
theorem c_X1_remove {l : Launch} {dd : va_G} {t : CL4} {N : Nat} {ad : Nat → Nat} {V : Nat → va_E} {b : Nat} {y : CuC}  (hi : inj N ad) (hp0 : CuP N ad V t b y) (cut : Nat) (h_cut : cut < kA y) : MV l dd t N ad V yX1_remove cX1_remove 3 rmX1_remove [.ref (ad b), .int (nI cut)] (fun V1 => (CuP N ad V1 t b (f_X1_remove y cut)) ∧ (∀ k, (k < b ∨ b + 44 ≤ k) → V1 k = V k)) := by
  refine MV.of (by decide +kernel) ⟨rfl, rfl⟩ (Nat.le_of_ble_eq_true rfl) ?_
  intro p e s m as below meth c Q X H hP hS ls hl kr
  have X : WX p s m as c cX1_remove 3 RX1 dd t := X
  have hx := X.1.1
  have hb := X.1.2.1
  have hl : lv_has ls 3 [(0, .ref (ad b)), (1, .int (nI cut))] := hl
  have hi0_0 := hp0.i0
  have hle0 := hp0.le
  have hfr : ∀ k, (k < b ∨ b + 44 ≤ k) → V k = V k := fun _ _ => rfl
  refine lv_iload_n hx hb dX1_remove_0 rfl (lv_at hl 1 rfl) ?_
  refine lv_iconst (v := nI 1) hx hb dX1_remove_1 (by decide) ?_
  refine q_iadd hx hb dX1_remove_2 ?_
  refine lv_istore_n (lv' := [(2, .int (nI (cut + 1))), (0, .ref (ad b)), (1, .int (nI cut))]) hx hb dX1_remove_3 rfl hl (by decide) rfl (fun ls hl => ?_)
  have L1 : ∀ (dx_1 ix_1 : Nat) (u0_1_1 : Nat → Int32) (u0_2_1 : Nat → Int32) (u0_3_1 : Nat → Nat → Int32) (V1 : Nat → va_E) (H1 : Heap) (locs1 : List Loc) (ls : Array Slot), (ix_1 + dx_1 = kA y) → (l_X1_remove_4 y cut dx_1 ix_1 u0_1_1 u0_2_1 u0_3_1 = l_X1_remove_4 y cut ((kA y) - (cut + 1)) (cut + 1) (kC y) (kS y) (kW y)) → (cut + 1 ≤ ix_1) → (CuP N ad V1 t b (mkC (kA y) u0_1_1 u0_2_1 u0_3_1)) → (∀ k, (k < b ∨ b + 44 ≤ k) → V1 k = V k) → (HP dd N ad V1 H1) → (va_S (dm N ad H.size) H H1 locs1) → (lv_has ls 3 [(0, .ref (ad b)), (1, .int (nI cut)), (2, .int (nI ix_1))]) → W p l e rmX1_remove s m as below meth c H1 locs1 0 0 Q (F0 m 4 ls []) := by
    intro dx_1
    induction dx_1 with
    | zero =>
      intro ix_1 u0_1_1 u0_2_1 u0_3_1 V1 H1 locs1 ls hid hvx_1 hlo hp0 hfr hP hS hl
      have hiN : kA y = ix_1 := by omega
      subst hiN
      have hvx_1 : (u0_1_1, u0_2_1, u0_3_1) = l_X1_remove_4 y cut ((kA y) - (cut + 1)) (cut + 1) (kC y) (kS y) (kW y) := hvx_1
      have hh0 : u0_1_1 = (l_X1_remove_4 y cut ((kA y) - (cut + 1)) (cut + 1) (kC y) (kS y) (kW y)).1 := congrArg (fun q => (q).1) hvx_1
      have hh1 : u0_2_1 = (l_X1_remove_4 y cut ((kA y) - (cut + 1)) (cut + 1) (kC y) (kS y) (kW y)).2.1 := congrArg (fun q => (q).2.1) hvx_1
      have hh2 : u0_3_1 = (l_X1_remove_4 y cut ((kA y) - (cut + 1)) (cut + 1) (kC y) (kS y) (kW y)).2.2 := congrArg (fun q => (q).2.2) hvx_1
      subst hh0
      subst hh1
      subst hh2
      refine lv_iload_n hx hb dX1_remove_4 rfl (lv_at hl 2 rfl) ?_
      refine lv_aload_n hx hb dX1_remove_5 rfl (lv_at hl 0 rfl) ?_
      refine g_Cu_amount X hP hp0 m59 dX1_remove_6 ?_
      refine W.eq (g2 := F0 m 9 ls [.int (nI (kA y)), .int (nI (kA y))]) rfl ?_
      refine q_ge (tgt := 27) hx hb (by omega) (by omega) dX1_remove_9 (by decide) (fun c2 => ?_) (fun h => absurd h (by omega))
      refine lv_aload_n hx hb dX1_remove_27 rfl (lv_at hl 0 rfl) ?_
      refine lv_dup hx hb dX1_remove_28 rfl ?_
      refine g_Cu_amount X hP hp0 m59 dX1_remove_29 ?_
      refine W.eq (g2 := F0 m 32 ls [.int (nI (kA y)), .ref (ad b)]) rfl ?_
      refine lv_iconst (v := nI 1) hx hb dX1_remove_32 (by decide) ?_
      refine q_isub hx hb (by omega) dX1_remove_33 ?_
      refine p_Cu_amount X hi hP hS hp0 m59 (v := (kA y) - 1) (hv := by omega) dX1_remove_34 (fun V3 H3 locs3 hp0 h2 hP hS => ?_)
      have hp0 : CuP N ad V3 t b (mkC ((kA y) - 1) ((l_X1_remove_4 y cut ((kA y) - (cut + 1)) (cut + 1) (kC y) (kS y) (kW y)).1) ((l_X1_remove_4 y cut ((kA y) - (cut + 1)) (cut + 1) (kC y) (kS y) (kW y)).2.1) ((l_X1_remove_4 y cut ((kA y) - (cut + 1)) (cut + 1) (kC y) (kS y) (kW y)).2.2)) := hp0
      have hfr : ∀ k, (k < b ∨ b + 44 ≤ k) → V3 k = V k := fun k hk => (h2 k (by omega)).trans (hfr k hk)
      have hfin : f_X1_remove y cut = mkC ((kA y) - 1) ((l_X1_remove_4 y cut ((kA y) - (cut + 1)) (cut + 1) (kC y) (kS y) (kW y)).1) ((l_X1_remove_4 y cut ((kA y) - (cut + 1)) (cut + 1) (kC y) (kS y) (kW y)).2.1) ((l_X1_remove_4 y cut ((kA y) - (cut + 1)) (cut + 1) (kC y) (kS y) (kW y)).2.2) := (by rw [f_X1_remove] <;> rfl)
      exact kr 37 ls _ _ _ hP hS ⟨by rw [hfin]; exact hp0, hfr⟩ dX1_remove_37
    | succ dx_1 ihx_1 =>
      intro ix_1 u0_1_1 u0_2_1 u0_3_1 V1 H1 locs1 ls hid hvx_1 hlo hp0 hfr hP hS hl
      refine lv_iload_n hx hb dX1_remove_4 rfl (lv_at hl 2 rfl) ?_
      refine lv_aload_n hx hb dX1_remove_5 rfl (lv_at hl 0 rfl) ?_
      refine g_Cu_amount X hP hp0 m59 dX1_remove_6 ?_
      refine W.eq (g2 := F0 m 9 ls [.int (nI (kA y)), .int (nI ix_1)]) rfl ?_
      refine q_ge (tgt := 27) hx hb (by omega) (by omega) dX1_remove_9 (by decide) (fun h => absurd h (by omega)) (fun c4 => ?_)
      refine lv_aload_n hx hb dX1_remove_12 rfl (lv_at hl 0 rfl) ?_
      refine lv_aload_n hx hb dX1_remove_13 rfl (lv_at hl 0 rfl) ?_
      refine lv_iload_n hx hb dX1_remove_14 rfl (lv_at hl 2 rfl) ?_
      refine lv_iload_n hx hb dX1_remove_15 rfl (lv_at hl 2 rfl) ?_
      refine lv_iconst (v := nI 1) hx hb dX1_remove_16 (by decide) ?_
      refine q_isub hx hb (by omega) dX1_remove_17 ?_
      refine r_callW (As := [.ref (ad b), .int (nI ix_1), .int (nI (ix_1 - 1))]) (rest := []) (ci := 1) X hP hS (c_X1_copyCut_s hi hp0 ix_1 (ix_1 - 1) (by omega) (by omega)) o_X1_copyCut rfl hp0.lt hp0.ob m118 ⟨rfl, rfl⟩ ⟨Nat.le_of_ble_eq_true rfl, Nat.le_of_ble_eq_true rfl⟩ rfl hl.1 rfl (Nat.le_of_ble_eq_true rfl) ⟨Nat.zero_le _, Nat.zero_le _⟩ dX1_remove_18 (fun V5 H5 locs5 hq hP hS => ?_)
      obtain ⟨hp0, h2⟩ := hq
      have hp0 : CuP N ad V5 t b (mkC (kA y) (kC (f_X1_copyCut_s (mkC (kA y) u0_1_1 u0_2_1 u0_3_1) ix_1 (ix_1 - 1))) (kS (f_X1_copyCut_s (mkC (kA y) u0_1_1 u0_2_1 u0_3_1) ix_1 (ix_1 - 1))) (kW (f_X1_copyCut_s (mkC (kA y) u0_1_1 u0_2_1 u0_3_1) ix_1 (ix_1 - 1)))) := hp0.ext u_X1_copyCut_s_0_0 (fun _ _ => rfl) (fun _ _ => rfl) (fun _ _ _ _ => rfl)
      have hi0_0 := hp0.i0
      have hfr : ∀ k, (k < b ∨ b + 44 ≤ k) → V5 k = V k := fun k hk => (h2 k (by omega)).trans (hfr k hk)
      refine lv_iinc (v := nI (ix_1 + 1)) (lv' := [(2, .int (nI (ix_1 + 1))), (0, .ref (ad b)), (1, .int (nI cut))]) hx hb dX1_remove_21 hl (k := 2) rfl (nI_inc _) (by decide) rfl (fun ls hl => ?_)
      refine lv_goto (tgt := 4) hx hb dX1_remove_24 (by decide) ?_
      exact ihx_1 (ix_1 + 1) (kC (f_X1_copyCut_s (mkC (kA y) u0_1_1 u0_2_1 u0_3_1) ix_1 (ix_1 - 1))) (kS (f_X1_copyCut_s (mkC (kA y) u0_1_1 u0_2_1 u0_3_1) ix_1 (ix_1 - 1))) (kW (f_X1_copyCut_s (mkC (kA y) u0_1_1 u0_2_1 u0_3_1) ix_1 (ix_1 - 1))) _ _ _ ls (by omega) (Eq.trans (Eq.symm (by rw [l_X1_remove_4] <;> rfl)) hvx_1) (by omega) hp0 hfr hP hS (lv_sub hl [1, 2, 0] rfl)
  exact L1 ((kA y) - (cut + 1)) (cut + 1) (kC y) (kS y) (kW y) _ _ _ ls (by omega) rfl (Nat.le_refl _) hp0 hfr hP hS (lv_sub hl [1, 2, 0] rfl)
theorem o_X1_remove : okV yX1_remove cX1_remove 3 none 1 := ⟨m504, m505, m39, m506, by decide +kernel, by decide +kernel, by decide +kernel⟩
def rmX1_removeLoose : Room := { frames := 4, cells := 0, slots := 0, locals := 90 }
def l_X1_removeLoose_11 (y : CuC) (masterPlan : Int32) : Nat → Nat → Nat → (Nat → Int32) → (Nat → Int32) → (Nat → Nat → Int32) → Nat × (Nat → Int32) × (Nat → Int32) × (Nat → Nat → Int32)
  | 0, ix_1, a3_1, u0_1_1, u0_2_1, u0_3_1 => (a3_1, u0_1_1, u0_2_1, u0_3_1)
  | dx_1 + 1, ix_1, a3_1, u0_1_1, u0_2_1, u0_3_1 => (if (f_X1_isLoose (mkC (kA y) u0_1_1 u0_2_1 u0_3_1) ix_1 masterPlan (f_X1_greatestValue y masterPlan)) = true then l_X1_removeLoose_11 y masterPlan dx_1 (ix_1 + 1) a3_1 u0_1_1 u0_2_1 u0_3_1 else l_X1_removeLoose_11 y masterPlan dx_1 (ix_1 + 1) (a3_1 + 1) (kC (f_X1_copyCut_s (mkC (kA y) u0_1_1 u0_2_1 u0_3_1) ix_1 a3_1)) (kS (f_X1_copyCut_s (mkC (kA y) u0_1_1 u0_2_1 u0_3_1) ix_1 a3_1)) (kW (f_X1_copyCut_s (mkC (kA y) u0_1_1 u0_2_1 u0_3_1) ix_1 a3_1)))
def f_X1_removeLoose (y : CuC) (masterPlan : Int32) : CuC :=
  mkC ((l_X1_removeLoose_11 y masterPlan (kA y) 0 0 (kC y) (kS y) (kW y)).1) ((l_X1_removeLoose_11 y masterPlan (kA y) 0 0 (kC y) (kS y) (kW y)).2.1) ((l_X1_removeLoose_11 y masterPlan (kA y) 0 0 (kC y) (kS y) (kW y)).2.2.1) ((l_X1_removeLoose_11 y masterPlan (kA y) 0 0 (kC y) (kS y) (kW y)).2.2.2)
set_option maxHeartbeats 4000000 in
set_option maxRecDepth 100000 in
theorem c_X1_removeLoose {l : Launch} {dd : va_G} {t : CL4} {N : Nat} {ad : Nat → Nat} {V : Nat → va_E} {b : Nat} {y : CuC}  (hi : inj N ad) (hp0 : CuP N ad V t b y) (masterPlan : Int32)  : MV l dd t N ad V yX1_removeLoose cX1_removeLoose 5 rmX1_removeLoose [.ref (ad b), .int (masterPlan)] (fun V1 => (CuP N ad V1 t b (f_X1_removeLoose y masterPlan)) ∧ (∀ k, (k < b ∨ b + 44 ≤ k) → V1 k = V k)) := by
  refine MV.of (by decide +kernel) ⟨rfl, rfl⟩ (Nat.le_of_ble_eq_true rfl) ?_
  intro p e s m as below meth c Q X H hP hS ls hl kr
  have X : WX p s m as c cX1_removeLoose 5 RX1 dd t := X
  have hx := X.1.1
  have hb := X.1.2.1
  have hl : lv_has ls 5 [(0, .ref (ad b)), (1, .int (masterPlan))] := hl
  have hi0_0 := hp0.i0
  have hle0 := hp0.le
  have hfr : ∀ k, (k < b ∨ b + 44 ≤ k) → V k = V k := fun _ _ => rfl
  refine lv_aload_n hx hb dX1_removeLoose_0 rfl (lv_at hl 0 rfl) ?_
  refine lv_iload_n hx hb dX1_removeLoose_1 rfl (lv_at hl 1 rfl) ?_
  refine r_call (As := [.int (masterPlan)]) (rest := []) (ci := 1) X hP (c_X1_greatestValue hp0 masterPlan) o_X1_greatestValue rfl hp0.lt hp0.ob m528 ⟨rfl, rfl⟩ ⟨Nat.le_of_ble_eq_true rfl, Nat.le_of_ble_eq_true rfl⟩ rfl hl.1 rfl (Nat.le_of_ble_eq_true rfl) ⟨Nat.zero_le _, Nat.zero_le _⟩ dX1_removeLoose_2 ?_
  refine lv_istore_n (lv' := [(2, .int (f_X1_greatestValue y masterPlan)), (0, .ref (ad b)), (1, .int (masterPlan))]) hx hb dX1_removeLoose_5 rfl hl (by decide) rfl (fun ls hl => ?_)
  refine lv_iconst (v := nI 0) hx hb dX1_removeLoose_6 (by decide) ?_
  refine lv_istore_n (lv' := [(3, .int (nI 0)), (2, .int (f_X1_greatestValue y masterPlan)), (0, .ref (ad b)), (1, .int (masterPlan))]) hx hb dX1_removeLoose_7 rfl hl (by decide) rfl (fun ls hl => ?_)
  refine lv_iconst (v := nI 0) hx hb dX1_removeLoose_8 (by decide) ?_
  refine lv_istore (lv' := [(4, .int (nI 0)), (3, .int (nI 0)), (2, .int (f_X1_greatestValue y masterPlan)), (0, .ref (ad b)), (1, .int (masterPlan))]) hx hb dX1_removeLoose_9 hl (by decide) rfl (fun ls hl => ?_)
  have L1 : ∀ (dx_1 ix_1 : Nat) (a3_1 : Nat) (u0_1_1 : Nat → Int32) (u0_2_1 : Nat → Int32) (u0_3_1 : Nat → Nat → Int32) (V1 : Nat → va_E) (H1 : Heap) (locs1 : List Loc) (ls : Array Slot), (ix_1 + dx_1 = kA y) → (l_X1_removeLoose_11 y masterPlan dx_1 ix_1 a3_1 u0_1_1 u0_2_1 u0_3_1 = l_X1_removeLoose_11 y masterPlan (kA y) 0 0 (kC y) (kS y) (kW y)) → (a3_1 ≤ ix_1) → (CuP N ad V1 t b (mkC (kA y) u0_1_1 u0_2_1 u0_3_1)) → (∀ k, (k < b ∨ b + 44 ≤ k) → V1 k = V k) → (HP dd N ad V1 H1) → (va_S (dm N ad H.size) H H1 locs1) → (lv_has ls 5 [(0, .ref (ad b)), (1, .int (masterPlan)), (2, .int (f_X1_greatestValue y masterPlan)), (3, .int (nI a3_1)), (4, .int (nI ix_1))]) → W p l e rmX1_removeLoose s m as below meth c H1 locs1 0 0 Q (F0 m 11 ls []) := by
    intro dx_1
    induction dx_1 with
    | zero =>
      intro ix_1 a3_1 u0_1_1 u0_2_1 u0_3_1 V1 H1 locs1 ls hid hvx_1 hlo hp0 hfr hP hS hl
      have hiN : kA y = ix_1 := by omega
      subst hiN
      have hvx_1 : (a3_1, u0_1_1, u0_2_1, u0_3_1) = l_X1_removeLoose_11 y masterPlan (kA y) 0 0 (kC y) (kS y) (kW y) := hvx_1
      have hh0 : a3_1 = (l_X1_removeLoose_11 y masterPlan (kA y) 0 0 (kC y) (kS y) (kW y)).1 := congrArg (fun q => (q).1) hvx_1
      have hh1 : u0_1_1 = (l_X1_removeLoose_11 y masterPlan (kA y) 0 0 (kC y) (kS y) (kW y)).2.1 := congrArg (fun q => (q).2.1) hvx_1
      have hh2 : u0_2_1 = (l_X1_removeLoose_11 y masterPlan (kA y) 0 0 (kC y) (kS y) (kW y)).2.2.1 := congrArg (fun q => (q).2.2.1) hvx_1
      have hh3 : u0_3_1 = (l_X1_removeLoose_11 y masterPlan (kA y) 0 0 (kC y) (kS y) (kW y)).2.2.2 := congrArg (fun q => (q).2.2.2) hvx_1
      subst hh0
      subst hh1
      subst hh2
      subst hh3
      refine lv_iload hx hb dX1_removeLoose_11 (lv_at hl 4 rfl) ?_
      refine lv_aload_n hx hb dX1_removeLoose_13 rfl (lv_at hl 0 rfl) ?_
      refine g_Cu_amount X hP hp0 m59 dX1_removeLoose_14 ?_
      refine W.eq (g2 := F0 m 17 ls [.int (nI (kA y)), .int (nI (kA y))]) rfl ?_
      refine q_ge (tgt := 48) hx hb (by omega) (by omega) dX1_removeLoose_17 (by decide) (fun c2 => ?_) (fun h => absurd h (by omega))
      refine lv_aload_n hx hb dX1_removeLoose_48 rfl (lv_at hl 0 rfl) ?_
      refine lv_iload_n hx hb dX1_removeLoose_49 rfl (lv_at hl 3 rfl) ?_
      refine p_Cu_amount X hi hP hS hp0 m59 (v := ((l_X1_removeLoose_11 y masterPlan (kA y) 0 0 (kC y) (kS y) (kW y)).1)) (hv := by omega) dX1_removeLoose_50 (fun V3 H3 locs3 hp0 h2 hP hS => ?_)
      have hp0 : CuP N ad V3 t b (mkC ((l_X1_removeLoose_11 y masterPlan (kA y) 0 0 (kC y) (kS y) (kW y)).1) ((l_X1_removeLoose_11 y masterPlan (kA y) 0 0 (kC y) (kS y) (kW y)).2.1) ((l_X1_removeLoose_11 y masterPlan (kA y) 0 0 (kC y) (kS y) (kW y)).2.2.1) ((l_X1_removeLoose_11 y masterPlan (kA y) 0 0 (kC y) (kS y) (kW y)).2.2.2)) := hp0
      have hfr : ∀ k, (k < b ∨ b + 44 ≤ k) → V3 k = V k := fun k hk => (h2 k (by omega)).trans (hfr k hk)
      have hfin : f_X1_removeLoose y masterPlan = mkC ((l_X1_removeLoose_11 y masterPlan (kA y) 0 0 (kC y) (kS y) (kW y)).1) ((l_X1_removeLoose_11 y masterPlan (kA y) 0 0 (kC y) (kS y) (kW y)).2.1) ((l_X1_removeLoose_11 y masterPlan (kA y) 0 0 (kC y) (kS y) (kW y)).2.2.1) ((l_X1_removeLoose_11 y masterPlan (kA y) 0 0 (kC y) (kS y) (kW y)).2.2.2) := (by rw [f_X1_removeLoose] <;> rfl)
      exact kr 53 ls _ _ _ hP hS ⟨by rw [hfin]; exact hp0, hfr⟩ dX1_removeLoose_53
    | succ dx_1 ihx_1 =>
      intro ix_1 a3_1 u0_1_1 u0_2_1 u0_3_1 V1 H1 locs1 ls hid hvx_1 hlo hp0 hfr hP hS hl
      refine lv_iload hx hb dX1_removeLoose_11 (lv_at hl 4 rfl) ?_
      refine lv_aload_n hx hb dX1_removeLoose_13 rfl (lv_at hl 0 rfl) ?_
      refine g_Cu_amount X hP hp0 m59 dX1_removeLoose_14 ?_
      refine W.eq (g2 := F0 m 17 ls [.int (nI (kA y)), .int (nI ix_1)]) rfl ?_
      refine q_ge (tgt := 48) hx hb (by omega) (by omega) dX1_removeLoose_17 (by decide) (fun h => absurd h (by omega)) (fun c4 => ?_)
      refine lv_aload_n hx hb dX1_removeLoose_20 rfl (lv_at hl 0 rfl) ?_
      refine lv_iload hx hb dX1_removeLoose_21 (lv_at hl 4 rfl) ?_
      refine lv_iload_n hx hb dX1_removeLoose_23 rfl (lv_at hl 1 rfl) ?_
      refine lv_iload_n hx hb dX1_removeLoose_24 rfl (lv_at hl 2 rfl) ?_
      refine r_call (As := [.int (nI ix_1), .int (masterPlan), .int (f_X1_greatestValue y masterPlan)]) (rest := []) (ci := 1) X hP (c_X1_isLoose hp0 ix_1 masterPlan (f_X1_greatestValue y masterPlan) (by omega)) o_X1_isLoose rfl hp0.lt hp0.ob m529 ⟨rfl, rfl⟩ ⟨Nat.le_of_ble_eq_true rfl, Nat.le_of_ble_eq_true rfl⟩ rfl hl.1 rfl (Nat.le_of_ble_eq_true rfl) ⟨Nat.zero_le _, Nat.zero_le _⟩ dX1_removeLoose_25 ?_
      refine q_neB (tgt := 42) hx hb dX1_removeLoose_28 (by decide) (fun c5 => ?_) (fun c5 => ?_)
      · refine lv_iinc (v := nI (ix_1 + 1)) (lv' := [(4, .int (nI (ix_1 + 1))), (0, .ref (ad b)), (1, .int (masterPlan)), (2, .int (f_X1_greatestValue y masterPlan)), (3, .int (nI a3_1))]) hx hb dX1_removeLoose_42 hl (k := 4) rfl (nI_inc _) (by decide) rfl (fun ls hl => ?_)
        refine lv_goto (tgt := 11) hx hb dX1_removeLoose_45 (by decide) ?_
        exact ihx_1 (ix_1 + 1) a3_1 u0_1_1 u0_2_1 u0_3_1 _ _ _ ls (by omega) (Eq.trans (Eq.symm (by rw [l_X1_removeLoose_11, if_pos c5] <;> rfl)) hvx_1) (by omega) hp0 hfr hP hS (lv_sub hl [1, 2, 3, 4, 0] rfl)
      · refine lv_aload_n hx hb dX1_removeLoose_31 rfl (lv_at hl 0 rfl) ?_
        refine lv_aload_n hx hb dX1_removeLoose_32 rfl (lv_at hl 0 rfl) ?_
        refine lv_iload hx hb dX1_removeLoose_33 (lv_at hl 4 rfl) ?_
        refine lv_iload_n hx hb dX1_removeLoose_35 rfl (lv_at hl 3 rfl) ?_
        refine r_callW (As := [.ref (ad b), .int (nI ix_1), .int (nI a3_1)]) (rest := []) (ci := 1) X hP hS (c_X1_copyCut_s hi hp0 ix_1 a3_1 (by omega) (by omega)) o_X1_copyCut rfl hp0.lt hp0.ob m118 ⟨rfl, rfl⟩ ⟨Nat.le_of_ble_eq_true rfl, Nat.le_of_ble_eq_true rfl⟩ rfl hl.1 rfl (Nat.le_of_ble_eq_true rfl) ⟨Nat.zero_le _, Nat.zero_le _⟩ dX1_removeLoose_36 (fun V6 H6 locs6 hq hP hS => ?_)
        obtain ⟨hp0, h2⟩ := hq
        have hp0 : CuP N ad V6 t b (mkC (kA y) (kC (f_X1_copyCut_s (mkC (kA y) u0_1_1 u0_2_1 u0_3_1) ix_1 a3_1)) (kS (f_X1_copyCut_s (mkC (kA y) u0_1_1 u0_2_1 u0_3_1) ix_1 a3_1)) (kW (f_X1_copyCut_s (mkC (kA y) u0_1_1 u0_2_1 u0_3_1) ix_1 a3_1))) := hp0.ext u_X1_copyCut_s_0_0 (fun _ _ => rfl) (fun _ _ => rfl) (fun _ _ _ _ => rfl)
        have hi0_0 := hp0.i0
        have hfr : ∀ k, (k < b ∨ b + 44 ≤ k) → V6 k = V k := fun k hk => (h2 k (by omega)).trans (hfr k hk)
        refine lv_iinc (v := nI (a3_1 + 1)) (lv' := [(3, .int (nI (a3_1 + 1))), (0, .ref (ad b)), (1, .int (masterPlan)), (2, .int (f_X1_greatestValue y masterPlan)), (4, .int (nI ix_1))]) hx hb dX1_removeLoose_39 hl (k := 3) rfl (nI_inc _) (by decide) rfl (fun ls hl => ?_)
        refine lv_iinc (v := nI (ix_1 + 1)) (lv' := [(4, .int (nI (ix_1 + 1))), (3, .int (nI (a3_1 + 1))), (0, .ref (ad b)), (1, .int (masterPlan)), (2, .int (f_X1_greatestValue y masterPlan))]) hx hb dX1_removeLoose_42 hl (k := 4) rfl (nI_inc _) (by decide) rfl (fun ls hl => ?_)
        refine lv_goto (tgt := 11) hx hb dX1_removeLoose_45 (by decide) ?_
        exact ihx_1 (ix_1 + 1) (a3_1 + 1) (kC (f_X1_copyCut_s (mkC (kA y) u0_1_1 u0_2_1 u0_3_1) ix_1 a3_1)) (kS (f_X1_copyCut_s (mkC (kA y) u0_1_1 u0_2_1 u0_3_1) ix_1 a3_1)) (kW (f_X1_copyCut_s (mkC (kA y) u0_1_1 u0_2_1 u0_3_1) ix_1 a3_1)) _ _ _ ls (by omega) (Eq.trans (Eq.symm (by rw [l_X1_removeLoose_11, if_neg (nt c5)] <;> rfl)) hvx_1) (by omega) hp0 hfr hP hS (lv_sub hl [2, 3, 4, 1, 0] rfl)
  exact L1 (kA y) 0 0 (kC y) (kS y) (kW y) _ _ _ ls (by omega) rfl (Nat.zero_le _) hp0 hfr hP hS (lv_sub hl [3, 4, 2, 1, 0] rfl)
theorem o_X1_removeLoose : okV yX1_removeLoose cX1_removeLoose 5 none 1 := ⟨m534, m535, m39, m536, by decide +kernel, by decide +kernel, by decide +kernel⟩
def rmX4_forgetBest : Room := { frames := 0, cells := 0, slots := 0, locals := 0 }
def f_X4_forgetBest (z : SoC) : SoC :=
  mkO (-1) (uT z)
set_option maxHeartbeats 4000000 in
set_option maxRecDepth 100000 in
theorem c_X4_forgetBest {l : Launch} {dd : va_G} {t : CL4} {N : Nat} {ad : Nat → Nat} {V : Nat → va_E} {b : Nat} {z : SoC}  (hi : inj N ad) (hp0 : SoP N ad V t b z)   : MV l dd t N ad V yX4_forgetBest cX4_forgetBest 1 rmX4_forgetBest [.ref (ad b)] (fun V1 => (SoP N ad V1 t b (f_X4_forgetBest z)) ∧ (∀ k, (k < b ∨ b + 1 ≤ k) → V1 k = V k)) := by
  refine MV.of (by decide +kernel) ⟨rfl, rfl⟩ (Nat.le_of_ble_eq_true rfl) ?_
  intro p e s m as below meth c Q X H hP hS ls hl kr
  have X : WX p s m as c cX4_forgetBest 1 RX4 dd t := X
  have hx := X.1.1
  have hb := X.1.2.1
  have hl : lv_has ls 1 [(0, .ref (ad b))] := hl
  have hle0 := hp0.le
  have hfr : ∀ k, (k < b ∨ b + 1 ≤ k) → V k = V k := fun _ _ => rfl
  refine lv_aload_n hx hb dX4_forgetBest_0 rfl (lv_at hl 0 rfl) ?_
  refine lv_iconst (v := (-1)) hx hb dX4_forgetBest_1 (by decide) ?_
  refine p_So_best X hi hP hS hp0 m41 (v := (-1)) dX4_forgetBest_2 (fun V1 H1 locs1 hp0 h2 hP hS => ?_)
  have hp0 : SoP N ad V1 t b (mkO (-1) (uT z)) := hp0
  have hfr : ∀ k, (k < b ∨ b + 1 ≤ k) → V1 k = V k := fun k hk => (h2 k (by omega)).trans (hfr k hk)
  have hfin : f_X4_forgetBest z = mkO (-1) (uT z) := (by rw [f_X4_forgetBest] <;> rfl)
  exact kr 5 ls _ _ _ hP hS ⟨by rw [hfin]; exact hp0, hfr⟩ dX4_forgetBest_5
theorem o_X4_forgetBest : okV yX4_forgetBest cX4_forgetBest 1 none 0 := ⟨m128, m129, m14, m130, by decide +kernel, by decide +kernel, by decide +kernel⟩
theorem u_X4_forgetBest_0_1 {z : SoC} : uT (f_X4_forgetBest z) = uT z := by
  unfold f_X4_forgetBest
  (repeat' split) <;> rfl
def rmX4_forgetCuts : Room := { frames := 1, cells := 0, slots := 0, locals := 20 }
def f_X4_forgetCuts (z : SoC) (x : PlC) (y : CuC) : SoC × CuC :=
  (mkO (uB (f_X4_forgetBest z)) (uT z), mkC 0 (kC y) (kS y) (kW y))
set_option maxHeartbeats 4000000 in
set_option maxRecDepth 100000 in
theorem c_X4_forgetCuts {l : Launch} {dd : va_G} {t : CL4} {N : Nat} {ad : Nat → Nat} {V : Nat → va_E} {b : Nat} {z : SoC} {x : PlC} {y : CuC}  (hi : inj N ad) (hp0 : SoP N ad V t b z) (hp1 : PlP N ad V t (b + 1) x) (hp2 : CuP N ad V t (b + 13) y)   : MV l dd t N ad V yX4_forgetCuts cX4_forgetCuts 1 rmX4_forgetCuts [.ref (ad b)] (fun V1 => (SoP N ad V1 t b ((f_X4_forgetCuts z x y).1)) ∧ (CuP N ad V1 t (b + 13) ((f_X4_forgetCuts z x y).2)) ∧ (∀ k, (k ≠ b ∧ k ≠ b + 13) → V1 k = V k)) := by
  refine MV.of (by decide +kernel) ⟨rfl, rfl⟩ (Nat.le_of_ble_eq_true rfl) ?_
  intro p e s m as below meth c Q X H hP hS ls hl kr
  have X : WX p s m as c cX4_forgetCuts 1 RX4 dd t := X
  have hx := X.1.1
  have hb := X.1.2.1
  have hl : lv_has ls 1 [(0, .ref (ad b))] := hl
  have hi1_0 := hp1.i0
  have hi1_1 := hp1.i1
  have hi2_0 := hp2.i0
  have hle0 := hp0.le
  have hle1 := hp1.le
  have hle2 := hp2.le
  have hfr : ∀ k, (k ≠ b ∧ k ≠ b + 13) → V k = V k := fun _ _ => rfl
  refine lv_aload_n hx hb dX4_forgetCuts_0 rfl (lv_at hl 0 rfl) ?_
  refine g_So_cuts X hP hp0 m40 dX4_forgetCuts_1 ?_
  refine lv_iconst (v := nI 0) hx hb dX4_forgetCuts_4 (by decide) ?_
  refine p_Cu_amount X hi hP hS hp2 m126 (v := 0) (hv := by omega) dX4_forgetCuts_5 (fun V1 H1 locs1 hp2 h2 hP hS => ?_)
  have hp2 : CuP N ad V1 t (b + 13) (mkC 0 (kC y) (kS y) (kW y)) := hp2
  have hp0 := hp0.keep (V1 := V1) (fun k h8 h9 => h2 k (by omega))
  have hp1 := hp1.keep (V1 := V1) (fun k h8 h9 => h2 k (by omega))
  have hfr : ∀ k, (k ≠ b ∧ k ≠ b + 13) → V1 k = V k := fun k hk => (h2 k (by omega)).trans (hfr k hk)
  refine lv_aload_n hx hb dX4_forgetCuts_8 rfl (lv_at hl 0 rfl) ?_
  refine r_callW (As := []) (rest := []) (ci := 4) X hP hS (c_X4_forgetBest hi hp0) o_X4_forgetBest rfl hp0.lt hp0.ob m127 ⟨rfl, rfl⟩ ⟨Nat.le_of_ble_eq_true rfl, Nat.le_of_ble_eq_true rfl⟩ rfl hl.1 rfl (Nat.le_of_ble_eq_true rfl) ⟨Nat.zero_le _, Nat.zero_le _⟩ dX4_forgetCuts_9 (fun V2 H2 locs2 hq hP hS => ?_)
  obtain ⟨hp0, h2⟩ := hq
  have hp0 : SoP N ad V2 t b (mkO (uB (f_X4_forgetBest z)) (uT z)) := hp0.ext rfl u_X4_forgetBest_0_1
  have hp1 := hp1.keep (V1 := V2) (fun k h8 h9 => h2 k (by omega))
  have hp2 := hp2.keep (V1 := V2) (fun k h8 h9 => h2 k (by omega))
  have hfr : ∀ k, (k ≠ b ∧ k ≠ b + 13) → V2 k = V k := fun k hk => (h2 k (by omega)).trans (hfr k hk)
  have hfin : f_X4_forgetCuts z x y = (mkO (uB (f_X4_forgetBest z)) (uT z), mkC 0 (kC y) (kS y) (kW y)) := (by rw [f_X4_forgetCuts] <;> rfl)
  exact kr 12 ls _ _ _ hP hS ⟨by rw [hfin]; exact hp0, by rw [hfin]; exact hp2, hfr⟩ dX4_forgetCuts_12
theorem o_X4_forgetCuts : okV yX4_forgetCuts cX4_forgetCuts 1 none 0 := ⟨m123, m124, m14, m125, by decide +kernel, by decide +kernel, by decide +kernel⟩
theorem u_X4_forgetCuts_0_1 {z : SoC} {x : PlC} {y : CuC} : uT ((f_X4_forgetCuts z x y).1) = uT z := by
  unfold f_X4_forgetCuts
  (repeat' split) <;> rfl
theorem u_X4_forgetCuts_2_1 {z : SoC} {x : PlC} {y : CuC} : kC ((f_X4_forgetCuts z x y).2) = kC y := by
  unfold f_X4_forgetCuts
  (repeat' split) <;> rfl
theorem u_X4_forgetCuts_2_2 {z : SoC} {x : PlC} {y : CuC} : kS ((f_X4_forgetCuts z x y).2) = kS y := by
  unfold f_X4_forgetCuts
  (repeat' split) <;> rfl
theorem u_X4_forgetCuts_2_3 {z : SoC} {x : PlC} {y : CuC} : kW ((f_X4_forgetCuts z x y).2) = kW y := by
  unfold f_X4_forgetCuts
  (repeat' split) <;> rfl
def rmX4_improveBest : Room := { frames := 4, cells := 0, slots := 0, locals := 89 }
def f_X4_improveBest (z : SoC) (x : PlC) (y : CuC) (plan : Int32) : SoC :=
  (if (uB z) = (-1) then mkO plan (uT z) else (if (f_X3_costOf x plan) < (f_X3_costOf x (uB z)) then mkO plan (uT z) else z))
set_option maxHeartbeats 4000000 in
set_option maxRecDepth 100000 in
theorem c_X4_improveBest {l : Launch} {dd : va_G} {t : CL4} {N : Nat} {ad : Nat → Nat} {V : Nat → va_E} {b : Nat} {z : SoC} {x : PlC} {y : CuC}  (hi : inj N ad) (hp0 : SoP N ad V t b z) (hp1 : PlP N ad V t (b + 1) x) (hp2 : CuP N ad V t (b + 13) y) (plan : Int32)  : MV l dd t N ad V yX4_improveBest cX4_improveBest 2 rmX4_improveBest [.ref (ad b), .int (plan)] (fun V1 => (SoP N ad V1 t b (f_X4_improveBest z x y plan)) ∧ (∀ k, (k < b ∨ b + 1 ≤ k) → V1 k = V k)) := by
  refine MV.of (by decide +kernel) ⟨rfl, rfl⟩ (Nat.le_of_ble_eq_true rfl) ?_
  intro p e s m as below meth c Q X H hP hS ls hl kr
  have X : WX p s m as c cX4_improveBest 2 RX4 dd t := X
  have hx := X.1.1
  have hb := X.1.2.1
  have hl : lv_has ls 2 [(0, .ref (ad b)), (1, .int (plan))] := hl
  have hi1_0 := hp1.i0
  have hi1_1 := hp1.i1
  have hi2_0 := hp2.i0
  have hle0 := hp0.le
  have hle1 := hp1.le
  have hle2 := hp2.le
  have hfr : ∀ k, (k < b ∨ b + 1 ≤ k) → V k = V k := fun _ _ => rfl
  refine lv_aload_n hx hb dX4_improveBest_0 rfl (lv_at hl 0 rfl) ?_
  refine g_So_best X hP hp0 m41 dX4_improveBest_1 ?_
  refine lv_iconst (v := (-1)) hx hb dX4_improveBest_4 (by decide) ?_
  refine lv_icmp_eq (tgt := 30) hx hb dX4_improveBest_5 (by decide) (fun c1 => ?_) (fun c1 => ?_)
  · refine lv_aload_n hx hb dX4_improveBest_30 rfl (lv_at hl 0 rfl) ?_
    refine lv_iload_n hx hb dX4_improveBest_31 rfl (lv_at hl 1 rfl) ?_
    refine p_So_best X hi hP hS hp0 m41 (v := plan) dX4_improveBest_32 (fun V2 H2 locs2 hp0 h2 hP hS => ?_)
    have hp0 : SoP N ad V2 t b (mkO plan (uT z)) := hp0
    have hp1 := hp1.keep (V1 := V2) (fun k h8 h9 => h2 k (by omega))
    have hp2 := hp2.keep (V1 := V2) (fun k h8 h9 => h2 k (by omega))
    have hfr : ∀ k, (k < b ∨ b + 1 ≤ k) → V2 k = V k := fun k hk => (h2 k (by omega)).trans (hfr k hk)
    have hfin : f_X4_improveBest z x y plan = mkO plan (uT z) := (by rw [f_X4_improveBest, if_pos c1] <;> rfl)
    exact kr 35 ls _ _ _ hP hS ⟨by rw [hfin]; exact hp0, hfr⟩ dX4_improveBest_35
  · refine lv_aload_n hx hb dX4_improveBest_8 rfl (lv_at hl 0 rfl) ?_
    refine g_So_places X hP hp0 m36 dX4_improveBest_9 ?_
    refine lv_iload_n hx hb dX4_improveBest_12 rfl (lv_at hl 1 rfl) ?_
    refine r_call (As := [.int (plan)]) (rest := []) (ci := 3) X hP (c_X3_costOf hp1 plan) o_X3_costOf rfl hp1.lt hp1.ob m341 ⟨rfl, rfl⟩ ⟨Nat.le_of_ble_eq_true rfl, Nat.le_of_ble_eq_true rfl⟩ rfl hl.1 rfl (Nat.le_of_ble_eq_true rfl) ⟨Nat.zero_le _, Nat.zero_le _⟩ dX4_improveBest_13 ?_
    refine lv_aload_n hx hb dX4_improveBest_16 rfl (lv_at hl 0 rfl) ?_
    refine g_So_places X hP hp0 m36 dX4_improveBest_17 ?_
    refine lv_aload_n hx hb dX4_improveBest_20 rfl (lv_at hl 0 rfl) ?_
    refine g_So_best X hP hp0 m41 dX4_improveBest_21 ?_
    refine r_call (As := [.int (uB z)]) (rest := [.int (f_X3_costOf x plan)]) (ci := 3) X hP (c_X3_costOf hp1 (uB z)) o_X3_costOf rfl hp1.lt hp1.ob m341 ⟨rfl, rfl⟩ ⟨Nat.le_of_ble_eq_true rfl, Nat.le_of_ble_eq_true rfl⟩ rfl hl.1 rfl (Nat.le_of_ble_eq_true rfl) ⟨Nat.zero_le _, Nat.zero_le _⟩ dX4_improveBest_24 ?_
    refine j_ge (tgt := 35) hx hb dX4_improveBest_27 (by decide) (fun c3 => ?_) (fun c3 => ?_)
    · have hfin : f_X4_improveBest z x y plan = z := (by rw [f_X4_improveBest, if_neg c1, if_neg c3] <;> rfl)
      exact kr 35 ls _ _ _ hP hS ⟨by rw [hfin]; exact hp0, hfr⟩ dX4_improveBest_35
    · refine lv_aload_n hx hb dX4_improveBest_30 rfl (lv_at hl 0 rfl) ?_
      refine lv_iload_n hx hb dX4_improveBest_31 rfl (lv_at hl 1 rfl) ?_
      refine p_So_best X hi hP hS hp0 m41 (v := plan) dX4_improveBest_32 (fun V4 H4 locs4 hp0 h2 hP hS => ?_)
      have hp0 : SoP N ad V4 t b (mkO plan (uT z)) := hp0
      have hp1 := hp1.keep (V1 := V4) (fun k h8 h9 => h2 k (by omega))
      have hp2 := hp2.keep (V1 := V4) (fun k h8 h9 => h2 k (by omega))
      have hfr : ∀ k, (k < b ∨ b + 1 ≤ k) → V4 k = V k := fun k hk => (h2 k (by omega)).trans (hfr k hk)
      have hfin : f_X4_improveBest z x y plan = mkO plan (uT z) := (by rw [f_X4_improveBest, if_neg c1, if_pos c3] <;> rfl)
      exact kr 35 ls _ _ _ hP hS ⟨by rw [hfin]; exact hp0, hfr⟩ dX4_improveBest_35
theorem o_X4_improveBest : okV yX4_improveBest cX4_improveBest 2 none 1 := ⟨m364, m365, m14, m366, by decide +kernel, by decide +kernel, by decide +kernel⟩
theorem u_X4_improveBest_0_1 {z : SoC} {x : PlC} {y : CuC} {plan : Int32} : uT (f_X4_improveBest z x y plan) = uT z := by
  unfold f_X4_improveBest
  (repeat' split) <;> rfl
def rmX4_copyFrom : Room := { frames := 2, cells := 0, slots := 0, locals := 46 }
def f_X4_copyFrom (z : SoC) (x : PlC) (y : CuC) (z2 : SoC) (x2 : PlC) (y2 : CuC) : SoC × PlC × CuC :=
  (mkO (uB z2) (uT z2), (f_X3_copyFrom x x2), (f_X1_copyFrom y y2))
set_option maxHeartbeats 4000000 in
set_option maxRecDepth 100000 in
theorem c_X4_copyFrom {l : Launch} {dd : va_G} {t : CL4} {N : Nat} {ad : Nat → Nat} {V : Nat → va_E} {b : Nat} {b2 : Nat} {z : SoC} {x : PlC} {y : CuC} {z2 : SoC} {x2 : PlC} {y2 : CuC}  (hi : inj N ad) (hp0 : SoP N ad V t b z) (hp1 : PlP N ad V t (b + 1) x) (hp2 : CuP N ad V t (b + 13) y) (hp3 : SoP N ad V t b2 z2) (hp4 : PlP N ad V t (b2 + 1) x2) (hp5 : CuP N ad V t (b2 + 13) y2)  (hdj : b + 57 ≤ b2 ∨ b2 + 57 ≤ b) : MV l dd t N ad V yX4_copyFrom cX4_copyFrom 2 rmX4_copyFrom [.ref (ad b), .ref (ad b2)] (fun V1 => (SoP N ad V1 t b ((f_X4_copyFrom z x y z2 x2 y2).1)) ∧ (PlP N ad V1 t (b + 1) ((f_X4_copyFrom z x y z2 x2 y2).2.1)) ∧ (CuP N ad V1 t (b + 13) ((f_X4_copyFrom z x y z2 x2 y2).2.2)) ∧ (∀ k, (k < b ∨ b + 57 ≤ k) → V1 k = V k)) := by
  refine MV.of (by decide +kernel) ⟨rfl, rfl⟩ (Nat.le_of_ble_eq_true rfl) ?_
  intro p e s m as below meth c Q X H hP hS ls hl kr
  have X : WX p s m as c cX4_copyFrom 2 RX4 dd t := X
  have hx := X.1.1
  have hb := X.1.2.1
  have hl : lv_has ls 2 [(0, .ref (ad b)), (1, .ref (ad b2))] := hl
  have hi1_0 := hp1.i0
  have hi1_1 := hp1.i1
  have hi2_0 := hp2.i0
  have hi4_0 := hp4.i0
  have hi4_1 := hp4.i1
  have hi5_0 := hp5.i0
  have hle0 := hp0.le
  have hle1 := hp1.le
  have hle2 := hp2.le
  have hle3 := hp3.le
  have hle4 := hp4.le
  have hle5 := hp5.le
  have hfr : ∀ k, (k < b ∨ b + 57 ≤ k) → V k = V k := fun _ _ => rfl
  refine lv_aload_n hx hb dX4_copyFrom_0 rfl (lv_at hl 0 rfl) ?_
  refine g_So_places X hP hp0 m36 dX4_copyFrom_1 ?_
  refine lv_aload_n hx hb dX4_copyFrom_4 rfl (lv_at hl 1 rfl) ?_
  refine g_So_places X hP hp3 m36 dX4_copyFrom_5 ?_
  refine r_callW (As := [.ref (ad (b2 + 1))]) (rest := []) (ci := 3) X hP hS (c_X3_copyFrom hi hp1 hp4 (by omega)) o_X3_copyFrom rfl hp1.lt hp1.ob m110 ⟨rfl, rfl⟩ ⟨Nat.le_of_ble_eq_true rfl, Nat.le_of_ble_eq_true rfl⟩ rfl hl.1 rfl (Nat.le_of_ble_eq_true rfl) ⟨Nat.zero_le _, Nat.zero_le _⟩ dX4_copyFrom_8 (fun V1 H1 locs1 hq hP hS => ?_)
  obtain ⟨hp1, h2⟩ := hq
  have hi1_0 := hp1.i0
  have hi1_1 := hp1.i1
  have hp0 := hp0.keep (V1 := V1) (fun k h8 h9 => h2 k (by omega))
  have hp2 := hp2.keep (V1 := V1) (fun k h8 h9 => h2 k (by omega))
  have hp3 := hp3.keep (V1 := V1) (fun k h8 h9 => h2 k (by omega))
  have hp4 := hp4.keep (V1 := V1) (fun k h8 h9 => h2 k (by omega))
  have hp5 := hp5.keep (V1 := V1) (fun k h8 h9 => h2 k (by omega))
  have hfr : ∀ k, (k < b ∨ b + 57 ≤ k) → V1 k = V k := fun k hk => (h2 k (by omega)).trans (hfr k hk)
  refine lv_aload_n hx hb dX4_copyFrom_11 rfl (lv_at hl 0 rfl) ?_
  refine g_So_cuts X hP hp0 m40 dX4_copyFrom_12 ?_
  refine lv_aload_n hx hb dX4_copyFrom_15 rfl (lv_at hl 1 rfl) ?_
  refine g_So_cuts X hP hp3 m40 dX4_copyFrom_16 ?_
  refine r_callW (As := [.ref (ad (b2 + 13))]) (rest := []) (ci := 1) X hP hS (c_X1_copyFrom hi hp2 hp5 (by omega)) o_X1_copyFrom rfl hp2.lt hp2.ob m114 ⟨rfl, rfl⟩ ⟨Nat.le_of_ble_eq_true rfl, Nat.le_of_ble_eq_true rfl⟩ rfl hl.1 rfl (Nat.le_of_ble_eq_true rfl) ⟨Nat.zero_le _, Nat.zero_le _⟩ dX4_copyFrom_19 (fun V2 H2 locs2 hq hP hS => ?_)
  obtain ⟨hp2, h2⟩ := hq
  have hi2_0 := hp2.i0
  have hp0 := hp0.keep (V1 := V2) (fun k h8 h9 => h2 k (by omega))
  have hp1 := hp1.keep (V1 := V2) (fun k h8 h9 => h2 k (by omega))
  have hp3 := hp3.keep (V1 := V2) (fun k h8 h9 => h2 k (by omega))
  have hp4 := hp4.keep (V1 := V2) (fun k h8 h9 => h2 k (by omega))
  have hp5 := hp5.keep (V1 := V2) (fun k h8 h9 => h2 k (by omega))
  have hfr : ∀ k, (k < b ∨ b + 57 ≤ k) → V2 k = V k := fun k hk => (h2 k (by omega)).trans (hfr k hk)
  refine lv_aload_n hx hb dX4_copyFrom_22 rfl (lv_at hl 0 rfl) ?_
  refine lv_aload_n hx hb dX4_copyFrom_23 rfl (lv_at hl 1 rfl) ?_
  refine g_So_best X hP hp3 m41 dX4_copyFrom_24 ?_
  refine p_So_best X hi hP hS hp0 m41 (v := uB z2) dX4_copyFrom_27 (fun V3 H3 locs3 hp0 h2 hP hS => ?_)
  have hp0 : SoP N ad V3 t b (mkO (uB z2) (uT z)) := hp0
  have hp1 := hp1.keep (V1 := V3) (fun k h8 h9 => h2 k (by omega))
  have hp2 := hp2.keep (V1 := V3) (fun k h8 h9 => h2 k (by omega))
  have hp3 := hp3.keep (V1 := V3) (fun k h8 h9 => h2 k (by omega))
  have hp4 := hp4.keep (V1 := V3) (fun k h8 h9 => h2 k (by omega))
  have hp5 := hp5.keep (V1 := V3) (fun k h8 h9 => h2 k (by omega))
  have hfr : ∀ k, (k < b ∨ b + 57 ≤ k) → V3 k = V k := fun k hk => (h2 k (by omega)).trans (hfr k hk)
  refine lv_aload_n hx hb dX4_copyFrom_30 rfl (lv_at hl 0 rfl) ?_
  refine lv_aload_n hx hb dX4_copyFrom_31 rfl (lv_at hl 1 rfl) ?_
  refine g_So_steps X hP hp3 m42 dX4_copyFrom_32 ?_
  refine p_So_steps X hi hP hS hp0 m42 (v := uT z2) dX4_copyFrom_35 (fun V4 H4 locs4 hp0 h2 hP hS => ?_)
  have hp0 : SoP N ad V4 t b (mkO (uB z2) (uT z2)) := hp0
  have hp1 := hp1.keep (V1 := V4) (fun k h8 h9 => h2 k (by omega))
  have hp2 := hp2.keep (V1 := V4) (fun k h8 h9 => h2 k (by omega))
  have hp3 := hp3.keep (V1 := V4) (fun k h8 h9 => h2 k (by omega))
  have hp4 := hp4.keep (V1 := V4) (fun k h8 h9 => h2 k (by omega))
  have hp5 := hp5.keep (V1 := V4) (fun k h8 h9 => h2 k (by omega))
  have hfr : ∀ k, (k < b ∨ b + 57 ≤ k) → V4 k = V k := fun k hk => (h2 k (by omega)).trans (hfr k hk)
  have hfin : f_X4_copyFrom z x y z2 x2 y2 = (mkO (uB z2) (uT z2), (f_X3_copyFrom x x2), (f_X1_copyFrom y y2)) := (by rw [f_X4_copyFrom] <;> rfl)
  exact kr 38 ls _ _ _ hP hS ⟨by rw [hfin]; exact hp0, by rw [hfin]; exact hp1, by rw [hfin]; exact hp2, hfr⟩ dX4_copyFrom_38
theorem o_X4_copyFrom : okV yX4_copyFrom cX4_copyFrom 2 none 1 := ⟨m107, m108, m14, m109, by decide +kernel, by decide +kernel, by decide +kernel⟩
def rmX4_makeStep : Room := { frames := 6, cells := 0, slots := 0, locals := 135 }
def l_X4_makeStep_126 (z : SoC) (x : PlC) (y : CuC) (nu : Nat → Int32) : Nat → Nat → (Nat → Int32) → (Nat → Int32)
  | 0, ix_16, u3_0_16 => u3_0_16
  | dx_16 + 1, ix_16, u3_0_16 => l_X4_makeStep_126 z x y nu dx_16 (ix_16 + 1) (upd u3_0_16 ix_16 (f_X3_leastRoutePrice x (f_X4_findMasterPlan z x y) ix_16))
def f_X4_makeStep (z : SoC) (x : PlC) (y : CuC) (nu : Nat → Int32) : Int32 × SoC × CuC × (Nat → Int32) :=
  (if (pM x) = 0 then ((-4), z, y, nu) else (if (f_X4_findMasterPlan z x y) = (-1) then ((-4), z, y, nu) else (if (f_X3_lowestMissedCustomer x (f_X4_findMasterPlan z x y)) = (-1) then (if (f_X3_costOf x (f_X4_findMasterPlan z x y)) = (f_X4_guessOf z x y (f_X4_findMasterPlan z x y)) then (nI 2, mkO (uB (f_X4_improveBest (mkO (uB z) ((uT z) + (nI 1))) x y (f_X4_findMasterPlan z x y))) ((uT z) + (nI 1)), y, nu) else (if (f_X1_isFull y) = true then ((-3), z, y, nu) else (nI 1, mkO (uB (f_X4_improveBest (mkO (uB z) ((uT z) + (nI 1))) x y (f_X4_findMasterPlan z x y))) ((uT z) + (nI 1)), ((f_X1_appendPriceCut y x (l_X4_makeStep_126 z x y nu (pM x) 0 nu)).2), l_X4_makeStep_126 z x y nu (pM x) 0 nu))) else (if (f_X1_isFull y) = true then ((-3), z, y, nu) else (nI 0, mkO (uB z) ((uT z) + (nI 1)), ((f_X1_appendRay y x (tn (f_X3_lowestMissedCustomer x (f_X4_findMasterPlan z x y)))).2), nu)))))
set_option maxHeartbeats 4000000 in
set_option maxRecDepth 100000 in
theorem c_X4_makeStep {l : Launch} {dd : va_G} {t : CL4} {N : Nat} {ad : Nat → Nat} {V : Nat → va_E} {b : Nat} {q : Nat} {z : SoC} {x : PlC} {y : CuC} {nu : Nat → Int32}  (hi : inj N ad) (hp0 : SoP N ad V t b z) (hp1 : PlP N ad V t (b + 1) x) (hp2 : CuP N ad V t (b + 13) y) (hp3 : NuP N V t q nu)  (hq : q < b ∨ b + 57 ≤ q) : MM l dd t N ad V yX4_makeStep cX4_makeStep 6 (some .int) rmX4_makeStep [.ref (ad b), .ref (ad q)] (fun r V1 => (r = (f_X4_makeStep z x y nu).1) ∧ (SoP N ad V1 t b ((f_X4_makeStep z x y nu).2.1)) ∧ (CuP N ad V1 t (b + 13) ((f_X4_makeStep z x y nu).2.2.1)) ∧ (NuP N V1 t q ((f_X4_makeStep z x y nu).2.2.2)) ∧ (∀ k, (k ≠ b ∧ (k < b + 13 ∨ b + 57 ≤ k) ∧ k ≠ q) → V1 k = V k)) := by
  refine MM.of (by decide +kernel) ⟨rfl, rfl⟩ (Nat.le_of_ble_eq_true rfl) rfl ?_
  intro p e s m as below meth c Q X H hP hS ls hl kr
  have X : WX p s m as c cX4_makeStep 6 RX4 dd t := X
  have hx := X.1.1
  have hb := X.1.2.1
  have hl : lv_has ls 6 [(0, .ref (ad b)), (1, .ref (ad q))] := hl
  have hi1_0 := hp1.i0
  have hi1_1 := hp1.i1
  have hi2_0 := hp2.i0
  have hle0 := hp0.le
  have hle1 := hp1.le
  have hle2 := hp2.le
  have hle3 := hp3.1
  have hfr : ∀ k, (k ≠ b ∧ (k < b + 13 ∨ b + 57 ≤ k) ∧ k ≠ q) → V k = V k := fun _ _ => rfl
  refine lv_aload_n hx hb dX4_makeStep_0 rfl (lv_at hl 0 rfl) ?_
  refine g_So_places X hP hp0 m36 dX4_makeStep_1 ?_
  refine g_Pl_customerCount X hP hp1 m276 dX4_makeStep_4 ?_
  refine z_ne (tgt := 13) hx hb (by omega) dX4_makeStep_7 (by decide) (fun c1 => ?_) (fun c1 => ?_)
  · refine lv_aload_n hx hb dX4_makeStep_13 rfl (lv_at hl 0 rfl) ?_
    refine r_call (As := []) (rest := []) (ci := 4) X hP (c_X4_findMasterPlan hp0 hp1 hp2) o_X4_findMasterPlan rfl hp0.lt hp0.ob m277 ⟨rfl, rfl⟩ ⟨Nat.le_of_ble_eq_true rfl, Nat.le_of_ble_eq_true rfl⟩ rfl hl.1 rfl (Nat.le_of_ble_eq_true rfl) ⟨Nat.zero_le _, Nat.zero_le _⟩ dX4_makeStep_14 ?_
    refine lv_istore_n (lv' := [(2, .int (f_X4_findMasterPlan z x y)), (0, .ref (ad b)), (1, .ref (ad q))]) hx hb dX4_makeStep_17 rfl hl (by decide) rfl (fun ls hl => ?_)
    refine lv_iload_n hx hb dX4_makeStep_18 rfl (lv_at hl 0 rfl) ?_
    refine lv_iconst (v := (-1)) hx hb dX4_makeStep_19 (by decide) ?_
    refine lv_icmp_ne (tgt := 26) hx hb dX4_makeStep_20 (by decide) (fun c2 => ?_) (fun c2 => ?_)
    · refine lv_aload_n hx hb dX4_makeStep_26 rfl (lv_at hl 1 rfl) ?_
      refine g_So_places X hP hp0 m36 dX4_makeStep_27 ?_
      refine lv_iload_n hx hb dX4_makeStep_30 rfl (lv_at hl 0 rfl) ?_
      refine r_call (As := [.int (f_X4_findMasterPlan z x y)]) (rest := []) (ci := 3) X hP (c_X3_lowestMissedCustomer hp1 (f_X4_findMasterPlan z x y)) o_X3_lowestMissedCustomer rfl hp1.lt hp1.ob m330 ⟨rfl, rfl⟩ ⟨Nat.le_of_ble_eq_true rfl, Nat.le_of_ble_eq_true rfl⟩ rfl hl.1 rfl (Nat.le_of_ble_eq_true rfl) ⟨Nat.zero_le _, Nat.zero_le _⟩ dX4_makeStep_31 ?_
      refine lv_istore_n (lv' := [(3, .int (f_X3_lowestMissedCustomer x (f_X4_findMasterPlan z x y))), (2, .int (f_X4_findMasterPlan z x y)), (0, .ref (ad b)), (1, .ref (ad q))]) hx hb dX4_makeStep_34 rfl hl (by decide) rfl (fun ls hl => ?_)
      refine lv_iload_n hx hb dX4_makeStep_35 rfl (lv_at hl 0 rfl) ?_
      refine lv_iconst (v := (-1)) hx hb dX4_makeStep_36 (by decide) ?_
      refine lv_icmp_ne (tgt := 60) hx hb dX4_makeStep_37 (by decide) (fun c3 => ?_) (fun c3 => ?_)
      · refine lv_iconst (v := nI 0) hx hb dX4_makeStep_60 (by decide) ?_
        refine lv_istore (lv' := [(4, .int (nI 0)), (3, .int (f_X3_lowestMissedCustomer x (f_X4_findMasterPlan z x y))), (2, .int (f_X4_findMasterPlan z x y)), (0, .ref (ad b)), (1, .ref (ad q))]) hx hb dX4_makeStep_61 hl (by decide) rfl (fun ls hl => ?_)
        refine lv_iload hx hb dX4_makeStep_63 (lv_at hl 0 rfl) ?_
        refine z_ne (tgt := 81) hx hb (by omega) dX4_makeStep_65 (by decide) (fun h => absurd h (by omega)) (fun c4 => ?_)
        refine lv_aload_n hx hb dX4_makeStep_68 rfl (lv_at hl 3 rfl) ?_
        refine g_So_cuts X hP hp0 m40 dX4_makeStep_69 ?_
        refine r_call (As := []) (rest := []) (ci := 1) X hP (c_X1_isFull hp2) o_X1_isFull rfl hp2.lt hp2.ob m350 ⟨rfl, rfl⟩ ⟨Nat.le_of_ble_eq_true rfl, Nat.le_of_ble_eq_true rfl⟩ rfl hl.1 rfl (Nat.le_of_ble_eq_true rfl) ⟨Nat.zero_le _, Nat.zero_le _⟩ dX4_makeStep_72 ?_
        refine q_eqB (tgt := 81) hx hb dX4_makeStep_75 (by decide) (fun c5 => ?_) (fun c5 => ?_)
        · refine lv_aload_n hx hb dX4_makeStep_81 rfl (lv_at hl 3 rfl) ?_
          refine lv_dup hx hb dX4_makeStep_82 rfl ?_
          refine g_So_steps X hP hp0 m42 dX4_makeStep_83 ?_
          refine lv_iconst (v := nI 1) hx hb dX4_makeStep_86 (by decide) ?_
          refine lv_iadd hx hb dX4_makeStep_87 ?_
          refine p_So_steps X hi hP hS hp0 m42 (v := (uT z) + (nI 1)) dX4_makeStep_88 (fun V6 H6 locs6 hp0 h2 hP hS => ?_)
          have hp0 : SoP N ad V6 t b (mkO (uB z) ((uT z) + (nI 1))) := hp0
          have hp1 := hp1.keep (V1 := V6) (fun k h8 h9 => h2 k (by omega))
          have hp2 := hp2.keep (V1 := V6) (fun k h8 h9 => h2 k (by omega))
          have hp3 := hp3.keep (V1 := V6) (fun k h8 h9 => h2 k (by omega))
          have hfr : ∀ k, (k ≠ b ∧ (k < b + 13 ∨ b + 57 ≤ k) ∧ k ≠ q) → V6 k = V k := fun k hk => (h2 k (by omega)).trans (hfr k hk)
          refine lv_iload_n hx hb dX4_makeStep_91 rfl (lv_at hl 1 rfl) ?_
          refine lv_iconst (v := (-1)) hx hb dX4_makeStep_92 (by decide) ?_
          refine lv_icmp_eq (tgt := 111) hx hb dX4_makeStep_93 (by decide) (fun h => by first | exact absurd h c3 | exact absurd c3 h) (fun c7 => ?_)
          refine lv_aload_n hx hb dX4_makeStep_96 rfl (lv_at hl 3 rfl) ?_
          refine g_So_cuts X hP hp0 m40 dX4_makeStep_97 ?_
          refine lv_aload_n hx hb dX4_makeStep_100 rfl (lv_at hl 3 rfl) ?_
          refine g_So_places X hP hp0 m36 dX4_makeStep_101 ?_
          refine lv_iload_n hx hb dX4_makeStep_104 rfl (lv_at hl 1 rfl) ?_
          have hlm := lowest_n hi1_1 c3
          have hlmb := hlm.2
          refine q_val hlm.1 ?_
          refine r_callM (As := [.ref (ad (b + 1)), .int (nI (tn (f_X3_lowestMissedCustomer x (f_X4_findMasterPlan z x y))))]) (rest := []) (ci := 1) X hP hS (c_X1_appendRay hi hp2 hp1 (tn (f_X3_lowestMissedCustomer x (f_X4_findMasterPlan z x y))) (by omega) (by omega)) o_X1_appendRay rfl hp2.lt hp2.ob m354 ⟨rfl, rfl⟩ ⟨Nat.le_of_ble_eq_true rfl, Nat.le_of_ble_eq_true rfl⟩ rfl hl.1 rfl (Nat.le_of_ble_eq_true rfl) ⟨Nat.zero_le _, Nat.zero_le _⟩ dX4_makeStep_105 (fun r V8 H8 locs8 hq hP hS => ?_)
          obtain ⟨hr, hp2, h2⟩ := hq
          subst hr
          have hi2_0 := hp2.i0
          have hp0 := hp0.keep (V1 := V8) (fun k h8 h9 => h2 k (by omega))
          have hp1 := hp1.keep (V1 := V8) (fun k h8 h9 => h2 k (by omega))
          have hp3 := hp3.keep (V1 := V8) (fun k h8 h9 => h2 k (by omega))
          have hfr : ∀ k, (k ≠ b ∧ (k < b + 13 ∨ b + 57 ≤ k) ∧ k ≠ q) → V8 k = V k := fun k hk => (h2 k (by omega)).trans (hfr k hk)
          refine lv_pop hx hb dX4_makeStep_108 rfl ?_
          refine lv_iconst (v := nI 0) hx hb dX4_makeStep_109 (by decide) ?_
          have hfin : f_X4_makeStep z x y nu = (nI 0, mkO (uB z) ((uT z) + (nI 1)), ((f_X1_appendRay y x (tn (f_X3_lowestMissedCustomer x (f_X4_findMasterPlan z x y)))).2), nu) := (by rw [f_X4_makeStep, if_neg c1, if_neg c2, if_neg c3, if_neg (nt c5)] <;> rfl)
          exact kr 110 ls _ _ _ _ hP hS rfl ⟨by rw [hfin] <;> rfl, by rw [hfin]; exact hp0, by rw [hfin]; exact hp2, by rw [hfin]; exact hp3, hfr⟩ dX4_makeStep_110
        · refine lv_bipush (v := (-3)) hx hb dX4_makeStep_78 (by decide) ?_
          have hfin : f_X4_makeStep z x y nu = ((-3), z, y, nu) := (by rw [f_X4_makeStep, if_neg c1, if_neg c2, if_neg c3, if_pos c5] <;> rfl)
          exact kr 80 ls _ _ _ _ hP hS rfl ⟨by rw [hfin] <;> rfl, by rw [hfin]; exact hp0, by rw [hfin]; exact hp2, by rw [hfin]; exact hp3, hfr⟩ dX4_makeStep_80
      · refine lv_aload_n hx hb dX4_makeStep_40 rfl (lv_at hl 2 rfl) ?_
        refine g_So_places X hP hp0 m36 dX4_makeStep_41 ?_
        refine lv_iload_n hx hb dX4_makeStep_44 rfl (lv_at hl 1 rfl) ?_
        refine r_call (As := [.int (f_X4_findMasterPlan z x y)]) (rest := []) (ci := 3) X hP (c_X3_costOf hp1 (f_X4_findMasterPlan z x y)) o_X3_costOf rfl hp1.lt hp1.ob m341 ⟨rfl, rfl⟩ ⟨Nat.le_of_ble_eq_true rfl, Nat.le_of_ble_eq_true rfl⟩ rfl hl.1 rfl (Nat.le_of_ble_eq_true rfl) ⟨Nat.zero_le _, Nat.zero_le _⟩ dX4_makeStep_45 ?_
        refine lv_aload_n hx hb dX4_makeStep_48 rfl (lv_at hl 2 rfl) ?_
        refine lv_iload_n hx hb dX4_makeStep_49 rfl (lv_at hl 1 rfl) ?_
        refine r_call (As := [.int (f_X4_findMasterPlan z x y)]) (rest := [.int (f_X3_costOf x (f_X4_findMasterPlan z x y))]) (ci := 4) X hP (c_X4_guessOf hp0 hp1 hp2 (f_X4_findMasterPlan z x y)) o_X4_guessOf rfl hp0.lt hp0.ob m310 ⟨rfl, rfl⟩ ⟨Nat.le_of_ble_eq_true rfl, Nat.le_of_ble_eq_true rfl⟩ rfl hl.1 rfl (Nat.le_of_ble_eq_true rfl) ⟨Nat.zero_le _, Nat.zero_le _⟩ dX4_makeStep_50 ?_
        refine lv_icmp_ne (tgt := 60) hx hb dX4_makeStep_53 (by decide) (fun c9 => ?_) (fun c9 => ?_)
        · refine lv_iconst (v := nI 0) hx hb dX4_makeStep_60 (by decide) ?_
          refine lv_istore (lv' := [(4, .int (nI 0)), (3, .int (f_X3_lowestMissedCustomer x (f_X4_findMasterPlan z x y))), (2, .int (f_X4_findMasterPlan z x y)), (0, .ref (ad b)), (1, .ref (ad q))]) hx hb dX4_makeStep_61 hl (by decide) rfl (fun ls hl => ?_)
          refine lv_iload hx hb dX4_makeStep_63 (lv_at hl 0 rfl) ?_
          refine z_ne (tgt := 81) hx hb (by omega) dX4_makeStep_65 (by decide) (fun h => absurd h (by omega)) (fun c10 => ?_)
          refine lv_aload_n hx hb dX4_makeStep_68 rfl (lv_at hl 3 rfl) ?_
          refine g_So_cuts X hP hp0 m40 dX4_makeStep_69 ?_
          refine r_call (As := []) (rest := []) (ci := 1) X hP (c_X1_isFull hp2) o_X1_isFull rfl hp2.lt hp2.ob m350 ⟨rfl, rfl⟩ ⟨Nat.le_of_ble_eq_true rfl, Nat.le_of_ble_eq_true rfl⟩ rfl hl.1 rfl (Nat.le_of_ble_eq_true rfl) ⟨Nat.zero_le _, Nat.zero_le _⟩ dX4_makeStep_72 ?_
          refine q_eqB (tgt := 81) hx hb dX4_makeStep_75 (by decide) (fun c11 => ?_) (fun c11 => ?_)
          · refine lv_aload_n hx hb dX4_makeStep_81 rfl (lv_at hl 3 rfl) ?_
            refine lv_dup hx hb dX4_makeStep_82 rfl ?_
            refine g_So_steps X hP hp0 m42 dX4_makeStep_83 ?_
            refine lv_iconst (v := nI 1) hx hb dX4_makeStep_86 (by decide) ?_
            refine lv_iadd hx hb dX4_makeStep_87 ?_
            refine p_So_steps X hi hP hS hp0 m42 (v := (uT z) + (nI 1)) dX4_makeStep_88 (fun V12 H12 locs12 hp0 h2 hP hS => ?_)
            have hp0 : SoP N ad V12 t b (mkO (uB z) ((uT z) + (nI 1))) := hp0
            have hp1 := hp1.keep (V1 := V12) (fun k h8 h9 => h2 k (by omega))
            have hp2 := hp2.keep (V1 := V12) (fun k h8 h9 => h2 k (by omega))
            have hp3 := hp3.keep (V1 := V12) (fun k h8 h9 => h2 k (by omega))
            have hfr : ∀ k, (k ≠ b ∧ (k < b + 13 ∨ b + 57 ≤ k) ∧ k ≠ q) → V12 k = V k := fun k hk => (h2 k (by omega)).trans (hfr k hk)
            refine lv_iload_n hx hb dX4_makeStep_91 rfl (lv_at hl 1 rfl) ?_
            refine lv_iconst (v := (-1)) hx hb dX4_makeStep_92 (by decide) ?_
            refine lv_icmp_eq (tgt := 111) hx hb dX4_makeStep_93 (by decide) (fun c13 => ?_) (fun h => by first | exact absurd h c3 | exact absurd c3 h)
            refine lv_aload_n hx hb dX4_makeStep_111 rfl (lv_at hl 3 rfl) ?_
            refine lv_iload_n hx hb dX4_makeStep_112 rfl (lv_at hl 2 rfl) ?_
            refine r_callW (As := [.int (f_X4_findMasterPlan z x y)]) (rest := []) (ci := 4) X hP hS (c_X4_improveBest hi hp0 hp1 hp2 (f_X4_findMasterPlan z x y)) o_X4_improveBest rfl hp0.lt hp0.ob m363 ⟨rfl, rfl⟩ ⟨Nat.le_of_ble_eq_true rfl, Nat.le_of_ble_eq_true rfl⟩ rfl hl.1 rfl (Nat.le_of_ble_eq_true rfl) ⟨Nat.zero_le _, Nat.zero_le _⟩ dX4_makeStep_113 (fun V14 H14 locs14 hq hP hS => ?_)
            obtain ⟨hp0, h2⟩ := hq
            have hp0 : SoP N ad V14 t b (mkO (uB (f_X4_improveBest (mkO (uB z) ((uT z) + (nI 1))) x y (f_X4_findMasterPlan z x y))) ((uT z) + (nI 1))) := hp0.ext rfl u_X4_improveBest_0_1
            have hp1 := hp1.keep (V1 := V14) (fun k h8 h9 => h2 k (by omega))
            have hp2 := hp2.keep (V1 := V14) (fun k h8 h9 => h2 k (by omega))
            have hp3 := hp3.keep (V1 := V14) (fun k h8 h9 => h2 k (by omega))
            have hfr : ∀ k, (k ≠ b ∧ (k < b + 13 ∨ b + 57 ≤ k) ∧ k ≠ q) → V14 k = V k := fun k hk => (h2 k (by omega)).trans (hfr k hk)
            refine lv_iload hx hb dX4_makeStep_116 (lv_at hl 0 rfl) ?_
            refine z_eq (tgt := 123) hx hb (by omega) dX4_makeStep_118 (by decide) (fun c15 => ?_) (fun h => absurd h (by omega))
            refine lv_iconst (v := nI 0) hx hb dX4_makeStep_123 (by decide) ?_
            refine lv_istore (lv' := [(5, .int (nI 0)), (4, .int (nI 0)), (3, .int (f_X3_lowestMissedCustomer x (f_X4_findMasterPlan z x y))), (2, .int (f_X4_findMasterPlan z x y)), (0, .ref (ad b)), (1, .ref (ad q))]) hx hb dX4_makeStep_124 hl (by decide) rfl (fun ls hl => ?_)
            have L16 : ∀ (dx_16 ix_16 : Nat) (u3_0_16 : Nat → Int32) (V16 : Nat → va_E) (H16 : Heap) (locs16 : List Loc) (ls : Array Slot), (ix_16 + dx_16 = pM x) → (l_X4_makeStep_126 z x y nu dx_16 ix_16 u3_0_16 = l_X4_makeStep_126 z x y nu (pM x) 0 nu) → (SoP N ad V16 t b (mkO (uB (f_X4_improveBest (mkO (uB z) ((uT z) + (nI 1))) x y (f_X4_findMasterPlan z x y))) ((uT z) + (nI 1)))) → (PlP N ad V16 t (b + 1) x) → (CuP N ad V16 t (b + 13) y) → (NuP N V16 t q u3_0_16) → (∀ k, (k ≠ b ∧ (k < b + 13 ∨ b + 57 ≤ k) ∧ k ≠ q) → V16 k = V k) → (HP dd N ad V16 H16) → (va_S (dm N ad H.size) H H16 locs16) → (lv_has ls 6 [(0, .ref (ad b)), (1, .ref (ad q)), (2, .int (f_X4_findMasterPlan z x y)), (3, .int (f_X3_lowestMissedCustomer x (f_X4_findMasterPlan z x y))), (4, .int (nI 0)), (5, .int (nI ix_16))]) → W p l e rmX4_makeStep s m as below meth c H16 locs16 0 0 Q (F0 m 126 ls []) := by
              intro dx_16
              induction dx_16 with
              | zero =>
                intro ix_16 u3_0_16 V16 H16 locs16 ls hid hvx_16 hp0 hp1 hp2 hp3 hfr hP hS hl
                have hiN : pM x = ix_16 := by omega
                subst hiN
                have hvx_16 : u3_0_16 = l_X4_makeStep_126 z x y nu (pM x) 0 nu := hvx_16
                have hh0 : u3_0_16 = l_X4_makeStep_126 z x y nu (pM x) 0 nu := hvx_16
                subst hh0
                refine lv_iload hx hb dX4_makeStep_126 (lv_at hl 5 rfl) ?_
                refine lv_aload_n hx hb dX4_makeStep_128 rfl (lv_at hl 0 rfl) ?_
                refine g_So_places X hP hp0 m36 dX4_makeStep_129 ?_
                refine g_Pl_customerCount X hP hp1 m276 dX4_makeStep_132 ?_
                refine q_ge (tgt := 158) hx hb (by omega) (by omega) dX4_makeStep_135 (by decide) (fun c17 => ?_) (fun h => absurd h (by omega))
                refine lv_aload_n hx hb dX4_makeStep_158 rfl (lv_at hl 0 rfl) ?_
                refine g_So_cuts X hP hp0 m40 dX4_makeStep_159 ?_
                refine lv_aload_n hx hb dX4_makeStep_162 rfl (lv_at hl 0 rfl) ?_
                refine g_So_places X hP hp0 m36 dX4_makeStep_163 ?_
                refine lv_aload_n hx hb dX4_makeStep_166 rfl (lv_at hl 1 rfl) ?_
                refine r_callM (As := [.ref (ad (b + 1)), .ref (ad q)]) (rest := []) (ci := 1) X hP hS (c_X1_appendPriceCut hi hp2 hp1 hp3 (by omega) (by omega)) o_X1_appendPriceCut rfl hp2.lt hp2.ob m368 ⟨rfl, rfl⟩ ⟨Nat.le_of_ble_eq_true rfl, Nat.le_of_ble_eq_true rfl⟩ rfl hl.1 rfl (Nat.le_of_ble_eq_true rfl) ⟨Nat.zero_le _, Nat.zero_le _⟩ dX4_makeStep_167 (fun r V18 H18 locs18 hq hP hS => ?_)
                obtain ⟨hr, hp2, h2⟩ := hq
                subst hr
                have hi2_0 := hp2.i0
                have hp0 := hp0.keep (V1 := V18) (fun k h8 h9 => h2 k (by omega))
                have hp1 := hp1.keep (V1 := V18) (fun k h8 h9 => h2 k (by omega))
                have hp3 := hp3.keep (V1 := V18) (fun k h8 h9 => h2 k (by omega))
                have hfr : ∀ k, (k ≠ b ∧ (k < b + 13 ∨ b + 57 ≤ k) ∧ k ≠ q) → V18 k = V k := fun k hk => (h2 k (by omega)).trans (hfr k hk)
                refine lv_pop hx hb dX4_makeStep_170 rfl ?_
                refine lv_iconst (v := nI 1) hx hb dX4_makeStep_171 (by decide) ?_
                have hfin : f_X4_makeStep z x y nu = (nI 1, mkO (uB (f_X4_improveBest (mkO (uB z) ((uT z) + (nI 1))) x y (f_X4_findMasterPlan z x y))) ((uT z) + (nI 1)), ((f_X1_appendPriceCut y x (l_X4_makeStep_126 z x y nu (pM x) 0 nu)).2), l_X4_makeStep_126 z x y nu (pM x) 0 nu) := (by rw [f_X4_makeStep, if_neg c1, if_neg c2, if_pos c3, if_neg c9, if_neg (nt c11)] <;> rfl)
                exact kr 172 ls _ _ _ _ hP hS rfl ⟨by rw [hfin] <;> rfl, by rw [hfin]; exact hp0, by rw [hfin]; exact hp2, by rw [hfin]; exact hp3, hfr⟩ dX4_makeStep_172
              | succ dx_16 ihx_16 =>
                intro ix_16 u3_0_16 V16 H16 locs16 ls hid hvx_16 hp0 hp1 hp2 hp3 hfr hP hS hl
                refine lv_iload hx hb dX4_makeStep_126 (lv_at hl 5 rfl) ?_
                refine lv_aload_n hx hb dX4_makeStep_128 rfl (lv_at hl 0 rfl) ?_
                refine g_So_places X hP hp0 m36 dX4_makeStep_129 ?_
                refine g_Pl_customerCount X hP hp1 m276 dX4_makeStep_132 ?_
                refine q_ge (tgt := 158) hx hb (by omega) (by omega) dX4_makeStep_135 (by decide) (fun h => absurd h (by omega)) (fun c19 => ?_)
                refine lv_aload_n hx hb dX4_makeStep_138 rfl (lv_at hl 1 rfl) ?_
                refine lv_iload hx hb dX4_makeStep_139 (lv_at hl 5 rfl) ?_
                refine lv_aload_n hx hb dX4_makeStep_141 rfl (lv_at hl 0 rfl) ?_
                refine g_So_places X hP hp0 m36 dX4_makeStep_142 ?_
                refine lv_iload_n hx hb dX4_makeStep_145 rfl (lv_at hl 2 rfl) ?_
                refine lv_iload hx hb dX4_makeStep_146 (lv_at hl 5 rfl) ?_
                refine r_call (As := [.int (f_X4_findMasterPlan z x y), .int (nI ix_16)]) (rest := [.int (nI ix_16), .ref (ad q)]) (ci := 3) X hP (c_X3_leastRoutePrice hp1 (f_X4_findMasterPlan z x y) ix_16 (by omega)) o_X3_leastRoutePrice rfl hp1.lt hp1.ob m367 ⟨rfl, rfl⟩ ⟨Nat.le_of_ble_eq_true rfl, Nat.le_of_ble_eq_true rfl⟩ rfl hl.1 rfl (Nat.le_of_ble_eq_true rfl) ⟨Nat.zero_le _, Nat.zero_le _⟩ dX4_makeStep_148 ?_
                refine a_nst X hi hP hS hp3 (by omega) dX4_makeStep_151 (fun V20 H20 locs20 hp3 h2 hP hS => ?_)
                have hp3 : NuP N V20 t q (upd u3_0_16 ix_16 (f_X3_leastRoutePrice x (f_X4_findMasterPlan z x y) ix_16)) := hp3
                have hp0 := hp0.keep (V1 := V20) (fun k h8 h9 => h2 k (by omega))
                have hp1 := hp1.keep (V1 := V20) (fun k h8 h9 => h2 k (by omega))
                have hp2 := hp2.keep (V1 := V20) (fun k h8 h9 => h2 k (by omega))
                have hfr : ∀ k, (k ≠ b ∧ (k < b + 13 ∨ b + 57 ≤ k) ∧ k ≠ q) → V20 k = V k := fun k hk => (h2 k (by omega)).trans (hfr k hk)
                refine lv_iinc (v := nI (ix_16 + 1)) (lv' := [(5, .int (nI (ix_16 + 1))), (0, .ref (ad b)), (1, .ref (ad q)), (2, .int (f_X4_findMasterPlan z x y)), (3, .int (f_X3_lowestMissedCustomer x (f_X4_findMasterPlan z x y))), (4, .int (nI 0))]) hx hb dX4_makeStep_152 hl (k := 5) rfl (nI_inc _) (by decide) rfl (fun ls hl => ?_)
                refine lv_goto (tgt := 126) hx hb dX4_makeStep_155 (by decide) ?_
                exact ihx_16 (ix_16 + 1) (upd u3_0_16 ix_16 (f_X3_leastRoutePrice x (f_X4_findMasterPlan z x y) ix_16)) _ _ _ ls (by omega) (Eq.trans (Eq.symm (by rw [l_X4_makeStep_126] <;> rfl)) hvx_16) hp0 hp1 hp2 hp3 hfr hP hS (lv_sub hl [1, 2, 3, 4, 5, 0] rfl)
            exact L16 (pM x) 0 nu _ _ _ ls (by omega) rfl hp0 hp1 hp2 hp3 hfr hP hS (lv_sub hl [4, 5, 3, 2, 1, 0] rfl)
          · refine lv_bipush (v := (-3)) hx hb dX4_makeStep_78 (by decide) ?_
            have hfin : f_X4_makeStep z x y nu = ((-3), z, y, nu) := (by rw [f_X4_makeStep, if_neg c1, if_neg c2, if_pos c3, if_neg c9, if_pos c11] <;> rfl)
            exact kr 80 ls _ _ _ _ hP hS rfl ⟨by rw [hfin] <;> rfl, by rw [hfin]; exact hp0, by rw [hfin]; exact hp2, by rw [hfin]; exact hp3, hfr⟩ dX4_makeStep_80
        · refine lv_iconst (v := nI 1) hx hb dX4_makeStep_56 (by decide) ?_
          refine lv_goto (tgt := 61) hx hb dX4_makeStep_57 (by decide) ?_
          refine lv_istore (lv' := [(4, .int (nI 1)), (3, .int (f_X3_lowestMissedCustomer x (f_X4_findMasterPlan z x y))), (2, .int (f_X4_findMasterPlan z x y)), (0, .ref (ad b)), (1, .ref (ad q))]) hx hb dX4_makeStep_61 hl (by decide) rfl (fun ls hl => ?_)
          refine lv_iload hx hb dX4_makeStep_63 (lv_at hl 0 rfl) ?_
          refine z_ne (tgt := 81) hx hb (by omega) dX4_makeStep_65 (by decide) (fun c21 => ?_) (fun h => absurd h (by omega))
          refine lv_aload_n hx hb dX4_makeStep_81 rfl (lv_at hl 3 rfl) ?_
          refine lv_dup hx hb dX4_makeStep_82 rfl ?_
          refine g_So_steps X hP hp0 m42 dX4_makeStep_83 ?_
          refine lv_iconst (v := nI 1) hx hb dX4_makeStep_86 (by decide) ?_
          refine lv_iadd hx hb dX4_makeStep_87 ?_
          refine p_So_steps X hi hP hS hp0 m42 (v := (uT z) + (nI 1)) dX4_makeStep_88 (fun V22 H22 locs22 hp0 h2 hP hS => ?_)
          have hp0 : SoP N ad V22 t b (mkO (uB z) ((uT z) + (nI 1))) := hp0
          have hp1 := hp1.keep (V1 := V22) (fun k h8 h9 => h2 k (by omega))
          have hp2 := hp2.keep (V1 := V22) (fun k h8 h9 => h2 k (by omega))
          have hp3 := hp3.keep (V1 := V22) (fun k h8 h9 => h2 k (by omega))
          have hfr : ∀ k, (k ≠ b ∧ (k < b + 13 ∨ b + 57 ≤ k) ∧ k ≠ q) → V22 k = V k := fun k hk => (h2 k (by omega)).trans (hfr k hk)
          refine lv_iload_n hx hb dX4_makeStep_91 rfl (lv_at hl 1 rfl) ?_
          refine lv_iconst (v := (-1)) hx hb dX4_makeStep_92 (by decide) ?_
          refine lv_icmp_eq (tgt := 111) hx hb dX4_makeStep_93 (by decide) (fun c23 => ?_) (fun h => by first | exact absurd h c3 | exact absurd c3 h)
          refine lv_aload_n hx hb dX4_makeStep_111 rfl (lv_at hl 3 rfl) ?_
          refine lv_iload_n hx hb dX4_makeStep_112 rfl (lv_at hl 2 rfl) ?_
          refine r_callW (As := [.int (f_X4_findMasterPlan z x y)]) (rest := []) (ci := 4) X hP hS (c_X4_improveBest hi hp0 hp1 hp2 (f_X4_findMasterPlan z x y)) o_X4_improveBest rfl hp0.lt hp0.ob m363 ⟨rfl, rfl⟩ ⟨Nat.le_of_ble_eq_true rfl, Nat.le_of_ble_eq_true rfl⟩ rfl hl.1 rfl (Nat.le_of_ble_eq_true rfl) ⟨Nat.zero_le _, Nat.zero_le _⟩ dX4_makeStep_113 (fun V24 H24 locs24 hq hP hS => ?_)
          obtain ⟨hp0, h2⟩ := hq
          have hp0 : SoP N ad V24 t b (mkO (uB (f_X4_improveBest (mkO (uB z) ((uT z) + (nI 1))) x y (f_X4_findMasterPlan z x y))) ((uT z) + (nI 1))) := hp0.ext rfl u_X4_improveBest_0_1
          have hp1 := hp1.keep (V1 := V24) (fun k h8 h9 => h2 k (by omega))
          have hp2 := hp2.keep (V1 := V24) (fun k h8 h9 => h2 k (by omega))
          have hp3 := hp3.keep (V1 := V24) (fun k h8 h9 => h2 k (by omega))
          have hfr : ∀ k, (k ≠ b ∧ (k < b + 13 ∨ b + 57 ≤ k) ∧ k ≠ q) → V24 k = V k := fun k hk => (h2 k (by omega)).trans (hfr k hk)
          refine lv_iload hx hb dX4_makeStep_116 (lv_at hl 0 rfl) ?_
          refine z_eq (tgt := 123) hx hb (by omega) dX4_makeStep_118 (by decide) (fun h => absurd h (by omega)) (fun c25 => ?_)
          refine lv_iconst (v := nI 2) hx hb dX4_makeStep_121 (by decide) ?_
          have hfin : f_X4_makeStep z x y nu = (nI 2, mkO (uB (f_X4_improveBest (mkO (uB z) ((uT z) + (nI 1))) x y (f_X4_findMasterPlan z x y))) ((uT z) + (nI 1)), y, nu) := (by rw [f_X4_makeStep, if_neg c1, if_neg c2, if_pos c3, if_pos c9] <;> rfl)
          exact kr 122 ls _ _ _ _ hP hS rfl ⟨by rw [hfin] <;> rfl, by rw [hfin]; exact hp0, by rw [hfin]; exact hp2, by rw [hfin]; exact hp3, hfr⟩ dX4_makeStep_122
    · refine lv_bipush (v := (-4)) hx hb dX4_makeStep_23 (by decide) ?_
      have hfin : f_X4_makeStep z x y nu = ((-4), z, y, nu) := (by rw [f_X4_makeStep, if_neg c1, if_pos c2] <;> rfl)
      exact kr 25 ls _ _ _ _ hP hS rfl ⟨by rw [hfin] <;> rfl, by rw [hfin]; exact hp0, by rw [hfin]; exact hp2, by rw [hfin]; exact hp3, hfr⟩ dX4_makeStep_25
  · refine lv_bipush (v := (-4)) hx hb dX4_makeStep_10 (by decide) ?_
    have hfin : f_X4_makeStep z x y nu = ((-4), z, y, nu) := (by rw [f_X4_makeStep, if_pos c1] <;> rfl)
    exact kr 12 ls _ _ _ _ hP hS rfl ⟨by rw [hfin] <;> rfl, by rw [hfin]; exact hp0, by rw [hfin]; exact hp2, by rw [hfin]; exact hp3, hfr⟩ dX4_makeStep_12
theorem o_X4_makeStep : okV yX4_makeStep cX4_makeStep 6 (some .int) 1 := ⟨m273, m274, m14, m275, by decide +kernel, by decide +kernel, by decide +kernel⟩
def rmX0_append : Room := { frames := 0, cells := 0, slots := 0, locals := 0 }
def f_X0_append (tx : TxC) (character : Int32) : TxC :=
  (if (tL tx) < 60 then mkX (upd (tC tx) (tL tx) (vp_nar .char character)) (tL tx + 1) else tx)
set_option maxHeartbeats 4000000 in
set_option maxRecDepth 100000 in
theorem c_X0_append {l : Launch} {dd : va_G} {t : CL4} {N : Nat} {ad : Nat → Nat} {V : Nat → va_E} {b : Nat} {tx : TxC}  (hi : inj N ad) (hp0 : TxP N ad V t b tx) (character : Int32)  : MV l dd t N ad V yX0_append cX0_append 2 rmX0_append [.ref (ad b), .int (character)] (fun V1 => (TxP N ad V1 t b (f_X0_append tx character)) ∧ (∀ k, (k < b ∨ b + 2 ≤ k) → V1 k = V k)) := by
  refine MV.of (by decide +kernel) ⟨rfl, rfl⟩ (Nat.le_of_ble_eq_true rfl) ?_
  intro p e s m as below meth c Q X H hP hS ls hl kr
  have X : WX p s m as c cX0_append 2 RX0 dd t := X
  have hx := X.1.1
  have hb := X.1.2.1
  have hl : lv_has ls 2 [(0, .ref (ad b)), (1, .int (character))] := hl
  have hi0_0 := hp0.i0
  have hle0 := hp0.le
  have hfr : ∀ k, (k < b ∨ b + 2 ≤ k) → V k = V k := fun _ _ => rfl
  refine lv_aload_n hx hb dX0_append_0 rfl (lv_at hl 0 rfl) ?_
  refine g_Tx_length X hP hp0 m78 dX0_append_1 ?_
  refine lv_bipush (v := nI 60) hx hb dX0_append_4 (by decide) ?_
  refine q_ge (tgt := 29) hx hb (by omega) (by omega) dX0_append_6 (by decide) (fun c1 => ?_) (fun c1 => ?_)
  · have hfin : f_X0_append tx character = tx := (by rw [f_X0_append, if_neg (Nat.not_lt.mpr c1)] <;> rfl)
    exact kr 29 ls _ _ _ hP hS ⟨by rw [hfin]; exact hp0, hfr⟩ dX0_append_29
  · refine lv_aload_n hx hb dX0_append_9 rfl (lv_at hl 0 rfl) ?_
    refine g_Tx_characters X hP hp0 m77 dX0_append_10 ?_
    refine lv_aload_n hx hb dX0_append_13 rfl (lv_at hl 0 rfl) ?_
    refine g_Tx_length X hP hp0 m78 dX0_append_14 ?_
    refine lv_iload_n hx hb dX0_append_17 rfl (lv_at hl 1 rfl) ?_
    refine s_Tx_characters X hi hP hS hp0 (by omega) dX0_append_18 (fun V2 H2 locs2 hp0 h2 hP hS => ?_)
    have hp0 : TxP N ad V2 t b (mkX (upd (tC tx) (tL tx) (vp_nar .char character)) (tL tx)) := hp0
    have hfr : ∀ k, (k < b ∨ b + 2 ≤ k) → V2 k = V k := fun k hk => (h2 k (by omega)).trans (hfr k hk)
    refine lv_aload_n hx hb dX0_append_19 rfl (lv_at hl 0 rfl) ?_
    refine lv_dup hx hb dX0_append_20 rfl ?_
    refine g_Tx_length X hP hp0 m78 dX0_append_21 ?_
    refine W.eq (g2 := F0 m 24 ls [.int (nI (tL tx)), .ref (ad b)]) rfl ?_
    refine lv_iconst (v := nI 1) hx hb dX0_append_24 (by decide) ?_
    refine q_iadd hx hb dX0_append_25 ?_
    refine W.eq (g2 := F0 m 26 ls [.int (nI (tL tx + 1)), .ref (ad b)]) rfl ?_
    refine p_Tx_length X hi hP hS hp0 m78 (v := tL tx + 1) (hv := by omega) dX0_append_26 (fun V3 H3 locs3 hp0 h2 hP hS => ?_)
    have hp0 : TxP N ad V3 t b (mkX (upd (tC tx) (tL tx) (vp_nar .char character)) (tL tx + 1)) := hp0
    have hfr : ∀ k, (k < b ∨ b + 2 ≤ k) → V3 k = V k := fun k hk => (h2 k (by omega)).trans (hfr k hk)
    have hfin : f_X0_append tx character = mkX (upd (tC tx) (tL tx) (vp_nar .char character)) (tL tx + 1) := (by rw [f_X0_append, if_pos c1] <;> rfl)
    exact kr 29 ls _ _ _ hP hS ⟨by rw [hfin]; exact hp0, hfr⟩ dX0_append_29
theorem o_X0_append : okV yX0_append cX0_append 2 none 1 := ⟨m555, m556, m25, m557, by decide +kernel, by decide +kernel, by decide +kernel⟩
def rmX0_readNumbers : Room := { frames := 2, cells := 0, slots := 0, locals := 42 }
def l_X0_readNumbers_5 (tx : TxC) (nu : Nat → Int32) (wanted : Nat) : Nat → Nat → Nat → (Nat → Int32) → Int32 × (Nat → Int32)
  | 0, ix_1, a3_1, u1_0_1 => (if a3_1 < (tL tx) then (nI a3_1, u1_0_1) else ((-1), u1_0_1))
  | dx_1 + 1, ix_1, a3_1, u1_0_1 => (if 0 < ix_1 then (if (f_X0_isCommaAt tx a3_1) = true then (if (f_X0_isDigitAt tx (a3_1 + 1)) = true then (if (f_X0_digitAt tx (a3_1 + 1)) = 0 then l_X0_readNumbers_5 tx nu wanted dx_1 (ix_1 + 1) (a3_1 + 1 + 1) (upd u1_0_1 ix_1 (f_X0_digitAt tx (a3_1 + 1))) else (if (f_X0_isDigitAt tx (a3_1 + 1 + 1)) = true then l_X0_readNumbers_5 tx nu wanted dx_1 (ix_1 + 1) (a3_1 + 1 + 1 + 1) (upd u1_0_1 ix_1 (((f_X0_digitAt tx (a3_1 + 1)) * (nI 10)) + (f_X0_digitAt tx (a3_1 + 1 + 1)))) else l_X0_readNumbers_5 tx nu wanted dx_1 (ix_1 + 1) (a3_1 + 1 + 1) (upd u1_0_1 ix_1 (f_X0_digitAt tx (a3_1 + 1))))) else (nI (a3_1 + 1), u1_0_1)) else (nI a3_1, u1_0_1)) else (if (f_X0_isDigitAt tx a3_1) = true then (if (f_X0_digitAt tx a3_1) = 0 then l_X0_readNumbers_5 tx nu wanted dx_1 (ix_1 + 1) (a3_1 + 1) (upd u1_0_1 ix_1 (f_X0_digitAt tx a3_1)) else (if (f_X0_isDigitAt tx (a3_1 + 1)) = true then l_X0_readNumbers_5 tx nu wanted dx_1 (ix_1 + 1) (a3_1 + 1 + 1) (upd u1_0_1 ix_1 (((f_X0_digitAt tx a3_1) * (nI 10)) + (f_X0_digitAt tx (a3_1 + 1)))) else l_X0_readNumbers_5 tx nu wanted dx_1 (ix_1 + 1) (a3_1 + 1) (upd u1_0_1 ix_1 (f_X0_digitAt tx a3_1)))) else (nI a3_1, u1_0_1)))
def f_X0_readNumbers (tx : TxC) (nu : Nat → Int32) (wanted : Nat) : Int32 × (Nat → Int32) :=
  l_X0_readNumbers_5 tx nu wanted wanted 0 0 nu
set_option maxHeartbeats 4000000 in
set_option maxRecDepth 100000 in
theorem c_X0_readNumbers {l : Launch} {dd : va_G} {t : CL4} {N : Nat} {ad : Nat → Nat} {V : Nat → va_E} {b : Nat} {q : Nat} {tx : TxC} {nu : Nat → Int32}  (hi : inj N ad) (hp0 : TxP N ad V t b tx) (hp1 : NuP N V t q nu) (wanted : Nat) (hq : q < b ∨ b + 2 ≤ q) (h_w : wanted ≤ 8) : MM l dd t N ad V yX0_readNumbers cX0_readNumbers 6 (some .int) rmX0_readNumbers [.ref (ad b), .ref (ad q), .int (nI wanted)] (fun r V1 => (r = (f_X0_readNumbers tx nu wanted).1) ∧ (NuP N V1 t q ((f_X0_readNumbers tx nu wanted).2)) ∧ (∀ k, (k ≠ q) → V1 k = V k)) := by
  refine MM.of (by decide +kernel) ⟨rfl, rfl⟩ (Nat.le_of_ble_eq_true rfl) rfl ?_
  intro p e s m as below meth c Q X H hP hS ls hl kr
  have X : WX p s m as c cX0_readNumbers 6 RX0 dd t := X
  have hx := X.1.1
  have hb := X.1.2.1
  have hl : lv_has ls 6 [(0, .ref (ad b)), (1, .ref (ad q)), (2, .int (nI wanted))] := hl
  have hi0_0 := hp0.i0
  have hle0 := hp0.le
  have hle1 := hp1.1
  have hfr : ∀ k, (k ≠ q) → V k = V k := fun _ _ => rfl
  refine lv_iconst (v := nI 0) hx hb dX0_readNumbers_0 (by decide) ?_
  refine lv_istore_n (lv' := [(3, .int (nI 0)), (0, .ref (ad b)), (1, .ref (ad q)), (2, .int (nI wanted))]) hx hb dX0_readNumbers_1 rfl hl (by decide) rfl (fun ls hl => ?_)
  refine lv_iconst (v := nI 0) hx hb dX0_readNumbers_2 (by decide) ?_
  refine lv_istore (lv' := [(4, .int (nI 0)), (3, .int (nI 0)), (0, .ref (ad b)), (1, .ref (ad q)), (2, .int (nI wanted))]) hx hb dX0_readNumbers_3 hl (by decide) rfl (fun ls hl => ?_)
  have hF1 : f_X0_readNumbers tx nu wanted = l_X0_readNumbers_5 tx nu wanted wanted 0 0 nu := (by rw [f_X0_readNumbers] <;> rfl)
  have L1 : ∀ (dx_1 ix_1 : Nat) (a3_1 : Nat) (u1_0_1 : Nat → Int32) (V1 : Nat → va_E) (H1 : Heap) (locs1 : List Loc) (ls : Array Slot), (ix_1 + dx_1 = wanted) → (l_X0_readNumbers_5 tx nu wanted dx_1 ix_1 a3_1 u1_0_1 = l_X0_readNumbers_5 tx nu wanted wanted 0 0 nu) → (a3_1 ≤ tL tx) → (TxP N ad V1 t b tx) → (NuP N V1 t q u1_0_1) → (∀ k, (k ≠ q) → V1 k = V k) → (HP dd N ad V1 H1) → (va_S (dm N ad H.size) H H1 locs1) → (lv_has ls 6 [(0, .ref (ad b)), (1, .ref (ad q)), (2, .int (nI wanted)), (3, .int (nI a3_1)), (4, .int (nI ix_1))]) → W p l e rmX0_readNumbers s m as below meth c H1 locs1 0 0 Q (F0 m 5 ls []) := by
    intro dx_1
    induction dx_1 with
    | zero =>
      intro ix_1 a3_1 u1_0_1 V1 H1 locs1 ls hid hvx_1 hat hp0 hp1 hfr hP hS hl
      have hiN : wanted = ix_1 := by omega
      subst hiN
      refine lv_iload hx hb dX0_readNumbers_5 (lv_at hl 4 rfl) ?_
      refine lv_iload_n hx hb dX0_readNumbers_7 rfl (lv_at hl 2 rfl) ?_
      refine q_ge (tgt := 90) hx hb (by omega) (by omega) dX0_readNumbers_8 (by decide) (fun c2 => ?_) (fun h => absurd h (by omega))
      refine lv_iload_n hx hb dX0_readNumbers_90 rfl (lv_at hl 3 rfl) ?_
      refine lv_aload_n hx hb dX0_readNumbers_91 rfl (lv_at hl 0 rfl) ?_
      refine g_Tx_length X hP hp0 m78 dX0_readNumbers_92 ?_
      refine q_ge (tgt := 102) hx hb (by omega) (by omega) dX0_readNumbers_95 (by decide) (fun c3 => ?_) (fun c3 => ?_)
      · refine lv_iconst (v := (-1)) hx hb dX0_readNumbers_102 (by decide) ?_
        have hfin : f_X0_readNumbers tx nu wanted = ((-1), u1_0_1) := ((hF1.trans hvx_1.symm).trans (by rw [l_X0_readNumbers_5, if_neg (Nat.not_lt.mpr c3)] <;> rfl))
        exact kr 103 ls _ _ _ _ hP hS rfl ⟨by rw [hfin] <;> rfl, by rw [hfin]; exact hp1, hfr⟩ dX0_readNumbers_103
      · refine lv_iload_n hx hb dX0_readNumbers_98 rfl (lv_at hl 3 rfl) ?_
        refine lv_goto (tgt := 103) hx hb dX0_readNumbers_99 (by decide) ?_
        have hfin : f_X0_readNumbers tx nu wanted = (nI a3_1, u1_0_1) := ((hF1.trans hvx_1.symm).trans (by rw [l_X0_readNumbers_5, if_pos c3] <;> rfl))
        exact kr 103 ls _ _ _ _ hP hS rfl ⟨by rw [hfin] <;> rfl, by rw [hfin]; exact hp1, hfr⟩ dX0_readNumbers_103
    | succ dx_1 ihx_1 =>
      intro ix_1 a3_1 u1_0_1 V1 H1 locs1 ls hid hvx_1 hat hp0 hp1 hfr hP hS hl
      refine lv_iload hx hb dX0_readNumbers_5 (lv_at hl 4 rfl) ?_
      refine lv_iload_n hx hb dX0_readNumbers_7 rfl (lv_at hl 2 rfl) ?_
      refine q_ge (tgt := 90) hx hb (by omega) (by omega) dX0_readNumbers_8 (by decide) (fun h => absurd h (by omega)) (fun c4 => ?_)
      refine lv_iload hx hb dX0_readNumbers_11 (lv_at hl 4 rfl) ?_
      refine z_le (tgt := 29) hx hb (by omega) dX0_readNumbers_13 (by decide) (fun c5 => ?_) (fun c5 => ?_)
      · refine lv_aload_n hx hb dX0_readNumbers_29 rfl (lv_at hl 0 rfl) ?_
        refine lv_iload_n hx hb dX0_readNumbers_30 rfl (lv_at hl 3 rfl) ?_
        refine r_call (As := [.int (nI a3_1)]) (rest := []) (ci := 0) X hP (c_X0_isDigitAt hp0 a3_1 (by omega)) o_X0_isDigitAt rfl hp0.lt hp0.ob m471 ⟨rfl, rfl⟩ ⟨Nat.le_of_ble_eq_true rfl, Nat.le_of_ble_eq_true rfl⟩ rfl hl.1 rfl (Nat.le_of_ble_eq_true rfl) ⟨Nat.zero_le _, Nat.zero_le _⟩ dX0_readNumbers_31 ?_
        refine q_neB (tgt := 39) hx hb dX0_readNumbers_34 (by decide) (fun c6 => ?_) (fun c6 => ?_)
        · have hdgc6 := digit_lt c6
          refine lv_aload_n hx hb dX0_readNumbers_39 rfl (lv_at hl 0 rfl) ?_
          refine lv_iload_n hx hb dX0_readNumbers_40 rfl (lv_at hl 3 rfl) ?_
          refine r_call (As := [.int (nI a3_1)]) (rest := []) (ci := 0) X hP (c_X0_digitAt hp0 a3_1 (by omega)) o_X0_digitAt rfl hp0.lt hp0.ob m475 ⟨rfl, rfl⟩ ⟨Nat.le_of_ble_eq_true rfl, Nat.le_of_ble_eq_true rfl⟩ rfl hl.1 rfl (Nat.le_of_ble_eq_true rfl) ⟨Nat.zero_le _, Nat.zero_le _⟩ dX0_readNumbers_41 ?_
          refine lv_istore (lv' := [(5, .int (f_X0_digitAt tx a3_1)), (0, .ref (ad b)), (1, .ref (ad q)), (2, .int (nI wanted)), (3, .int (nI a3_1)), (4, .int (nI ix_1))]) hx hb dX0_readNumbers_44 hl (by decide) rfl (fun ls hl => ?_)
          refine lv_iinc (v := nI (a3_1 + 1)) (lv' := [(3, .int (nI (a3_1 + 1))), (5, .int (f_X0_digitAt tx a3_1)), (0, .ref (ad b)), (1, .ref (ad q)), (2, .int (nI wanted)), (4, .int (nI ix_1))]) hx hb dX0_readNumbers_46 hl (k := 4) rfl (nI_inc _) (by decide) rfl (fun ls hl => ?_)
          refine lv_iload hx hb dX0_readNumbers_49 (lv_at hl 1 rfl) ?_
          refine lv_if_eq (tgt := 78) hx hb dX0_readNumbers_51 (by decide) (fun c7 => ?_) (fun c7 => ?_)
          · refine lv_aload_n hx hb dX0_readNumbers_78 rfl (lv_at hl 3 rfl) ?_
            refine lv_iload hx hb dX0_readNumbers_79 (lv_at hl 5 rfl) ?_
            refine lv_iload hx hb dX0_readNumbers_81 (lv_at hl 1 rfl) ?_
            refine a_nst X hi hP hS hp1 (by omega) dX0_readNumbers_83 (fun V8 H8 locs8 hp1 h2 hP hS => ?_)
            have hp1 : NuP N V8 t q (upd u1_0_1 ix_1 (f_X0_digitAt tx a3_1)) := hp1
            have hp0 := hp0.keep (V1 := V8) (fun k h8 h9 => h2 k (by omega))
            have hfr : ∀ k, (k ≠ q) → V8 k = V k := fun k hk => (h2 k (by omega)).trans (hfr k hk)
            refine lv_iinc (v := nI (ix_1 + 1)) (lv' := [(4, .int (nI (ix_1 + 1))), (3, .int (nI (a3_1 + 1))), (5, .int (f_X0_digitAt tx a3_1)), (0, .ref (ad b)), (1, .ref (ad q)), (2, .int (nI wanted))]) hx hb dX0_readNumbers_84 hl (k := 5) rfl (nI_inc _) (by decide) rfl (fun ls hl => ?_)
            refine lv_goto (tgt := 5) hx hb dX0_readNumbers_87 (by decide) ?_
            exact ihx_1 (ix_1 + 1) (a3_1 + 1) (upd u1_0_1 ix_1 (f_X0_digitAt tx a3_1)) _ _ _ ls (by omega) (Eq.trans (Eq.symm (by rw [l_X0_readNumbers_5, if_neg (Nat.not_lt.mpr c5), if_pos c6, if_pos c7] <;> rfl)) hvx_1) (by omega) hp0 hp1 hfr hP hS (lv_sub hl [3, 4, 5, 1, 0] rfl)
          · refine lv_aload_n hx hb dX0_readNumbers_54 rfl (lv_at hl 2 rfl) ?_
            refine lv_iload_n hx hb dX0_readNumbers_55 rfl (lv_at hl 0 rfl) ?_
            refine r_call (As := [.int (nI (a3_1 + 1))]) (rest := []) (ci := 0) X hP (c_X0_isDigitAt hp0 (a3_1 + 1) (by omega)) o_X0_isDigitAt rfl hp0.lt hp0.ob m471 ⟨rfl, rfl⟩ ⟨Nat.le_of_ble_eq_true rfl, Nat.le_of_ble_eq_true rfl⟩ rfl hl.1 rfl (Nat.le_of_ble_eq_true rfl) ⟨Nat.zero_le _, Nat.zero_le _⟩ dX0_readNumbers_56 ?_
            refine q_eqB (tgt := 78) hx hb dX0_readNumbers_59 (by decide) (fun c9 => ?_) (fun c9 => ?_)
            · refine lv_aload_n hx hb dX0_readNumbers_78 rfl (lv_at hl 3 rfl) ?_
              refine lv_iload hx hb dX0_readNumbers_79 (lv_at hl 5 rfl) ?_
              refine lv_iload hx hb dX0_readNumbers_81 (lv_at hl 1 rfl) ?_
              refine a_nst X hi hP hS hp1 (by omega) dX0_readNumbers_83 (fun V10 H10 locs10 hp1 h2 hP hS => ?_)
              have hp1 : NuP N V10 t q (upd u1_0_1 ix_1 (f_X0_digitAt tx a3_1)) := hp1
              have hp0 := hp0.keep (V1 := V10) (fun k h8 h9 => h2 k (by omega))
              have hfr : ∀ k, (k ≠ q) → V10 k = V k := fun k hk => (h2 k (by omega)).trans (hfr k hk)
              refine lv_iinc (v := nI (ix_1 + 1)) (lv' := [(4, .int (nI (ix_1 + 1))), (3, .int (nI (a3_1 + 1))), (5, .int (f_X0_digitAt tx a3_1)), (0, .ref (ad b)), (1, .ref (ad q)), (2, .int (nI wanted))]) hx hb dX0_readNumbers_84 hl (k := 5) rfl (nI_inc _) (by decide) rfl (fun ls hl => ?_)
              refine lv_goto (tgt := 5) hx hb dX0_readNumbers_87 (by decide) ?_
              exact ihx_1 (ix_1 + 1) (a3_1 + 1) (upd u1_0_1 ix_1 (f_X0_digitAt tx a3_1)) _ _ _ ls (by omega) (Eq.trans (Eq.symm (by rw [l_X0_readNumbers_5, if_neg (Nat.not_lt.mpr c5), if_pos c6, if_neg c7, if_neg (nt c9)] <;> rfl)) hvx_1) (by omega) hp0 hp1 hfr hP hS (lv_sub hl [3, 4, 5, 1, 0] rfl)
            · have hdgc9 := digit_lt c9
              refine lv_iload hx hb dX0_readNumbers_62 (lv_at hl 1 rfl) ?_
              refine lv_bipush (v := nI 10) hx hb dX0_readNumbers_64 (by decide) ?_
              refine lv_imul hx hb dX0_readNumbers_66 ?_
              refine lv_aload_n hx hb dX0_readNumbers_67 rfl (lv_at hl 2 rfl) ?_
              refine lv_iload_n hx hb dX0_readNumbers_68 rfl (lv_at hl 0 rfl) ?_
              refine r_call (As := [.int (nI (a3_1 + 1))]) (rest := [.int ((f_X0_digitAt tx a3_1) * (nI 10))]) (ci := 0) X hP (c_X0_digitAt hp0 (a3_1 + 1) (by omega)) o_X0_digitAt rfl hp0.lt hp0.ob m475 ⟨rfl, rfl⟩ ⟨Nat.le_of_ble_eq_true rfl, Nat.le_of_ble_eq_true rfl⟩ rfl hl.1 rfl (Nat.le_of_ble_eq_true rfl) ⟨Nat.zero_le _, Nat.zero_le _⟩ dX0_readNumbers_69 ?_
              refine lv_iadd hx hb dX0_readNumbers_72 ?_
              refine lv_istore (lv' := [(5, .int (((f_X0_digitAt tx a3_1) * (nI 10)) + (f_X0_digitAt tx (a3_1 + 1)))), (3, .int (nI (a3_1 + 1))), (0, .ref (ad b)), (1, .ref (ad q)), (2, .int (nI wanted)), (4, .int (nI ix_1))]) hx hb dX0_readNumbers_73 hl (by decide) rfl (fun ls hl => ?_)
              refine lv_iinc (v := nI (a3_1 + 1 + 1)) (lv' := [(3, .int (nI (a3_1 + 1 + 1))), (5, .int (((f_X0_digitAt tx a3_1) * (nI 10)) + (f_X0_digitAt tx (a3_1 + 1)))), (0, .ref (ad b)), (1, .ref (ad q)), (2, .int (nI wanted)), (4, .int (nI ix_1))]) hx hb dX0_readNumbers_75 hl (k := 1) rfl (nI_inc _) (by decide) rfl (fun ls hl => ?_)
              refine lv_aload_n hx hb dX0_readNumbers_78 rfl (lv_at hl 3 rfl) ?_
              refine lv_iload hx hb dX0_readNumbers_79 (lv_at hl 5 rfl) ?_
              refine lv_iload hx hb dX0_readNumbers_81 (lv_at hl 1 rfl) ?_
              refine a_nst X hi hP hS hp1 (by omega) dX0_readNumbers_83 (fun V11 H11 locs11 hp1 h2 hP hS => ?_)
              have hp1 : NuP N V11 t q (upd u1_0_1 ix_1 (((f_X0_digitAt tx a3_1) * (nI 10)) + (f_X0_digitAt tx (a3_1 + 1)))) := hp1
              have hp0 := hp0.keep (V1 := V11) (fun k h8 h9 => h2 k (by omega))
              have hfr : ∀ k, (k ≠ q) → V11 k = V k := fun k hk => (h2 k (by omega)).trans (hfr k hk)
              refine lv_iinc (v := nI (ix_1 + 1)) (lv' := [(4, .int (nI (ix_1 + 1))), (3, .int (nI (a3_1 + 1 + 1))), (5, .int (((f_X0_digitAt tx a3_1) * (nI 10)) + (f_X0_digitAt tx (a3_1 + 1)))), (0, .ref (ad b)), (1, .ref (ad q)), (2, .int (nI wanted))]) hx hb dX0_readNumbers_84 hl (k := 5) rfl (nI_inc _) (by decide) rfl (fun ls hl => ?_)
              refine lv_goto (tgt := 5) hx hb dX0_readNumbers_87 (by decide) ?_
              exact ihx_1 (ix_1 + 1) (a3_1 + 1 + 1) (upd u1_0_1 ix_1 (((f_X0_digitAt tx a3_1) * (nI 10)) + (f_X0_digitAt tx (a3_1 + 1)))) _ _ _ ls (by omega) (Eq.trans (Eq.symm (by rw [l_X0_readNumbers_5, if_neg (Nat.not_lt.mpr c5), if_pos c6, if_neg c7, if_pos c9] <;> rfl)) hvx_1) (by omega) hp0 hp1 hfr hP hS (lv_sub hl [3, 4, 5, 1, 0] rfl)
        · refine lv_iload_n hx hb dX0_readNumbers_37 rfl (lv_at hl 3 rfl) ?_
          have hfin : f_X0_readNumbers tx nu wanted = (nI a3_1, u1_0_1) := ((hF1.trans hvx_1.symm).trans (by rw [l_X0_readNumbers_5, if_neg (Nat.not_lt.mpr c5), if_neg (nt c6)] <;> rfl))
          exact kr 38 ls _ _ _ _ hP hS rfl ⟨by rw [hfin] <;> rfl, by rw [hfin]; exact hp1, hfr⟩ dX0_readNumbers_38
      · refine lv_aload_n hx hb dX0_readNumbers_16 rfl (lv_at hl 0 rfl) ?_
        refine lv_iload_n hx hb dX0_readNumbers_17 rfl (lv_at hl 3 rfl) ?_
        refine r_call (As := [.int (nI a3_1)]) (rest := []) (ci := 0) X hP (c_X0_isCommaAt hp0 a3_1 (by omega)) o_X0_isCommaAt rfl hp0.lt hp0.ob m467 ⟨rfl, rfl⟩ ⟨Nat.le_of_ble_eq_true rfl, Nat.le_of_ble_eq_true rfl⟩ rfl hl.1 rfl (Nat.le_of_ble_eq_true rfl) ⟨Nat.zero_le _, Nat.zero_le _⟩ dX0_readNumbers_18 ?_
        refine q_neB (tgt := 26) hx hb dX0_readNumbers_21 (by decide) (fun c12 => ?_) (fun c12 => ?_)
        · have hcm := comma_lt c12
          refine lv_iinc (v := nI (a3_1 + 1)) (lv' := [(3, .int (nI (a3_1 + 1))), (0, .ref (ad b)), (1, .ref (ad q)), (2, .int (nI wanted)), (4, .int (nI ix_1))]) hx hb dX0_readNumbers_26 hl (k := 3) rfl (nI_inc _) (by decide) rfl (fun ls hl => ?_)
          refine lv_aload_n hx hb dX0_readNumbers_29 rfl (lv_at hl 1 rfl) ?_
          refine lv_iload_n hx hb dX0_readNumbers_30 rfl (lv_at hl 0 rfl) ?_
          refine r_call (As := [.int (nI (a3_1 + 1))]) (rest := []) (ci := 0) X hP (c_X0_isDigitAt hp0 (a3_1 + 1) (by omega)) o_X0_isDigitAt rfl hp0.lt hp0.ob m471 ⟨rfl, rfl⟩ ⟨Nat.le_of_ble_eq_true rfl, Nat.le_of_ble_eq_true rfl⟩ rfl hl.1 rfl (Nat.le_of_ble_eq_true rfl) ⟨Nat.zero_le _, Nat.zero_le _⟩ dX0_readNumbers_31 ?_
          refine q_neB (tgt := 39) hx hb dX0_readNumbers_34 (by decide) (fun c13 => ?_) (fun c13 => ?_)
          · have hdgc13 := digit_lt c13
            refine lv_aload_n hx hb dX0_readNumbers_39 rfl (lv_at hl 1 rfl) ?_
            refine lv_iload_n hx hb dX0_readNumbers_40 rfl (lv_at hl 0 rfl) ?_
            refine r_call (As := [.int (nI (a3_1 + 1))]) (rest := []) (ci := 0) X hP (c_X0_digitAt hp0 (a3_1 + 1) (by omega)) o_X0_digitAt rfl hp0.lt hp0.ob m475 ⟨rfl, rfl⟩ ⟨Nat.le_of_ble_eq_true rfl, Nat.le_of_ble_eq_true rfl⟩ rfl hl.1 rfl (Nat.le_of_ble_eq_true rfl) ⟨Nat.zero_le _, Nat.zero_le _⟩ dX0_readNumbers_41 ?_
            refine lv_istore (lv' := [(5, .int (f_X0_digitAt tx (a3_1 + 1))), (3, .int (nI (a3_1 + 1))), (0, .ref (ad b)), (1, .ref (ad q)), (2, .int (nI wanted)), (4, .int (nI ix_1))]) hx hb dX0_readNumbers_44 hl (by decide) rfl (fun ls hl => ?_)
            refine lv_iinc (v := nI (a3_1 + 1 + 1)) (lv' := [(3, .int (nI (a3_1 + 1 + 1))), (5, .int (f_X0_digitAt tx (a3_1 + 1))), (0, .ref (ad b)), (1, .ref (ad q)), (2, .int (nI wanted)), (4, .int (nI ix_1))]) hx hb dX0_readNumbers_46 hl (k := 1) rfl (nI_inc _) (by decide) rfl (fun ls hl => ?_)
            refine lv_iload hx hb dX0_readNumbers_49 (lv_at hl 1 rfl) ?_
            refine lv_if_eq (tgt := 78) hx hb dX0_readNumbers_51 (by decide) (fun c14 => ?_) (fun c14 => ?_)
            · refine lv_aload_n hx hb dX0_readNumbers_78 rfl (lv_at hl 3 rfl) ?_
              refine lv_iload hx hb dX0_readNumbers_79 (lv_at hl 5 rfl) ?_
              refine lv_iload hx hb dX0_readNumbers_81 (lv_at hl 1 rfl) ?_
              refine a_nst X hi hP hS hp1 (by omega) dX0_readNumbers_83 (fun V15 H15 locs15 hp1 h2 hP hS => ?_)
              have hp1 : NuP N V15 t q (upd u1_0_1 ix_1 (f_X0_digitAt tx (a3_1 + 1))) := hp1
              have hp0 := hp0.keep (V1 := V15) (fun k h8 h9 => h2 k (by omega))
              have hfr : ∀ k, (k ≠ q) → V15 k = V k := fun k hk => (h2 k (by omega)).trans (hfr k hk)
              refine lv_iinc (v := nI (ix_1 + 1)) (lv' := [(4, .int (nI (ix_1 + 1))), (3, .int (nI (a3_1 + 1 + 1))), (5, .int (f_X0_digitAt tx (a3_1 + 1))), (0, .ref (ad b)), (1, .ref (ad q)), (2, .int (nI wanted))]) hx hb dX0_readNumbers_84 hl (k := 5) rfl (nI_inc _) (by decide) rfl (fun ls hl => ?_)
              refine lv_goto (tgt := 5) hx hb dX0_readNumbers_87 (by decide) ?_
              exact ihx_1 (ix_1 + 1) (a3_1 + 1 + 1) (upd u1_0_1 ix_1 (f_X0_digitAt tx (a3_1 + 1))) _ _ _ ls (by omega) (Eq.trans (Eq.symm (by rw [l_X0_readNumbers_5, if_pos c5, if_pos c12, if_pos c13, if_pos c14] <;> rfl)) hvx_1) (by omega) hp0 hp1 hfr hP hS (lv_sub hl [3, 4, 5, 1, 0] rfl)
            · refine lv_aload_n hx hb dX0_readNumbers_54 rfl (lv_at hl 2 rfl) ?_
              refine lv_iload_n hx hb dX0_readNumbers_55 rfl (lv_at hl 0 rfl) ?_
              refine r_call (As := [.int (nI (a3_1 + 1 + 1))]) (rest := []) (ci := 0) X hP (c_X0_isDigitAt hp0 (a3_1 + 1 + 1) (by omega)) o_X0_isDigitAt rfl hp0.lt hp0.ob m471 ⟨rfl, rfl⟩ ⟨Nat.le_of_ble_eq_true rfl, Nat.le_of_ble_eq_true rfl⟩ rfl hl.1 rfl (Nat.le_of_ble_eq_true rfl) ⟨Nat.zero_le _, Nat.zero_le _⟩ dX0_readNumbers_56 ?_
              refine q_eqB (tgt := 78) hx hb dX0_readNumbers_59 (by decide) (fun c16 => ?_) (fun c16 => ?_)
              · refine lv_aload_n hx hb dX0_readNumbers_78 rfl (lv_at hl 3 rfl) ?_
                refine lv_iload hx hb dX0_readNumbers_79 (lv_at hl 5 rfl) ?_
                refine lv_iload hx hb dX0_readNumbers_81 (lv_at hl 1 rfl) ?_
                refine a_nst X hi hP hS hp1 (by omega) dX0_readNumbers_83 (fun V17 H17 locs17 hp1 h2 hP hS => ?_)
                have hp1 : NuP N V17 t q (upd u1_0_1 ix_1 (f_X0_digitAt tx (a3_1 + 1))) := hp1
                have hp0 := hp0.keep (V1 := V17) (fun k h8 h9 => h2 k (by omega))
                have hfr : ∀ k, (k ≠ q) → V17 k = V k := fun k hk => (h2 k (by omega)).trans (hfr k hk)
                refine lv_iinc (v := nI (ix_1 + 1)) (lv' := [(4, .int (nI (ix_1 + 1))), (3, .int (nI (a3_1 + 1 + 1))), (5, .int (f_X0_digitAt tx (a3_1 + 1))), (0, .ref (ad b)), (1, .ref (ad q)), (2, .int (nI wanted))]) hx hb dX0_readNumbers_84 hl (k := 5) rfl (nI_inc _) (by decide) rfl (fun ls hl => ?_)
                refine lv_goto (tgt := 5) hx hb dX0_readNumbers_87 (by decide) ?_
                exact ihx_1 (ix_1 + 1) (a3_1 + 1 + 1) (upd u1_0_1 ix_1 (f_X0_digitAt tx (a3_1 + 1))) _ _ _ ls (by omega) (Eq.trans (Eq.symm (by rw [l_X0_readNumbers_5, if_pos c5, if_pos c12, if_pos c13, if_neg c14, if_neg (nt c16)] <;> rfl)) hvx_1) (by omega) hp0 hp1 hfr hP hS (lv_sub hl [3, 4, 5, 1, 0] rfl)
              · have hdgc16 := digit_lt c16
                refine lv_iload hx hb dX0_readNumbers_62 (lv_at hl 1 rfl) ?_
                refine lv_bipush (v := nI 10) hx hb dX0_readNumbers_64 (by decide) ?_
                refine lv_imul hx hb dX0_readNumbers_66 ?_
                refine lv_aload_n hx hb dX0_readNumbers_67 rfl (lv_at hl 2 rfl) ?_
                refine lv_iload_n hx hb dX0_readNumbers_68 rfl (lv_at hl 0 rfl) ?_
                refine r_call (As := [.int (nI (a3_1 + 1 + 1))]) (rest := [.int ((f_X0_digitAt tx (a3_1 + 1)) * (nI 10))]) (ci := 0) X hP (c_X0_digitAt hp0 (a3_1 + 1 + 1) (by omega)) o_X0_digitAt rfl hp0.lt hp0.ob m475 ⟨rfl, rfl⟩ ⟨Nat.le_of_ble_eq_true rfl, Nat.le_of_ble_eq_true rfl⟩ rfl hl.1 rfl (Nat.le_of_ble_eq_true rfl) ⟨Nat.zero_le _, Nat.zero_le _⟩ dX0_readNumbers_69 ?_
                refine lv_iadd hx hb dX0_readNumbers_72 ?_
                refine lv_istore (lv' := [(5, .int (((f_X0_digitAt tx (a3_1 + 1)) * (nI 10)) + (f_X0_digitAt tx (a3_1 + 1 + 1)))), (3, .int (nI (a3_1 + 1 + 1))), (0, .ref (ad b)), (1, .ref (ad q)), (2, .int (nI wanted)), (4, .int (nI ix_1))]) hx hb dX0_readNumbers_73 hl (by decide) rfl (fun ls hl => ?_)
                refine lv_iinc (v := nI (a3_1 + 1 + 1 + 1)) (lv' := [(3, .int (nI (a3_1 + 1 + 1 + 1))), (5, .int (((f_X0_digitAt tx (a3_1 + 1)) * (nI 10)) + (f_X0_digitAt tx (a3_1 + 1 + 1)))), (0, .ref (ad b)), (1, .ref (ad q)), (2, .int (nI wanted)), (4, .int (nI ix_1))]) hx hb dX0_readNumbers_75 hl (k := 1) rfl (nI_inc _) (by decide) rfl (fun ls hl => ?_)
                refine lv_aload_n hx hb dX0_readNumbers_78 rfl (lv_at hl 3 rfl) ?_
                refine lv_iload hx hb dX0_readNumbers_79 (lv_at hl 5 rfl) ?_
                refine lv_iload hx hb dX0_readNumbers_81 (lv_at hl 1 rfl) ?_
                refine a_nst X hi hP hS hp1 (by omega) dX0_readNumbers_83 (fun V18 H18 locs18 hp1 h2 hP hS => ?_)
                have hp1 : NuP N V18 t q (upd u1_0_1 ix_1 (((f_X0_digitAt tx (a3_1 + 1)) * (nI 10)) + (f_X0_digitAt tx (a3_1 + 1 + 1)))) := hp1
                have hp0 := hp0.keep (V1 := V18) (fun k h8 h9 => h2 k (by omega))
                have hfr : ∀ k, (k ≠ q) → V18 k = V k := fun k hk => (h2 k (by omega)).trans (hfr k hk)
                refine lv_iinc (v := nI (ix_1 + 1)) (lv' := [(4, .int (nI (ix_1 + 1))), (3, .int (nI (a3_1 + 1 + 1 + 1))), (5, .int (((f_X0_digitAt tx (a3_1 + 1)) * (nI 10)) + (f_X0_digitAt tx (a3_1 + 1 + 1)))), (0, .ref (ad b)), (1, .ref (ad q)), (2, .int (nI wanted))]) hx hb dX0_readNumbers_84 hl (k := 5) rfl (nI_inc _) (by decide) rfl (fun ls hl => ?_)
                refine lv_goto (tgt := 5) hx hb dX0_readNumbers_87 (by decide) ?_
                exact ihx_1 (ix_1 + 1) (a3_1 + 1 + 1 + 1) (upd u1_0_1 ix_1 (((f_X0_digitAt tx (a3_1 + 1)) * (nI 10)) + (f_X0_digitAt tx (a3_1 + 1 + 1)))) _ _ _ ls (by omega) (Eq.trans (Eq.symm (by rw [l_X0_readNumbers_5, if_pos c5, if_pos c12, if_pos c13, if_neg c14, if_pos c16] <;> rfl)) hvx_1) (by omega) hp0 hp1 hfr hP hS (lv_sub hl [3, 4, 5, 1, 0] rfl)
          · refine lv_iload_n hx hb dX0_readNumbers_37 rfl (lv_at hl 0 rfl) ?_
            have hfin : f_X0_readNumbers tx nu wanted = (nI (a3_1 + 1), u1_0_1) := ((hF1.trans hvx_1.symm).trans (by rw [l_X0_readNumbers_5, if_pos c5, if_pos c12, if_neg (nt c13)] <;> rfl))
            exact kr 38 ls _ _ _ _ hP hS rfl ⟨by rw [hfin] <;> rfl, by rw [hfin]; exact hp1, hfr⟩ dX0_readNumbers_38
        · refine lv_iload_n hx hb dX0_readNumbers_24 rfl (lv_at hl 3 rfl) ?_
          have hfin : f_X0_readNumbers tx nu wanted = (nI a3_1, u1_0_1) := ((hF1.trans hvx_1.symm).trans (by rw [l_X0_readNumbers_5, if_pos c5, if_neg (nt c12)] <;> rfl))
          exact kr 25 ls _ _ _ _ hP hS rfl ⟨by rw [hfin] <;> rfl, by rw [hfin]; exact hp1, hfr⟩ dX0_readNumbers_25
  exact L1 wanted 0 0 nu _ _ _ ls (by omega) rfl (Nat.zero_le _) hp0 hp1 hfr hP hS (lv_sub hl [2, 3, 4, 1, 0] rfl)
theorem o_X0_readNumbers : okV yX0_readNumbers cX0_readNumbers 6 (some .int) 2 := ⟨m464, m465, m25, m466, by decide +kernel, by decide +kernel, by decide +kernel⟩
