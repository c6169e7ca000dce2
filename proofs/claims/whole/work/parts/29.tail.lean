/-! the reference's solve and dropLoose -/
theorem RowOk.tnk {x : MoC} {nn mm k : Nat} (h : RowOk x nn mm k) : tn (oR x 3) = k := by rw [h.2.2.1]; exact nI_clamp (by have := h.2.2.2.1; omega)
theorem RowOk.self {x : MoC} {nn mm k : Nat} (h : RowOk x nn mm k) : RowOk x nn mm (tn (oR x 3)) := by rw [h.tnk]; exact h
theorem RowOk.row {x x' : MoC} {nn mm k : Nat} (h : RowOk x nn mm k) (hn : nn ≤ 7) (hm : mm ≤ 8) (e : oR x' = oR x) : RowOk x' nn mm k := RowOk.solved hn hm h (fun j _ _ => congrFun e j) (Or.inl (congrFun e 4))
theorem eq_dec (d : Nat) : nI d + Int32.ofInt (-1) = nI d - nI 1 := by
  rw [Int32.sub_eq_add_neg]
  exact congrArg (nI d + ·) (by decide)
def rmX6_solve : Room := { frames := 6, cells := 0, slots := 0, locals := 144 }
def e_X6_solve (w : Int32) (i : Nat) (a : Int32) (y : MoC) : Int32 × MoC :=
  (if a = (-3) then (a, f_X6_goBack y) else (if a = (-4) then (if i = 0 then (a, f_X6_goBack y) else ((oR (f_X6_record y) 3) - w, f_X6_record y)) else ((oR (f_X6_record y) 3) - w, f_X6_record y)))
def l_X6_solve_18 (nn mm : Nat) (w : Int32) : Nat → Nat → Int32 → MoC → Int32 × MoC
  | 0, i, a, y => (a, y)
  | d + 1, i, a, y => (if a < 0 then e_X6_solve w i a y else (if a = nI 2 then e_X6_solve w i a y else l_X6_solve_18 nn mm w d (i + 1) (f_X6_makeStep y nn mm (tn (oR y 3))).1 (f_X6_makeStep y nn mm (tn (oR y 3))).2))
def f_X6_solve (x : MoC) (nn : Nat) (mm : Nat) (kk : Nat) : Int32 × MoC :=
  l_X6_solve_18 nn mm (oR (f_X6_remember x) 3) 42 0 (f_X6_makeStep (f_X6_remember x) nn mm (tn (oR (f_X6_remember x) 3))).1 (f_X6_makeStep (f_X6_remember x) nn mm (tn (oR (f_X6_remember x) 3))).2
set_option maxHeartbeats 4000000 in
set_option maxRecDepth 100000 in
theorem c_X6_solve {l : Launch} {dd : va_G} {t : CL4} {N : Nat} {ad : Nat → Nat} {V : Nat → va_E} {b : Nat} {x : MoC} {nn : Nat} {mm : Nat} {kk : Nat} (hi : inj N ad) (hp0 : MoP N ad V t b x)  (h0 : oR x 0 = nI nn) (h1 : oR x 1 = nI mm) (h3 : oR x 3 = nI kk) (hn : nn ≤ 7) (hm : mm ≤ 8) (hk : kk ≤ 40) (hst : oS x ≤ 4) (hc : RaysOk x mm kk) (hbest : ¬ oR x 4 < 0 → ∀ cn, cn < mm → ¬ f_X6_server x nn mm kk (oR x 4) cn < 0) : MM l dd t N ad V yX6_solve cX6_solve 4 (some .int) rmX6_solve [.ref (ad b)] (fun r V1 => (r = (f_X6_solve x nn mm kk).1) ∧ (MoP N ad V1 t b ((f_X6_solve x nn mm kk).2)) ∧ (∀ k, (k < b ∨ b + 7 ≤ k) → V1 k = V k)) := by
  refine MM.of (by decide +kernel) ⟨rfl, rfl⟩ (Nat.le_of_ble_eq_true rfl) rfl ?_
  intro p e s m as below meth c Q X H hP hS ls hl kr
  have X : WX p s m as c cX6_solve 4 RX6 dd t := X
  have hx := X.1.1
  have hb := X.1.2.1
  have hl : lv_has ls 4 [(0, .ref (ad b))] := hl
  have hle0 := hp0.le
  have hfr : ∀ k, (k < b ∨ b + 7 ≤ k) → V k = V k := fun _ _ => rfl
  have hro : RowOk (f_X6_remember x) nn mm kk := RowOk.row ⟨h0, h1, h3, hk, hc, hbest⟩ hn hm u_X6_remember_0_0
  have hro := hro.self
  refine lv_aload_n hx hb dX6_solve_0 rfl (lv_at hl 0 rfl) ?_
  refine r_callW (As := []) (rest := []) (ci := 6) X hP hS (c_X6_remember hi hp0) o_X6_remember rfl hp0.lt hp0.ob m146 ⟨rfl, rfl⟩ ⟨Nat.le_of_ble_eq_true rfl, Nat.le_of_ble_eq_true rfl⟩ rfl hl.1 rfl (Nat.le_of_ble_eq_true rfl) ⟨Nat.zero_le _, Nat.zero_le _⟩ dX6_solve_1 (fun V1 H1 locs1 hq hP hS => ?_)
  obtain ⟨hp0, h2⟩ := hq
  have hfr : ∀ k, (k < b ∨ b + 7 ≤ k) → V1 k = V k := fun k hk => (h2 k (by omega)).trans (hfr k hk)
  refine lv_aload_n hx hb dX6_solve_4 rfl (lv_at hl 0 rfl) ?_
  refine g_Mo_row X hP hp0 m83 dX6_solve_5 ?_
  refine lv_iconst (v := nI 3) hx hb dX6_solve_8 (by decide) ?_
  refine l_Mo_row X hP hp0 (by decide) dX6_solve_9 ?_
  refine lv_istore_n (lv' := [(1, .int (oR (f_X6_remember x) 3)), (0, .ref (ad b))]) hx hb dX6_solve_10 rfl hl (by decide) rfl (fun ls hl => ?_)
  refine lv_iconst (v := nI 0) hx hb dX6_solve_11 (by decide) ?_
  refine lv_istore_n (lv' := [(2, .int (nI 0)), (1, .int (oR (f_X6_remember x) 3)), (0, .ref (ad b))]) hx hb dX6_solve_12 rfl hl (by decide) rfl (fun ls hl => ?_)
  refine lv_aload_n hx hb dX6_solve_13 rfl (lv_at hl 2 rfl) ?_
  refine r_callM (As := []) (rest := []) (ci := 6) X hP hS (c_X6_makeStep (nn := nn) (mm := mm) (kk := tn (oR (f_X6_remember x) 3)) hi hp0 hro.1 hro.2.1 hro.2.2.1 hn hm hro.2.2.2.1 hro.2.2.2.2.1 hro.2.2.2.2.2) o_X6_makeStep rfl hp0.lt hp0.ob m382 ⟨rfl, rfl⟩ ⟨Nat.le_of_ble_eq_true rfl, Nat.le_of_ble_eq_true rfl⟩ rfl hl.1 rfl (Nat.le_of_ble_eq_true rfl) ⟨Nat.zero_le _, Nat.zero_le _⟩ dX6_solve_14 (fun r V2 H2 locs2 hq hP hS => ?_)
  obtain ⟨hr, hp0, h2⟩ := hq
  subst hr
  have hfr : ∀ k, (k < b ∨ b + 7 ≤ k) → V2 k = V k := fun k hk => (h2 k (by omega)).trans (hfr k hk)
  refine lv_istore_n (lv' := [(3, .int (f_X6_makeStep (f_X6_remember x) nn mm (tn (oR (f_X6_remember x) 3))).1), (2, .int (nI 0)), (1, .int (oR (f_X6_remember x) 3)), (0, .ref (ad b))]) hx hb dX6_solve_17 rfl hl (by decide) rfl (fun ls hl => ?_)
  have fin : ∀ (i : Nat) (a : Int32) (y : MoC) (V4 : Nat → va_E) (H4 : Heap) (locs4 : List Loc) (ls : Array Slot), i ≤ 42 → oS y ≤ 4 → e_X6_solve (oR (f_X6_remember x) 3) i a y = f_X6_solve x nn mm kk → MoP N ad V4 t b y → (∀ k, (k < b ∨ b + 7 ≤ k) → V4 k = V k) → HP dd N ad V4 H4 → va_S (dm N ad H.size) H H4 locs4 → lv_has ls 4 [(3, .int a), (2, .int (nI i)), (1, .int (oR (f_X6_remember x) 3)), (0, .ref (ad b))] → W p l e rmX6_solve s m as below meth c H4 locs4 0 0 Q (F0 m 38 ls []) := by
    intro i a y V4 H4 locs4 ls hi42 hst hE hp0 hfr hP hS hl
    have hle0 := hp0.le
    have back : f_X6_solve x nn mm kk = (a, f_X6_goBack y) → W p l e rmX6_solve s m as below meth c H4 locs4 0 0 Q (F0 m 54 ls []) := by
      intro hfin
      refine lv_aload_n hx hb dX6_solve_54 rfl (lv_at hl 3 rfl) ?_
      refine r_callW (As := []) (rest := []) (ci := 6) X hP hS (c_X6_goBack hi hp0) o_X6_goBack rfl hp0.lt hp0.ob m455 ⟨rfl, rfl⟩ ⟨Nat.le_of_ble_eq_true rfl, Nat.le_of_ble_eq_true rfl⟩ rfl hl.1 rfl (Nat.le_of_ble_eq_true rfl) ⟨Nat.zero_le _, Nat.zero_le _⟩ dX6_solve_55 (fun V1 H1 locs1 hq hP hS => ?_)
      obtain ⟨hp0, h2⟩ := hq
      have hfr : ∀ k, (k < b ∨ b + 7 ≤ k) → V1 k = V k := fun k hk => (h2 k (by omega)).trans (hfr k hk)
      refine lv_iload_n hx hb dX6_solve_58 rfl (lv_at hl 0 rfl) ?_
      exact kr 59 ls _ _ _ _ hP hS rfl ⟨by rw [hfin] <;> rfl, by rw [hfin]; exact hp0, hfr⟩ dX6_solve_59
    have done : f_X6_solve x nn mm kk = ((oR (f_X6_record y) 3) - (oR (f_X6_remember x) 3), f_X6_record y) → W p l e rmX6_solve s m as below meth c H4 locs4 0 0 Q (F0 m 60 ls []) := by
      intro hfin
      refine lv_aload_n hx hb dX6_solve_60 rfl (lv_at hl 3 rfl) ?_
      refine r_callW (As := []) (rest := []) (ci := 6) X hP hS (c_X6_record hi hp0 hst) o_X6_record rfl hp0.lt hp0.ob m150 ⟨rfl, rfl⟩ ⟨Nat.le_of_ble_eq_true rfl, Nat.le_of_ble_eq_true rfl⟩ rfl hl.1 rfl (Nat.le_of_ble_eq_true rfl) ⟨Nat.zero_le _, Nat.zero_le _⟩ dX6_solve_61 (fun V1 H1 locs1 hq hP hS => ?_)
      obtain ⟨hp0, h2⟩ := hq
      have hfr : ∀ k, (k < b ∨ b + 7 ≤ k) → V1 k = V k := fun k hk => (h2 k (by omega)).trans (hfr k hk)
      refine lv_aload_n hx hb dX6_solve_64 rfl (lv_at hl 3 rfl) ?_
      refine g_Mo_row X hP hp0 m83 dX6_solve_65 ?_
      refine lv_iconst (v := nI 3) hx hb dX6_solve_68 (by decide) ?_
      refine l_Mo_row X hP hp0 (by decide) dX6_solve_69 ?_
      refine lv_iload_n hx hb dX6_solve_70 rfl (lv_at hl 2 rfl) ?_
      refine lv_isub hx hb dX6_solve_71 ?_
      exact kr 72 ls _ _ _ _ hP hS rfl ⟨by rw [hfin] <;> rfl, by rw [hfin]; exact hp0, hfr⟩ dX6_solve_72
    refine lv_iload_n hx hb dX6_solve_38 rfl (lv_at hl 0 rfl) ?_
    refine lv_bipush (v := (-3)) hx hb dX6_solve_39 (by decide) ?_
    refine lv_icmp_eq (tgt := 54) hx hb dX6_solve_41 (by decide) (fun c1 => ?_) (fun c1 => ?_)
    · exact back (hE.symm.trans (by rw [e_X6_solve, if_pos c1]))
    · refine lv_iload_n hx hb dX6_solve_44 rfl (lv_at hl 0 rfl) ?_
      refine lv_bipush (v := (-4)) hx hb dX6_solve_45 (by decide) ?_
      refine lv_icmp_ne (tgt := 60) hx hb dX6_solve_47 (by decide) (fun c2 => ?_) (fun c2 => ?_)
      · exact done (hE.symm.trans (by rw [e_X6_solve, if_neg c1, if_neg c2]))
      · refine lv_iload_n hx hb dX6_solve_50 rfl (lv_at hl 1 rfl) ?_
        refine z_ne (tgt := 60) hx hb (by omega) dX6_solve_51 (by decide) (fun c3 => ?_) (fun c3 => ?_)
        · exact done (hE.symm.trans (by rw [e_X6_solve, if_neg c1, if_pos c2, if_neg c3]))
        · exact back (hE.symm.trans (by rw [e_X6_solve, if_neg c1, if_pos c2, if_pos c3]))
  have L : ∀ (d i : Nat) (a : Int32) (y : MoC) (V4 : Nat → va_E) (H4 : Heap) (locs4 : List Loc) (ls : Array Slot), i + d = 42 → oS y ≤ 4 → RowOk y nn mm (tn (oR y 3)) → i ≤ tn (oR y 3) → (a < 0 ∨ a = nI 2 ∨ i + 1 ≤ tn (oR y 3)) → l_X6_solve_18 nn mm (oR (f_X6_remember x) 3) d i a y = f_X6_solve x nn mm kk → MoP N ad V4 t b y → (∀ k, (k < b ∨ b + 7 ≤ k) → V4 k = V k) → HP dd N ad V4 H4 → va_S (dm N ad H.size) H H4 locs4 → lv_has ls 4 [(3, .int a), (2, .int (nI i)), (1, .int (oR (f_X6_remember x) 3)), (0, .ref (ad b))] → W p l e rmX6_solve s m as below meth c H4 locs4 0 0 Q (F0 m 18 ls []) := by
    intro d
    induction d with
    | zero =>
      intro i a y V4 H4 locs4 ls hid hst hro hik hcase hE hp0 hfr hP hS hl
      have := hro.2.2.2.1
      omega
    | succ d ih =>
      intro i a y V4 H4 locs4 ls hid hst hro hik hcase hE hp0 hfr hP hS hl
      have hle0 := hp0.le
      refine lv_iload_n hx hb dX6_solve_18 rfl (lv_at hl 0 rfl) ?_
      refine u_lt (tgt := 38) hx hb dX6_solve_19 (by decide) (fun c1 => ?_) (fun c1 => ?_)
      · exact fin i a y _ _ _ ls (by omega) hst (Eq.trans (by rw [l_X6_solve_18, if_pos c1]) hE) hp0 hfr hP hS hl
      · refine lv_iload_n hx hb dX6_solve_22 rfl (lv_at hl 0 rfl) ?_
        refine lv_iconst (v := nI 2) hx hb dX6_solve_23 (by decide) ?_
        refine lv_icmp_eq (tgt := 38) hx hb dX6_solve_24 (by decide) (fun c2 => ?_) (fun c2 => ?_)
        · exact fin i a y _ _ _ ls (by omega) hst (Eq.trans (by rw [l_X6_solve_18, if_neg c1, if_pos c2]) hE) hp0 hfr hP hS hl
        · have hik2 := (hcase.resolve_left c1).resolve_left c2
          refine lv_iinc (v := nI (i + 1)) (lv' := [(2, .int (nI (i + 1))), (3, .int a), (1, .int (oR (f_X6_remember x) 3)), (0, .ref (ad b))]) hx hb dX6_solve_27 hl (k := 1) rfl (nI_inc _) (by decide) rfl (fun ls hl => ?_)
          refine lv_aload_n hx hb dX6_solve_30 rfl (lv_at hl 3 rfl) ?_
          refine r_callM (As := []) (rest := []) (ci := 6) X hP hS (c_X6_makeStep (nn := nn) (mm := mm) (kk := tn (oR y 3)) hi hp0 hro.1 hro.2.1 hro.2.2.1 hn hm hro.2.2.2.1 hro.2.2.2.2.1 hro.2.2.2.2.2) o_X6_makeStep rfl hp0.lt hp0.ob m382 ⟨rfl, rfl⟩ ⟨Nat.le_of_ble_eq_true rfl, Nat.le_of_ble_eq_true rfl⟩ rfl hl.1 rfl (Nat.le_of_ble_eq_true rfl) ⟨Nat.zero_le _, Nat.zero_le _⟩ dX6_solve_31 (fun r V2 H2 locs2 hq hP hS => ?_)
          obtain ⟨hr, hp0, h2⟩ := hq
          subst hr
          have hfr : ∀ k, (k < b ∨ b + 7 ≤ k) → V2 k = V k := fun k hk => (h2 k (by omega)).trans (hfr k hk)
          refine lv_istore_n (lv' := [(3, .int (f_X6_makeStep y nn mm (tn (oR y 3))).1), (2, .int (nI (i + 1))), (1, .int (oR (f_X6_remember x) 3)), (0, .ref (ad b))]) hx hb dX6_solve_34 rfl hl (by decide) rfl (fun ls hl => ?_)
          refine lv_goto (tgt := 18) hx hb dX6_solve_35 (by decide) ?_
          have hE2 : l_X6_solve_18 nn mm (oR (f_X6_remember x) 3) d (i + 1) (f_X6_makeStep y nn mm (tn (oR y 3))).1 (f_X6_makeStep y nn mm (tn (oR y 3))).2 = f_X6_solve x nn mm kk := Eq.trans (by rw [l_X6_solve_18, if_neg c1, if_neg c2]) hE
          have hst2 : oS (f_X6_makeStep y nn mm (tn (oR y 3))).2 ≤ 4 := by rw [u_X6_makeStep_0_4]; exact hst
          have hno := mk_ok hn hm hro
          have hnew : RowOk (f_X6_makeStep y nn mm (tn (oR y 3))).2 nn mm (tn (oR (f_X6_makeStep y nn mm (tn (oR y 3))).2 3)) ∧ i + 1 ≤ tn (oR (f_X6_makeStep y nn mm (tn (oR y 3))).2 3) ∧ ((f_X6_makeStep y nn mm (tn (oR y 3))).1 < 0 ∨ (f_X6_makeStep y nn mm (tn (oR y 3))).1 = nI 2 ∨ i + 1 + 1 ≤ tn (oR (f_X6_makeStep y nn mm (tn (oR y 3))).2 3)) := by
            rcases hno with ⟨ha, hb⟩ | ⟨ha, hb⟩ | ⟨ha, hb0, hb⟩
            · rw [hb]; exact ⟨hro, hik2, Or.inl ha⟩
            · exact ⟨hb.self, by rw [hb.tnk]; exact hik2, Or.inr (Or.inl ha)⟩
            · exact ⟨hb.self, by rw [hb.tnk]; omega, Or.inr (Or.inr (by rw [hb.tnk]; omega))⟩
          exact ih (i + 1) _ _ _ _ _ ls (by omega) hst2 hnew.1 hnew.2.1 hnew.2.2 hE2 hp0 hfr hP hS hl
  have hst2 : oS (f_X6_makeStep (f_X6_remember x) nn mm (tn (oR (f_X6_remember x) 3))).2 ≤ 4 := by rw [u_X6_makeStep_0_4, u_X6_remember_0_4]; exact hst
  have hnew : RowOk (f_X6_makeStep (f_X6_remember x) nn mm (tn (oR (f_X6_remember x) 3))).2 nn mm (tn (oR (f_X6_makeStep (f_X6_remember x) nn mm (tn (oR (f_X6_remember x) 3))).2 3)) ∧ ((f_X6_makeStep (f_X6_remember x) nn mm (tn (oR (f_X6_remember x) 3))).1 < 0 ∨ (f_X6_makeStep (f_X6_remember x) nn mm (tn (oR (f_X6_remember x) 3))).1 = nI 2 ∨ 0 + 1 ≤ tn (oR (f_X6_makeStep (f_X6_remember x) nn mm (tn (oR (f_X6_remember x) 3))).2 3)) := by
    rcases mk_ok hn hm hro with ⟨ha, hb⟩ | ⟨ha, hb⟩ | ⟨ha, hb0, hb⟩
    · rw [hb]; exact ⟨hro, Or.inl ha⟩
    · exact ⟨hb.self, Or.inr (Or.inl ha)⟩
    · exact ⟨hb.self, Or.inr (Or.inr (by rw [hb.tnk]; omega))⟩
  exact L 42 0 _ _ _ _ _ ls rfl hst2 hnew.1 (Nat.zero_le _) hnew.2 rfl hp0 hfr hP hS hl
theorem o_X6_solve : okV yX6_solve cX6_solve 4 (some .int) 0 := ⟨m452, m453, m5, m454, by decide +kernel, by decide +kernel, by decide +kernel⟩
def rmX6_dropLoose : Room := { frames := 7, cells := 0, slots := 0, locals := 160 }
def l_X6_dropLoose_29 (x : MoC) (nn mm kk : Nat) (plan above : Int32) : Nat → Nat → Nat → Nat
  | 0, i, n => n
  | d + 1, i, n => (if f_X6_isLoose x nn mm kk i plan above = true then l_X6_dropLoose_29 x nn mm kk plan above d (i + 1) (n + 1) else l_X6_dropLoose_29 x nn mm kk plan above d (i + 1) n)
def l_X6_dropLoose_86 (nn mm : Nat) (plan above : Int32) : Nat → MoC → MoC
  | 0, y => y
  | d + 1, y => (if f_X6_isLoose y nn mm (tn (oR y 3)) d plan above = true then l_X6_dropLoose_86 nn mm plan above d (f_X6_dropOne y nn mm (tn (oR y 3)) d) else l_X6_dropLoose_86 nn mm plan above d y)
theorem dropLoose_le {x : MoC} {nn mm kk : Nat} {plan above : Int32} : ∀ d i n, l_X6_dropLoose_29 x nn mm kk plan above d i n ≤ n + d := by
  intro d
  induction d with
  | zero => intro i n; exact Nat.le_refl _
  | succ d ih =>
    intro i n
    rw [l_X6_dropLoose_29]
    split
    · have := ih (i + 1) (n + 1); omega
    · have := ih (i + 1) n; omega
def f_X6_dropLoose (x : MoC) (nn : Nat) (mm : Nat) (kk : Nat) : Int32 × MoC :=
  (if f_X6_masterPlan x nn mm kk < 0 then ((-4), x) else (if l_X6_dropLoose_29 x nn mm kk (f_X6_masterPlan x nn mm kk) (f_X6_guess x nn mm kk (f_X6_masterPlan x nn mm kk) - f_X6_prices x nn mm kk (f_X6_masterPlan x nn mm kk)) kk 0 0 = 0 then ((-5), x) else (nI (l_X6_dropLoose_29 x nn mm kk (f_X6_masterPlan x nn mm kk) (f_X6_guess x nn mm kk (f_X6_masterPlan x nn mm kk) - f_X6_prices x nn mm kk (f_X6_masterPlan x nn mm kk)) kk 0 0), l_X6_dropLoose_86 nn mm (f_X6_masterPlan x nn mm kk) (f_X6_guess x nn mm kk (f_X6_masterPlan x nn mm kk) - f_X6_prices x nn mm kk (f_X6_masterPlan x nn mm kk)) kk (f_X6_begin x))))
set_option maxHeartbeats 4000000 in
set_option maxRecDepth 100000 in
theorem c_X6_dropLoose {l : Launch} {dd : va_G} {t : CL4} {N : Nat} {ad : Nat → Nat} {V : Nat → va_E} {b : Nat} {x : MoC} {nn : Nat} {mm : Nat} {kk : Nat} (hi : inj N ad) (hp0 : MoP N ad V t b x)  (h0 : oR x 0 = nI nn) (h1 : oR x 1 = nI mm) (h3 : oR x 3 = nI kk) (hn : nn ≤ 7) (hm : mm ≤ 8) (hk : kk ≤ 40) (hst : oS x ≤ 4) (hc : RaysOk x mm kk) (hbest : ¬ oR x 4 < 0 → ∀ cn, cn < mm → ¬ f_X6_server x nn mm kk (oR x 4) cn < 0) : MM l dd t N ad V yX6_dropLoose cX6_dropLoose 5 (some .int) rmX6_dropLoose [.ref (ad b)] (fun r V1 => (r = (f_X6_dropLoose x nn mm kk).1) ∧ (MoP N ad V1 t b ((f_X6_dropLoose x nn mm kk).2)) ∧ (∀ k, (k < b ∨ b + 7 ≤ k) → V1 k = V k)) := by
  refine MM.of (by decide +kernel) ⟨rfl, rfl⟩ (Nat.le_of_ble_eq_true rfl) rfl ?_
  intro p e s m as below meth c Q X H hP hS ls hl kr
  have X : WX p s m as c cX6_dropLoose 5 RX6 dd t := X
  have hx := X.1.1
  have hb := X.1.2.1
  have hl : lv_has ls 5 [(0, .ref (ad b))] := hl
  have hle0 := hp0.le
  have hfr : ∀ k, (k < b ∨ b + 7 ≤ k) → V k = V k := fun _ _ => rfl
  generalize hP0 : f_X6_masterPlan x nn mm kk = pl
  generalize hA0 : f_X6_guess x nn mm kk pl - f_X6_prices x nn mm kk pl = ab
  have hF : f_X6_dropLoose x nn mm kk = (if pl < 0 then ((-4), x) else (if l_X6_dropLoose_29 x nn mm kk pl ab kk 0 0 = 0 then ((-5), x) else (nI (l_X6_dropLoose_29 x nn mm kk pl ab kk 0 0), l_X6_dropLoose_86 nn mm pl ab kk (f_X6_begin x)))) := by
    unfold f_X6_dropLoose
    rw [hP0, hA0]
  refine lv_aload_n hx hb dX6_dropLoose_0 rfl (lv_at hl 0 rfl) ?_
  refine r_call (As := []) (rest := []) (ci := 6) X hP (c_X6_masterPlan (nn := nn) (mm := mm) (kk := kk) hp0 h0 h1 h3 hn hm hk hc) o_X6_masterPlan rfl hp0.lt hp0.ob m386 ⟨rfl, rfl⟩ ⟨Nat.le_of_ble_eq_true rfl, Nat.le_of_ble_eq_true rfl⟩ rfl hl.1 rfl (Nat.le_of_ble_eq_true rfl) ⟨Nat.zero_le _, Nat.zero_le _⟩ dX6_dropLoose_1 ?_
  refine q_val (show f_X6_masterPlan x nn mm kk = pl from hP0) ?_
  refine lv_istore_n (lv' := [(1, .int pl), (0, .ref (ad b))]) hx hb dX6_dropLoose_4 rfl hl (by decide) rfl (fun ls hl => ?_)
  refine lv_iload_n hx hb dX6_dropLoose_5 rfl (lv_at hl 0 rfl) ?_
  refine u_ge (tgt := 12) hx hb dX6_dropLoose_6 (by decide) (fun c1 => ?_) (fun c1 => ?_)
  · refine lv_aload_n hx hb dX6_dropLoose_12 rfl (lv_at hl 1 rfl) ?_
    refine lv_iload_n hx hb dX6_dropLoose_13 rfl (lv_at hl 0 rfl) ?_
    refine r_call (As := [.int pl]) (rest := []) (ci := 6) X hP (c_X6_guess (nn := nn) (mm := mm) (kk := kk) hp0 pl h0 h1 h3 hn hm hk) o_X6_guess rfl hp0.lt hp0.ob m414 ⟨rfl, rfl⟩ ⟨Nat.le_of_ble_eq_true rfl, Nat.le_of_ble_eq_true rfl⟩ rfl hl.1 rfl (Nat.le_of_ble_eq_true rfl) ⟨Nat.zero_le _, Nat.zero_le _⟩ dX6_dropLoose_14 ?_
    refine lv_aload_n hx hb dX6_dropLoose_17 rfl (lv_at hl 1 rfl) ?_
    refine lv_iload_n hx hb dX6_dropLoose_18 rfl (lv_at hl 0 rfl) ?_
    refine r_call (As := [.int pl]) (rest := [.int (f_X6_guess x nn mm kk pl)]) (ci := 6) X hP (c_X6_prices (nn := nn) (mm := mm) (kk := kk) hp0 pl h0 h1 h3 hn hm hk) o_X6_prices rfl hp0.lt hp0.ob m426 ⟨rfl, rfl⟩ ⟨Nat.le_of_ble_eq_true rfl, Nat.le_of_ble_eq_true rfl⟩ rfl hl.1 rfl (Nat.le_of_ble_eq_true rfl) ⟨Nat.zero_le _, Nat.zero_le _⟩ dX6_dropLoose_19 ?_
    refine lv_isub hx hb dX6_dropLoose_22 ?_
    refine q_val (show f_X6_guess x nn mm kk pl - f_X6_prices x nn mm kk pl = ab from hA0) ?_
    refine lv_istore_n (lv' := [(2, .int ab), (1, .int pl), (0, .ref (ad b))]) hx hb dX6_dropLoose_23 rfl hl (by decide) rfl (fun ls hl => ?_)
    refine lv_iconst (v := nI 0) hx hb dX6_dropLoose_24 (by decide) ?_
    refine lv_istore_n (lv' := [(3, .int (nI 0)), (2, .int ab), (1, .int pl), (0, .ref (ad b))]) hx hb dX6_dropLoose_25 rfl hl (by decide) rfl (fun ls hl => ?_)
    refine lv_iconst (v := nI 0) hx hb dX6_dropLoose_26 (by decide) ?_
    refine lv_istore (lv' := [(4, .int (nI 0)), (3, .int (nI 0)), (2, .int ab), (1, .int pl), (0, .ref (ad b))]) hx hb dX6_dropLoose_27 hl (by decide) rfl (fun ls hl => ?_)
    have tail : ∀ (ls : Array Slot), lv_has ls 5 [(4, .int (nI kk)), (3, .int (nI (l_X6_dropLoose_29 x nn mm kk pl ab kk 0 0))), (2, .int ab), (1, .int pl), (0, .ref (ad b))] → W p l e rmX6_dropLoose s m as below meth c H [] 0 0 Q (F0 m 65 ls []) := by
      intro ls hl
      have hcnt := dropLoose_le (x := x) (nn := nn) (mm := mm) (kk := kk) (plan := pl) (above := ab) kk 0 0
      refine lv_iload_n hx hb dX6_dropLoose_65 rfl (lv_at hl 1 rfl) ?_
      refine z_ne (tgt := 72) hx hb (by omega) dX6_dropLoose_66 (by decide) (fun c2 => ?_) (fun c2 => ?_)
      · have hFF : f_X6_dropLoose x nn mm kk = (nI (l_X6_dropLoose_29 x nn mm kk pl ab kk 0 0), l_X6_dropLoose_86 nn mm pl ab kk (f_X6_begin x)) := hF.trans (by rw [if_neg c1, if_neg c2])
        refine lv_aload_n hx hb dX6_dropLoose_72 rfl (lv_at hl 4 rfl) ?_
        refine r_callW (As := []) (rest := []) (ci := 6) X hP hS (c_X6_begin hi hp0 hst) o_X6_begin rfl hp0.lt hp0.ob m142 ⟨rfl, rfl⟩ ⟨Nat.le_of_ble_eq_true rfl, Nat.le_of_ble_eq_true rfl⟩ rfl hl.1 rfl (Nat.le_of_ble_eq_true rfl) ⟨Nat.zero_le _, Nat.zero_le _⟩ dX6_dropLoose_73 (fun V1 H1 locs1 hq hP hS => ?_)
        obtain ⟨hp0, h2⟩ := hq
        have hfr : ∀ k, (k < b ∨ b + 7 ≤ k) → V1 k = V k := fun k hk => (h2 k (by omega)).trans (hfr k hk)
        have hro : RowOk (f_X6_begin x) nn mm kk := RowOk.row ⟨h0, h1, h3, hk, hc, hbest⟩ hn hm u_X6_begin_0_0
        refine lv_aload_n hx hb dX6_dropLoose_76 rfl (lv_at hl 4 rfl) ?_
        refine g_Mo_row X hP hp0 m83 dX6_dropLoose_77 ?_
        refine lv_iconst (v := nI 3) hx hb dX6_dropLoose_80 (by decide) ?_
        refine l_Mo_row X hP hp0 (by decide) dX6_dropLoose_81 ?_
        refine q_val (hro.2.2.1 : oR (f_X6_begin x) 3 = nI kk) ?_
        refine lv_iconst (v := nI 1) hx hb dX6_dropLoose_82 (by decide) ?_
        refine lv_isub hx hb dX6_dropLoose_83 ?_
        refine lv_istore (lv' := [(4, .int (nI kk - nI 1)), (3, .int (nI (l_X6_dropLoose_29 x nn mm kk pl ab kk 0 0))), (2, .int ab), (1, .int pl), (0, .ref (ad b))]) hx hb dX6_dropLoose_84 hl (by decide) rfl (fun ls hl => ?_)
        have L : ∀ (d : Nat) (y : MoC) (V4 : Nat → va_E) (H4 : Heap) (locs4 : List Loc) (ls : Array Slot), RowOk y nn mm (tn (oR y 3)) → d ≤ tn (oR y 3) → l_X6_dropLoose_86 nn mm pl ab d y = (f_X6_dropLoose x nn mm kk).2 → MoP N ad V4 t b y → (∀ k, (k < b ∨ b + 7 ≤ k) → V4 k = V k) → HP dd N ad V4 H4 → va_S (dm N ad H.size) H H4 locs4 → lv_has ls 5 [(4, .int (nI d - nI 1)), (3, .int (nI (l_X6_dropLoose_29 x nn mm kk pl ab kk 0 0))), (2, .int ab), (1, .int pl), (0, .ref (ad b))] → W p l e rmX6_dropLoose s m as below meth c H4 locs4 0 0 Q (F0 m 86 ls []) := by
          intro d
          induction d with
          | zero =>
            intro y V4 H4 locs4 ls hro hdk hE hp0 hfr hP hS hl
            refine lv_iload hx hb dX6_dropLoose_86 (lv_at hl 0 rfl) ?_
            refine u_lt (tgt := 114) hx hb dX6_dropLoose_88 (by decide) (fun c3 => ?_) (fun c3 => absurd (by decide) c3)
            refine lv_iload_n hx hb dX6_dropLoose_114 rfl (lv_at hl 1 rfl) ?_
            exact kr 115 ls _ _ _ _ hP hS rfl ⟨by rw [hFF] <;> rfl, by rw [← hE]; exact hp0, hfr⟩ dX6_dropLoose_115
          | succ d ih =>
            intro y V4 H4 locs4 ls hro hdk hE hp0 hfr hP hS hl
            have hle0 := hp0.le
            have hk40 := hro.2.2.2.1
            have ed : nI (d + 1) - nI 1 = nI d := pk_sub (show 1 ≤ d + 1 by omega)
            rw [ed] at hl
            refine lv_iload hx hb dX6_dropLoose_86 (lv_at hl 0 rfl) ?_
            refine z_lt (tgt := 114) hx hb (by omega) dX6_dropLoose_88 (by decide) (fun c3 => absurd c3 (by omega)) (fun c3 => ?_)
            refine lv_aload_n hx hb dX6_dropLoose_91 rfl (lv_at hl 4 rfl) ?_
            refine lv_iload hx hb dX6_dropLoose_92 (lv_at hl 0 rfl) ?_
            refine lv_iload_n hx hb dX6_dropLoose_94 rfl (lv_at hl 3 rfl) ?_
            refine lv_iload_n hx hb dX6_dropLoose_95 rfl (lv_at hl 2 rfl) ?_
            refine r_call (As := [.int (nI d), .int pl, .int ab]) (rest := []) (ci := 6) X hP (c_X6_isLoose (nn := nn) (mm := mm) (kk := tn (oR y 3)) hp0 d pl ab hro.1 hro.2.1 hro.2.2.1 hn hm hro.2.2.2.1 (by omega) hro.2.2.2.2.1) o_X6_isLoose rfl hp0.lt hp0.ob m541 ⟨rfl, rfl⟩ ⟨Nat.le_of_ble_eq_true rfl, Nat.le_of_ble_eq_true rfl⟩ rfl hl.1 rfl (Nat.le_of_ble_eq_true rfl) ⟨Nat.zero_le _, Nat.zero_le _⟩ dX6_dropLoose_96 ?_
            refine q_eqB (tgt := 108) hx hb dX6_dropLoose_99 (by decide) (fun c4 => ?_) (fun c4 => ?_)
            · refine lv_iinc (v := nI d - nI 1) (lv' := [(4, .int (nI d - nI 1)), (3, .int (nI (l_X6_dropLoose_29 x nn mm kk pl ab kk 0 0))), (2, .int ab), (1, .int pl), (0, .ref (ad b))]) hx hb dX6_dropLoose_108 hl (k := 0) rfl (eq_dec _) (by decide) rfl (fun ls hl => ?_)
              refine lv_goto (tgt := 86) hx hb dX6_dropLoose_111 (by decide) ?_
              exact ih y _ _ _ ls hro (by omega) (Eq.trans (by rw [l_X6_dropLoose_86, if_neg (nt c4)]) hE) hp0 hfr hP hS hl
            · refine lv_aload_n hx hb dX6_dropLoose_102 rfl (lv_at hl 4 rfl) ?_
              refine lv_iload hx hb dX6_dropLoose_103 (lv_at hl 0 rfl) ?_
              refine r_callW (As := [.int (nI d)]) (rest := []) (ci := 6) X hP hS (c_X6_dropOne (nn := nn) (mm := mm) (kk := tn (oR y 3)) hi hp0 d hro.1 hro.2.1 hro.2.2.1 hn hm hro.2.2.2.1 (by omega)) o_X6_dropOne rfl hp0.lt hp0.ob m515 ⟨rfl, rfl⟩ ⟨Nat.le_of_ble_eq_true rfl, Nat.le_of_ble_eq_true rfl⟩ rfl hl.1 rfl (Nat.le_of_ble_eq_true rfl) ⟨Nat.zero_le _, Nat.zero_le _⟩ dX6_dropLoose_105 (fun V2 H2 locs2 hq hP hS => ?_)
              obtain ⟨hp0, h2⟩ := hq
              have hfr : ∀ k, (k < b ∨ b + 7 ≤ k) → V2 k = V k := fun k hk => (h2 k (by omega)).trans (hfr k hk)
              have hro2 := drop_ok hn hm (show d < tn (oR y 3) by omega) hro
              refine lv_iinc (v := nI d - nI 1) (lv' := [(4, .int (nI d - nI 1)), (3, .int (nI (l_X6_dropLoose_29 x nn mm kk pl ab kk 0 0))), (2, .int ab), (1, .int pl), (0, .ref (ad b))]) hx hb dX6_dropLoose_108 hl (k := 0) rfl (eq_dec _) (by decide) rfl (fun ls hl => ?_)
              refine lv_goto (tgt := 86) hx hb dX6_dropLoose_111 (by decide) ?_
              exact ih _ _ _ _ ls hro2.self (by rw [hro2.tnk]; omega) (Eq.trans (by rw [l_X6_dropLoose_86, if_pos c4]) hE) hp0 hfr hP hS hl
        exact L kk _ _ _ _ ls hro.self (by rw [hro.tnk]; exact Nat.le_refl _) (by rw [hFF]) hp0 hfr hP hS hl
      · refine lv_bipush (v := (-5)) hx hb dX6_dropLoose_69 (by decide) ?_
        have hfin : f_X6_dropLoose x nn mm kk = ((-5), x) := hF.trans (by rw [if_neg c1, if_pos c2])
        exact kr 71 ls _ _ _ _ hP hS rfl ⟨by rw [hfin] <;> rfl, by rw [hfin]; exact hp0, hfr⟩ dX6_dropLoose_71
    have L1 : ∀ (d i n : Nat) (ls : Array Slot), i + d = kk → n ≤ i → l_X6_dropLoose_29 x nn mm kk pl ab d i n = l_X6_dropLoose_29 x nn mm kk pl ab kk 0 0 → lv_has ls 5 [(4, .int (nI i)), (3, .int (nI n)), (2, .int ab), (1, .int pl), (0, .ref (ad b))] → W p l e rmX6_dropLoose s m as below meth c H [] 0 0 Q (F0 m 29 ls []) := by
      intro d
      induction d with
      | zero =>
        intro i n ls hid hni hE hl
        have hik : i = kk := by omega
        subst hik
        refine lv_iload hx hb dX6_dropLoose_29 (lv_at hl 0 rfl) ?_
        refine lv_aload_n hx hb dX6_dropLoose_31 rfl (lv_at hl 4 rfl) ?_
        refine g_Mo_row X hP hp0 m83 dX6_dropLoose_32 ?_
        refine lv_iconst (v := nI 3) hx hb dX6_dropLoose_35 (by decide) ?_
        refine l_Mo_row X hP hp0 (by decide) dX6_dropLoose_36 ?_
        refine q_val h3 ?_
        refine q_ge (tgt := 65) hx hb (by omega) (by omega) dX6_dropLoose_37 (by decide) (fun c5 => ?_) (fun c5 => absurd c5 (by omega))
        refine tail ls ?_
        rw [← hE]
        exact hl
      | succ d ih =>
        intro i n ls hid hni hE hl
        refine lv_iload hx hb dX6_dropLoose_29 (lv_at hl 0 rfl) ?_
        refine lv_aload_n hx hb dX6_dropLoose_31 rfl (lv_at hl 4 rfl) ?_
        refine g_Mo_row X hP hp0 m83 dX6_dropLoose_32 ?_
        refine lv_iconst (v := nI 3) hx hb dX6_dropLoose_35 (by decide) ?_
        refine l_Mo_row X hP hp0 (by decide) dX6_dropLoose_36 ?_
        refine q_val h3 ?_
        refine q_ge (tgt := 65) hx hb (by omega) (by omega) dX6_dropLoose_37 (by decide) (fun c5 => absurd c5 (by omega)) (fun c5 => ?_)
        refine lv_iload_n hx hb dX6_dropLoose_40 rfl (lv_at hl 1 rfl) ?_
        refine lv_aload_n hx hb dX6_dropLoose_41 rfl (lv_at hl 4 rfl) ?_
        refine lv_iload hx hb dX6_dropLoose_42 (lv_at hl 0 rfl) ?_
        refine lv_iload_n hx hb dX6_dropLoose_44 rfl (lv_at hl 3 rfl) ?_
        refine lv_iload_n hx hb dX6_dropLoose_45 rfl (lv_at hl 2 rfl) ?_
        refine r_call (As := [.int (nI i), .int pl, .int ab]) (rest := [.int (nI n)]) (ci := 6) X hP (c_X6_isLoose (nn := nn) (mm := mm) (kk := kk) hp0 i pl ab h0 h1 h3 hn hm hk (by omega) hc) o_X6_isLoose rfl hp0.lt hp0.ob m541 ⟨rfl, rfl⟩ ⟨Nat.le_of_ble_eq_true rfl, Nat.le_of_ble_eq_true rfl⟩ rfl hl.1 rfl (Nat.le_of_ble_eq_true rfl) ⟨Nat.zero_le _, Nat.zero_le _⟩ dX6_dropLoose_46 ?_
        refine q_eqB (tgt := 56) hx hb dX6_dropLoose_49 (by decide) (fun c4 => ?_) (fun c4 => ?_)
        · refine lv_iconst (v := nI 0) hx hb dX6_dropLoose_56 (by decide) ?_
          refine q_iadd hx hb dX6_dropLoose_57 ?_
          refine W.eq (g2 := F0 m 58 ls [.int (nI n)]) rfl ?_
          refine lv_istore_n (lv' := [(3, .int (nI n)), (4, .int (nI i)), (2, .int ab), (1, .int pl), (0, .ref (ad b))]) hx hb dX6_dropLoose_58 rfl hl (by decide) rfl (fun ls hl => ?_)
          refine lv_iinc (v := nI (i + 1)) (lv' := [(4, .int (nI (i + 1))), (3, .int (nI n)), (2, .int ab), (1, .int pl), (0, .ref (ad b))]) hx hb dX6_dropLoose_59 hl (k := 1) rfl (nI_inc _) (by decide) rfl (fun ls hl => ?_)
          refine lv_goto (tgt := 29) hx hb dX6_dropLoose_62 (by decide) ?_
          exact ih (i + 1) n ls (by omega) (by omega) (Eq.trans (by rw [l_X6_dropLoose_29, if_neg (nt c4)]) hE) hl
        · refine lv_iconst (v := nI 1) hx hb dX6_dropLoose_52 (by decide) ?_
          refine lv_goto (tgt := 57) hx hb dX6_dropLoose_53 (by decide) ?_
          refine q_iadd hx hb dX6_dropLoose_57 ?_
          refine lv_istore_n (lv' := [(3, .int (nI (n + 1))), (4, .int (nI i)), (2, .int ab), (1, .int pl), (0, .ref (ad b))]) hx hb dX6_dropLoose_58 rfl hl (by decide) rfl (fun ls hl => ?_)
          refine lv_iinc (v := nI (i + 1)) (lv' := [(4, .int (nI (i + 1))), (3, .int (nI (n + 1))), (2, .int ab), (1, .int pl), (0, .ref (ad b))]) hx hb dX6_dropLoose_59 hl (k := 1) rfl (nI_inc _) (by decide) rfl (fun ls hl => ?_)
          refine lv_goto (tgt := 29) hx hb dX6_dropLoose_62 (by decide) ?_
          exact ih (i + 1) (n + 1) ls (by omega) (by omega) (Eq.trans (by rw [l_X6_dropLoose_29, if_pos c4]) hE) hl
    exact L1 kk 0 0 ls (by omega) (Nat.le_refl _) rfl hl
  · refine lv_bipush (v := (-4)) hx hb dX6_dropLoose_9 (by decide) ?_
    have hfin : f_X6_dropLoose x nn mm kk = ((-4), x) := hF.trans (by rw [if_pos c1])
    exact kr 11 ls _ _ _ _ hP hS rfl ⟨by rw [hfin] <;> rfl, by rw [hfin]; exact hp0, hfr⟩ dX6_dropLoose_11
theorem o_X6_dropLoose : okV yX6_dropLoose cX6_dropLoose 5 (some .int) 0 := ⟨m538, m539, m5, m540, by decide +kernel, by decide +kernel, by decide +kernel⟩
