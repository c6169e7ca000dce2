/-! the history: an array of references to four states, in the order sg -/
def HaP (N : Nat) (ad : Nat → Nat) (V : Nat → va_E) (t : CL4) (b : Nat) (sg : Nat → Nat) : Prop := b < N ∧ refs t.2.2.2 4 (fun j => ad (b + 1 + 57 * sg j)) (V b)
theorem HaP.keep {N : Nat} {ad : Nat → Nat} {V V1 : Nat → va_E} {t : CL4} {b : Nat} {sg : Nat → Nat} (h : HaP N ad V t b sg) (q : ∀ k, b ≤ k → k < b + 1 → V1 k = V k) : HaP N ad V1 t b sg := ⟨h.1, by rw [q b (by omega) (by omega)]; exact h.2⟩
abbrev soOf (z : StC) : SoC := mkO (sB z) (sT z)
def HsP (N : Nat) (ad : Nat → Nat) (V : Nat → va_E) (t : CL4) (b : Nat) (hs : Nat → StC) : Prop := b + 228 ≤ N ∧ ∀ i, i < 4 → SoP N ad V t (b + 57 * i) (soOf (hs i)) ∧ PlP N ad V t (b + 57 * i + 1) (sP (hs i)) ∧ CuP N ad V t (b + 57 * i + 13) (sK (hs i))
theorem HsP.keep {N : Nat} {ad : Nat → Nat} {V V1 : Nat → va_E} {t : CL4} {b : Nat} {hs : Nat → StC} (h : HsP N ad V t b hs) (q : ∀ k, b ≤ k → k < b + 228 → V1 k = V k) : HsP N ad V1 t b hs :=
  ⟨h.1, fun i hi => ⟨(h.2 i hi).1.keep (fun k h8 h9 => q k (by omega) (by omega)), (h.2 i hi).2.1.keep (fun k h8 h9 => q k (by omega) (by omega)), (h.2 i hi).2.2.keep (fun k h8 h9 => q k (by omega) (by omega))⟩⟩
theorem HsP.set {N : Nat} {ad : Nat → Nat} {V V1 : Nat → va_E} {t : CL4} {b q : Nat} {hs : Nat → StC} {a : SoC} {x : PlC} {y : CuC} (h : HsP N ad V t b hs) (hq : q < 4) (h1 : SoP N ad V1 t (b + 57 * q) a) (h2 : PlP N ad V1 t (b + 57 * q + 1) x) (h3 : CuP N ad V1 t (b + 57 * q + 13) y) (fr : ∀ k, (k < b + 57 * q ∨ b + 57 * q + 57 ≤ k) → V1 k = V k) : HsP N ad V1 t b (va_up hs q (mkS x y (uB a) (uT a))) := by
  refine ⟨h.1, fun i hi => ?_⟩
  by_cases e : i = q
  · subst e
    rw [va_up_self]
    exact ⟨h1, h2, h3⟩
  · rw [va_up_ne _ _ e]
    have hne : i < q ∨ q < i := by omega
    refine ⟨(h.2 i hi).1.keep (fun k h8 h9 => fr k ?_), (h.2 i hi).2.1.keep (fun k h8 h9 => fr k ?_), (h.2 i hi).2.2.keep (fun k h8 h9 => fr k ?_)⟩ <;> omega
theorem sg_up {u : Nat → Nat} {k q : Nat} (h : ∀ j, j < 4 → u j < 4) (hq : q < 4) : ∀ j, j < 4 → va_up u k q j < 4 := by
  intro j hj
  by_cases e : j = k
  · subst e; rw [va_up_self]; exact hq
  · rw [va_up_ne _ _ e]; exact h j hj
section HR
variable {p : Program} {l : Launch} {e : Env} {R : Room} {s : State} {m : MethodId} {as : Array Value} {below : List Frame} {meth : Method} {c : Code} {H H0 : Heap} {locs : List Loc} {cells slots : Nat} {Q : State → Prop}
variable {cc : ByteArray} {nL pc : Nat} {own : String} {ls : Array Slot} {rest : List Value} {dd : va_G} {t : CL4} {N : Nat} {ad : Nat → Nat} {V : Nat → va_E} {b j : Nat} {sg : Nat → Nat} {hs : Nat → StC}
theorem h_qld (X : WX p s m as c cc nL own dd t) (hP : HP dd N ad V H) (hp : HaP N ad V t b sg) (hj : j < 4) (hdg : decode cc pc = .ok (.aaload, 1)) (kk : W p l e R s m as below meth c H locs cells slots Q (F0 m (pc + 1) ls (.ref (ad (b + 1 + 57 * sg j)) :: rest))) : W p l e R s m as below meth c H locs cells slots Q (F0 m pc ls (.int (nI j) :: .ref (ad b) :: rest)) := a_qld X hP hp.1 hp.2 hj (by omega) hdg kk
theorem h_qst (X : WX p s m as c cc nL own dd t) (hi : inj N ad) (hP : HP dd N ad V H) (hS : va_S (dm N ad H0.size) H0 H locs) (hp : HaP N ad V t b sg) (hf : HsP N ad V t (b + 1) hs) {q : Nat} (hq : q < 4) (hj : j < 4) (hdg : decode cc pc = .ok (.aastore, 1))
    (kk : ∀ (V1 : Nat → va_E) (H1 : Heap) (locs1 : List Loc), HaP N ad V1 t b (va_up sg j q) → (∀ k, k ≠ b → V1 k = V k) → HP dd N ad V1 H1 → va_S (dm N ad H0.size) H0 H1 locs1 → W p l e R s m as below meth c H1 locs1 cells slots Q (F0 m (pc + 1) ls rest)) : W p l e R s m as below meth c H locs cells slots Q (F0 m pc ls (.ref (ad (b + 1 + 57 * q)) :: .int (nI j) :: .ref (ad b) :: rest)) := by
  have h0 := hf.1
  refine a_qst X hi hP hS hp.1 hp.2 (k2 := b + 1 + 57 * q) (by omega) (hf.2 q hq).1.ob hj (by omega) hdg (fun V1 H1 locs1 h1 h2 h3 h4 => kk V1 H1 locs1 ⟨hp.1, ?_⟩ h2 h3 h4)
  obtain ⟨g, e1, e2⟩ := h1
  refine ⟨g, e1, fun i hi => ?_⟩
  rw [e2 i hi]
  show some _ = some (ad (b + 1 + 57 * va_up sg j q i))
  by_cases e : i = j
  · subst e; rw [va_up_self, va_up_self]
  · rw [va_up_ne _ _ e, va_up_ne _ _ e]
end HR

def rmX2_moveOldestToEnd : Room := { frames := 0, cells := 0, slots := 0, locals := 0 }
def l_X2_moveOldestToEnd_9 (ho : HoC) (sg : Nat → Nat) (hs : Nat → StC) : Nat → Nat → (Nat → Nat) → (Nat → Nat)
  | 0, ix_1, u1_0_1 => u1_0_1
  | dx_1 + 1, ix_1, u1_0_1 => l_X2_moveOldestToEnd_9 ho sg hs dx_1 (ix_1 + 1) (va_up u1_0_1 (ix_1 - 1) (u1_0_1 ix_1))
def f_X2_moveOldestToEnd (ho : HoC) (sg : Nat → Nat) (hs : Nat → StC) : (Nat → Nat) :=
  va_up (l_X2_moveOldestToEnd_9 ho sg hs (4 - 1) 1 sg) 3 (sg 0)
set_option maxHeartbeats 4000000 in
set_option maxRecDepth 100000 in
theorem c_X2_moveOldestToEnd {l : Launch} {dd : va_G} {t : CL4} {N : Nat} {ad : Nat → Nat} {V : Nat → va_E} {b : Nat} {ho : HoC} {sg : Nat → Nat} {hs : Nat → StC}  (hi : inj N ad) (hp0 : HoP N ad V t b ho) (hp1 : HaP N ad V t (b + 1) sg) (hp2 : HsP N ad V t (b + 2) hs)  (hsg : ∀ j, j < 4 → sg j < 4) : MV l dd t N ad V yX2_moveOldestToEnd cX2_moveOldestToEnd 3 rmX2_moveOldestToEnd [.ref (ad b)] (fun V1 => (HaP N ad V1 t (b + 1) (f_X2_moveOldestToEnd ho sg hs)) ∧ (∀ k, (k ≠ b + 1) → V1 k = V k)) := by
  refine MV.of (by decide +kernel) ⟨rfl, rfl⟩ (Nat.le_of_ble_eq_true rfl) ?_
  intro p e s m as below meth c Q X H hP hS ls hl kr
  have X : WX p s m as c cX2_moveOldestToEnd 3 RX2 dd t := X
  have hx := X.1.1
  have hb := X.1.2.1
  have hl : lv_has ls 3 [(0, .ref (ad b))] := hl
  have hi0_0 := hp0.i0
  have hle0 := hp0.le
  have hle1 := hp1.1
  have hle2 := hp2.1
  have hfr : ∀ k, (k ≠ b + 1) → V k = V k := fun _ _ => rfl
  refine lv_aload_n hx hb dX2_moveOldestToEnd_0 rfl (lv_at hl 0 rfl) ?_
  refine g_Ho_states X hP hp0 m69 dX2_moveOldestToEnd_1 ?_
  refine lv_iconst (v := nI 0) hx hb dX2_moveOldestToEnd_4 (by decide) ?_
  refine h_qld X hP hp1 (by decide) dX2_moveOldestToEnd_5 ?_
  refine lv_astore_n (lv' := [(1, .ref (ad (b + 1 + 1 + 57 * (sg 0)))), (0, .ref (ad b))]) hx hb dX2_moveOldestToEnd_6 rfl hl (by decide) rfl (fun ls hl => ?_)
  refine lv_iconst (v := nI 1) hx hb dX2_moveOldestToEnd_7 (by decide) ?_
  refine lv_istore_n (lv' := [(2, .int (nI 1)), (1, .ref (ad (b + 1 + 1 + 57 * (sg 0)))), (0, .ref (ad b))]) hx hb dX2_moveOldestToEnd_8 rfl hl (by decide) rfl (fun ls hl => ?_)
  have L1 : ∀ (dx_1 ix_1 : Nat) (u1_0_1 : Nat → Nat) (V1 : Nat → va_E) (H1 : Heap) (locs1 : List Loc) (ls : Array Slot), (ix_1 + dx_1 = 4) → (l_X2_moveOldestToEnd_9 ho sg hs dx_1 ix_1 u1_0_1 = l_X2_moveOldestToEnd_9 ho sg hs (4 - 1) 1 sg) → (∀ j, j < 4 → u1_0_1 j < 4) → (1 ≤ ix_1) → (HoP N ad V1 t b ho) → (HaP N ad V1 t (b + 1) u1_0_1) → (HsP N ad V1 t (b + 2) hs) → (∀ k, (k ≠ b + 1) → V1 k = V k) → (HP dd N ad V1 H1) → (va_S (dm N ad H.size) H H1 locs1) → (lv_has ls 3 [(0, .ref (ad b)), (1, .ref (ad (b + 1 + 1 + 57 * (sg 0)))), (2, .int (nI ix_1))]) → W p l e rmX2_moveOldestToEnd s m as below meth c H1 locs1 0 0 Q (F0 m 9 ls []) := by
    intro dx_1
    induction dx_1 with
    | zero =>
      intro ix_1 u1_0_1 V1 H1 locs1 ls hid hvx_1 hsu hlo hp0 hp1 hp2 hfr hP hS hl
      have hiN : 4 = ix_1 := by omega
      subst hiN
      have hvx_1 : u1_0_1 = l_X2_moveOldestToEnd_9 ho sg hs (4 - 1) 1 sg := hvx_1
      have hh0 : u1_0_1 = l_X2_moveOldestToEnd_9 ho sg hs (4 - 1) 1 sg := hvx_1
      subst hh0
      refine lv_iload_n hx hb dX2_moveOldestToEnd_9 rfl (lv_at hl 2 rfl) ?_
      refine lv_iconst (v := nI 4) hx hb dX2_moveOldestToEnd_10 (by decide) ?_
      refine q_ge (tgt := 34) hx hb (by omega) (by omega) dX2_moveOldestToEnd_11 (by decide) (fun c2 => ?_) (fun h => absurd h (by omega))
      refine lv_aload_n hx hb dX2_moveOldestToEnd_34 rfl (lv_at hl 0 rfl) ?_
      refine g_Ho_states X hP hp0 m69 dX2_moveOldestToEnd_35 ?_
      refine lv_iconst (v := nI 3) hx hb dX2_moveOldestToEnd_38 (by decide) ?_
      refine lv_aload_n hx hb dX2_moveOldestToEnd_39 rfl (lv_at hl 1 rfl) ?_
      refine h_qst X hi hP hS hp1 hp2 (hsg _ (by omega)) (by decide) dX2_moveOldestToEnd_40 (fun V3 H3 locs3 hp1 h2 hP hS => ?_)
      have hp1 : HaP N ad V3 t (b + 1) (va_up (l_X2_moveOldestToEnd_9 ho sg hs (4 - 1) 1 sg) 3 (sg 0)) := hp1
      have hp0 := hp0.keep (V1 := V3) (fun k h8 h9 => h2 k (by omega))
      have hp2 := hp2.keep (V1 := V3) (fun k h8 h9 => h2 k (by omega))
      have hfr : ∀ k, (k ≠ b + 1) → V3 k = V k := fun k hk => (h2 k (by omega)).trans (hfr k hk)
      have hfin : f_X2_moveOldestToEnd ho sg hs = va_up (l_X2_moveOldestToEnd_9 ho sg hs (4 - 1) 1 sg) 3 (sg 0) := (by rw [f_X2_moveOldestToEnd] <;> rfl)
      exact kr 41 ls _ _ _ hP hS ⟨by rw [hfin]; exact hp1, hfr⟩ dX2_moveOldestToEnd_41
    | succ dx_1 ihx_1 =>
      intro ix_1 u1_0_1 V1 H1 locs1 ls hid hvx_1 hsu hlo hp0 hp1 hp2 hfr hP hS hl
      refine lv_iload_n hx hb dX2_moveOldestToEnd_9 rfl (lv_at hl 2 rfl) ?_
      refine lv_iconst (v := nI 4) hx hb dX2_moveOldestToEnd_10 (by decide) ?_
      refine q_ge (tgt := 34) hx hb (by omega) (by omega) dX2_moveOldestToEnd_11 (by decide) (fun h => absurd h (by omega)) (fun c4 => ?_)
      refine lv_aload_n hx hb dX2_moveOldestToEnd_14 rfl (lv_at hl 0 rfl) ?_
      refine g_Ho_states X hP hp0 m69 dX2_moveOldestToEnd_15 ?_
      refine lv_iload_n hx hb dX2_moveOldestToEnd_18 rfl (lv_at hl 2 rfl) ?_
      refine lv_iconst (v := nI 1) hx hb dX2_moveOldestToEnd_19 (by decide) ?_
      refine q_isub hx hb (by omega) dX2_moveOldestToEnd_20 ?_
      refine lv_aload_n hx hb dX2_moveOldestToEnd_21 rfl (lv_at hl 0 rfl) ?_
      refine g_Ho_states X hP hp0 m69 dX2_moveOldestToEnd_22 ?_
      refine lv_iload_n hx hb dX2_moveOldestToEnd_25 rfl (lv_at hl 2 rfl) ?_
      refine h_qld X hP hp1 (by omega) dX2_moveOldestToEnd_26 ?_
      refine h_qst X hi hP hS hp1 hp2 (hsu _ (by omega)) (by omega) dX2_moveOldestToEnd_27 (fun V5 H5 locs5 hp1 h2 hP hS => ?_)
      have hp1 : HaP N ad V5 t (b + 1) (va_up u1_0_1 (ix_1 - 1) (u1_0_1 ix_1)) := hp1
      have hp0 := hp0.keep (V1 := V5) (fun k h8 h9 => h2 k (by omega))
      have hp2 := hp2.keep (V1 := V5) (fun k h8 h9 => h2 k (by omega))
      have hfr : ∀ k, (k ≠ b + 1) → V5 k = V k := fun k hk => (h2 k (by omega)).trans (hfr k hk)
      refine lv_iinc (v := nI (ix_1 + 1)) (lv' := [(2, .int (nI (ix_1 + 1))), (0, .ref (ad b)), (1, .ref (ad (b + 1 + 1 + 57 * (sg 0))))]) hx hb dX2_moveOldestToEnd_28 hl (k := 2) rfl (nI_inc _) (by decide) rfl (fun ls hl => ?_)
      refine lv_goto (tgt := 9) hx hb dX2_moveOldestToEnd_31 (by decide) ?_
      exact ihx_1 (ix_1 + 1) (va_up u1_0_1 (ix_1 - 1) (u1_0_1 ix_1)) _ _ _ ls (by omega) (Eq.trans (Eq.symm (by rw [l_X2_moveOldestToEnd_9] <;> rfl)) hvx_1) (sg_up hsu (hsu _ (by omega))) (by omega) hp0 hp1 hp2 hfr hP hS (lv_sub hl [1, 2, 0] rfl)
  exact L1 (4 - 1) 1 sg _ _ _ ls (by omega) rfl (hsg) (Nat.le_refl _) hp0 hp1 hp2 hfr hP hS (lv_sub hl [2, 1, 0] rfl)
theorem o_X2_moveOldestToEnd : okV yX2_moveOldestToEnd cX2_moveOldestToEnd 3 none 0 := ⟨m103, m104, m21, m105, by decide +kernel, by decide +kernel, by decide +kernel⟩
theorem moved_lt {ho : HoC} {sg : Nat → Nat} {hs : Nat → StC} (h : ∀ j, j < 4 → sg j < 4) {j : Nat} (hj : j < 4) : f_X2_moveOldestToEnd ho sg hs j < 4 := by
  have key : ∀ (d i : Nat) (u : Nat → Nat), i + d = 4 → (∀ j, j < 4 → u j < 4) → ∀ j, j < 4 → l_X2_moveOldestToEnd_9 ho sg hs d i u j < 4 := by
    intro d
    induction d with
    | zero => intro i u _ hu j hj; rw [l_X2_moveOldestToEnd_9]; exact hu j hj
    | succ d ih => intro i u hid hu j hj; rw [l_X2_moveOldestToEnd_9]; exact ih _ _ (by omega) (sg_up hu (hu _ (by omega))) j hj
  exact sg_up (key _ _ _ (by omega) h) (h _ (by omega)) j hj

def rmX2_record : Room := { frames := 3, cells := 0, slots := 0, locals := 67 }
def f_X2_record (ho : HoC) (sg : Nat → Nat) (hs : Nat → StC) (z2 : SoC) (x2 : PlC) (y2 : CuC) : HoC × (Nat → Nat) × (Nat → StC) :=
  (if (hA ho) < 4 then (mkH (hA ho + 1), sg, va_up hs (sg (hA ho)) (mkS ((f_X4_copyFrom (soOf (hs (sg (hA ho)))) (sP (hs (sg (hA ho)))) (sK (hs (sg (hA ho)))) z2 x2 y2).2.1) ((f_X4_copyFrom (soOf (hs (sg (hA ho)))) (sP (hs (sg (hA ho)))) (sK (hs (sg (hA ho)))) z2 x2 y2).2.2) (uB ((f_X4_copyFrom (soOf (hs (sg (hA ho)))) (sP (hs (sg (hA ho)))) (sK (hs (sg (hA ho)))) z2 x2 y2).1)) (uT ((f_X4_copyFrom (soOf (hs (sg (hA ho)))) (sP (hs (sg (hA ho)))) (sK (hs (sg (hA ho)))) z2 x2 y2).1)))) else (mkH 4, (f_X2_moveOldestToEnd ho sg hs), va_up hs ((f_X2_moveOldestToEnd ho sg hs) 3) (mkS ((f_X4_copyFrom (soOf (hs ((f_X2_moveOldestToEnd ho sg hs) 3))) (sP (hs ((f_X2_moveOldestToEnd ho sg hs) 3))) (sK (hs ((f_X2_moveOldestToEnd ho sg hs) 3))) z2 x2 y2).2.1) ((f_X4_copyFrom (soOf (hs ((f_X2_moveOldestToEnd ho sg hs) 3))) (sP (hs ((f_X2_moveOldestToEnd ho sg hs) 3))) (sK (hs ((f_X2_moveOldestToEnd ho sg hs) 3))) z2 x2 y2).2.2) (uB ((f_X4_copyFrom (soOf (hs ((f_X2_moveOldestToEnd ho sg hs) 3))) (sP (hs ((f_X2_moveOldestToEnd ho sg hs) 3))) (sK (hs ((f_X2_moveOldestToEnd ho sg hs) 3))) z2 x2 y2).1)) (uT ((f_X4_copyFrom (soOf (hs ((f_X2_moveOldestToEnd ho sg hs) 3))) (sP (hs ((f_X2_moveOldestToEnd ho sg hs) 3))) (sK (hs ((f_X2_moveOldestToEnd ho sg hs) 3))) z2 x2 y2).1)))))
set_option maxHeartbeats 4000000 in
set_option maxRecDepth 100000 in
theorem c_X2_record {l : Launch} {dd : va_G} {t : CL4} {N : Nat} {ad : Nat → Nat} {V : Nat → va_E} {b : Nat} {b2 : Nat} {ho : HoC} {sg : Nat → Nat} {hs : Nat → StC} {z2 : SoC} {x2 : PlC} {y2 : CuC}  (hi : inj N ad) (hp0 : HoP N ad V t b ho) (hp1 : HaP N ad V t (b + 1) sg) (hp2 : HsP N ad V t (b + 2) hs) (hp3 : SoP N ad V t b2 z2) (hp4 : PlP N ad V t (b2 + 1) x2) (hp5 : CuP N ad V t (b2 + 13) y2)  (hsg : ∀ j, j < 4 → sg j < 4) (hdj : b + 230 ≤ b2 ∨ b2 + 57 ≤ b) : MV l dd t N ad V yX2_record cX2_record 2 rmX2_record [.ref (ad b), .ref (ad b2)] (fun V1 => (HoP N ad V1 t b ((f_X2_record ho sg hs z2 x2 y2).1)) ∧ (HaP N ad V1 t (b + 1) ((f_X2_record ho sg hs z2 x2 y2).2.1)) ∧ (HsP N ad V1 t (b + 2) ((f_X2_record ho sg hs z2 x2 y2).2.2)) ∧ (∀ k, (k < b ∨ b + 230 ≤ k) → V1 k = V k)) := by
  refine MV.of (by decide +kernel) ⟨rfl, rfl⟩ (Nat.le_of_ble_eq_true rfl) ?_
  intro p e s m as below meth c Q X H hP hS ls hl kr
  have X : WX p s m as c cX2_record 2 RX2 dd t := X
  have hx := X.1.1
  have hb := X.1.2.1
  have hl : lv_has ls 2 [(0, .ref (ad b)), (1, .ref (ad b2))] := hl
  have hi0_0 := hp0.i0
  have hi4_0 := hp4.i0
  have hi4_1 := hp4.i1
  have hi5_0 := hp5.i0
  have hle0 := hp0.le
  have hle1 := hp1.1
  have hle2 := hp2.1
  have hle3 := hp3.le
  have hle4 := hp4.le
  have hle5 := hp5.le
  have hfr : ∀ k, (k < b ∨ b + 230 ≤ k) → V k = V k := fun _ _ => rfl
  refine lv_aload_n hx hb dX2_record_0 rfl (lv_at hl 0 rfl) ?_
  refine g_Ho_amount X hP hp0 m70 dX2_record_1 ?_
  refine lv_iconst (v := nI 4) hx hb dX2_record_4 (by decide) ?_
  refine q_lt (tgt := 17) hx hb (by omega) (by omega) dX2_record_5 (by decide) (fun c1 => ?_) (fun c1 => ?_)
  · refine lv_aload_n hx hb dX2_record_17 rfl (lv_at hl 0 rfl) ?_
    refine g_Ho_states X hP hp0 m69 dX2_record_18 ?_
    refine lv_aload_n hx hb dX2_record_21 rfl (lv_at hl 0 rfl) ?_
    refine g_Ho_amount X hP hp0 m70 dX2_record_22 ?_
    refine h_qld X hP hp1 (by omega) dX2_record_25 ?_
    refine lv_aload_n hx hb dX2_record_26 rfl (lv_at hl 1 rfl) ?_
    have hqb2 : sg (hA ho) < 4 := (hsg _ (by omega))
    obtain ⟨hfm3a, hfm3b, hfm3c⟩ := hp2.2 (sg (hA ho)) hqb2
    refine r_callW (As := [.ref (ad b2)]) (rest := []) (ci := 4) X hP hS (c_X4_copyFrom hi hfm3a hfm3b hfm3c hp3 hp4 hp5 (by omega)) o_X4_copyFrom rfl hfm3a.lt hfm3a.ob m106 ⟨rfl, rfl⟩ ⟨Nat.le_of_ble_eq_true rfl, Nat.le_of_ble_eq_true rfl⟩ rfl hl.1 rfl (Nat.le_of_ble_eq_true rfl) ⟨Nat.zero_le _, Nat.zero_le _⟩ dX2_record_27 (fun V4 H4 locs4 hq hP hS => ?_)
    obtain ⟨hfm3a, hfm3b, hfm3c, h2⟩ := hq
    have hi7_0 := hfm3b.i0
    have hi7_1 := hfm3b.i1
    have hi8_0 := hfm3c.i0
    have hp2 := HsP.set (V1 := V4) hp2 hqb2 hfm3a hfm3b hfm3c (fun k hk => h2 k (by omega))
    have hp0 := hp0.keep (V1 := V4) (fun k h8 h9 => h2 k (by omega))
    have hp1 := hp1.keep (V1 := V4) (fun k h8 h9 => h2 k (by omega))
    have hp3 := hp3.keep (V1 := V4) (fun k h8 h9 => h2 k (by omega))
    have hp4 := hp4.keep (V1 := V4) (fun k h8 h9 => h2 k (by omega))
    have hp5 := hp5.keep (V1 := V4) (fun k h8 h9 => h2 k (by omega))
    have hfr : ∀ k, (k < b ∨ b + 230 ≤ k) → V4 k = V k := fun k hk => (h2 k (by omega)).trans (hfr k hk)
    refine lv_aload_n hx hb dX2_record_30 rfl (lv_at hl 0 rfl) ?_
    refine lv_dup hx hb dX2_record_31 rfl ?_
    refine g_Ho_amount X hP hp0 m70 dX2_record_32 ?_
    refine lv_iconst (v := nI 1) hx hb dX2_record_35 (by decide) ?_
    refine q_iadd hx hb dX2_record_36 ?_
    refine W.eq (g2 := F0 m 37 ls [.int (nI (hA ho + 1)), .ref (ad b)]) rfl ?_
    refine p_Ho_amount X hi hP hS hp0 m70 (v := hA ho + 1) (hv := by omega) dX2_record_37 (fun V5 H5 locs5 hp0 h2 hP hS => ?_)
    have hp0 : HoP N ad V5 t b (mkH (hA ho + 1)) := hp0
    have hp1 := hp1.keep (V1 := V5) (fun k h8 h9 => h2 k (by omega))
    have hp2 := hp2.keep (V1 := V5) (fun k h8 h9 => h2 k (by omega))
    have hp3 := hp3.keep (V1 := V5) (fun k h8 h9 => h2 k (by omega))
    have hp4 := hp4.keep (V1 := V5) (fun k h8 h9 => h2 k (by omega))
    have hp5 := hp5.keep (V1 := V5) (fun k h8 h9 => h2 k (by omega))
    have hfr : ∀ k, (k < b ∨ b + 230 ≤ k) → V5 k = V k := fun k hk => (h2 k (by omega)).trans (hfr k hk)
    have hfin : f_X2_record ho sg hs z2 x2 y2 = (mkH (hA ho + 1), sg, va_up hs (sg (hA ho)) (mkS ((f_X4_copyFrom (soOf (hs (sg (hA ho)))) (sP (hs (sg (hA ho)))) (sK (hs (sg (hA ho)))) z2 x2 y2).2.1) ((f_X4_copyFrom (soOf (hs (sg (hA ho)))) (sP (hs (sg (hA ho)))) (sK (hs (sg (hA ho)))) z2 x2 y2).2.2) (uB ((f_X4_copyFrom (soOf (hs (sg (hA ho)))) (sP (hs (sg (hA ho)))) (sK (hs (sg (hA ho)))) z2 x2 y2).1)) (uT ((f_X4_copyFrom (soOf (hs (sg (hA ho)))) (sP (hs (sg (hA ho)))) (sK (hs (sg (hA ho)))) z2 x2 y2).1)))) := (by rw [f_X2_record, if_pos c1] <;> rfl)
    exact kr 40 ls _ _ _ hP hS ⟨by rw [hfin]; exact hp0, by rw [hfin]; exact hp1, by rw [hfin]; exact hp2, hfr⟩ dX2_record_40
  · refine lv_aload_n hx hb dX2_record_8 rfl (lv_at hl 0 rfl) ?_
    refine r_callW (As := []) (rest := []) (ci := 2) X hP hS (c_X2_moveOldestToEnd hi hp0 hp1 hp2 hsg) o_X2_moveOldestToEnd rfl hp0.lt hp0.ob m102 ⟨rfl, rfl⟩ ⟨Nat.le_of_ble_eq_true rfl, Nat.le_of_ble_eq_true rfl⟩ rfl hl.1 rfl (Nat.le_of_ble_eq_true rfl) ⟨Nat.zero_le _, Nat.zero_le _⟩ dX2_record_9 (fun V6 H6 locs6 hq hP hS => ?_)
    obtain ⟨hp1, h2⟩ := hq
    have hp0 := hp0.keep (V1 := V6) (fun k h8 h9 => h2 k (by omega))
    have hp2 := hp2.keep (V1 := V6) (fun k h8 h9 => h2 k (by omega))
    have hp3 := hp3.keep (V1 := V6) (fun k h8 h9 => h2 k (by omega))
    have hp4 := hp4.keep (V1 := V6) (fun k h8 h9 => h2 k (by omega))
    have hp5 := hp5.keep (V1 := V6) (fun k h8 h9 => h2 k (by omega))
    have hfr : ∀ k, (k < b ∨ b + 230 ≤ k) → V6 k = V k := fun k hk => (h2 k (by omega)).trans (hfr k hk)
    refine lv_aload_n hx hb dX2_record_12 rfl (lv_at hl 0 rfl) ?_
    refine lv_iconst (v := nI 3) hx hb dX2_record_13 (by decide) ?_
    refine p_Ho_amount X hi hP hS hp0 m70 (v := 3) (hv := by omega) dX2_record_14 (fun V7 H7 locs7 hp0 h2 hP hS => ?_)
    have hp0 : HoP N ad V7 t b (mkH 3) := hp0
    have hp1 := hp1.keep (V1 := V7) (fun k h8 h9 => h2 k (by omega))
    have hp2 := hp2.keep (V1 := V7) (fun k h8 h9 => h2 k (by omega))
    have hp3 := hp3.keep (V1 := V7) (fun k h8 h9 => h2 k (by omega))
    have hp4 := hp4.keep (V1 := V7) (fun k h8 h9 => h2 k (by omega))
    have hp5 := hp5.keep (V1 := V7) (fun k h8 h9 => h2 k (by omega))
    have hfr : ∀ k, (k < b ∨ b + 230 ≤ k) → V7 k = V k := fun k hk => (h2 k (by omega)).trans (hfr k hk)
    refine lv_aload_n hx hb dX2_record_17 rfl (lv_at hl 0 rfl) ?_
    refine g_Ho_states X hP hp0 m69 dX2_record_18 ?_
    refine lv_aload_n hx hb dX2_record_21 rfl (lv_at hl 0 rfl) ?_
    refine g_Ho_amount X hP hp0 m70 dX2_record_22 ?_
    refine W.eq (g2 := F0 m 25 ls [.int (nI 3), .ref (ad (b + 1))]) rfl ?_
    refine h_qld X hP hp1 (by decide) dX2_record_25 ?_
    refine lv_aload_n hx hb dX2_record_26 rfl (lv_at hl 1 rfl) ?_
    have hqb8 : (f_X2_moveOldestToEnd ho sg hs) 3 < 4 := (moved_lt hsg (by omega))
    obtain ⟨hfm9a, hfm9b, hfm9c⟩ := hp2.2 ((f_X2_moveOldestToEnd ho sg hs) 3) hqb8
    refine r_callW (As := [.ref (ad b2)]) (rest := []) (ci := 4) X hP hS (c_X4_copyFrom hi hfm9a hfm9b hfm9c hp3 hp4 hp5 (by omega)) o_X4_copyFrom rfl hfm9a.lt hfm9a.ob m106 ⟨rfl, rfl⟩ ⟨Nat.le_of_ble_eq_true rfl, Nat.le_of_ble_eq_true rfl⟩ rfl hl.1 rfl (Nat.le_of_ble_eq_true rfl) ⟨Nat.zero_le _, Nat.zero_le _⟩ dX2_record_27 (fun V10 H10 locs10 hq hP hS => ?_)
    obtain ⟨hfm9a, hfm9b, hfm9c, h2⟩ := hq
    have hi7_0 := hfm9b.i0
    have hi7_1 := hfm9b.i1
    have hi8_0 := hfm9c.i0
    have hp2 := HsP.set (V1 := V10) hp2 hqb8 hfm9a hfm9b hfm9c (fun k hk => h2 k (by omega))
    have hp0 := hp0.keep (V1 := V10) (fun k h8 h9 => h2 k (by omega))
    have hp1 := hp1.keep (V1 := V10) (fun k h8 h9 => h2 k (by omega))
    have hp3 := hp3.keep (V1 := V10) (fun k h8 h9 => h2 k (by omega))
    have hp4 := hp4.keep (V1 := V10) (fun k h8 h9 => h2 k (by omega))
    have hp5 := hp5.keep (V1 := V10) (fun k h8 h9 => h2 k (by omega))
    have hfr : ∀ k, (k < b ∨ b + 230 ≤ k) → V10 k = V k := fun k hk => (h2 k (by omega)).trans (hfr k hk)
    refine lv_aload_n hx hb dX2_record_30 rfl (lv_at hl 0 rfl) ?_
    refine lv_dup hx hb dX2_record_31 rfl ?_
    refine g_Ho_amount X hP hp0 m70 dX2_record_32 ?_
    refine W.eq (g2 := F0 m 35 ls [.int (nI 3), .ref (ad b)]) rfl ?_
    refine lv_iconst (v := nI 1) hx hb dX2_record_35 (by decide) ?_
    refine q_iadd hx hb dX2_record_36 ?_
    refine W.eq (g2 := F0 m 37 ls [.int (nI 4), .ref (ad b)]) rfl ?_
    refine p_Ho_amount X hi hP hS hp0 m70 (v := 4) (hv := by omega) dX2_record_37 (fun V11 H11 locs11 hp0 h2 hP hS => ?_)
    have hp0 : HoP N ad V11 t b (mkH 4) := hp0
    have hp1 := hp1.keep (V1 := V11) (fun k h8 h9 => h2 k (by omega))
    have hp2 := hp2.keep (V1 := V11) (fun k h8 h9 => h2 k (by omega))
    have hp3 := hp3.keep (V1 := V11) (fun k h8 h9 => h2 k (by omega))
    have hp4 := hp4.keep (V1 := V11) (fun k h8 h9 => h2 k (by omega))
    have hp5 := hp5.keep (V1 := V11) (fun k h8 h9 => h2 k (by omega))
    have hfr : ∀ k, (k < b ∨ b + 230 ≤ k) → V11 k = V k := fun k hk => (h2 k (by omega)).trans (hfr k hk)
    have hfin : f_X2_record ho sg hs z2 x2 y2 = (mkH 4, (f_X2_moveOldestToEnd ho sg hs), va_up hs ((f_X2_moveOldestToEnd ho sg hs) 3) (mkS ((f_X4_copyFrom (soOf (hs ((f_X2_moveOldestToEnd ho sg hs) 3))) (sP (hs ((f_X2_moveOldestToEnd ho sg hs) 3))) (sK (hs ((f_X2_moveOldestToEnd ho sg hs) 3))) z2 x2 y2).2.1) ((f_X4_copyFrom (soOf (hs ((f_X2_moveOldestToEnd ho sg hs) 3))) (sP (hs ((f_X2_moveOldestToEnd ho sg hs) 3))) (sK (hs ((f_X2_moveOldestToEnd ho sg hs) 3))) z2 x2 y2).2.2) (uB ((f_X4_copyFrom (soOf (hs ((f_X2_moveOldestToEnd ho sg hs) 3))) (sP (hs ((f_X2_moveOldestToEnd ho sg hs) 3))) (sK (hs ((f_X2_moveOldestToEnd ho sg hs) 3))) z2 x2 y2).1)) (uT ((f_X4_copyFrom (soOf (hs ((f_X2_moveOldestToEnd ho sg hs) 3))) (sP (hs ((f_X2_moveOldestToEnd ho sg hs) 3))) (sK (hs ((f_X2_moveOldestToEnd ho sg hs) 3))) z2 x2 y2).1)))) := (by rw [f_X2_record, if_neg (Nat.not_lt.mpr c1)] <;> rfl)
    exact kr 40 ls _ _ _ hP hS ⟨by rw [hfin]; exact hp0, by rw [hfin]; exact hp1, by rw [hfin]; exact hp2, hfr⟩ dX2_record_40
theorem o_X2_record : okV yX2_record cX2_record 2 none 1 := ⟨m99, m100, m21, m101, by decide +kernel, by decide +kernel, by decide +kernel⟩
def rmX2_takeLatest : Room := { frames := 3, cells := 0, slots := 0, locals := 67 }
def f_X2_takeLatest (ho : HoC) (sg : Nat → Nat) (hs : Nat → StC) (z2 : SoC) (x2 : PlC) (y2 : CuC) : HoC × SoC × PlC × CuC :=
  (if 0 < (hA ho) then (mkH ((hA ho) - 1), ((f_X4_copyFrom z2 x2 y2 (soOf (hs (sg ((hA ho) - 1)))) (sP (hs (sg ((hA ho) - 1)))) (sK (hs (sg ((hA ho) - 1))))).1), ((f_X4_copyFrom z2 x2 y2 (soOf (hs (sg ((hA ho) - 1)))) (sP (hs (sg ((hA ho) - 1)))) (sK (hs (sg ((hA ho) - 1))))).2.1), ((f_X4_copyFrom z2 x2 y2 (soOf (hs (sg ((hA ho) - 1)))) (sP (hs (sg ((hA ho) - 1)))) (sK (hs (sg ((hA ho) - 1))))).2.2)) else (ho, z2, x2, y2))
set_option maxHeartbeats 4000000 in
set_option maxRecDepth 100000 in
theorem c_X2_takeLatest {l : Launch} {dd : va_G} {t : CL4} {N : Nat} {ad : Nat → Nat} {V : Nat → va_E} {b : Nat} {b2 : Nat} {ho : HoC} {sg : Nat → Nat} {hs : Nat → StC} {z2 : SoC} {x2 : PlC} {y2 : CuC}  (hi : inj N ad) (hp0 : HoP N ad V t b ho) (hp1 : HaP N ad V t (b + 1) sg) (hp2 : HsP N ad V t (b + 2) hs) (hp3 : SoP N ad V t b2 z2) (hp4 : PlP N ad V t (b2 + 1) x2) (hp5 : CuP N ad V t (b2 + 13) y2)  (hsg : ∀ j, j < 4 → sg j < 4) (hdj : b + 230 ≤ b2 ∨ b2 + 57 ≤ b) : MV l dd t N ad V yX2_takeLatest cX2_takeLatest 2 rmX2_takeLatest [.ref (ad b), .ref (ad b2)] (fun V1 => (HoP N ad V1 t b ((f_X2_takeLatest ho sg hs z2 x2 y2).1)) ∧ (SoP N ad V1 t b2 ((f_X2_takeLatest ho sg hs z2 x2 y2).2.1)) ∧ (PlP N ad V1 t (b2 + 1) ((f_X2_takeLatest ho sg hs z2 x2 y2).2.2.1)) ∧ (CuP N ad V1 t (b2 + 13) ((f_X2_takeLatest ho sg hs z2 x2 y2).2.2.2)) ∧ (∀ k, (k ≠ b ∧ (k < b2 ∨ b2 + 57 ≤ k)) → V1 k = V k)) := by
  refine MV.of (by decide +kernel) ⟨rfl, rfl⟩ (Nat.le_of_ble_eq_true rfl) ?_
  intro p e s m as below meth c Q X H hP hS ls hl kr
  have X : WX p s m as c cX2_takeLatest 2 RX2 dd t := X
  have hx := X.1.1
  have hb := X.1.2.1
  have hl : lv_has ls 2 [(0, .ref (ad b)), (1, .ref (ad b2))] := hl
  have hi0_0 := hp0.i0
  have hi4_0 := hp4.i0
  have hi4_1 := hp4.i1
  have hi5_0 := hp5.i0
  have hle0 := hp0.le
  have hle1 := hp1.1
  have hle2 := hp2.1
  have hle3 := hp3.le
  have hle4 := hp4.le
  have hle5 := hp5.le
  have hfr : ∀ k, (k ≠ b ∧ (k < b2 ∨ b2 + 57 ≤ k)) → V k = V k := fun _ _ => rfl
  refine lv_aload_n hx hb dX2_takeLatest_0 rfl (lv_at hl 0 rfl) ?_
  refine g_Ho_amount X hP hp0 m70 dX2_takeLatest_1 ?_
  refine z_le (tgt := 30) hx hb (by omega) dX2_takeLatest_4 (by decide) (fun c1 => ?_) (fun c1 => ?_)
  · have hfin : f_X2_takeLatest ho sg hs z2 x2 y2 = (ho, z2, x2, y2) := (by rw [f_X2_takeLatest, if_neg (Nat.not_lt.mpr c1)] <;> rfl)
    exact kr 30 ls _ _ _ hP hS ⟨by rw [hfin]; exact hp0, by rw [hfin]; exact hp3, by rw [hfin]; exact hp4, by rw [hfin]; exact hp5, hfr⟩ dX2_takeLatest_30
  · refine lv_aload_n hx hb dX2_takeLatest_7 rfl (lv_at hl 0 rfl) ?_
    refine lv_dup hx hb dX2_takeLatest_8 rfl ?_
    refine g_Ho_amount X hP hp0 m70 dX2_takeLatest_9 ?_
    refine lv_iconst (v := nI 1) hx hb dX2_takeLatest_12 (by decide) ?_
    refine q_isub hx hb (by omega) dX2_takeLatest_13 ?_
    refine p_Ho_amount X hi hP hS hp0 m70 (v := (hA ho) - 1) (hv := by omega) dX2_takeLatest_14 (fun V2 H2 locs2 hp0 h2 hP hS => ?_)
    have hp0 : HoP N ad V2 t b (mkH ((hA ho) - 1)) := hp0
    have hp1 := hp1.keep (V1 := V2) (fun k h8 h9 => h2 k (by omega))
    have hp2 := hp2.keep (V1 := V2) (fun k h8 h9 => h2 k (by omega))
    have hp3 := hp3.keep (V1 := V2) (fun k h8 h9 => h2 k (by omega))
    have hp4 := hp4.keep (V1 := V2) (fun k h8 h9 => h2 k (by omega))
    have hp5 := hp5.keep (V1 := V2) (fun k h8 h9 => h2 k (by omega))
    have hfr : ∀ k, (k ≠ b ∧ (k < b2 ∨ b2 + 57 ≤ k)) → V2 k = V k := fun k hk => (h2 k (by omega)).trans (hfr k hk)
    refine lv_aload_n hx hb dX2_takeLatest_17 rfl (lv_at hl 1 rfl) ?_
    refine lv_aload_n hx hb dX2_takeLatest_18 rfl (lv_at hl 0 rfl) ?_
    refine g_Ho_states X hP hp0 m69 dX2_takeLatest_19 ?_
    refine lv_aload_n hx hb dX2_takeLatest_22 rfl (lv_at hl 0 rfl) ?_
    refine g_Ho_amount X hP hp0 m70 dX2_takeLatest_23 ?_
    refine W.eq (g2 := F0 m 26 ls [.int (nI ((hA ho) - 1)), .ref (ad (b + 1)), .ref (ad b2)]) rfl ?_
    refine h_qld X hP hp1 (by omega) dX2_takeLatest_26 ?_
    have hqb3 : sg ((hA ho) - 1) < 4 := (hsg _ (by omega))
    obtain ⟨hfm4a, hfm4b, hfm4c⟩ := hp2.2 (sg ((hA ho) - 1)) hqb3
    refine r_callW (As := [.ref (ad (b + 1 + 1 + 57 * (sg ((hA ho) - 1))))]) (rest := []) (ci := 4) X hP hS (c_X4_copyFrom hi hp3 hp4 hp5 hfm4a hfm4b hfm4c (by omega)) o_X4_copyFrom rfl hp3.lt hp3.ob m106 ⟨rfl, rfl⟩ ⟨Nat.le_of_ble_eq_true rfl, Nat.le_of_ble_eq_true rfl⟩ rfl hl.1 rfl (Nat.le_of_ble_eq_true rfl) ⟨Nat.zero_le _, Nat.zero_le _⟩ dX2_takeLatest_27 (fun V5 H5 locs5 hq hP hS => ?_)
    obtain ⟨hp3, hp4, hp5, h2⟩ := hq
    have hi4_0 := hp4.i0
    have hi4_1 := hp4.i1
    have hi5_0 := hp5.i0
    have hp0 := hp0.keep (V1 := V5) (fun k h8 h9 => h2 k (by omega))
    have hp1 := hp1.keep (V1 := V5) (fun k h8 h9 => h2 k (by omega))
    have hp2 := hp2.keep (V1 := V5) (fun k h8 h9 => h2 k (by omega))
    have hfr : ∀ k, (k ≠ b ∧ (k < b2 ∨ b2 + 57 ≤ k)) → V5 k = V k := fun k hk => (h2 k (by omega)).trans (hfr k hk)
    have hfin : f_X2_takeLatest ho sg hs z2 x2 y2 = (mkH ((hA ho) - 1), ((f_X4_copyFrom z2 x2 y2 (soOf (hs (sg ((hA ho) - 1)))) (sP (hs (sg ((hA ho) - 1)))) (sK (hs (sg ((hA ho) - 1))))).1), ((f_X4_copyFrom z2 x2 y2 (soOf (hs (sg ((hA ho) - 1)))) (sP (hs (sg ((hA ho) - 1)))) (sK (hs (sg ((hA ho) - 1))))).2.1), ((f_X4_copyFrom z2 x2 y2 (soOf (hs (sg ((hA ho) - 1)))) (sP (hs (sg ((hA ho) - 1)))) (sK (hs (sg ((hA ho) - 1))))).2.2)) := (by rw [f_X2_takeLatest, if_pos c1] <;> rfl)
    exact kr 30 ls _ _ _ hP hS ⟨by rw [hfin]; exact hp0, by rw [hfin]; exact hp3, by rw [hfin]; exact hp4, by rw [hfin]; exact hp5, hfr⟩ dX2_takeLatest_30
theorem o_X2_takeLatest : okV yX2_takeLatest cX2_takeLatest 2 none 1 := ⟨m576, m577, m21, m578, by decide +kernel, by decide +kernel, by decide +kernel⟩
